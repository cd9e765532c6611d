/-! water -/
def waterS (h : HS) (t w : Nat) : HS := setL (setW h t (min 20 (hsW h t + w))) (hsL h &&& (255 ^^^ 2 ^ t))
theorem water_ok {h : HS} (ok : okH h) {t : Nat} (ht : t < hsN h) (w : Nat) : okH (waterS h t w) := by
  obtain ⟨o1, o2, o3, o4, o5, o6, o7, o8⟩ := ok
  refine ⟨o1, fun u hu => ?_, o3, clr_lt _ o4, o5, o6, o7, fun u hu hl => ?_⟩
  · obtain ⟨a1, a2, a3, a4⟩ := o2 u hu
    refine ⟨a1, a2, ?_, a4⟩
    show (if u = t then min 20 (hsW h t + w) else hsW h u) ≤ 20
    split <;> omega
  · have hl' : (hsL h).testBit u = true := by
      have : (hsL h &&& (255 ^^^ 2 ^ t)).testBit u = true := hl
      rw [Nat.testBit_and, Bool.and_eq_true] at this
      exact this.1
    exact o8 u hu hl'
theorem e_mn20 {a c : Nat} (ha : a < 1000) (hc : c < 1000) : (if nI a + nI c < (20 : Int32) then nI a + nI c else (20 : Int32)) = nI (min 20 (a + c)) := by
  rw [nI_add, show (20 : Int32) = nI 20 from rfl]
  simp only [e_lt0 (show a + c < 2147483648 by omega) (show 20 < 2147483648 by decide)]
  by_cases h : a + c < 20
  · rw [if_pos h]; congr 1; omega
  · rw [if_neg h]; congr 1; omega
section WA
variable {mem : ZM} {b t w : Nat} {h : HS}
theorem c_pourOn (H : Hc mem b h) (ok : okH h) (ht : t < hsN h) (hw : w < 100) : ∃ m', fX3_pourOn b (nI t) (nI w) mem = some m' ∧ Hc m' b (waterS h t w) ∧ m' b 9 = mem b 9 ∧ FrB b mem m' := by
  have h8 := ok.t8 ht
  have hwb := (ok.2.1 t ht).2.2.1
  unfold fX3_pourOn
  simp (disch := omega) only [e_gz, e_cl, (H.2.1 t ht).2.2.1, e_mn20, e_let]
  have H1 : Hc (zst mem (b + 3) t (nI (min 20 (hsW h t + w)))) b (setW h t (min 20 (hsW h t + w))) := H.stW
  rw [c_quench H1 ok.L h8, e_bd]
  exact ⟨_, rfl, H1.stL, by rw [e_stk (by decide), e_stn (by omega)], (FrB.st _ (by omega)).tr (FrB.st _ (by omega))⟩
theorem m_waterBy (H : Hr (mem 62) h) (ok : okH h) (ht : t < hsN h) (hw : w < 100) : fX7_waterBy (nI t) (nI w) mem = some (zst (zst mem 62 (22 + t) (nI (min 20 (hsW h t + w)))) 62 4 (nI (hsL h &&& (255 ^^^ 2 ^ t)))) := by
  have hn := ok.1
  have h8 := ok.t8 ht
  have hwb := (ok.2.1 t ht).2.2.1
  have fin : ∀ x : Int32, x = nI (min 20 (hsW h t + w)) → fX7_waterBy_j40 (nI t) x (nI (22 + t)) mem = some (zst (zst mem 62 (22 + t) (nI (min 20 (hsW h t + w)))) 62 4 (nI (hsL h &&& (255 ^^^ 2 ^ t)))) := by
    intro x hx
    subst hx
    unfold fX7_waterBy_j40
    simp (disch := omega) only [l4, e_gz, e_cl, e_let]
    rw [e_stk (by omega), H.2.2.1, e_clr _ ok.L t h8]
  unfold fX7_waterBy
  simp (disch := omega) only [l22, nI_add, e_gz, e_cl, (H.2.1 t ht).2.2.1]
  rw [show (20 : Int32) = nI 20 from rfl]
  simp (disch := omega) only [e_le0]
  by_cases hc : hsW h t + w ≤ 20
  · rw [if_pos hc]; exact fin _ (by congr 1; omega)
  · rw [if_neg hc]; exact fin _ (by congr 1; omega)
theorem m_waterHr (H : Hr (mem 62) h) (ok : okH h) (ht : t < hsN h) : Hr ((zst (zst mem 62 (22 + t) (nI (min 20 (hsW h t + w)))) 62 4 (nI (hsL h &&& (255 ^^^ 2 ^ t)))) 62) (waterS h t w) := by
  rw [e_row, e_row]
  exact (H.stW ok.1 (ok.t8 ht)).stL
end WA
/-! spare -/
def spS (g : HS) (t n : Nat) : Bool := !anyb (fun i => (hsL (hoursS i g)).testBit t) (n + 1)
def wS (h : HS) (t w : Nat) : HS := if w = 0 then h else waterS h t w
theorem wS_ok {h : HS} (ok : okH h) {t : Nat} (ht : t < hsN h) (w : Nat) : okH (wS h t w) := by
  unfold wS; split
  · exact ok
  · exact water_ok ok ht w
theorem wS_N (h : HS) (t w : Nat) : hsN (wS h t w) = hsN h := by unfold wS; split <;> rfl
theorem first_no {p : Nat → Bool} {n : Nat} {r : Int32} (h : FirstIs p n r) (hn : n < 1000) : (r = -1000000) ↔ anyb p (n + 1) = false := by
  rcases h with ⟨i, i1, i2, i3, i4⟩ | ⟨i1, i2⟩
  · have h1 : anyb p (n + 1) = true := (anyb_iff _ _).mpr ⟨i, by omega, i2⟩
    rw [h1, i4]
    constructor
    · intro e
      have := nI_n0 (t := i) (by omega)
      rw [e] at this
      exact absurd (by decide) this
    · intro e; cases e
  · refine ⟨fun _ => ?_, fun _ => i2⟩
    cases ha : anyb p (n + 1)
    · rfl
    · obtain ⟨t, ht, h2⟩ := (anyb_iff _ _).mp ha
      rw [i1 t (by omega)] at h2; cases h2
theorem anyb_mono {p : Nat → Bool} {a b : Nat} (hab : a ≤ b) (h : anyb p a = true) : anyb p b = true := by
  obtain ⟨t, h1, h2⟩ := (anyb_iff _ _).mp h
  exact (anyb_iff _ _).mpr ⟨t, by omega, h2⟩
section SP
variable {mem : ZM} {t : Nat} {h : HS}
theorem c_leastWater (H : Hc mem 17 h) (ok : okH h) (ht : t < hsN h) {n : Nat} (hn : n ≤ 30) : ∃ r m', fX2_leastWater 17 (nI t) (nI n) mem = some (r, m') ∧ FirstIs (fun w => spS (wS h t w) t n) 20 r ∧ FrB 37 mem m' := by
  have h8 := ok.1
  have key : ∃ r, fX2_leastWater_l3 17 (nI t) (nI n) (nI 0, mem) = some r ∧ (∀ q : Int32 × ZM, (Sum.elim (fun s2 => ((-1000000 : Int32), s2.2)) (fun t2 => t2) r) = q → FirstIs (fun w => spS (wS h t w) t n) 20 q.1 ∧ FrB 37 mem q.2) := by
    unfold fX2_leastWater_l3
    refine zi_inv (fun i s => s.1 = nI i ∧ FrB 37 mem s.2 ∧ (∀ j, j < i → spS (wS h t j) t n = false)) _ 21 ?_ ?_ 2000 0 _ (Nat.zero_le _) (by omega) ⟨rfl, FrB.rf _ _, fun j hj => absurd hj (Nat.not_lt_zero j)⟩
    · intro i s hi hI
      obtain ⟨i1, i3, i4⟩ := hI
      have H' : Hc s.2 17 h := H.fr i3 (by omega)
      have okw := wS_ok ok ht i
      have htw : t < hsN (wS h t i) := by rw [wS_N]; exact ht
      obtain ⟨m1, e1, H1, -, f1⟩ := c_takeFrom (b := 37) H' ok.1 (by omega)
      show (∃ s', fX2_leastWater_b3 17 (nI t) (nI n) s.1 s.2 = _ ∧ _) ∨ (∃ r, fX2_leastWater_b3 17 (nI t) (nI n) s.1 s.2 = _ ∧ _)
      unfold fX2_leastWater_b3
      rw [i1, show (20 : Int32) = nI 20 from rfl, if_neg (by rw [e_lt0 (by omega) (by omega)]; omega), e1, e_bd]
      have fin : ∀ m2, Hc m2 37 (wS h t i) → FrB 37 mem m2 → (∃ s', fX2_leastWater_j33 17 (nI t) (nI n) (nI i) m2 = some (Sum.inl s') ∧ (s'.1 = nI (i + 1) ∧ FrB 37 mem s'.2 ∧ (∀ j, j < i + 1 → spS (wS h t j) t n = false))) ∨ (∃ r, fX2_leastWater_j33 17 (nI t) (nI n) (nI i) m2 = some (Sum.inr r) ∧ (∀ q : Int32 × ZM, (Sum.elim (fun s2 => ((-1000000 : Int32), s2.2)) (fun t2 => t2) r) = q → FirstIs (fun w => spS (wS h t w) t n) 20 q.1 ∧ FrB 37 mem q.2)) := by
        intro m2 H2 f2
        obtain ⟨r, m3, e3, g3, f3⟩ := c_tryUntilLit H2 okw htw (k := n) (by omega)
        unfold fX2_leastWater_j33
        rw [e3, e_bd]
        have hf := first_no g3 (by omega)
        by_cases hr : r = -1000000
        · rw [if_pos hr]
          refine Or.inr ⟨_, rfl, fun q hq => ?_⟩
          subst hq
          refine ⟨Or.inl ⟨i, by omega, ?_, i4, rfl⟩, f2.tr f3⟩
          show (!anyb _ (n + 1)) = true
          rw [hf.mp hr]; rfl
        · rw [if_neg hr, e_let, nI_1]
          refine Or.inl ⟨_, rfl, rfl, f2.tr f3, fun j hj => ?_⟩
          by_cases hji : j = i
          · subst hji
            show (!anyb _ (n + 1)) = false
            cases ha : anyb (fun i => (hsL (hoursS i (wS h t j))).testBit t) (n + 1)
            · exact absurd (hf.mpr ha) hr
            · rfl
          · exact i4 j (by omega)
      rw [l0]
      simp only [e_le0 (show i < 2147483648 by omega) (show 0 < 2147483648 by decide)]
      by_cases hz : i ≤ 0
      · rw [if_pos hz]
        exact fin m1 (by unfold wS; rw [if_pos (by omega)]; exact H1) (i3.tr f1)
      · rw [if_neg hz]
        obtain ⟨m2, e2, H2, -, f2⟩ := c_pourOn H1 ok ht (w := i) (by omega)
        rw [e2, e_bd]
        exact fin m2 (by unfold wS; rw [if_neg (by omega)]; exact H2) ((i3.tr f1).tr f2)
    · intro s hI
      obtain ⟨i1, i3, i4⟩ := hI
      show ∃ r, fX2_leastWater_b3 17 (nI t) (nI n) s.1 s.2 = _ ∧ _
      unfold fX2_leastWater_b3
      rw [i1, show (20 : Int32) = nI 20 from rfl, if_pos (by rw [e_lt0 (by omega) (by omega)]; omega)]
      refine ⟨_, rfl, fun q hq => ?_⟩
      subst hq
      exact ⟨Or.inr ⟨fun j hj => i4 j (by omega), rfl⟩, i3⟩
  obtain ⟨r, e, g⟩ := key
  unfold fX2_leastWater
  rw [e_let, l0, e, e_bd]
  cases r with
  | inl s => exact ⟨_, _, rfl, (g _ rfl).1, (g _ rfl).2⟩
  | inr s => exact ⟨s.1, s.2, rfl, (g _ rfl).1, (g _ rfl).2⟩
theorem m_isSpared {m : ZM} {g : HS} (A : Asd mem m) (H : Hr (m 62) g) (ok : okH g) (ht : t < hsN g) {n : Nat} (hn : n ≤ 30) : ∃ m', fX7_isSpared (nI t) (nI n) m = some (bI (spS g t n), m') ∧ Asd mem m' ∧ Keep mem m' := by
  have h8 := ok.t8 ht
  have hn8 := ok.1
  have lit1 : ∀ i, anyb (fun i => (hsL (hoursS i g)).testBit t) (i + 1) = (anyb (fun i => (hsL (hoursS i g)).testBit t) i || (hsL (hoursS i g)).testBit t) := fun i => rfl
  have key : ∃ r, fX7_isSpared_l22 (nI t) (nI n) (bI (!anyb (fun i => (hsL (hoursS i g)).testBit t) 1), nI 0, m) = some r ∧ (r.1 = bI (spS g t n) ∧ Asd mem r.2.2) := by
    unfold fX7_isSpared_l22
    refine zi_inv (fun i s => s.1 = bI (!anyb (fun i => (hsL (hoursS i g)).testBit t) (i + 1)) ∧ s.2.1 = nI i ∧ Hr (s.2.2 62) (hoursS i g) ∧ Asd mem s.2.2) _ n ?_ ?_ 2000 0 _ (Nat.zero_le _) (by omega) ⟨rfl, rfl, H, A⟩
    · intro i s hi hI
      obtain ⟨i1, i2, i3, i4⟩ := hI
      have oki := hours_ok ok i
      have htn : t < hsN (hoursS (i + 1) g) := by rw [hours_N]; exact ht
      show (∃ s', fX7_isSpared_b22 (nI t) (nI n) s.1 s.2.1 s.2.2 = _ ∧ _) ∨ (∃ r, fX7_isSpared_b22 (nI t) (nI n) s.1 s.2.1 s.2.2 = _ ∧ _)
      unfold fX7_isSpared_b22 fX7_isSpared_j54
      rw [i2, if_neg (by rw [e_le0 (by omega) (by omega)]; omega)]
      cases ha : anyb (fun i => (hsL (hoursS i g)).testBit t) (i + 1)
      · rw [ha] at i1
        rw [i1]
        rw [if_neg (by decide)]
        obtain ⟨m', e, g1, -, -, g2⟩ := m_oneHour i3 oki
        have hL' : (hoursS (i + 1) g) = hourS (hoursS i g) := rfl
        rw [e, e_bd]
        simp (disch := omega) only [l4, e_gz, e_cl, g1.2.2.1, m_has (hour_ok oki).L h8, e_bd, bI_0, e_let, nI_1]
        refine Or.inl ?_
        cases hb : (hsL (hourS (hoursS i g))).testBit t
        · rw [if_pos rfl]
          refine ⟨_, rfl, ?_, rfl, g1, i4.o g2⟩
          show (1 : Int32) = bI (!(anyb (fun i => (hsL (hoursS i g)).testBit t) (i + 1) || (hsL (hourS (hoursS i g))).testBit t))
          rw [ha, hb]; rfl
        · rw [if_neg (by decide)]
          refine ⟨_, rfl, ?_, rfl, g1, i4.o g2⟩
          show (0 : Int32) = bI (!(anyb (fun i => (hsL (hoursS i g)).testBit t) (i + 1) || (hsL (hourS (hoursS i g))).testBit t))
          rw [ha, hb]; rfl
      · rw [ha] at i1
        rw [i1]
        rw [if_pos (by decide)]
        refine Or.inr ⟨_, rfl, ?_, i4⟩
        show bI (!true) = bI (!anyb _ (n + 1))
        rw [anyb_mono (by omega) ha]
    · intro s hI
      obtain ⟨i1, i2, i3, i4⟩ := hI
      refine ⟨s, ?_, i1, i4⟩
      show fX7_isSpared_b22 (nI t) (nI n) s.1 s.2.1 s.2.2 = _
      unfold fX7_isSpared_b22
      rw [i2, if_pos (by rw [e_le0 (by omega) (by omega)]; exact Nat.le_refl _), ← i2]
  obtain ⟨r, e, g1, g2⟩ := key
  obtain ⟨m2, e2, A2, K2⟩ := m_back g2
  unfold fX7_isSpared fX7_isSpared_j18 fX7_isSpared_j61
  simp (disch := omega) only [l4, e_gz, e_cl, H.2.2.1, m_has ok.L h8, e_bd, bI_0, e_let]
  have e0 : anyb (fun i => (hsL (hoursS i g)).testBit t) 1 = (hsL g).testBit t := by
    show (false || (hsL (hoursS 0 g)).testBit t) = _
    rw [Bool.false_or]; rfl
  rw [e0] at e
  cases hb : (hsL g).testBit t
  · rw [if_pos rfl]
    rw [hb] at e
    rw [show ((1 : Int32), (0 : Int32), m) = (bI (!false), nI 0, m) from rfl, e, e_bd, e2, e_bd, g1, e_gd' (bI_bl _)]
    exact ⟨m2, rfl, A2, K2⟩
  · rw [if_neg (by decide)]
    rw [hb] at e
    rw [show ((0 : Int32), (0 : Int32), m) = (bI (!true), nI 0, m) from rfl, e, e_bd, e2, e_bd, g1, e_gd' (bI_bl _)]
    exact ⟨m2, rfl, A2, K2⟩
theorem o_spare (R : RH mem h) (a1 a2 : Int32) : Op (fX6_spare a1 a2) (fX7_spare a1 a2) mem (Keep mem) := by
  obtain ⟨ok, H, Hm, -⟩ := R
  have hn := ok.1
  cases z1 : zin a1 (hsN h)
  · exact ⟨-1000001, mem, mem, by simp [fX6_spare, c_hasThing H ok, z1, bI], by simp [fX7_spare, m_isThing Hm hn, z1, bI], Keep.rf _⟩
  cases z2 : wit a2 1 30
  · exact ⟨-1000001, mem, mem, by simp [fX6_spare, c_hasThing H ok, z1, bI, c_isWithin, ti1, ti30, z2], by simp [fX7_spare, m_isThing Hm hn, z1, bI, m_in, tj1, tj30, z2], Keep.rf _⟩
  obtain ⟨t, rfl, ht⟩ := zin_of (by omega) z1
  have h8 := ok.t8 ht
  obtain ⟨n, rfl, hn1, hn2⟩ := wit_of (b := 30) (a := 1) (by decide) z2
  cases z3 : (hsO h).testBit t
  · obtain ⟨r, m1, e1, g1, f1⟩ := c_leastWater H ok ht (n := n) hn2
    have K1 := Keep.fr f1
    have Hm1 : Hr (m1 62) h := K1.Hr hn Hm
    obtain ⟨m2, e2, A2, H2⟩ := m_asideHr Hm1
    have key : ∃ q, fX7_spare_l49 (nI t) (nI n) (-1000000, nI 0, m2) = some q ∧ (FirstIs (fun w => spS (wS h t w) t n) 20 q.1 ∧ Asd m1 q.2.2 ∧ Keep m1 q.2.2) := by
      unfold fX7_spare_l49
      refine zi_inv (fun i q => ((q.1 = -1000000 ∧ ∀ j, j < i → spS (wS h t j) t n = false) ∨ (0 < i ∧ ∃ j, j < i ∧ q.1 = nI j ∧ spS (wS h t j) t n = true ∧ ∀ l, l < j → spS (wS h t l) t n = false)) ∧ q.2.1 = nI i ∧ Hr (q.2.2 62) h ∧ Asd m1 q.2.2 ∧ (0 < i → Keep m1 q.2.2)) _ 21 ?_ ?_ 2000 0 _ (Nat.zero_le _) (by omega) ⟨Or.inl ⟨rfl, fun j hj => absurd hj (Nat.not_lt_zero j)⟩, rfl, H2, A2, fun hh => absurd hh (by omega)⟩
      · intro i q hi hI
        obtain ⟨i1, i2, i3, i4, i5⟩ := hI
        show (∃ s', fX7_spare_b49 (nI t) (nI n) q.1 q.2.1 q.2.2 = _ ∧ _) ∨ (∃ r, fX7_spare_b49 (nI t) (nI n) q.1 q.2.1 q.2.2 = _ ∧ _)
        unfold fX7_spare_b49
        rw [i2, show (20 : Int32) = nI 20 from rfl, if_neg (by rw [e_lt0 (by omega) (by omega)]; omega)]
        rcases i1 with ⟨j1, j2⟩ | ⟨hi0, j, j1, j2, j3, j4⟩
        · rw [j1, if_neg (by decide)]
          refine Or.inl ?_
          have okw := wS_ok ok ht i
          have htw : t < hsN (wS h t i) := by rw [wS_N]; exact ht
          have fin : ∀ m3, Hr (m3 62) (wS h t i) → Asd m1 m3 → ∃ s', fX7_spare_j72 (nI t) (nI n) (-1000000) (nI i) m3 = some (Sum.inl s') ∧ (((s'.1 = -1000000 ∧ ∀ j, j < i + 1 → spS (wS h t j) t n = false) ∨ (0 < i + 1 ∧ ∃ j, j < i + 1 ∧ s'.1 = nI j ∧ spS (wS h t j) t n = true ∧ ∀ l, l < j → spS (wS h t l) t n = false)) ∧ s'.2.1 = nI (i + 1) ∧ Hr (s'.2.2 62) h ∧ Asd m1 s'.2.2 ∧ (0 < i + 1 → Keep m1 s'.2.2)) := by
            intro m3 H3 A3
            obtain ⟨m4, e4, A4, K4⟩ := m_isSpared A3 H3 okw htw (n := n) hn2
            unfold fX7_spare_j72 fX7_spare_j87
            rw [e4, e_bd]
            simp only [bI_0, e_let, nI_1]
            have H4 : Hr (m4 62) h := K4.Hr hn Hm1
            cases hb : spS (wS h t i) t n
            · rw [if_pos rfl]
              refine ⟨_, rfl, Or.inl ⟨rfl, fun j hj => ?_⟩, rfl, H4, A4, fun _ => K4⟩
              by_cases hji : j = i
              · subst hji; exact hb
              · exact j2 j (by omega)
            · rw [if_neg (by decide)]
              exact ⟨_, rfl, Or.inr ⟨by omega, i, by omega, rfl, hb, j2⟩, rfl, H4, A4, fun _ => K4⟩
          rw [l0]
          simp only [e_le0 (show i < 2147483648 by omega) (show 0 < 2147483648 by decide)]
          by_cases hz : i ≤ 0
          · rw [if_pos hz]
            exact fin _ (by unfold wS; rw [if_pos (by omega)]; exact i3) i4
          · rw [if_neg hz, m_waterBy i3 ok ht (by omega), e_bd]
            exact fin _ (by unfold wS; rw [if_neg (by omega)]; exact m_waterHr i3 ok ht) ((i4.s62 _ _).s62 _ _)
        · rw [j2, if_pos (nI_pos' (by omega))]
          exact Or.inr ⟨_, rfl, Or.inl ⟨j, by omega, j3, j4, rfl⟩, i4, i5 hi0⟩
      · intro q hI
        obtain ⟨i1, i2, i3, i4, i5⟩ := hI
        show ∃ r, fX7_spare_b49 (nI t) (nI n) q.1 q.2.1 q.2.2 = _ ∧ _
        unfold fX7_spare_b49
        rw [i2, show (20 : Int32) = nI 20 from rfl, if_pos (by rw [e_lt0 (by omega) (by omega)]; omega)]
        refine ⟨_, rfl, ?_, i4, i5 (by omega)⟩
        rcases i1 with ⟨j1, j2⟩ | ⟨hi0, j, j1, j2, j3, j4⟩
        · exact Or.inr ⟨fun j hj => j2 j (by omega), j1⟩
        · exact Or.inl ⟨j, by omega, j3, j4, j2⟩
    obtain ⟨q, e3, q1, q2, K3⟩ := key
    have : q.1 = r := q1.one g1
    refine ⟨r, m1, q.2.2, ?_, ?_, K1.tr K3⟩
    · unfold fX6_spare
      simp only [c_hasThing H ok, z1, c_isWithin, ti1, ti30, z2, e_bd, bI_0, Bool.true_eq_false, if_false, c_isOut H ok ht, z3, if_true, e1]
    · unfold fX7_spare
      simp (disch := omega) only [m_isThing Hm1 hn, z1, m_in, tj1, tj30, z2, e_bd, bI_0, Bool.true_eq_false, if_false, l5, e_gz, e_cl, Hm1.2.2.2.1, m_has ok.O h8, z3, if_true, e2, e_let]
      rw [l0, e3, e_bd, this]
  · refine ⟨-1000002, mem, mem, ?_, ?_, Keep.rf _⟩
    · unfold fX6_spare
      simp only [c_hasThing H ok, z1, c_isWithin, ti1, ti30, z2, e_bd, bI_0, Bool.true_eq_false, if_false, c_isOut H ok ht, z3]
    · unfold fX7_spare
      simp (disch := omega) only [m_isThing Hm hn, z1, m_in, tj1, tj30, z2, e_bd, bI_0, Bool.true_eq_false, if_false, l5, e_gz, e_cl, Hm.2.2.2.1, m_has ok.O h8, z3]
end SP
