def rakeS (h : HS) (t : Nat) : HS := setL (setO h (hsO h ||| 2 ^ t)) (hsL h &&& (255 ^^^ 2 ^ t))
def layS (h : HS) (t : Nat) : HS := setO h (hsO h &&& (255 ^^^ 2 ^ t))
theorem e_xb : ∀ a, a < 256 → ∀ t, t < 8 → nI a ^^^ ((1 : Int32) <<< (nI t &&& 31)) = nI (if a.testBit t = true then a &&& (255 ^^^ 2 ^ t) else a ||| 2 ^ t) := by decide +kernel
section RK
variable {mem : ZM} {h : HS} {t : Nat}
theorem rake_ok (ok : okH h) (ht : t < hsN h) : okH (rakeS h t) := by
  have h8 := ok.t8 ht
  have hL8 := ok.L
  have hn := ok.1
  obtain ⟨o1, o2, o3, o4, o5, o6, o7, o8⟩ := ok
  refine ⟨o1, o2, o3, clr_lt _ o4, set_lt o5 ht, o6, o7, fun u hu hl => ?_⟩
  have hl' : (hsL h &&& (255 ^^^ 2 ^ t)).testBit u = true := hl
  have hu' : u < hsN h := hu
  rw [tb_clr _ hL8 t h8 u (by omega), Bool.and_eq_true] at hl'
  obtain ⟨a1, a2, a3⟩ := o8 u hu hl'.1
  refine ⟨a1, a2, ?_⟩
  show (hsO h ||| 2 ^ t).testBit u = false
  have hne : decide (u = t) = false := by simpa using hl'.2
  rw [tb_set, a3, hne]; rfl
theorem lay_ok (ok : okH h) (t : Nat) : okH (layS h t) := by
  obtain ⟨o1, o2, o3, o4, o5, o6, o7, o8⟩ := ok
  refine ⟨o1, o2, o3, o4, clr_lt _ o5, o6, o7, fun u hu hl => ?_⟩
  obtain ⟨a1, a2, a3⟩ := o8 u hu hl
  refine ⟨a1, a2, ?_⟩
  show (hsO h &&& (255 ^^^ 2 ^ t)).testBit u = false
  rw [Nat.testBit_and, a3]; rfl
theorem c_rakeOut {b : Nat} (H : Hc mem b h) (ok : okH h) (ht : t < hsN h) : ∃ m', fX3_rakeOut b (nI t) mem = some m' ∧ Hc m' b (rakeS h t) ∧ m' b 9 = mem b 9 ∧ FrB b mem m' := by
  have h8 := ok.t8 ht
  unfold fX3_rakeOut
  rw [e_let, H.2.2.2.1, e_set _ ok.O t h8]
  have H1 : Hc (zst mem b 6 (nI (hsO h ||| 2 ^ t))) b (setO h (hsO h ||| 2 ^ t)) := H.stO
  rw [c_quench H1 ok.L h8, e_bd]
  exact ⟨_, rfl, H1.stL, by rw [e_stk (by decide), e_stk (by decide)], (FrB.st _ (by omega)).tr (FrB.st _ (by omega))⟩
theorem c_layOn {b : Nat} (H : Hc mem b h) (ok : okH h) (ht : t < hsN h) : ∃ m', fX3_layOn b (nI t) mem = some m' ∧ Hc m' b (layS h t) ∧ m' b 9 = mem b 9 ∧ FrB b mem m' := by
  have h8 := ok.t8 ht
  unfold fX3_layOn
  rw [e_let, H.2.2.2.1, e_clr _ ok.O t h8]
  exact ⟨_, rfl, H.stO, by rw [e_stk (by decide)], FrB.st _ (by omega)⟩
theorem out_lit (ok : okH h) (ht : t < hsN h) (ho : (hsO h).testBit t = true) : (hsL h).testBit t = false := by
  cases hl : (hsL h).testBit t
  · rfl
  · rw [(ok.2.2.2.2.2.2.2 t ht hl).2.2] at ho; cases ho
theorem o_rake (A : HA mem h) (a1 a2 : Int32) : Op (fX6_rake a1 a2) (fX7_rake a1 a2) mem (PA mem) := by
  have R := A.1
  obtain ⟨ok, H, Hm, -⟩ := A.1
  have hn := ok.1
  cases z1 : zin a1 (hsN h)
  · exact ⟨-1000001, mem, mem, by simp [fX6_rake, c_hasThing H ok, z1, bI], by simp [fX7_rake, m_isThing Hm hn, z1, bI], PA.rf A⟩
  cases z2 : wit a2 0 1
  · exact ⟨-1000001, mem, mem, by simp [fX6_rake, c_hasThing H ok, z1, bI, c_isEither, z2], by simp [fX7_rake, m_isThing Hm hn, z1, bI, m_in, tj0, tj1, z2], PA.rf A⟩
  obtain ⟨t, rfl, ht⟩ := zin_of (by omega) z1
  have h8 := ok.t8 ht
  have q1 : ¬ bI true = 0 := by decide
  have qc : fX6_rake (nI t) a2 mem = fX6_rake_j31 (nI t) (bI (decide (a2 = 1))) mem := by
    unfold fX6_rake
    rw [c_hasThing H ok, z1, e_bd, if_neg q1, c_isEither, z2, e_bd, if_neg q1]
    by_cases h1 : a2 = 1
    · rw [if_pos h1, decide_eq_true h1]; rfl
    · rw [if_neg h1, decide_eq_false h1]; rfl
  have qm : ∀ m2 : ZM, Hr (m2 62) h → fX7_rake (nI t) a2 m2 = fX7_rake_j41 (nI t) (bI (decide (a2 = 1))) (bI ((hsO h).testBit t)) m2 := by
    intro m2 Hm2
    unfold fX7_rake
    simp (disch := omega) only [m_isThing Hm2 hn, z1, e_bd, bI_0, Bool.true_eq_false, if_false, m_in, tj0, tj1, z2, l5, e_gz, e_cl, Hm2.2.2.2.1, m_has ok.O h8]
    by_cases h1 : a2 = 1
    · rw [if_pos h1, decide_eq_true h1]; rfl
    · rw [if_neg h1, decide_eq_false h1]; rfl
  have hbI : ∀ x y : Bool, (bI x = bI y) = (x = y) := by intro x y; cases x <;> cases y <;> decide
  by_cases z3 : (hsO h).testBit t = decide (a2 = 1)
  · refine ⟨-1000002, mem, mem, ?_, ?_, PA.rf A⟩
    · rw [qc]; unfold fX6_rake_j31
      rw [e_let, c_isOut H ok ht, e_bd]
      simp only [hbI]
      rw [if_pos z3]
    · rw [qm mem Hm]; unfold fX7_rake_j41
      simp only [hbI]
      rw [if_pos z3]
  obtain ⟨k, G, T, m1, hG, hM, e1, H1, t1, f1, c1⟩ := act_c A
  cases hd : decide (a2 = 1)
  · rw [hd] at qc qm z3
    have ho : (hsO h).testBit t = true := by simpa using z3
    obtain ⟨m2, e2, H2, t2, f2⟩ := c_layOn H1 ok ht
    have em2 : ∀ c, 21 < c → m2 c = mem c := fun c hc => by rw [f2 c (by omega), f1 c (by omega)]
    obtain ⟨m3, e3, n3, H3, t3, f3, f3'⟩ := act_m R hG hM (m2 := m2) (fun c hc => em2 c (by omega))
    have Hm2 : Hr (m2 62) h := by rw [em2 62 (by omega)]; exact Hm
    have H4 : Hr ((zst (zst m3 62 5 (nI (hsO h &&& (255 ^^^ 2 ^ t)))) 62 4 (nI (hsL h))) 62) (layS h t) := by rw [e_row, e_row]; exact (H3.stO).stL
    refine ⟨nI (hsO h &&& (255 ^^^ 2 ^ t)), m2, zst (zst m3 62 5 (nI (hsO h &&& (255 ^^^ 2 ^ t)))) 62 4 (nI (hsL h)), ?_, ?_, act_fin A hG (lay_ok ok t) rfl (fun _ => rfl) f1 c1 f2 H2 n3 f3 f3' ((FrO.s62 _ _ _).tr (FrO.s62 _ _ _)) H4 ?_⟩
    · rw [qc]; unfold fX6_rake_j31
      rw [e_let, c_isOut H ok ht, e_bd, ho, if_neg (by decide), e1, e_bd, if_pos (by decide), e2, e_bd, H2.2.2.2.1]; rfl
    · rw [qm m2 Hm2]; unfold fX7_rake_j41
      rw [ho, if_neg (by decide), e3, e_bd]
      simp (disch := omega) only [l5, l4, e_gz, e_cl, e_let, H3.2.2.2.1, e_xb _ ok.O t h8, e_stk, e_st, H3.2.2.1, e_clr _ ok.L t h8]
      rw [clr_id ok.L h8 (out_lit ok ht ho), if_pos ho]
    · rw [e_stk (by decide), e_stk (by decide), t2, t1, A.2.1, t3]
  · rw [hd] at qc qm z3
    have ho : (hsO h).testBit t = false := by simpa using z3
    obtain ⟨m2, e2, H2, t2, f2⟩ := c_rakeOut H1 ok ht
    have em2 : ∀ c, 21 < c → m2 c = mem c := fun c hc => by rw [f2 c (by omega), f1 c (by omega)]
    obtain ⟨m3, e3, n3, H3, t3, f3, f3'⟩ := act_m R hG hM (m2 := m2) (fun c hc => em2 c (by omega))
    have Hm2 : Hr (m2 62) h := by rw [em2 62 (by omega)]; exact Hm
    have H4 : Hr ((zst (zst m3 62 5 (nI (hsO h ||| 2 ^ t))) 62 4 (nI (hsL h &&& (255 ^^^ 2 ^ t)))) 62) (rakeS h t) := by rw [e_row, e_row]; exact (H3.stO).stL
    refine ⟨nI (hsO h ||| 2 ^ t), m2, zst (zst m3 62 5 (nI (hsO h ||| 2 ^ t))) 62 4 (nI (hsL h &&& (255 ^^^ 2 ^ t))), ?_, ?_, act_fin A hG (rake_ok ok ht) rfl (fun _ => rfl) f1 c1 f2 H2 n3 f3 f3' ((FrO.s62 _ _ _).tr (FrO.s62 _ _ _)) H4 ?_⟩
    · rw [qc]; unfold fX6_rake_j31
      rw [e_let, c_isOut H ok ht, e_bd, ho, if_neg (by decide), e1, e_bd, if_neg (by decide), e2, e_bd, H2.2.2.2.1]; rfl
    · rw [qm m2 Hm2]; unfold fX7_rake_j41
      rw [ho, if_neg (by decide), e3, e_bd]
      simp (disch := omega) only [l5, l4, e_gz, e_cl, e_let, H3.2.2.2.1, e_xb _ ok.O t h8, e_stk, e_st, H3.2.2.1, e_clr _ ok.L t h8]
      rw [ho, if_neg (show ¬ false = true by decide)]
    · rw [e_stk (by decide), e_stk (by decide), t2, t1, A.2.1, t3]
end RK
/-! hours -/
def gq (h : HS) (G : Nat → HS) : Nat → Nat → HS
  | 0 => G
  | i + 1 => pG (hoursS i h) (gq h G i)
def hq (t0 : Int32) : Nat → Int32
  | 0 => t0
  | i + 1 => hq t0 i + 1
def tq (t0 : Int32) (T : Nat → Int32) : Nat → Nat → Int32
  | 0 => T
  | i + 1 => pG (hq t0 i) (tq t0 T i)
def kq (k : Nat) : Nat → Nat
  | 0 => k
  | i + 1 => min 24 (kq k i + 1)
theorem hours_K (h : HS) (t : Nat) : ∀ i, hsK (hoursS i h) t = hsK h t
  | 0 => rfl
  | i + 1 => hours_K h t i
theorem AG.hours {h : HS} {k : Nat} {G : Nat → HS} (ok : okH h) (hG : AG h k G) : ∀ i, AG (hoursS i h) (kq k i) (gq h G i)
  | 0 => hG
  | i + 1 => AG.push (h' := hoursS (i + 1) h) (hours_ok ok i) (AG.hours ok hG i) rfl (fun _ => rfl)
section HO
variable {mem : ZM} {h : HS}
theorem o_hours (A : HA mem h) (a1 : Int32) : Op (fX6_hours a1) (fX7_hours a1) mem (PA mem) := by
  obtain ⟨R, hh, k, G, T, hG, hC, hM⟩ := id A
  obtain ⟨ok, H, Hm, Hi⟩ := id R
  have hn := ok.1
  by_cases z0 : hsN h = 0
  · have hz : mem 58 4 = 0 := by rw [Hi, decide_eq_false (by omega)]; rfl
    exact ⟨-1000002, mem, mem, by simp [fX6_hours, c_isNone H ok, z0, bI], by simp [fX7_hours, hz], PA.rf A⟩
  have hz : ¬ mem 58 4 = 0 := by rw [Hi, decide_eq_true z0]; decide
  have hw : ∀ {α : Type} (x y : α), (if a1 < (1 : Int32) then x else (if a1 ≤ (24 : Int32) then y else x)) = if wit a1 1 24 = true then y else x := by
    intro α x y
    unfold wit
    simp only [e_lt, e_le, ti1, ti24, Bool.and_eq_true, decide_eq_true_eq]
    by_cases h1 : a1.toInt < 1
    · rw [if_pos h1, if_neg (by omega)]
    · by_cases h2 : a1.toInt ≤ 24
      · rw [if_neg h1, if_pos h2, if_pos ⟨by omega, h2⟩]
      · rw [if_neg h1, if_neg h2, if_neg (by omega)]
  have q1 : ¬ bI true = 0 := by decide
  cases z1 : wit a1 1 24
  · refine ⟨-1000001, mem, mem, ?_, by simp [fX7_hours, hz, bI, m_in, tj1, tj24, z1], PA.rf A⟩
    unfold fX6_hours
    rw [c_isNone H ok, e_bd, decide_eq_false z0, if_pos (show bI false = 0 from rfl), hw, z1, if_neg (show ¬ false = true by decide)]
  by_cases z2 : ¬ (mem 17 9 + a1 ≤ (9999 : Int32))
  · refine ⟨-1000003, mem, mem, ?_, ?_, PA.rf A⟩
    · unfold fX6_hours
      rw [c_isNone H ok, e_bd, decide_eq_false z0, if_pos (show bI false = 0 from rfl), hw, z1, if_pos rfl, if_neg z2]
    · unfold fX7_hours
      rw [if_neg hz, m_in, tj1, tj24, z1, e_bd, if_neg q1, e_gd' (show zin (1 : Int32) 38 = true by decide), show (1 : Int32).toNatClampNeg = 1 by decide, ← hh, if_neg z2]
  have z2' : mem 17 9 + a1 ≤ (9999 : Int32) := Classical.not_not.mp z2
  obtain ⟨n, rfl, hn1, hn2⟩ := wit_of (b := 24) (a := 1) (by decide) z1
  have kc : ∃ r, fX6_hours_l47 (nI n) (nI 0, mem) = some r ∧ (Hc r.2 17 (hoursS n h) ∧ r.2 17 9 = hq (mem 17 9) n ∧ AC r.2 (kq k n) (gq h G n) (tq (mem 17 9) T n) ∧ (∀ c, (c < 5 ∨ 13 < c) → (c < 17 ∨ 21 < c) → r.2 c = mem c)) := by
    unfold fX6_hours_l47
    refine zi_inv (fun i s => s.1 = nI i ∧ Hc s.2 17 (hoursS i h) ∧ s.2 17 9 = hq (mem 17 9) i ∧ AC s.2 (kq k i) (gq h G i) (tq (mem 17 9) T i) ∧ (∀ c, (c < 5 ∨ 13 < c) → (c < 17 ∨ 21 < c) → s.2 c = mem c)) _ n ?_ ?_ 2000 0 _ (Nat.zero_le _) (by omega) ⟨rfl, H, rfl, hC, fun _ _ _ => rfl⟩
    · intro i s hi hI
      obtain ⟨i1, i2, i3, i4, i5⟩ := hI
      have oki := hours_ok ok i
      obtain ⟨m1, e1, c1, f1⟩ := c_keep i2 oki.1 (AG.hours ok hG i) i4
      have H1 : Hc m1 17 (hoursS i h) := i2.kept (fun j _ => by rw [f1 17 (by omega)]) (fun c a b => f1 c (by omega))
      obtain ⟨m2, e2, H2, t2, f2⟩ := c_passHour H1 oki
      refine Or.inl ⟨(nI (i + 1), m2), ?_, rfl, H2, ?_, ?_, fun c a b => by show m2 c = _; rw [f2 c (by omega), f1 c a]; exact i5 c a b⟩
      · show fX6_hours_b47 (nI n) s.1 s.2 = _
        unfold fX6_hours_b47
        rw [i1, if_neg (by rw [e_le0 (by omega) (by omega)]; omega), e1, e_bd, e2, e_bd, e_let, nI_1]
      · show m2 17 9 = hq (mem 17 9) i + 1
        rw [t2, f1 17 (by omega), i3]
      · rw [i3] at c1
        exact c1.same (fun c a b => f2 c (by omega))
    · intro s hI
      obtain ⟨i1, i2⟩ := hI
      refine ⟨s, ?_, i2⟩
      show fX6_hours_b47 (nI n) s.1 s.2 = _
      unfold fX6_hours_b47
      rw [i1, if_pos (by rw [e_le0 (by omega) (by omega)]; exact Nat.le_refl _), ← i1]
  obtain ⟨r, e1, g1, g2, g3, g4⟩ := kc
  have e62 : r.2 62 = mem 62 := g4 62 (by omega) (by omega)
  have e58 : r.2 58 = mem 58 := g4 58 (by omega) (by omega)
  have e67 : r.2 67 = mem 67 := g4 67 (by omega) (by omega)
  have km : ∃ q, fX7_hours_l44 (nI n) (nI 0, r.2) = some q ∧ (Hr (q.2 62) (hoursS n h) ∧ q.2 62 1 = hq (mem 17 9) n ∧ AM q.2 (kq k n) (gq h G n) (tq (mem 17 9) T n) ∧ (∀ c, c ≠ 58 → c ≠ 62 → c ≠ 66 → c ≠ 67 → q.2 c = r.2 c) ∧ (∀ j, j ≠ 17 → j ≠ 19 → q.2 58 j = r.2 58 j)) := by
    unfold fX7_hours_l44
    refine zi_inv (fun i s => s.1 = nI i ∧ Hr (s.2 62) (hoursS i h) ∧ s.2 62 1 = hq (mem 17 9) i ∧ AM s.2 (kq k i) (gq h G i) (tq (mem 17 9) T i) ∧ (∀ c, c ≠ 58 → c ≠ 62 → c ≠ 66 → c ≠ 67 → s.2 c = r.2 c) ∧ (∀ j, j ≠ 17 → j ≠ 19 → s.2 58 j = r.2 58 j)) _ n ?_ ?_ 2000 0 _ (Nat.zero_le _) (by omega) ⟨rfl, by rw [e62]; exact Hm, by rw [e62]; exact hh.symm, hM.same (by rw [e58]) e67, fun _ _ _ _ _ => rfl, fun _ _ _ => rfl⟩
    · intro i s hi hI
      obtain ⟨i1, i2, i3, i4, i5, i6⟩ := hI
      have oki := hours_ok ok i
      obtain ⟨m1, e1, c1, f1, f1'⟩ := m_note i2 oki.1 (AG.hours ok hG i) i4
      have H1 : Hr (m1 62) (hoursS i h) := by rw [f1 62 (by decide) (by decide)]; exact i2
      obtain ⟨m2, e2, H2, -, t2, f2⟩ := m_oneHour H1 oki
      refine Or.inl ⟨(nI (i + 1), m2), ?_, rfl, H2, ?_, ?_, fun c a b d e => by show m2 c = _; rw [f2.1 c a b d, f1 c a e]; exact i5 c a b d e, fun j a b => by show m2 58 j = _; rw [f2.2 j a, f1' j b]; exact i6 j a b⟩
      · show fX7_hours_b44 (nI n) s.1 s.2 = _
        unfold fX7_hours_b44
        rw [i1, if_neg (by rw [e_le0 (by omega) (by omega)]; omega), e1, e_bd, e2, e_bd, e_let, nI_1]
      · show m2 62 1 = hq (mem 17 9) i + 1
        rw [t2, f1 62 (by decide) (by decide), i3]
      · rw [i3] at c1
        exact c1.same (f2.2 19 (by decide)) (f2.1 67 (by decide) (by decide) (by decide))
    · intro s hI
      obtain ⟨i1, i2⟩ := hI
      refine ⟨s, ?_, i2⟩
      show fX7_hours_b44 (nI n) s.1 s.2 = _
      unfold fX7_hours_b44
      rw [i1, if_pos (by rw [e_le0 (by omega) (by omega)]; exact Nat.le_refl _), ← i1]
  obtain ⟨q, e2, k1, k2, k3, k4, k5⟩ := km
  refine ⟨nI (hsL (hoursS n h)), r.2, q.2, ?_, ?_, ⟨hoursS n h, ⟨hours_ok ok n, g1.kept (fun j _ => by rw [k4 17 (by decide) (by decide) (by decide) (by decide)]) (fun c a b => k4 c (by omega) (by omega) (by omega) (by omega)), k1, ?_⟩, ?_, kq k n, gq h G n, tq (mem 17 9) T n, AG.hours ok hG n, g3.same (fun c a b => k4 c (by omega) (by omega) (by omega) (by omega)), k3⟩, ?_, ?_⟩
  · unfold fX6_hours
    rw [c_isNone H ok, e_bd, decide_eq_false z0, if_pos (show bI false = 0 from rfl), hw, z1, if_pos rfl, if_pos z2', e_let, l0, e1, e_bd, g1.2.2.1]
  · unfold fX7_hours
    rw [e58, if_neg hz, m_in, tj1, tj24, z1, e_bd, if_neg q1, e_gd' (show zin (1 : Int32) 38 = true by decide), show (1 : Int32).toNatClampNeg = 1 by decide, e62, ← hh, if_pos z2', e_let, l0, e2, e_bd, e_gd' (show zin (4 : Int32) 38 = true by decide), show (4 : Int32).toNatClampNeg = 4 by decide, k1.2.2.1]
  · rw [k5 4 (by decide) (by decide), e58, hours_N]; exact Hi
  · rw [k4 17 (by decide) (by decide) (by decide) (by decide), g2, k2]
  · intro c a b d e g i
    rw [k4 c d e g i, g4 c a b]
  · intro j a b
    rw [k5 j a b, e58]
end HO
