/-! fits -/
def supS (h : HS) (t w v : Nat) : HS :=
  if w = 0 then (if v ≤ 3 then setK h t v else setL (setK h t v) (hsL h &&& (255 ^^^ 2 ^ t))) else if w = 1 then setW h t v else if w = 2 then setS h t v else setV h v
def loF (w : Nat) : Nat := if w = 0 then 1 else if w = 1 then 0 else if w = 2 then 1 else 0
def hiF (w : Nat) : Nat := if w = 0 then 5 else if w = 1 then 20 else if w = 2 then 30 else 1
theorem sup_N (h : HS) (t w v : Nat) : hsN (supS h t w v) = hsN h := by
  unfold supS
  split
  · split <;> rfl
  · split
    · rfl
    · split <;> rfl
theorem sup_ok {h : HS} (ok : okH h) {t w v : Nat} (ht : t < hsN h) (hw : w < 4) (h1 : loF w ≤ v) (h2 : v ≤ hiF w) : okH (supS h t w v) := by
  have h8 := ok.t8 ht
  obtain ⟨o1, o2, o3, o4, o5, o6, o7, o8⟩ := id ok
  unfold supS loF hiF at *
  by_cases c0 : w = 0
  · rw [if_pos c0] at h1 h2 ⊢
    by_cases cv : v ≤ 3
    · rw [if_pos cv]
      refine ⟨o1, fun u hu => ?_, o3, o4, o5, o6, o7, fun u hu hl => ?_⟩
      · obtain ⟨a1, a2, a3, a4⟩ := o2 u hu
        refine ⟨?_, a2, a3, a4⟩
        show 1 ≤ (if u = t then v else hsK h u) ∧ (if u = t then v else hsK h u) ≤ 5
        split
        · omega
        · exact a1
      · obtain ⟨b1, b2, b3⟩ := o8 u hu hl
        refine ⟨?_, b2, b3⟩
        show (if u = t then v else hsK h u) ≤ 3
        split <;> omega
    · rw [if_neg cv]
      refine ⟨o1, fun u hu => ?_, o3, clr_lt _ o4, o5, o6, o7, fun u hu hl => ?_⟩
      · obtain ⟨a1, a2, a3, a4⟩ := o2 u hu
        refine ⟨?_, a2, a3, a4⟩
        show 1 ≤ (if u = t then v else hsK h u) ∧ (if u = t then v else hsK h u) ≤ 5
        split
        · omega
        · exact a1
      · have hl' : (hsL h &&& (255 ^^^ 2 ^ t)).testBit u = true := hl
        have hu' : u < hsN h := hu
        rw [tb_clr _ ok.L t h8 u (by omega), Bool.and_eq_true] at hl'
        have hut : u ≠ t := by
          intro e
          rw [decide_eq_true e] at hl'
          cases hl'.2
        obtain ⟨b1, b2, b3⟩ := o8 u hu hl'.1
        refine ⟨?_, b2, b3⟩
        show (if u = t then v else hsK h u) ≤ 3
        rw [if_neg hut]; exact b1
  · rw [if_neg c0] at h1 h2 ⊢
    by_cases c1 : w = 1
    · rw [if_pos c1] at h1 h2 ⊢
      refine ⟨o1, fun u hu => ?_, o3, o4, o5, o6, o7, o8⟩
      obtain ⟨a1, a2, a3, a4⟩ := o2 u hu
      refine ⟨a1, a2, ?_, a4⟩
      show (if u = t then v else hsW h u) ≤ 20
      split <;> omega
    · rw [if_neg c1] at h1 h2 ⊢
      by_cases c2 : w = 2
      · rw [if_pos c2] at h1 h2 ⊢
        refine ⟨o1, fun u hu => ?_, o3, o4, o5, o6, o7, fun u hu hl => ?_⟩
        · obtain ⟨a1, a2, a3, a4⟩ := o2 u hu
          refine ⟨a1, ?_, a3, a4⟩
          show (if u = t then v else hsS h u) ≤ 30
          split <;> omega
        · obtain ⟨b1, b2, b3⟩ := o8 u hu hl
          refine ⟨b1, ?_, b3⟩
          show 0 < (if u = t then v else hsS h u)
          split <;> omega
      · rw [if_neg c2] at h1 h2 ⊢
        exact ⟨o1, o2, o3, o4, o5, h2, o7, o8⟩
def soS (g : HS) (t : Nat) (it : Nat → Int32) : Nat → Bool
  | 0 => true
  | i + 1 => soS g t it i && decide (it i = nI (hsS (hoursS (i + 1) g) t))
theorem so_mono {g : HS} {t : Nat} {it : Nat → Int32} {i : Nat} (hf : soS g t it i = false) : ∀ k, i ≤ k → soS g t it k = false := by
  intro k
  induction k with
  | zero => intro h; have : i = 0 := by omega
            subst this; exact hf
  | succ k ih =>
    intro h
    by_cases e : i = k + 1
    · subst e; exact hf
    · show (soS g t it k && _) = false
      rw [ih (by omega)]; rfl
def ftS (h : HS) (t w k : Nat) (it : Nat → Int32) : Nat → Int32
  | 0 => 0
  | j + 1 => if soS (supS h t w (loF w + j)) t it k = true then ftS h t w k it j ||| ((1 : Int32) <<< (nI (loF w + j) &&& 31)) else ftS h t w k it j
def numF (w : Nat) : Nat := hiF w + 1 - loF w
theorem lo_hi (w : Nat) : loF w ≤ hiF w + 1 ∧ hiF w ≤ 30 := by
  unfold loF hiF
  split
  · omega
  · split
    · omega
    · split <;> omega
section FI
variable {mem : ZM} {h : HS} {t w v : Nat}
theorem c_suppose (H : Hc mem 37 h) (ok : okH h) (ht : t < hsN h) (hw : w < 4) (h1 : loF w ≤ v) (h2 : v ≤ hiF w) : ∃ m', fX2_suppose (nI t) (nI w) (nI v) mem = some m' ∧ Hc m' 37 (supS h t w v) ∧ FrB 37 mem m' := by
  have h8 := ok.t8 ht
  have hv30 := (lo_hi w).2
  unfold fX2_suppose
  rw [l0, l1, l2]
  simp (disch := omega) only [e_eq0, e_gz, e_cl, e_let]
  unfold supS loF hiF at *
  by_cases c0 : w = 0
  · rw [if_pos c0] at h1 h2 ⊢
    have H1 : Hc (zst mem (37 + 1) t (nI v)) 37 (setK h t v) := H.stK
    have hk := c_kind1 v h1 h2
    rw [show nI 1 = (1 : Int32) from rfl, hk, e_bd, show nI 0 = (0 : Int32) from rfl]
    simp only [bI_0, if_pos c0]
    by_cases cv : v ≤ 3
    · rw [decide_eq_true cv, if_neg (by decide), if_pos cv]
      exact ⟨_, rfl, H1, FrB.st _ (by omega)⟩
    · rw [decide_eq_false cv, if_pos rfl, if_neg cv, c_quench H1 ok.L h8, e_bd]
      exact ⟨_, rfl, H1.stL, (FrB.st _ (by omega)).tr (FrB.st _ (by omega))⟩
  · rw [if_neg c0] at h1 h2 ⊢
    simp only [if_neg c0]
    by_cases c1 : w = 1
    · simp only [if_pos c1]
      exact ⟨_, rfl, H.stW, FrB.st _ (by omega)⟩
    · simp only [if_neg c1]
      by_cases c2 : w = 2
      · simp only [if_pos c2]
        exact ⟨_, rfl, H.stS, FrB.st _ (by omega)⟩
      · simp only [if_neg c2]
        exact ⟨_, rfl, H.stV, FrB.st _ (by omega)⟩
theorem c_burnsAsTold {q i k : Nat} {it : Nat → Int32} {g : HS} (H : Hc mem 37 g) (ok : okH g) (ht : t < hsN g) (hq : q + 1 < 37 ∨ 41 < q + 1) (hik : i + k ≤ 40) (hit : ∀ u, u < k → mem (q + 1) (i + u) = it u) : ∃ m', fX2_burnsAsTold q (nI t) (nI i) (nI k) mem = some (bI (soS g t it k), m') ∧ FrB 37 mem m' := by
  have h8 := ok.t8 ht
  have key : ∃ r, fX2_burnsAsTold_l3 q (nI t) (nI i) (nI k) (nI 0, mem) = some r ∧ (∀ x : Int32 × ZM, (Sum.elim (fun s2 => ((1 : Int32), s2.2)) (fun t2 => t2) r) = x → x.1 = bI (soS g t it k) ∧ FrB 37 mem x.2) := by
    unfold fX2_burnsAsTold_l3
    refine zi_inv (fun j s => s.1 = nI j ∧ Hc s.2 37 (hoursS j g) ∧ FrB 37 mem s.2 ∧ soS g t it j = true) _ k ?_ ?_ 2000 0 _ (Nat.zero_le _) (by omega) ⟨rfl, H, FrB.rf _ _, rfl⟩
    · intro j s hj hI
      obtain ⟨i1, i2, i3, i4⟩ := hI
      have okj := hours_ok ok j
      obtain ⟨m', e, g1, -, g3⟩ := c_passHour i2 okj
      have htj : t < hsN (hourS (hoursS j g)) := by show t < hsN (hoursS j g); rw [hours_N]; exact ht
      have f3 := i3.tr g3
      have hrow : m' (q + 1) (i + j) = it j := by rw [f3 (q + 1) (by omega)]; exact hit j hj
      have hst : m' (37 + 2) t = nI (hsS (hourS (hoursS j g)) t) := (g1.2.1 t htj).2.1
      show (∃ s', fX2_burnsAsTold_b3 q (nI t) (nI i) (nI k) s.1 s.2 = _ ∧ _) ∨ (∃ r, fX2_burnsAsTold_b3 q (nI t) (nI i) (nI k) s.1 s.2 = _ ∧ _)
      unfold fX2_burnsAsTold_b3
      rw [i1, if_neg (by rw [e_le0 (by omega) (by omega)]; omega), e, e_bd, nI_add]
      simp (disch := omega) only [e_gz, e_cl, e_let, nI_1, hrow, hst]
      by_cases hc : nI (hsS (hourS (hoursS j g)) t) = it j
      · rw [if_pos hc]
        refine Or.inl ⟨_, rfl, rfl, g1, f3, ?_⟩
        show (soS g t it j && decide (it j = nI (hsS (hourS (hoursS j g)) t))) = true
        rw [i4, decide_eq_true hc.symm]; rfl
      · rw [if_neg hc]
        refine Or.inr ⟨_, rfl, fun x hx => ?_⟩
        subst hx
        refine ⟨?_, f3⟩
        have hf : soS g t it (j + 1) = false := by
          show (soS g t it j && decide (it j = nI (hsS (hourS (hoursS j g)) t))) = false
          rw [decide_eq_false (fun e => hc e.symm), Bool.and_false]
        rw [so_mono hf k (by omega)]; rfl
    · intro s hI
      obtain ⟨i1, i2, i3, i4⟩ := hI
      show ∃ r, fX2_burnsAsTold_b3 q (nI t) (nI i) (nI k) s.1 s.2 = _ ∧ _
      unfold fX2_burnsAsTold_b3
      rw [i1, if_pos (by rw [e_le0 (by omega) (by omega)]; exact Nat.le_refl _)]
      refine ⟨_, rfl, fun x hx => ?_⟩
      subst hx
      exact ⟨by rw [i4]; rfl, i3⟩
  obtain ⟨r, e, gg⟩ := key
  unfold fX2_burnsAsTold
  rw [e_let, l0, e, e_bd]
  cases r with
  | inl s =>
    have := gg _ rfl
    exact ⟨s.2, by show some ((1 : Int32), s.2) = _; rw [show (1 : Int32) = bI (soS g t it k) from this.1], this.2⟩
  | inr s =>
    have := gg _ rfl
    exact ⟨s.2, by show some s = _; rw [← show s.1 = bI (soS g t it k) from this.1], this.2⟩
theorem c_whatFits {r i k : Nat} {it : Nat → Int32} (H : Hc mem 17 h) (ok : okH h) (ht : t < hsN h) (hr : r < 8) (hw : w < 4) (hik : i + k ≤ 40) (hit : ∀ u, u < k → mem (42 + 2 * r + 1) (i + u) = it u) : ∃ m', fX2_whatFits 17 (42 + 2 * r) (nI t) (nI i) (nI k) (nI w) mem = some (ftS h t w k it (numF w), m') ∧ FrB 37 mem m' := by
  have hlh := lo_hi w
  have e3 : zt3.getD w 0 = nI (loF w) := by
    have : ∀ w, w < 4 → zt3.getD w 0 = nI (loF w) := by decide
    exact this w hw
  have e4 : zt4.getD w 0 = nI (hiF w) := by
    have : ∀ w, w < 4 → zt4.getD w 0 = nI (hiF w) := by decide
    exact this w hw
  have key : ∃ q, fX2_whatFits_l11 17 (42 + 2 * r) (nI t) (nI i) (nI k) (nI w) (0, nI (loF w), mem) = some q ∧ (q.1 = ftS h t w k it (numF w) ∧ FrB 37 mem q.2.2) := by
    unfold fX2_whatFits_l11
    refine zi_inv (fun j q => q.1 = ftS h t w k it j ∧ q.2.1 = nI (loF w + j) ∧ FrB 37 mem q.2.2) _ (numF w) ?_ ?_ 2000 0 _ (Nat.zero_le _) (by unfold numF; omega) ⟨rfl, rfl, FrB.rf _ _⟩
    · intro j q hj hI
      obtain ⟨i1, i2, i3⟩ := hI
      unfold numF at hj
      have H' : Hc q.2.2 17 h := H.fr i3 (by omega)
      have okx := sup_ok ok ht hw (v := loF w + j) (by omega) (by omega)
      obtain ⟨m1, d1, H1, -, f1⟩ := c_takeFrom (b := 37) H' ok.1 (by omega)
      obtain ⟨m2, d2, H2, f2⟩ := c_suppose H1 ok ht hw (v := loF w + j) (by omega) (by omega)
      have F2 : FrB 37 mem m2 := (i3.tr f1).tr f2
      obtain ⟨m3, d3, f3⟩ := c_burnsAsTold (q := 42 + 2 * r) (it := it) H2 okx (by rw [sup_N]; exact ht) (by omega) hik (fun u hu => by rw [F2 _ (by omega)]; exact hit u hu)
      refine Or.inl ?_
      show ∃ q', fX2_whatFits_b11 17 (42 + 2 * r) (nI t) (nI i) (nI k) (nI w) q.1 q.2.1 q.2.2 = _ ∧ _
      unfold fX2_whatFits_b11 fX2_whatFits_j61
      rw [e_gz hw (by decide), e_cl (by omega), e4, i2, if_neg (by rw [e_lt0 (by omega) (by omega)]; omega), d1, e_bd, d2, e_bd, d3, e_bd]
      simp only [bI_0, e_let, nI_1]
      have hft : ftS h t w k it (j + 1) = if soS (supS h t w (loF w + j)) t it k = true then ftS h t w k it j ||| ((1 : Int32) <<< (nI (loF w + j) &&& 31)) else ftS h t w k it j := rfl
      cases hs : soS (supS h t w (loF w + j)) t it k
      · rw [if_pos rfl]
        refine ⟨_, rfl, ?_, rfl, F2.tr f3⟩
        rw [hft, hs, if_neg (by decide)]; exact i1
      · rw [if_neg (by decide)]
        refine ⟨_, rfl, ?_, rfl, F2.tr f3⟩
        rw [hft, hs, if_pos rfl, i1]
    · intro q hI
      obtain ⟨i1, i2, i3⟩ := hI
      refine ⟨q, ?_, i1, i3⟩
      show fX2_whatFits_b11 17 (42 + 2 * r) (nI t) (nI i) (nI k) (nI w) q.1 q.2.1 q.2.2 = _
      unfold fX2_whatFits_b11
      rw [e_gz hw (by decide), e_cl (by omega), e4, i2, if_pos (by unfold numF; rw [e_lt0 (by omega) (by omega)]; omega), ← i2]
  obtain ⟨q, e, g1, g2⟩ := key
  unfold fX2_whatFits
  rw [e_let, e_gz hw (by decide), e_cl (by omega), e3, e_let, e, e_bd, g1]
  exact ⟨_, rfl, g2⟩
theorem m_isSo {m : ZM} {g : HS} {p k : Nat} {it : Nat → Int32} (A : Asd mem m) (H : Hr (m 62) g) (ok : okH g) (ht : t < hsN g) (hpk : p + k ≤ 320) (hk : k ≤ 12) (hit : ∀ u, u < k → mem 61 (p + u) = it u) : ∃ m', fX7_isSo (nI t) (nI p) (nI k) m = some (bI (soS g t it k), m') ∧ Asd mem m' ∧ Keep mem m' := by
  have h8 := ok.t8 ht
  have hn := ok.1
  have key : ∃ r, fX7_isSo_l6 (nI t) (nI p) (nI k) (bI true, nI 0, m) = some r ∧ (r.1 = bI (soS g t it k) ∧ Asd mem r.2.2) := by
    unfold fX7_isSo_l6
    refine zi_inv (fun i s => s.1 = bI (soS g t it i) ∧ s.2.1 = nI i ∧ Hr (s.2.2 62) (hoursS i g) ∧ Asd mem s.2.2) _ k ?_ ?_ 2000 0 _ (Nat.zero_le _) (by omega) ⟨rfl, rfl, H, A⟩
    · intro i s hi hI
      obtain ⟨i1, i2, i3, i4⟩ := hI
      have oki := hours_ok ok i
      obtain ⟨m', e, g1, -, -, g2⟩ := m_oneHour i3 oki
      have A' := i4.o g2
      have htj : t < hsN (hourS (hoursS i g)) := by show t < hsN (hoursS i g); rw [hours_N]; exact ht
      have hrow : m' 61 (p + i) = it i := by rw [A'.1 61 (by decide) (by decide) (by decide) (by decide)]; exact hit i hi
      refine Or.inl ?_
      show ∃ s', fX7_isSo_b6 (nI t) (nI p) (nI k) s.1 s.2.1 s.2.2 = _ ∧ _
      unfold fX7_isSo_b6 fX7_isSo_j46 fX7_isSo_j47
      rw [i2, if_neg (by rw [e_le0 (by omega) (by omega)]; omega), e, e_bd, i1, nI_add]
      simp (disch := omega) only [l14, nI_add, e_gz, e_cl, e_let, nI_1, hrow, (g1.2.1 t htj).2.1, bI_0]
      have hso : soS g t it (i + 1) = (soS g t it i && decide (it i = nI (hsS (hourS (hoursS i g)) t))) := rfl
      cases hs : soS g t it i
      · rw [if_pos rfl]
        refine ⟨_, rfl, ?_, rfl, g1, A'⟩
        rw [hso, hs]; rfl
      · rw [if_neg (by decide)]
        by_cases hc : it i = nI (hsS (hourS (hoursS i g)) t)
        · rw [if_pos hc]
          refine ⟨_, rfl, ?_, rfl, g1, A'⟩
          rw [hso, hs, decide_eq_true hc]; rfl
        · rw [if_neg hc]
          refine ⟨_, rfl, ?_, rfl, g1, A'⟩
          rw [hso, hs, decide_eq_false hc]; rfl
    · intro s hI
      obtain ⟨i1, i2, i3, i4⟩ := hI
      refine ⟨s, ?_, i1, i4⟩
      show fX7_isSo_b6 (nI t) (nI p) (nI k) s.1 s.2.1 s.2.2 = _
      unfold fX7_isSo_b6
      rw [i2, if_pos (by rw [e_le0 (by omega) (by omega)]; exact Nat.le_refl _), ← i2]
  obtain ⟨r, e, g1, g2⟩ := key
  obtain ⟨m2, e2, A2, K2⟩ := m_back g2
  unfold fX7_isSo
  rw [e_let, e_let, show ((1 : Int32), (0 : Int32), m) = (bI true, nI 0, m) from rfl, e, e_bd, e2, e_bd, g1, e_gd' (bI_bl _)]
  exact ⟨m2, rfl, A2, K2⟩
def atF (w t : Nat) : Nat := if w = 0 then 6 + t else if w = 1 then 22 + t else if w = 2 then 14 + t else 2
theorem at_lt (w : Nat) {t : Nat} (ht : t < 8) : atF w t < 38 := by
  unfold atF
  split
  · omega
  · split
    · omega
    · split <;> omega
theorem m_fitsL {m : ZM} {r i k : Nat} {it : Nat → Int32} (A : Asd mem m) (Hm : Hr (mem 62) h) (H : Hr (m 62) h) (hk0 : Keep mem m) (ok : okH h) (ht : t < hsN h) (hr : r < 8) (hw : w < 4) (hik : i + k ≤ 40) (hk : k ≤ 12) (hit : ∀ u, u < k → mem 61 (40 * r + i + u) = it u) : ∃ q, fX7_fits_l160 (nI t) (nI r) (nI i) (nI k) (nI w) (nI (atF w t)) (nI (hiF w)) (0, nI (loF w), m) = some q ∧ (q.1 = ftS h t w k it (numF w) ∧ Keep mem q.2.2) := by
  have hlh := lo_hi w
  have h8 := ok.t8 ht
  have hn := ok.1
  have hat := at_lt w h8
  unfold fX7_fits_l160
  refine zi_inv (fun j q => q.1 = ftS h t w k it j ∧ q.2.1 = nI (loF w + j) ∧ Asd mem q.2.2 ∧ Hr (q.2.2 62) h ∧ Keep mem q.2.2) _ (numF w) ?_ ?_ 2000 0 _ (Nat.zero_le _) (by unfold numF; omega) ⟨rfl, rfl, A, H, hk0⟩
  · intro j q hj hI
    obtain ⟨i1, i2, i3, i4, i5⟩ := hI
    unfold numF at hj
    have hv1 : loF w ≤ loF w + j := by omega
    have hv2 : loF w + j ≤ hiF w := by omega
    generalize hv : loF w + j = v at *
    have okx := sup_ok ok ht hw (v := v) hv1 hv2
    refine Or.inl ?_
    show ∃ q', fX7_fits_b160 (nI t) (nI r) (nI i) (nI k) (nI w) (nI (atF w t)) (nI (hiF w)) q.1 q.2.1 q.2.2 = _ ∧ _
    have hft : ftS h t w k it (j + 1) = if soS (supS h t w v) t it k = true then ftS h t w k it j ||| ((1 : Int32) <<< (nI v &&& 31)) else ftS h t w k it j := by rw [← hv]; rfl
    have fin : ∀ m3, Hr (m3 62) (supS h t w v) → Asd mem m3 → ∃ q', fX7_fits_j203 (nI t) (nI r) (nI i) (nI k) (nI w) (nI (atF w t)) (nI (hiF w)) q.1 (nI v) m3 = some (Sum.inl q') ∧ (q'.1 = ftS h t w k it (j + 1) ∧ q'.2.1 = nI (loF w + (j + 1)) ∧ Asd mem q'.2.2 ∧ Hr (q'.2.2 62) h ∧ Keep mem q'.2.2) := by
      intro m3 H3 A3
      obtain ⟨m4, e4, A4, K4⟩ := m_isSo (p := 40 * r + i) (it := it) A3 H3 okx (by rw [sup_N]; exact ht) (by omega) hk hit
      have H4 : Hr (m4 62) h := K4.Hr hn Hm
      unfold fX7_fits_j203 fX7_fits_j229
      rw [e_40, e4, e_bd]
      simp only [bI_0, e_let, nI_1]
      have hv3 : v + 1 = loF w + (j + 1) := by omega
      cases hs : soS (supS h t w v) t it k
      · rw [if_pos rfl]
        refine ⟨_, rfl, ?_, by rw [← hv3], A4, H4, K4⟩
        rw [hft, hs, if_neg (by decide), i1]
        show _ ||| (0 : Int32) = _
        simp
      · rw [if_neg (by decide)]
        refine ⟨_, rfl, ?_, by rw [← hv3], A4, H4, K4⟩
        rw [hft, hs, if_pos rfl, i1]
    unfold fX7_fits_b160
    rw [i2, if_neg (by rw [e_lt0 (by omega) (by omega)]; omega), e_gz hat (by decide), e_cl (by omega), e_let, l0]
    simp (disch := omega) only [e_eq0]
    unfold atF supS loF hiF at *
    by_cases c0 : w = 0
    · simp only [if_pos c0] at *
      rw [m_burns v (by omega), e_bd, show nI 0 = (0 : Int32) from rfl]
      have hb0 : (nI (burnsN v) = 0) ↔ ¬ v ≤ 3 := by
        have : ∀ v, v < 6 → 1 ≤ v → ((nI (burnsN v) = 0) ↔ ¬ v ≤ 3) := by decide
        exact this v (by omega) hv1
      have H1 : Hr ((zst q.2.2 62 (6 + t) (nI v)) 62) (setK h t v) := by rw [e_row]; exact i4.stK hn h8
      by_cases cv : v ≤ 3
      · rw [if_neg (fun e => hb0.mp e cv)]
        refine fin _ ?_ (i3.s62 _ _)
        rw [if_pos cv]; exact H1
      · rw [if_pos (hb0.mpr cv)]
        simp (disch := omega) only [l4, e_gz, e_cl, e_let]
        have hL1 : (zst q.2.2 62 (6 + t) (nI v)) 62 4 = nI (hsL h) := H1.2.2.1
        rw [hL1, e_clr _ ok.L t h8]
        refine fin _ ?_ ((i3.s62 _ _).s62 _ _)
        rw [if_neg cv, e_row]; exact H1.stL
    · simp only [if_neg c0] at *
      by_cases c1 : w = 1
      · simp only [if_pos c1] at *
        exact fin _ (by rw [e_row]; exact i4.stW hn h8) (i3.s62 _ _)
      · simp only [if_neg c1] at *
        by_cases c2 : w = 2
        · simp only [if_pos c2] at *
          exact fin _ (by rw [e_row]; exact i4.stS hn h8) (i3.s62 _ _)
        · simp only [if_neg c2] at *
          exact fin _ (by rw [e_row]; exact i4.stV) (i3.s62 _ _)
  · intro q hI
    obtain ⟨i1, i2, i3, i4, i5⟩ := hI
    refine ⟨q, ?_, i1, i5⟩
    show fX7_fits_b160 (nI t) (nI r) (nI i) (nI k) (nI w) (nI (atF w t)) (nI (hiF w)) q.1 q.2.1 q.2.2 = _
    unfold fX7_fits_b160
    rw [i2, if_pos (by unfold numF; rw [e_lt0 (by omega) (by omega)]; omega), ← i2]
end FI
