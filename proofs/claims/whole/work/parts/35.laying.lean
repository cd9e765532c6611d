def swapS (h : HS) (a b : Nat) : HS := setP (setP h a (hsP h b)) b (hsP h a)
theorem swap_P (h : HS) (a b u : Nat) : hsP (swapS h a b) u = if u = b then hsP h a else if u = a then hsP h b else hsP h u := rfl
theorem swap_ok {h : HS} (ok : okH h) {a b : Nat} (ha : a < hsN h) (hb : b < hsN h) : okH (swapS h a b) := by
  obtain ⟨o1, o2, o3, o4, o5, o6, o7, o8⟩ := ok
  refine ⟨o1, fun u hu => ?_, fun t u ht hu e => ?_, o4, o5, o6, o7, o8⟩
  · obtain ⟨a1, a2, a3, a4⟩ := o2 u hu
    refine ⟨a1, a2, a3, ?_⟩
    rw [swap_P]
    have h1 := (o2 a ha).2.2.2
    have h2 := (o2 b hb).2.2.2
    show _ < hsN h
    split
    · exact h1
    · split
      · exact h2
      · exact a4
  · have hP : ∀ u, hsP (swapS h a b) u = hsP h (if u = b then a else if u = a then b else u) := by
      intro u
      rw [swap_P]
      split
      · rfl
      · split <;> rfl
    have hl : ∀ u, u < hsN h → (if u = b then a else if u = a then b else u) < hsN h := by
      intro u hu
      split
      · exact ha
      · split
        · exact hb
        · exact hu
    rw [hP, hP] at e
    have e2 := o3 _ _ (hl t ht) (hl u hu) e
    by_cases c1 : t = b
    · rw [if_pos c1] at e2
      by_cases c2 : u = b
      · omega
      · rw [if_neg c2] at e2
        by_cases c3 : u = a
        · rw [if_pos c3] at e2; omega
        · rw [if_neg c3] at e2; omega
    · rw [if_neg c1] at e2
      by_cases c4 : t = a
      · rw [if_pos c4] at e2
        by_cases c2 : u = b
        · rw [if_pos c2] at e2; omega
        · rw [if_neg c2] at e2
          by_cases c3 : u = a
          · omega
          · rw [if_neg c3] at e2; omega
      · rw [if_neg c4] at e2
        by_cases c2 : u = b
        · rw [if_pos c2] at e2; omega
        · rw [if_neg c2] at e2
          by_cases c3 : u = a
          · rw [if_pos c3] at e2; omega
          · rw [if_neg c3] at e2; exact e2
section LA
variable {mem : ZM} {b x y : Nat} {h : HS}
theorem c_swap (H : Hc mem b h) (ok : okH h) (hx : x < hsN h) (hy : y < hsN h) : ∃ m', fX3_changePlaces b (nI x) (nI y) mem = some m' ∧ Hc m' b (swapS h x y) ∧ m' b 9 = mem b 9 ∧ FrB b mem m' := by
  have x8 := ok.t8 hx
  have y8 := ok.t8 hy
  unfold fX3_changePlaces
  simp (disch := omega) only [e_gz, e_cl, e_let, (H.2.1 x hx).2.2.2, (H.2.1 y hy).2.2.2]
  exact ⟨_, rfl, (H.stP).stP, by rw [e_stn (by omega), e_stn (by omega)], (FrB.st _ (by omega)).tr (FrB.st _ (by omega))⟩
theorem m_swap (H : Hr (mem 62) h) (ok : okH h) (hx : x < hsN h) (hy : y < hsN h) : ∃ m', fX7_exchange (nI x) (nI y) mem = some m' ∧ Hr (m' 62) (swapS h x y) ∧ m' 62 1 = mem 62 1 ∧ (∃ v1 v2 : Int32, m' = zst (zst mem 62 (30 + x) v1) 62 (30 + y) v2) := by
  have x8 := ok.t8 hx
  have y8 := ok.t8 hy
  unfold fX7_exchange
  simp (disch := omega) only [l30, nI_add, e_gz, e_cl, e_let, (H.2.1 x hx).2.2.2, (H.2.1 y hy).2.2.2]
  refine ⟨_, rfl, ?_, by rw [e_stk (by omega), e_stk (by omega)], _, _, rfl⟩
  rw [e_row, e_row]
  exact (H.stP ok.1 x8).stP ok.1 y8
/-! laying, in numbers -/
def lyV (h : HS) (k a b : Nat) : Int32 := nI (pop (ashS (hoursS k (swapS h a b))))
def lyU (h : HS) (k a b : Nat) (s : Int32 × Int32) : Int32 × Int32 := if lyV h k a b ≤ s.2 then s else ((10 : Int32) * nI a + nI b, lyV h k a b)
def lyI (h : HS) (k a : Nat) (s : Int32 × Int32) : Nat → Int32 × Int32
  | 0 => s
  | j + 1 => lyU h k a (a + 1 + j) (lyI h k a s j)
def lyO (h : HS) (k : Nat) : Nat → Int32 × Int32
  | 0 => (-1000000, -1000000)
  | i + 1 => lyI h k i (lyO h k i) (hsN h - (i + 1))
theorem c_layIn (H : Hc mem 17 h) (ok : okH h) {k a : Nat} (hk : k ≤ 30) (ha : a < hsN h) (s : Int32 × Int32) (y3 : Int32) : ∃ m' z, fX2_bestLaying_l26 17 (nI k) y3 (nI a) (s.1, s.2, nI (a + 1), mem) = some ((lyI h k a s (hsN h - (a + 1))).1, (lyI h k a s (hsN h - (a + 1))).2, z, m') ∧ FrB 37 mem m' := by
  have hn := ok.1
  have key : ∃ r, fX2_bestLaying_l26 17 (nI k) y3 (nI a) (s.1, s.2, nI (a + 1), mem) = some r ∧ (r.1 = (lyI h k a s (hsN h - (a + 1))).1 ∧ r.2.1 = (lyI h k a s (hsN h - (a + 1))).2 ∧ FrB 37 mem r.2.2.2) := by
    unfold fX2_bestLaying_l26
    refine zi_inv (fun j q => q.1 = (lyI h k a s j).1 ∧ q.2.1 = (lyI h k a s j).2 ∧ q.2.2.1 = nI (a + 1 + j) ∧ FrB 37 mem q.2.2.2) _ (hsN h - (a + 1)) ?_ ?_ 2000 0 _ (Nat.zero_le _) (by omega) ⟨rfl, rfl, rfl, FrB.rf _ _⟩
    · intro j q hj hI
      obtain ⟨i1, i2, i3, i4⟩ := hI
      have H' : Hc q.2.2.2 17 h := H.fr i4 (by omega)
      have hb : a + 1 + j < hsN h := by omega
      have oks := swap_ok ok ha hb
      obtain ⟨m1, e1, H1, -, f1⟩ := c_takeFrom (b := 37) H' ok.1 (by omega)
      obtain ⟨m2, e2, H2, -, f2⟩ := c_swap H1 ok ha hb
      obtain ⟨m3, e3, H3, f3⟩ := c_tryHours H2 oks (k := k) (by omega)
      have okk := hours_ok oks k
      have ha256 : ashS (hoursS k (swapS h a (a + 1 + j))) < 256 := mkb_256 _ okk.1
      refine Or.inl ?_
      show ∃ q', fX2_bestLaying_b26 17 (nI k) y3 (nI a) q.1 q.2.1 q.2.2.1 q.2.2.2 = _ ∧ _
      unfold fX2_bestLaying_b26 fX2_bestLaying_j92
      rw [H'.1, i3, if_neg (by rw [e_le0 (by omega) (by omega)]; omega), e1, e_bd, e2, e_bd, e3, e_bd, c_ashes H3 okk, e_bd]
      rw [show mkb (fun t => decide (hsS (hoursS k (swapS h a (a + 1 + j))) t = 0)) (hsN (hoursS k (swapS h a (a + 1 + j)))) = ashS (hoursS k (swapS h a (a + 1 + j))) from rfl, e_pop _ ha256, e_bd]
      simp only [e_let, nI_1]
      have hl : lyI h k a s (j + 1) = lyU h k a (a + 1 + j) (lyI h k a s j) := rfl
      have f4 : FrB 37 mem m3 := ((i4.tr f1).tr f2).tr f3
      by_cases hc : lyV h k a (a + 1 + j) ≤ (lyI h k a s j).2
      · rw [if_pos (by rw [i2]; exact hc)]
        refine ⟨_, rfl, ?_, ?_, rfl, f4⟩
        · rw [hl]; unfold lyU; rw [if_pos hc]; exact i1
        · rw [hl]; unfold lyU; rw [if_pos hc]; exact i2
      · rw [if_neg (by rw [i2]; exact hc)]
        refine ⟨_, rfl, ?_, ?_, rfl, f4⟩
        · rw [hl]; unfold lyU; rw [if_neg hc]
        · rw [hl]; unfold lyU; rw [if_neg hc]; rfl
    · intro q hI
      obtain ⟨i1, i2, i3, i4⟩ := hI
      have H' : Hc q.2.2.2 17 h := H.fr i4 (by omega)
      refine ⟨q, ?_, i1, i2, i4⟩
      show fX2_bestLaying_b26 17 (nI k) y3 (nI a) q.1 q.2.1 q.2.2.1 q.2.2.2 = _
      unfold fX2_bestLaying_b26
      rw [H'.1, i3, if_pos (by rw [e_le0 (by omega) (by omega)]; omega), ← i3]
  obtain ⟨r, e, g1, g2, g3⟩ := key
  refine ⟨r.2.2.2, r.2.2.1, ?_, g3⟩
  rw [e, ← g1, ← g2]
theorem c_laying (H : Hc mem 17 h) (ok : okH h) {k : Nat} (hk : k ≤ 30) (w : Bool) : ∃ m', fX2_bestLaying 17 (nI k) (bI w) mem = some (if w = true then (lyO h k (hsN h)).1 else (lyO h k (hsN h)).2, m') ∧ FrB 37 mem m' := by
  have hn := ok.1
  have key : ∃ r, fX2_bestLaying_l11 17 (nI k) (bI w) (-1000000, -1000000, nI 0, mem) = some r ∧ (r.1 = (lyO h k (hsN h)).1 ∧ r.2.1 = (lyO h k (hsN h)).2 ∧ FrB 37 mem r.2.2.2) := by
    unfold fX2_bestLaying_l11
    refine zi_inv (fun i q => q.1 = (lyO h k i).1 ∧ q.2.1 = (lyO h k i).2 ∧ q.2.2.1 = nI i ∧ FrB 37 mem q.2.2.2) _ (hsN h) ?_ ?_ 2000 0 _ (Nat.zero_le _) (by omega) ⟨rfl, rfl, rfl, FrB.rf _ _⟩
    · intro i q hi hI
      obtain ⟨i1, i2, i3, i4⟩ := hI
      have H' : Hc q.2.2.2 17 h := H.fr i4 (by omega)
      obtain ⟨m', z, e, f'⟩ := c_layIn H' ok hk hi (lyO h k i) (bI w)
      refine Or.inl ?_
      show ∃ q', fX2_bestLaying_b11 17 (nI k) (bI w) q.1 q.2.1 q.2.2.1 q.2.2.2 = _ ∧ _
      unfold fX2_bestLaying_b11
      rw [H'.1, i3, if_neg (nI_le_f hn hi), e_let, nI_1, i1, i2, e, e_bd, e_let]
      exact ⟨_, rfl, rfl, rfl, rfl, i4.tr f'⟩
    · intro q hI
      obtain ⟨i1, i2, i3, i4⟩ := hI
      have H' : Hc q.2.2.2 17 h := H.fr i4 (by omega)
      refine ⟨q, ?_, i1, i2, i4⟩
      show fX2_bestLaying_b11 17 (nI k) (bI w) q.1 q.2.1 q.2.2.1 q.2.2.2 = _
      unfold fX2_bestLaying_b11
      rw [H'.1, i3, if_pos (by rw [e_le0 (by omega) (by omega)]; exact Nat.le_refl _), ← i3]
  obtain ⟨r, e, g1, g2, g3⟩ := key
  unfold fX2_bestLaying
  simp only [e_let]
  rw [l0, e, e_bd, g1, g2]
  refine ⟨r.2.2.2, ?_, g3⟩
  simp only [show nI 0 = (0 : Int32) from rfl, bI_0]
  cases w <;> rfl
theorem m_layIn {m : ZM} (A : Asd mem m) (Hm : Hr (mem 62) h) (H : Hr (m 62) h) (ok : okH h) {k a : Nat} (hk : k ≤ 30) (ha : a < hsN h) (s : Int32 × Int32) (y2 : Int32) : ∃ m' z, fX7_laying_l63 (nI k) y2 (nI a) (s.1, s.2, nI (a + 1), m) = some ((lyI h k a s (hsN h - (a + 1))).1, (lyI h k a s (hsN h - (a + 1))).2, z, m') ∧ Asd mem m' ∧ Hr (m' 62) h ∧ (m' = m ∨ Keep mem m') := by
  have hn := ok.1
  have key : ∃ r, fX7_laying_l63 (nI k) y2 (nI a) (s.1, s.2, nI (a + 1), m) = some r ∧ (r.1 = (lyI h k a s (hsN h - (a + 1))).1 ∧ r.2.1 = (lyI h k a s (hsN h - (a + 1))).2 ∧ Asd mem r.2.2.2 ∧ Hr (r.2.2.2 62) h ∧ (r.2.2.2 = m ∨ Keep mem r.2.2.2)) := by
    unfold fX7_laying_l63
    refine zi_inv (fun j q => q.1 = (lyI h k a s j).1 ∧ q.2.1 = (lyI h k a s j).2 ∧ q.2.2.1 = nI (a + 1 + j) ∧ Asd mem q.2.2.2 ∧ Hr (q.2.2.2 62) h ∧ (q.2.2.2 = m ∨ Keep mem q.2.2.2)) _ (hsN h - (a + 1)) ?_ ?_ 2000 0 _ (Nat.zero_le _) (by omega) ⟨rfl, rfl, rfl, A, H, Or.inl rfl⟩
    · intro j q hj hI
      obtain ⟨i1, i2, i3, i4, i5, i6⟩ := hI
      have hb : a + 1 + j < hsN h := by omega
      have oks := swap_ok ok ha hb
      obtain ⟨m1, e1, H1, -, v1, v2, hm1⟩ := m_swap i5 ok ha hb
      have A1 : Asd mem m1 := by rw [hm1]; exact (i4.s62 _ _).s62 _ _
      obtain ⟨m2, e2, A2, K2⟩ := m_ashesBehind A1 H1 oks (k := k) (by omega)
      have H2 : Hr (m2 62) h := K2.Hr hn Hm
      have okk := hours_ok oks k
      have ha256 : ashS (hoursS k (swapS h a (a + 1 + j))) < 256 := mkb_256 _ okk.1
      refine Or.inl ?_
      show ∃ q', fX7_laying_b63 (nI k) y2 (nI a) q.1 q.2.1 q.2.2.1 q.2.2.2 = _ ∧ _
      unfold fX7_laying_b63 fX7_laying_j111 fX7_laying_j126
      simp (disch := omega) only [l0, e_gz, e_cl, i5.1, i3]
      rw [if_neg (by rw [e_le0 (by omega) (by omega)]; omega), e1, e_bd, e2, e_bd, e_ones _ ha256, e_bd]
      simp only [e_let, nI_1]
      have hl : lyI h k a s (j + 1) = lyU h k a (a + 1 + j) (lyI h k a s j) := rfl
      by_cases hc : lyV h k a (a + 1 + j) ≤ (lyI h k a s j).2
      · rw [if_pos (by rw [i2]; exact hc), if_pos (by rw [i2]; exact hc)]
        refine ⟨_, rfl, ?_, ?_, rfl, A2, H2, Or.inr K2⟩
        · rw [hl]; unfold lyU; rw [if_pos hc]; exact i1
        · rw [hl]; unfold lyU; rw [if_pos hc]; exact i2
      · rw [if_neg (by rw [i2]; exact hc), if_neg (by rw [i2]; exact hc)]
        refine ⟨_, rfl, ?_, ?_, rfl, A2, H2, Or.inr K2⟩
        · rw [hl]; unfold lyU; rw [if_neg hc]
        · rw [hl]; unfold lyU; rw [if_neg hc]; rfl
    · intro q hI
      obtain ⟨i1, i2, i3, i4, i5, i6⟩ := hI
      refine ⟨q, ?_, i1, i2, i4, i5, i6⟩
      show fX7_laying_b63 (nI k) y2 (nI a) q.1 q.2.1 q.2.2.1 q.2.2.2 = _
      unfold fX7_laying_b63
      simp (disch := omega) only [l0, e_gz, e_cl, i5.1, i3]
      rw [if_pos (by rw [e_le0 (by omega) (by omega)]; omega), ← i3]
  obtain ⟨r, e, g1, g2, g3⟩ := key
  refine ⟨r.2.2.2, r.2.2.1, ?_, g3⟩
  rw [e, ← g1, ← g2]
theorem o_laying (R : RH mem h) (a1 a2 : Int32) : Op (fX6_laying a1 a2) (fX7_laying a1 a2) mem (Keep mem) := by
  obtain ⟨ok, H, Hm, ht⟩ := R
  have hn := ok.1
  by_cases z0 : hsN h = 0
  · exact ⟨-1000002, mem, mem, by simp [fX6_laying, c_isNone H ok, z0, bI], by simp [fX7_laying, ht, z0, bI], Keep.rf _⟩
  have hd : decide (hsN h = 0) = false := decide_eq_false z0
  have hd2 : decide (hsN h ≠ 0) = true := decide_eq_true z0
  rw [hd2] at ht
  cases z2 : wit a1 1 30
  · exact ⟨-1000001, mem, mem, by simp [fX6_laying, c_isNone H ok, z0, bI, c_isWithin, ti1, ti30, z2], by simp [fX7_laying, ht, bI, m_in, tj1, tj30, z2], Keep.rf _⟩
  cases z3 : wit a2 0 1
  · exact ⟨-1000001, mem, mem, by simp [fX6_laying, c_isNone H ok, z0, bI, c_isWithin, ti1, ti30, z2, c_isEither, z3], by simp [fX7_laying, ht, bI, m_in, tj1, tj30, z2, m_isWhat, z3], Keep.rf _⟩
  obtain ⟨k, rfl, hk1, hk2⟩ := wit_of (b := 30) (a := 1) (by decide) z2
  obtain ⟨m1, e1, f1⟩ := c_laying H ok (k := k) hk2 (decide (a2 = 0))
  have K1 := Keep.fr f1
  have Hm1 : Hr (m1 62) h := K1.Hr hn Hm
  have ht1 : m1 58 4 = bI true := by rw [K1.2.1 4 (by decide)]; exact ht
  obtain ⟨m2, e2, A2, hm2⟩ := m_aside m1
  have H2 : Hr (m2 62) h := by rw [hm2]; exact Hm1
  have K2 : Keep m1 m2 := A2.keep (fun k _ => by rw [hm2])
  have key : ∃ r, fX7_laying_l46 (nI k) a2 (-1000000, -1000000, nI 0, m2) = some r ∧ (r.1 = (lyO h k (hsN h)).1 ∧ r.2.1 = (lyO h k (hsN h)).2 ∧ Keep m1 r.2.2.2) := by
    unfold fX7_laying_l46
    refine zi_inv (fun i q => q.1 = (lyO h k i).1 ∧ q.2.1 = (lyO h k i).2 ∧ q.2.2.1 = nI i ∧ Asd m1 q.2.2.2 ∧ Hr (q.2.2.2 62) h ∧ Keep m1 q.2.2.2) _ (hsN h) ?_ ?_ 2000 0 _ (Nat.zero_le _) (by omega) ⟨rfl, rfl, rfl, A2, H2, K2⟩
    · intro i q hi hI
      obtain ⟨i1, i2, i3, i4, i5, i6⟩ := hI
      obtain ⟨m', z, e, A', H', K'⟩ := m_layIn i4 Hm1 i5 ok hk2 hi (lyO h k i) a2
      refine Or.inl ?_
      show ∃ q', fX7_laying_b46 (nI k) a2 q.1 q.2.1 q.2.2.1 q.2.2.2 = _ ∧ _
      unfold fX7_laying_b46
      simp (disch := omega) only [l0, e_gz, e_cl, i5.1, i3]
      rw [if_neg (nI_le_f hn hi), e_let, nI_1, i1, i2, e, e_bd, e_let]
      refine ⟨_, rfl, rfl, rfl, rfl, A', H', ?_⟩
      rcases K' with e | e
      · show Keep m1 m'
        rw [e]; exact i6
      · exact e
    · intro q hI
      obtain ⟨i1, i2, i3, i4, i5, i6⟩ := hI
      refine ⟨q, ?_, i1, i2, i6⟩
      show fX7_laying_b46 (nI k) a2 q.1 q.2.1 q.2.2.1 q.2.2.2 = _
      unfold fX7_laying_b46
      simp (disch := omega) only [l0, e_gz, e_cl, i5.1, i3]
      rw [if_pos (by rw [e_le0 (by omega) (by omega)]; exact Nat.le_refl _), ← i3]
  obtain ⟨q, e3, q1, q2, K3⟩ := key
  refine ⟨if a2 = 0 then (lyO h k (hsN h)).1 else (lyO h k (hsN h)).2, m1, q.2.2.2, ?_, ?_, K1.tr K3⟩
  · unfold fX6_laying fX6_laying_j51
    simp only [c_isNone H ok, hd, c_isWithin, ti1, ti30, z2, c_isEither, z3, e_bd, bI_0, Bool.true_eq_false, if_false, if_true]
    by_cases h0 : a2 = 0
    · rw [decide_eq_true h0] at e1
      rw [if_pos h0, if_pos h0, show (1 : Int32) = bI true from rfl, e1, e_bd]; rfl
    · rw [decide_eq_false h0] at e1
      rw [if_neg h0, if_neg h0, show (0 : Int32) = bI false from rfl, e1, e_bd]; rfl
  · unfold fX7_laying
    simp only [ht1, m_in, tj1, tj30, z2, m_isWhat, z3, e_bd, bI_0, Bool.true_eq_false, if_false, e2, e_let]
    rw [l0, e3, e_bd, q1, q2]
    by_cases h0 : a2 = 0
    · rw [if_pos (show a2 = nI 0 from h0), if_pos (show a2 = nI 0 from h0)]
    · rw [if_neg (show ¬ a2 = nI 0 from h0), if_neg (show ¬ a2 = nI 0 from h0)]
end LA
