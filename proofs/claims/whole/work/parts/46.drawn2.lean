section DM
variable {mem : ZM} {h : HS}
theorem setM_M (h : HS) (a b : Nat) : setM (setM h a) b = setM h b := rfl
/-- one draw of the reference: the row is g = class's but for the smoke -/
theorem m_draw196 {m : ZM} (A : Asd mem m) {g : HS} (H : Hr (m 62) g) (ok : okH g) {v : Nat} (hv : v ≤ 1) {i sm : Nat} (x : Int64) (y1 y3 : Int32) : ∃ m', fX7_drawn_j196 y1 y3 x (nI sm) (nI i) (nI v) 2 m = some (Sum.inl (x, nI (sm + smS (setV g v) (hsN g)), nI (i + 1), m')) ∧ Hr (m' 62) (hourS (setV g v)) ∧ Asd mem m' := by
  have okv : okH (setV g v) := by
    obtain ⟨o1, o2, o3, o4, o5, o6, o7, o8⟩ := ok
    exact ⟨o1, o2, o3, o4, o5, hv, o7, o8⟩
  have Hv : Hr ((zst m 62 2 (nI v)) 62) (setV g v) := by rw [e_row]; exact H.stV
  obtain ⟨m', e, H', s', -, F⟩ := m_oneHour Hv okv
  unfold fX7_drawn_j196
  rw [e_gd' (show zin (2 : Int32) 38 = true by decide), show (2 : Int32).toNatClampNeg = 2 by decide, e_let, e, e_bd, e_let, e_let, s', nI_add, nI_1]
  exact ⟨m', rfl, H', (A.s62 _ _).o F⟩
theorem m_draw163 {m : ZM} (A : Asd mem m) {g : HS} (H : Hr (m 62) g) (ok : okH g) {i sm x : Nat} (hx : x < 2147483647) (y1 y3 : Int32) : ∃ m', fX7_drawn_j163 y1 y3 (lN x) (nI sm) (nI i) m = some (Sum.inl (lN x, nI (sm + smS (if x % 7 = 0 then turnS g else g) (hsN g)), nI (i + 1), m')) ∧ Hr (m' 62) (hourS (if x % 7 = 0 then turnS g else g)) ∧ Asd mem m' := by
  have hv := ok.2.2.2.2.2.1
  unfold fX7_drawn_j163
  rw [e_gd' (show zin (2 : Int32) 38 = true by decide), show (2 : Int32).toNatClampNeg = 2 by decide, H.2.2.2.2.1, lr_7 hx]
  simp only [lc_0 (show x % 7 < 2 ^ 63 by omega)]
  by_cases h7 : x % 7 = 0
  · rw [if_pos h7, if_pos h7, l1, pk_sub hv]
    exact m_draw196 A H ok (by omega) _ _ _
  · rw [if_neg h7, if_neg h7]
    have q := m_draw196 (v := hsV g) A H ok hv (i := i) (sm := sm) (lN x) y1 y3
    exact q
theorem m_draw125 {m : ZM} (A : Asd mem m) {g : HS} (H : Hr (m 62) g) (ok : okH g) (hn : 0 < hsN g) {i sm x : Nat} (hx : x < 2147483647) (y1 y3 : Int32) : ∃ m', fX7_drawn_j125 y1 y3 (lN x) (nI sm) (nI i) (nI (x % hsN g)) m = some (Sum.inl (lN x, nI (sm + smS (if x % 7 = 0 then turnS (if (decide (x % 5 = 0) && !(hsO g).testBit (x % hsN g)) = true then waterS g (x % hsN g) (x % 4) else g) else (if (decide (x % 5 = 0) && !(hsO g).testBit (x % hsN g)) = true then waterS g (x % hsN g) (x % 4) else g)) (hsN g)), nI (i + 1), m')) ∧ Hr (m' 62) (hourS (if x % 7 = 0 then turnS (if (decide (x % 5 = 0) && !(hsO g).testBit (x % hsN g)) = true then waterS g (x % hsN g) (x % 4) else g) else (if (decide (x % 5 = 0) && !(hsO g).testBit (x % hsN g)) = true then waterS g (x % hsN g) (x % 4) else g))) ∧ Asd mem m' := by
  have ht : x % hsN g < hsN g := Nat.mod_lt _ hn
  have hn8 := ok.1
  unfold fX7_drawn_j125
  rw [lr_5 hx, lr_4 hx, lN_i, e_gd' (show zin (5 : Int32) 38 = true by decide), show (5 : Int32).toNatClampNeg = 5 by decide, H.2.2.2.1, m_has ok.O (ok.t8 ht), e_bd]
  simp only [lc_0 (show x % 5 < 2 ^ 63 by omega), bI_0]
  by_cases h5 : x % 5 = 0
  · rw [if_pos h5, decide_eq_true h5, Bool.true_and]
    cases ho : (hsO g).testBit (x % hsN g)
    · rw [if_pos rfl]
      simp only [Bool.not_false, if_true]
      rw [m_waterBy H ok ht (by omega), e_bd]
      exact m_draw163 ((A.s62 _ _).s62 _ _) (m_waterHr H ok ht) (water_ok ok ht _) hx _ _
    · rw [if_neg (show ¬ true = false by decide)]
      simp only [Bool.not_true, Bool.false_eq_true, if_false]
      exact m_draw163 A H ok hx _ _
  · rw [if_neg h5, decide_eq_false h5, Bool.false_and]
    simp only [Bool.false_eq_true, if_false]
    exact m_draw163 A H ok hx _ _
theorem m_drawStep {m : ZM} (A : Asd mem m) {g : HS} (H : Hr (m 62) g) (ok : okH g) (hn : 0 < hsN g) {n i sm x : Nat} (hin : i < n) (hn60 : n ≤ 60) (hx : x < 2147483647) (y3 : Int32) : ∃ m', fX7_drawn_b58 (nI n) y3 (lN x) (nI sm) (nI i) m = some (Sum.inl (lN (x * 16807 % 2147483647), nI (sm + smS (drawS (x * 16807 % 2147483647) g) (hsN g)), nI (i + 1), m')) ∧ Hr (m' 62) (hourS (drawS (x * 16807 % 2147483647) g)) ∧ Asd mem m' := by
  have hn8 := ok.1
  unfold fX7_drawn_b58
  rw [if_neg (by rw [e_le0 (by omega) (by omega)]; omega), lr_x hx, e_let, e_gd' (show zin (0 : Int32) 38 = true by decide), show (0 : Int32).toNatClampNeg = 0 by decide, H.1, e_gd' (ln_0 hn hn8), e_let]
  have hx' : x * 16807 % 2147483647 < 2147483647 := Nat.mod_lt _ (by decide)
  generalize x * 16807 % 2147483647 = z at hx' ⊢
  have ht : z % hsN g < hsN g := Nat.mod_lt _ hn
  rw [lr_n hx' hn hn8, lN_i, m_mayLight H ok ht, e_bd, lr_2 hx']
  simp only [lc_0 (show z % 2 < 2 ^ 63 by omega), bI_0]
  unfold drawS drawA
  cases hm : mlS g (z % hsN g)
  · rw [if_pos rfl, Bool.false_and]
    simp only [Bool.false_eq_true, if_false]
    exact m_draw125 A H ok hn hx' _ _
  · rw [if_neg (show ¬ true = false by decide), Bool.true_and]
    by_cases h2 : z % 2 = 0
    · rw [if_pos h2, decide_eq_true h2, e_gd' (show zin (4 : Int32) 38 = true by decide), e_gd' (show zin (4 : Int32) 38 = true by decide), show (4 : Int32).toNatClampNeg = 4 by decide, e_let, H.2.2.1, e_set _ ok.L _ (ok.t8 ht)]
      simp only [if_true]
      have H1 : Hr ((zst m 62 4 (nI (hsL g ||| 2 ^ (z % hsN g)))) 62) (lightS g (z % hsN g)) := by rw [e_row]; exact H.stL
      exact m_draw163 (A.s62 _ _) H1 (light_ok ok ht hm) hx' _ _
    · rw [if_neg h2, decide_eq_false h2]
      simp only [Bool.false_eq_true, if_false]
      exact m_draw125 A H ok hn hx' _ _
theorem yq_M {s : Nat} {h : HS} (hn : hsN h ≤ 8) : ∀ i, i ≤ 60 → hsM (yq s h i) ≤ 24 * i ∧ hsM (yq s h (i + 1)) = hsM (yq s h i) + smS (drawS (xq s (i + 1)) (yq s h i)) (hsN h)
  | i, hi => by
    have hb : hsM (yq s h i) ≤ 24 * i := by
      cases i with
      | zero => exact Nat.le_refl _
      | succ j =>
        have := (yq_M (s := s) hn j (by omega))
        have hs := smS_le (drawS (xq s (j + 1)) (yq s h j)) (hsN h)
        omega
    refine ⟨hb, ?_⟩
    have hs := smS_le (drawS (xq s (i + 1)) (yq s h i)) (hsN h)
    have e : hsM (yq s h (i + 1)) = min 99999 (hsM (drawS (xq s (i + 1)) (yq s h i)) + smS (drawS (xq s (i + 1)) (yq s h i)) (hsN (drawS (xq s (i + 1)) (yq s h i)))) := rfl
    rw [e, drawS_M, drawS_N, yq_N]
    omega
theorem m_year {m : ZM} (A : Asd mem m) (H : Hr (m 62) h) (ok : okH h) (hn : 0 < hsN h) {n s : Nat} (hk : n ≤ 60) (hs : s < 2147483647) (y3 : Int32) : ∃ r, fX7_drawn_l58 (nI n) y3 (lN s, nI 0, nI 0, m) = some r ∧ (r.2.1 = nI (hsM (yq s h n)) ∧ (∃ M, M ≤ 99999 ∧ Hr (r.2.2.2 62) (setM (yq s h n) M)) ∧ Asd mem r.2.2.2) := by
  unfold fX7_drawn_l58
  refine zi_inv (fun i q => q.1 = lN (xq s i) ∧ q.2.1 = nI (hsM (yq s h i)) ∧ q.2.2.1 = nI i ∧ (∃ M, M ≤ 99999 ∧ Hr (q.2.2.2 62) (setM (yq s h i) M)) ∧ Asd mem q.2.2.2) _ n ?_ ?_ 2000 0 _ (Nat.zero_le _) (by omega) ⟨rfl, rfl, rfl, ⟨hsM h, ok.2.2.2.2.2.2.1, H⟩, A⟩
  · intro i q hi hI
    obtain ⟨i1, i2, i3, ⟨M, hM, i4⟩, i5⟩ := hI
    have hxi := xq_lt hs i
    have oki := yq_ok ok hn s i
    have okM := setM_ok oki hM
    have hni : 0 < hsN (setM (yq s h i) M) := by show 0 < hsN (yq s h i); rw [yq_N]; exact hn
    obtain ⟨m', e, H', A'⟩ := m_drawStep i5 i4 okM hni (n := n) (i := i) (sm := hsM (yq s h i)) (x := xq s i) hi hk hxi y3
    refine Or.inl ⟨_, by rw [i1, i2, i3]; exact e, rfl, ?_, rfl, ?_, A'⟩
    · show nI (hsM (yq s h i) + smS (drawS (xq s (i + 1)) (setM (yq s h i) M)) (hsN (yq s h i))) = _
      rw [(yq_M (s := s) ok.1 i (by omega)).2, drawS_setM, smS_setM, yq_N]
    · have H'' : Hr (m' 62) (hourS (drawS (xq s (i + 1)) (setM (yq s h i) M))) := H'
      rw [drawS_setM, hour_setM] at H''
      exact ⟨_, Nat.min_le_left _ _, H''⟩
  · intro q hI
    obtain ⟨i1, i2, i3, i4, i5⟩ := hI
    refine ⟨q, ?_, i2, i4, i5⟩
    show fX7_drawn_b58 (nI n) y3 q.1 q.2.1 q.2.2.1 q.2.2.2 = _
    unfold fX7_drawn_b58
    rw [i3, if_pos (by rw [e_le0 (by omega) (by omega)]; exact Nat.le_refl _), ← i3]
theorem o_drawn (R : RH mem h) (a1 a2 a3 : Int32) : Op (fX6_drawn a1 a2 a3) (fX7_drawn a1 a2 a3) mem (Keep mem) := by
  obtain ⟨ok, H, Hm, Hi⟩ := R
  have hn := ok.1
  have ti9 : Int32.toInt 999999 = 999999 := by decide
  have tj9 : Int64.toInt 999999 = 999999 := by decide
  by_cases z0 : hsN h = 0
  · have hz : mem 58 4 = 0 := by rw [Hi, decide_eq_false (by omega)]; rfl
    exact ⟨-1000002, mem, mem, by simp [fX6_drawn, c_isNone H ok, z0, bI], by simp [fX7_drawn, hz], Keep.rf _⟩
  have hz : ¬ mem 58 4 = 0 := by rw [Hi, decide_eq_true z0]; decide
  cases z1 : wit a1 0 60
  · exact ⟨-1000001, mem, mem, by simp [fX6_drawn, c_isNone H ok, z0, bI, c_isWithin, ti0, ti60, z1], by simp [fX7_drawn, hz, bI, m_in, tj0, tj60, z1], Keep.rf _⟩
  cases z2 : wit a2 1 999999
  · exact ⟨-1000001, mem, mem, by simp [fX6_drawn, c_isNone H ok, z0, bI, c_isWithin, ti0, ti60, ti1, ti9, z1, z2], by simp [fX7_drawn, hz, bI, m_in, tj0, tj60, tj1, tj9, z1, z2], Keep.rf _⟩
  cases z3 : wit a3 0 1
  · exact ⟨-1000001, mem, mem, by simp [fX6_drawn, c_isNone H ok, z0, bI, c_isWithin, ti0, ti60, ti1, ti9, z1, z2, c_isEither, z3], by simp [fX7_drawn, hz, bI, m_in, tj0, tj60, tj1, tj9, z1, z2, m_isWhat, z3], Keep.rf _⟩
  obtain ⟨n, rfl, -, hk⟩ := wit_of (b := 60) (a := 0) (by decide) z1
  obtain ⟨s, rfl, -, hs⟩ := wit_of (b := 999999) (a := 1) (by decide) z2
  have hpos : 0 < hsN h := by omega
  obtain ⟨m1, e1, H1, f1⟩ := c_year H ok hpos (n := n) (s := s) hk (by omega)
  have K1 := Keep.fr f1
  have Hm1 : Hr (m1 62) h := K1.Hr hn Hm
  obtain ⟨m2, e2, A2, H2⟩ := m_asideHr Hm1
  obtain ⟨r, e3, g1, ⟨M, hM, g2⟩, g3⟩ := m_year A2 H2 ok hpos (n := n) (s := s) hk (by omega) a3
  obtain ⟨m4, e4, A4, K4⟩ := m_back g3
  have okY := yq_ok ok hpos s n
  have okYM := setM_ok okY hM
  have hN8 : hsN (yq s h n) ≤ 8 := okY.1
  have ha : mkb (fun t => decide (hsS (yq s h n) t = 0)) (hsN (yq s h n)) < 256 := mkb_256 _ hN8
  have hz1 : ¬ m1 58 4 = 0 := by rw [K1.2.1 4 (by decide)]; exact hz
  have q1 : ¬ bI true = 0 := by decide
  refine ⟨if a3 = 0 then nI (pop (mkb (fun t => decide (hsS (yq s h n) t = 0)) (hsN (yq s h n)))) else nI (hsM (yq s h n)), m1, m4, ?_, ?_, K1.tr K4⟩
  · unfold fX6_drawn
    rw [c_isNone H ok, e_bd, decide_eq_false z0, if_pos (show bI false = 0 from rfl), c_isWithin, ti0, ti60, z1, e_bd, if_neg q1, c_isWithin, ti1, ti9, z2, e_bd, if_neg q1, c_isEither, z3, e_bd, if_neg q1, e1, e_bd, c_ashes H1 okY, e_bd, e_pop _ ha, e_bd]
    by_cases h0 : a3 = 0
    · rw [if_pos h0, if_pos h0]
    · rw [if_neg h0, if_neg h0, H1.2.2.2.2.2]
  · unfold fX7_drawn
    have ea : fX7_ashes r.2.2.2 = some (nI (mkb (fun t => decide (hsS (yq s h n) t = 0)) (hsN (yq s h n)))) := by
      have q := m_ashes g2 okYM
      exact q
    rw [if_neg hz1, m_in, tj0, tj60, z1, e_bd, if_neg q1, m_in, tj1, tj9, z2, e_bd, if_neg q1, m_isWhat, z3, e_bd, if_neg q1, e2, e_bd, e_let, e_let, e_let, nI_l (by omega), l0, e3, e_bd, ea, e_bd, e_ones _ ha, e_bd, e_let, e4, e_bd, g1]
    by_cases h0 : a3 = nI 0
    · rw [if_pos h0, if_pos h0]
    · rw [if_neg h0, if_neg h0]
end DM
