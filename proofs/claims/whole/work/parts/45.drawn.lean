/-! years by draws -/
def lightS (h : HS) (t : Nat) : HS := setL h (hsL h ||| 2 ^ t)
theorem light_ok {h : HS} (ok : okH h) {t : Nat} (ht : t < hsN h) (hm : mlS h t = true) : okH (lightS h t) := by
  obtain ⟨o1, o2, o3, o4, o5, o6, o7, o8⟩ := ok
  refine ⟨o1, o2, o3, set_lt o4 ht, o5, o6, o7, fun u hu hl => ?_⟩
  have hl' : (hsL h ||| 2 ^ t).testBit u = true := hl
  rw [tb_set, Bool.or_eq_true] at hl'
  rcases hl' with hl' | hl'
  · exact o8 u hu hl'
  · have := of_decide_eq_true hl'
    subst this
    unfold mlS cbS at hm
    simp only [Bool.and_eq_true, decide_eq_true_eq, Bool.not_eq_true'] at hm
    exact ⟨hm.1.1.1.1, by show 0 < hsS h u; omega, hm.1.1.2⟩
def turnS (h : HS) : HS := setV h (1 - hsV h)
theorem turn_ok {h : HS} (ok : okH h) : okH (turnS h) := by
  obtain ⟨o1, o2, o3, o4, o5, o6, o7, o8⟩ := ok
  exact ⟨o1, o2, o3, o4, o5, by show 1 - hsV h ≤ 1; omega, o7, o8⟩
def drawA (x : Nat) (h : HS) : HS := if (mlS h (x % hsN h) && decide (x % 2 = 0)) = true then lightS h (x % hsN h) else if (decide (x % 5 = 0) && !(hsO h).testBit (x % hsN h)) = true then waterS h (x % hsN h) (x % 4) else h
def drawS (x : Nat) (h : HS) : HS := if x % 7 = 0 then turnS (drawA x h) else drawA x h
theorem drawA_ok {h : HS} (ok : okH h) (hn : 0 < hsN h) (x : Nat) : okH (drawA x h) := by
  have ht : x % hsN h < hsN h := Nat.mod_lt _ hn
  unfold drawA
  split
  · rename_i hc
    rw [Bool.and_eq_true] at hc
    exact light_ok ok ht hc.1
  · split
    · exact water_ok ok ht _
    · exact ok
theorem drawS_ok {h : HS} (ok : okH h) (hn : 0 < hsN h) (x : Nat) : okH (drawS x h) := by
  unfold drawS
  split
  · exact turn_ok (drawA_ok ok hn x)
  · exact drawA_ok ok hn x
theorem drawA_N (x : Nat) (h : HS) : hsN (drawA x h) = hsN h := by
  unfold drawA; split
  · rfl
  · split <;> rfl
theorem drawS_N (x : Nat) (h : HS) : hsN (drawS x h) = hsN h := by
  unfold drawS; split
  · exact drawA_N x h
  · exact drawA_N x h
theorem drawA_M (x : Nat) (h : HS) : hsM (drawA x h) = hsM h := by
  unfold drawA; split
  · rfl
  · split <;> rfl
theorem drawS_M (x : Nat) (h : HS) : hsM (drawS x h) = hsM h := by
  unfold drawS; split
  · exact drawA_M x h
  · exact drawA_M x h
theorem drawA_setM (x : Nat) (h : HS) (m : Nat) : drawA x (setM h m) = setM (drawA x h) m := by
  show (if (mlS h (x % hsN h) && decide (x % 2 = 0)) = true then lightS (setM h m) (x % hsN h) else if (decide (x % 5 = 0) && !(hsO h).testBit (x % hsN h)) = true then waterS (setM h m) (x % hsN h) (x % 4) else setM h m) = _
  unfold drawA
  split
  · rfl
  · split <;> rfl
theorem drawS_setM (x : Nat) (h : HS) (m : Nat) : drawS x (setM h m) = setM (drawS x h) m := by
  unfold drawS
  rw [drawA_setM]
  split <;> rfl
theorem smS_setM (h : HS) (m : Nat) : ∀ i, smS (setM h m) i = smS h i
  | 0 => rfl
  | i + 1 => by
    show smS (setM h m) i + (if (hsL h).testBit i = true then smokesN (hsK h i) else 0) = smS h i + (if (hsL h).testBit i = true then smokesN (hsK h i) else 0)
    rw [smS_setM h m i]
theorem hour_setM (h : HS) (m : Nat) : hourS (setM h m) = setM (hourS h) (min 99999 (m + smS h (hsN h))) := by
  show (hsN h, hsK h, (fun t => if t < hsN h then nS h t else hsS h t), (fun t => if t < hsN h then nW h t else hsW h t), hsP h, mkb (fun t => if t < hsN h then nL h t else (hsL h).testBit t) (hsN h), hsO h, hsV h, min 99999 (m + smS (setM h m) (hsN h))) = _
  rw [smS_setM]
  rfl
theorem setM_ok {h : HS} (ok : okH h) {m : Nat} (hm : m ≤ 99999) : okH (setM h m) := by
  obtain ⟨o1, o2, o3, o4, o5, o6, o7, o8⟩ := ok
  exact ⟨o1, o2, o3, o4, o5, o6, hm, o8⟩
def xq (s : Nat) : Nat → Nat
  | 0 => s
  | i + 1 => xq s i * 16807 % 2147483647
def yq (s : Nat) (h : HS) : Nat → HS
  | 0 => setM h 0
  | i + 1 => hourS (drawS (xq s (i + 1)) (yq s h i))
theorem yq_N (s : Nat) (h : HS) : ∀ i, hsN (yq s h i) = hsN h
  | 0 => rfl
  | i + 1 => by
    show hsN (drawS (xq s (i + 1)) (yq s h i)) = _
    rw [drawS_N, yq_N s h i]
theorem yq_ok {h : HS} (ok : okH h) (hn : 0 < hsN h) (s : Nat) : ∀ i, okH (yq s h i)
  | 0 => setM_ok ok (by decide)
  | i + 1 => hour_ok (drawS_ok (yq_ok ok hn s i) (by rw [yq_N]; exact hn) _)
theorem xq_lt {s : Nat} (hs : s < 2147483647) : ∀ i, xq s i < 2147483647
  | 0 => hs
  | i + 1 => Nat.mod_lt _ (by decide)
theorem lc_0 {a : Nat} (ha : a < 2 ^ 63) : (lg_cmp (lN a) (0 : Int64) = 0) = (a = 0) := by
  have h0 : (0 : Int64) = lN 0 := rfl
  unfold lg_cmp
  rw [h0]
  apply propext
  have hg : (lN a > lN 0) ↔ 0 < a := pk_lLT (by decide) ha
  by_cases h1 : 0 < a
  · rw [if_pos (hg.mpr h1)]
    exact ⟨fun e => absurd e (by decide), fun e => by omega⟩
  · have : a = 0 := by omega
    subst this
    rw [if_neg (fun e => h1 (hg.mp e)), if_pos rfl]
    exact ⟨fun _ => rfl, fun _ => rfl⟩
theorem lr_2 {a : Nat} (ha : a < 2147483647) : lN a - lN a / (2 : Int64) * (2 : Int64) = lN (a % 2) := pk_lRem (b := 2) (by omega) (by decide) (by decide)
theorem lr_4 {a : Nat} (ha : a < 2147483647) : lN a - lN a / (4 : Int64) * (4 : Int64) = lN (a % 4) := pk_lRem (b := 4) (by omega) (by decide) (by decide)
theorem lr_5 {a : Nat} (ha : a < 2147483647) : lN a - lN a / (5 : Int64) * (5 : Int64) = lN (a % 5) := pk_lRem (b := 5) (by omega) (by decide) (by decide)
theorem lr_7 {a : Nat} (ha : a < 2147483647) : lN a - lN a / (7 : Int64) * (7 : Int64) = lN (a % 7) := pk_lRem (b := 7) (by omega) (by decide) (by decide)
theorem lr_x {a : Nat} (ha : a < 2147483647) : (lN a * (16807 : Int64)) - (lN a * (16807 : Int64)) / (2147483647 : Int64) * (2147483647 : Int64) = lN (a * 16807 % 2147483647) := by
  have h1 : lN a * (16807 : Int64) = lN (a * 16807) := lN_mul a 16807
  rw [h1]
  exact pk_lRem (b := 2147483647) (by omega) (by decide) (by decide)
theorem lr_n {a n : Nat} (ha : a < 2147483647) (h0 : 0 < n) (hn : n ≤ 8) : lN a - lN a / (nI n).toInt64 * (nI n).toInt64 = lN (a % n) := by
  rw [nI_l (by omega)]
  exact pk_lRem (by omega) h0 (by omega)
theorem ln_0 {n : Nat} (h0 : 0 < n) (hn : n ≤ 8) : decide (¬ (nI n).toInt64 = 0) = true := by
  apply decide_eq_true
  rw [nI_l (by omega), show (0 : Int64) = lN 0 from rfl, pk_lEQ (by omega) (by omega)]
  omega
section DR
variable {mem : ZM} {h : HS}
theorem c_turn {b : Nat} (H : Hc mem b h) (ok : okH h) : ∃ m', fX3_turnWind b mem = some m' ∧ Hc m' b (turnS h) ∧ m' b 9 = mem b 9 ∧ FrB b mem m' := by
  have hv := ok.2.2.2.2.2.1
  unfold fX3_turnWind
  rw [e_let, H.2.2.2.2.1, l1, pk_sub hv]
  exact ⟨_, rfl, H.stV, by rw [e_stk (by decide)], FrB.st _ (by omega)⟩
theorem c_light {b t : Nat} (H : Hc mem b h) (ok : okH h) (ht : t < hsN h) : ∃ m', fX3_lightByHand b (nI t) mem = some m' ∧ Hc m' b (lightS h t) ∧ m' b 9 = mem b 9 ∧ FrB b mem m' := by
  unfold fX3_lightByHand
  rw [e_let, H.2.2.1, e_set _ ok.L t (ok.t8 ht)]
  exact ⟨_, rfl, H.stL, by rw [e_stk (by decide)], FrB.st _ (by omega)⟩
theorem c_draw90 (H : Hc mem 37 h) (ok : okH h) {x : Nat} (hx : x < 2147483647) : ∃ m', fX2_tryDraw_j90 (lN x) mem = some m' ∧ Hc m' 37 (if x % 7 = 0 then turnS h else h) ∧ FrB 37 mem m' := by
  unfold fX2_tryDraw_j90
  rw [lr_7 hx]
  simp only [lc_0 (show x % 7 < 2 ^ 63 by omega)]
  by_cases h7 : x % 7 = 0
  · rw [if_pos h7, if_pos h7]
    obtain ⟨m', e, H', -, f⟩ := c_turn H ok
    rw [e, e_bd]
    exact ⟨_, rfl, H', f⟩
  · rw [if_neg h7, if_neg h7]
    exact ⟨_, rfl, H, FrB.rf _ _⟩
theorem c_draw55 (H : Hc mem 37 h) (ok : okH h) (hn : 0 < hsN h) {x : Nat} (hx : x < 2147483647) : ∃ m', fX2_tryDraw_j55 (lN x) (nI (x % hsN h)) mem = some m' ∧ Hc m' 37 (if x % 7 = 0 then turnS (if (decide (x % 5 = 0) && !(hsO h).testBit (x % hsN h)) = true then waterS h (x % hsN h) (x % 4) else h) else (if (decide (x % 5 = 0) && !(hsO h).testBit (x % hsN h)) = true then waterS h (x % hsN h) (x % 4) else h)) ∧ FrB 37 mem m' := by
  have ht : x % hsN h < hsN h := Nat.mod_lt _ hn
  unfold fX2_tryDraw_j55
  rw [lr_5 hx, lr_4 hx, lN_i]
  simp only [lc_0 (show x % 5 < 2 ^ 63 by omega)]
  by_cases h5 : x % 5 = 0
  · rw [if_pos h5, c_isOut H ok ht, e_bd, decide_eq_true h5, Bool.true_and]
    simp only [bI_0]
    cases ho : (hsO h).testBit (x % hsN h)
    · rw [if_pos rfl]
      simp only [Bool.not_false, if_true]
      obtain ⟨m1, e1, H1, -, f1⟩ := c_pourOn H ok ht (w := x % 4) (by omega)
      obtain ⟨m2, e2, H2, f2⟩ := c_draw90 H1 (water_ok ok ht _) hx
      rw [e1, e_bd, e2]
      exact ⟨_, rfl, H2, f1.tr f2⟩
    · rw [if_neg (show ¬ true = false by decide)]
      simp only [Bool.not_true, Bool.false_eq_true, if_false]
      exact c_draw90 H ok hx
  · rw [if_neg h5, decide_eq_false h5, Bool.false_and]
    simp only [Bool.false_eq_true, if_false]
    exact c_draw90 H ok hx
theorem c_tryDraw (H : Hc mem 37 h) (ok : okH h) (hn : 0 < hsN h) {x : Nat} (hx : x < 2147483647) : ∃ m', fX2_tryDraw (lN x) mem = some m' ∧ Hc m' 37 (drawS x h) ∧ FrB 37 mem m' := by
  have ht : x % hsN h < hsN h := Nat.mod_lt _ hn
  have hn8 := ok.1
  unfold fX2_tryDraw drawS drawA
  rw [c_isNone H ok, e_bd, decide_eq_false (show ¬ hsN h = 0 by omega), if_pos (show bI false = 0 from rfl), H.1, e_gd' (ln_0 hn hn8), e_let, lr_n hx hn hn8, lN_i, lr_2 hx]
  simp only [lc_0 (show x % 2 < 2 ^ 63 by omega)]
  by_cases h2 : x % 2 = 0
  · rw [if_pos h2, c_mayBeLit H ok ht, e_bd, decide_eq_true h2, Bool.and_true]
    simp only [bI_0]
    cases hm : mlS h (x % hsN h)
    · rw [if_pos rfl]
      simp only [Bool.false_eq_true, if_false]
      exact c_draw55 H ok hn hx
    · rw [if_neg (show ¬ true = false by decide)]
      simp only [if_true]
      obtain ⟨m1, e1, H1, -, f1⟩ := c_light H ok ht
      obtain ⟨m2, e2, H2, f2⟩ := c_draw90 H1 (light_ok ok ht hm) hx
      rw [e1, e_bd, e2]
      exact ⟨_, rfl, H2, f1.tr f2⟩
  · rw [if_neg h2, decide_eq_false h2, Bool.and_false]
    simp only [Bool.false_eq_true, if_false]
    exact c_draw55 H ok hn hx
theorem c_year (H : Hc mem 17 h) (ok : okH h) (hn : 0 < hsN h) {n s : Nat} (hk : n ≤ 60) (hs : s < 2147483647) : ∃ m', fX2_yearByDraws 17 (nI n) (nI s) mem = some m' ∧ Hc m' 37 (yq s h n) ∧ FrB 37 mem m' := by
  obtain ⟨m1, e1, H1, -, f1⟩ := c_takeFrom (b := 37) H ok.1 (by omega)
  have key : ∃ r, fX2_yearByDraws_l23 17 (nI n) (lN s, nI 0, zst m1 37 8 (nI 0)) = some r ∧ (Hc r.2.2 37 (yq s h n) ∧ FrB 37 mem r.2.2) := by
    unfold fX2_yearByDraws_l23
    refine zi_inv (fun i q => q.1 = lN (xq s i) ∧ q.2.1 = nI i ∧ Hc q.2.2 37 (yq s h i) ∧ FrB 37 mem q.2.2) _ n ?_ ?_ 2000 0 _ (Nat.zero_le _) (by omega) ⟨rfl, rfl, H1.stM, f1.tr (FrB.st _ (by omega))⟩
    · intro i q hi hI
      obtain ⟨i1, i2, i3, i4⟩ := hI
      have hxi := xq_lt hs i
      have hxi1 := xq_lt hs (i + 1)
      have hni : 0 < hsN (yq s h i) := by rw [yq_N]; exact hn
      have oki := yq_ok ok hn s i
      obtain ⟨m2, e2, H2, f2⟩ := c_tryDraw i3 oki hni hxi1
      obtain ⟨m3, e3, H3, -, f3⟩ := c_passHour H2 (drawS_ok oki hni _)
      refine Or.inl ⟨(lN (xq s (i + 1)), nI (i + 1), m3), ?_, rfl, rfl, H3, (i4.tr f2).tr f3⟩
      show fX2_yearByDraws_b23 17 (nI n) q.1 q.2.1 q.2.2 = _
      unfold fX2_yearByDraws_b23
      rw [i2, if_neg (by rw [e_le0 (by omega) (by omega)]; omega), i1, lr_x hxi, e_let, show xq s i * 16807 % 2147483647 = xq s (i + 1) from rfl, e2, e_bd, e3, e_bd, e_let, nI_1]
    · intro q hI
      obtain ⟨i1, i2, i3, i4⟩ := hI
      refine ⟨q, ?_, i3, i4⟩
      show fX2_yearByDraws_b23 17 (nI n) q.1 q.2.1 q.2.2 = _
      unfold fX2_yearByDraws_b23
      rw [i2, if_pos (by rw [e_le0 (by omega) (by omega)]; exact Nat.le_refl _), ← i2]
  obtain ⟨r, e, g1, g2⟩ := key
  unfold fX2_yearByDraws
  rw [e1, e_bd, e_let, e_let, e_let, nI_l (by omega), l0, e, e_bd]
  exact ⟨_, rfl, g1, g2⟩
end DR
