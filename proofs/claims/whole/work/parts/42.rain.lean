/-! rain: a heap on which it has rained -/
def rainI (h : HS) (x : Nat) : Nat → HS
  | 0 => h
  | i + 1 => if x.testBit i = true then waterS (rainI h x i) i 3 else rainI h x i
def rainS (h : HS) (x : Nat) : HS := rainI h x (hsN h)
theorem rain_N (h : HS) (x : Nat) : ∀ i, hsN (rainI h x i) = hsN h
  | 0 => rfl
  | i + 1 => by
    unfold rainI
    split
    · exact rain_N h x i
    · exact rain_N h x i
theorem rain_ok {h : HS} (ok : okH h) (x : Nat) : ∀ i, i ≤ hsN h → okH (rainI h x i)
  | 0, _ => ok
  | i + 1, hi => by
    unfold rainI
    split
    · exact water_ok (rain_ok ok x i (by omega)) (by rw [rain_N]; omega) 3
    · exact rain_ok ok x i (by omega)
theorem rain_cb (h : HS) (x : Nat) (t : Nat) : ∀ i, cbS (rainI h x i) t = cbS h t
  | 0 => rfl
  | i + 1 => by
    unfold rainI
    split
    · exact rain_cb h x t i
    · exact rain_cb h x t i
theorem rain_bits {h : HS} {x y : Nat} : ∀ i, (∀ t, t < i → x.testBit t = y.testBit t) → rainI h x i = rainI h y i
  | 0, _ => rfl
  | i + 1, e => by
    unfold rainI
    rw [e i (by omega), rain_bits i (fun t ht => e t (by omega))]
/-- other water on what can't burn -/
def setWf (h : HS) (W : Nat → Nat) : HS := (hsN h, hsK h, hsS h, W, hsP h, hsL h, hsO h, hsV h, hsM h)
def Dq (h g : HS) : Prop := ∃ W, g = setWf h W ∧ ∀ t, t < hsN h → cbS h t = true → W t = hsW h t
theorem nS_le (h : HS) (t : Nat) : nS h t ≤ hsS h t := by unfold nS; split <;> omega
theorem cb_hour {h : HS} {t : Nat} (hc : cbS (hourS h) t = true) : cbS h t = true := by
  have hc' : (decide (hsK h t ≤ 3) && decide ((if t < hsN h then nS h t else hsS h t) ≠ 0) && !(hsO h).testBit t) = true := hc
  have hle := nS_le h t
  unfold cbS
  simp only [Bool.and_eq_true, decide_eq_true_eq] at hc' ⊢
  refine ⟨⟨hc'.1.1, ?_⟩, hc'.2⟩
  have h2 := hc'.1.2
  intro e
  apply h2
  split <;> omega
theorem smS_wf (h : HS) (W : Nat → Nat) : ∀ i, smS (setWf h W) i = smS h i
  | 0 => rfl
  | i + 1 => by
    show smS (setWf h W) i + (if (hsL h).testBit i = true then smokesN (hsK h i) else 0) = smS h i + (if (hsL h).testBit i = true then smokesN (hsK h i) else 0)
    rw [smS_wf h W i]
theorem Dq.hour {h g : HS} (d : Dq h g) : Dq (hourS h) (hourS g) := by
  obtain ⟨W, rfl, hw⟩ := d
  have hnL : mkb (fun t => if t < hsN h then nL (setWf h W) t else (hsL h).testBit t) (hsN h) = mkb (fun t => if t < hsN h then nL h t else (hsL h).testBit t) (hsN h) := by
    apply mkb_cong
    intro t ht
    rw [if_pos ht, if_pos ht]
    have hml : mlS (setWf h W) t = mlS h t := by
      show (cbS h t && decide (W t = 0) && !(hsL h).testBit t) = (cbS h t && decide (hsW h t = 0) && !(hsL h).testBit t)
      cases hc : cbS h t
      · rfl
      · rw [hw t ht hc]
    show (if (hsL h).testBit t = true then decide (nS h t ≠ 0) else (decide (2 ≤ heatS h t) && mlS (setWf h W) t)) = _
    rw [hml]; rfl
  refine ⟨fun t => if t < hsN h then W t - heatS h t else W t, ?_, fun t ht hc => ?_⟩
  · show (hsN h, hsK h, (fun t => if t < hsN h then nS h t else hsS h t), (fun t => if t < hsN h then W t - heatS h t else W t), hsP h, mkb (fun t => if t < hsN h then nL (setWf h W) t else (hsL h).testBit t) (hsN h), hsO h, hsV h, min 99999 (hsM h + smS (setWf h W) (hsN h))) = _
    rw [hnL, smS_wf]
    rfl
  · have ht' : t < hsN h := ht
    show (if t < hsN h then W t - heatS h t else W t) = (if t < hsN h then hsW h t - heatS h t else hsW h t)
    rw [hw t ht' (cb_hour hc)]
theorem Dq.hours {h g : HS} (d : Dq h g) : ∀ k, Dq (hoursS k h) (hoursS k g)
  | 0 => d
  | k + 1 => (d.hours k).hour
theorem Dq.rf (h : HS) : Dq h h := ⟨hsW h, rfl, fun _ _ _ => rfl⟩
theorem Dq.both {a b : HS} (d : Dq a b) (i w : Nat) : Dq (waterS a i w) (waterS b i w) := by
  obtain ⟨W, rfl, hw⟩ := d
  refine ⟨fun u => if u = i then min 20 (W i + w) else W u, rfl, fun t ht hc => ?_⟩
  show (if t = i then min 20 (W i + w) else W t) = (if t = i then min 20 (hsW a i + w) else hsW a t)
  have hc' : cbS a t = true := hc
  by_cases e : t = i
  · subst e
    rw [if_pos rfl, if_pos rfl, hw t ht hc']
  · rw [if_neg e, if_neg e, hw t ht hc']
theorem clr_id {L j : Nat} (hL : L < 256) (hj : j < 8) (hb : L.testBit j = false) : L &&& (255 ^^^ 2 ^ j) = L := by
  apply tb_ext (n := 8) (clr_lt j hL) hL
  intro t ht
  rw [tb_clr L hL j hj t ht]
  by_cases e : t = j
  · subst e; rw [hb]; rfl
  · rw [decide_eq_false e]; simp
theorem Dq.one {a b : HS} (d : Dq a b) (ok : okH a) {j : Nat} (hj : j < hsN a) (hc : cbS a j = false) (w : Nat) : Dq a (waterS b j w) := by
  obtain ⟨W, rfl, hw⟩ := d
  have hb : (hsL a).testBit j = false := by
    cases hb : (hsL a).testBit j
    · rfl
    · obtain ⟨h1, h2, h3⟩ := ok.2.2.2.2.2.2.2 j hj hb
      unfold cbS at hc
      rw [decide_eq_true h1, decide_eq_true (show hsS a j ≠ 0 by omega), h3] at hc
      cases hc
  refine ⟨fun u => if u = j then min 20 (W j + w) else W u, ?_, fun t ht hct => ?_⟩
  · show (hsN a, hsK a, hsS a, (fun u => if u = j then min 20 (W j + w) else W u), hsP a, hsL a &&& (255 ^^^ 2 ^ j), hsO a, hsV a, hsM a) = _
    rw [clr_id ok.L (ok.t8 hj) hb]
    rfl
  · show (if t = j then min 20 (W j + w) else W t) = _
    by_cases e : t = j
    · subst e; rw [hc] at hct; cases hct
    · rw [if_neg e]; exact hw t ht hct
theorem Dq.rain {h : HS} (ok : okH h) {j : Nat} (hj : j < hsN h) (hc : cbS h j = false) (s : Nat) : ∀ i, i ≤ hsN h → Dq (rainI h s i) (rainI h (s ||| 2 ^ j) i)
  | 0, _ => Dq.rf h
  | i + 1, hi => by
    have d := Dq.rain ok hj hc s i (by omega)
    show Dq (if s.testBit i = true then waterS (rainI h s i) i 3 else rainI h s i) (if (s ||| 2 ^ j).testBit i = true then waterS (rainI h (s ||| 2 ^ j) i) i 3 else rainI h (s ||| 2 ^ j) i)
    rw [tb_set]
    by_cases e : i = j
    · subst e
      rw [decide_eq_true rfl, Bool.or_true, if_pos rfl]
      cases hs : s.testBit i
      · rw [if_neg (by decide)]
        exact d.one (rain_ok ok s i (by omega)) (by rw [rain_N]; exact hj) (by rw [rain_cb]; exact hc) 3
      · rw [if_pos rfl]; exact d.both i 3
    · rw [decide_eq_false e, Bool.or_false]
      split
      · exact d.both i 3
      · exact d
/-- is thing t ash k hours behind the rain x -/
def ashR (h : HS) (t k x : Nat) : Nat := if hsS (hoursS k (rainS h x)) t = 0 then 1 else 0
theorem ashR_le (h : HS) (t k x : Nat) : ashR h t k x ≤ 1 := by unfold ashR; split <;> omega
theorem ashR_inv {h : HS} (ok : okH h) {t k j : Nat} (hb : (mkb (cbS h) (hsN h)).testBit j = false) (s : Nat) : ashR h t k (s ||| 2 ^ j) = ashR h t k s := by
  unfold ashR rainS
  by_cases hj : j < hsN h
  · have hc : cbS h j = false := by
      rw [mkb_tb, decide_eq_true hj, Bool.true_and] at hb
      exact hb
    obtain ⟨W, e, -⟩ := (Dq.rain ok hj hc s (hsN h) (Nat.le_refl _)).hours k
    rw [e]
    rfl
  · rw [rain_bits (x := s ||| 2 ^ j) (y := s) (hsN h) (fun t ht => by rw [tb_set, decide_eq_false (by omega), Bool.or_false])]
theorem ash_stays {h : HS} {t : Nat} {i : Nat} (h0 : hsS (hoursS i h) t = 0) : ∀ k, i ≤ k → hsS (hoursS k h) t = 0 := by
  intro k
  induction k with
  | zero => intro hi; have : i = 0 := by omega
            subst this; exact h0
  | succ k ih =>
    intro hi
    by_cases e : i = k + 1
    · subst e; exact h0
    · have h1 := ih (by omega)
      show (if t < hsN (hoursS k h) then nS (hoursS k h) t else hsS (hoursS k h) t) = 0
      have := nS_le (hoursS k h) t
      split <;> omega
