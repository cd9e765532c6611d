/-! hours of the class, and what acts do -/
theorem pls_0 {P : Nat → Nat} {f : Nat → Bool} (h : ∀ t, f t = false) : ∀ n, pls P f n = 0
  | 0 => rfl
  | n + 1 => by unfold pls; rw [h n, pls_0 h n]; rfl
theorem mkb_0 {f : Nat → Bool} (h : ∀ t, f t = false) : ∀ n, mkb f n = 0
  | 0 => rfl
  | n + 1 => by unfold mkb; rw [h n, mkb_0 h n]; rfl
theorem tb0 (t : Nat) : (0 : Nat).testBit t = false := Nat.zero_testBit t
theorem lbN_0 (p : Nat) : lbN 0 p = 0 := by unfold lbN; simp
theorem farN_0 (v p : Nat) : farN v 0 p = 0 := by unfold farN; simp
theorem fire_0 {h : HS} (hL : hsL h = 0) : fireS h = 0 := pls_0 (fun t => by rw [hL]; exact tb0 t) _
theorem hot_0 {h : HS} (hL : hsL h = 0) : hotS h = 0 := pls_0 (fun t => by unfold hotf; rw [fire_0 hL, lbN_0]; simp) _
theorem heat_0 {h : HS} (hL : hsL h = 0) (t : Nat) : heatS h t = 0 := by
  unfold heatS heatN
  rw [fire_0 hL, hot_0 hL, lbN_0, farN_0]
  split <;> rfl
theorem smS_0 {h : HS} (hL : hsL h = 0) : ∀ i, smS h i = 0
  | 0 => rfl
  | i + 1 => by unfold smS; rw [smS_0 hL i, hL, tb0]; rfl
theorem hour_dead {h : HS} (hL : hsL h = 0) (hM : hsM h ≤ 99999) : hourS h = h := by
  obtain ⟨n, K, S, W, P, L, O, V, M⟩ := h
  have hL' : L = 0 := hL
  have hM' : M ≤ 99999 := hM
  subst hL'
  unfold hourS mixS
  have e1 : (fun t => if t < n then nS (n, K, S, W, P, 0, O, V, M) t else S t) = S := by
    funext t
    unfold nS
    rw [show hsL (n, K, S, W, P, 0, O, V, M) = 0 from rfl, tb0]
    simp
  have e2 : (fun t => if t < n then nW (n, K, S, W, P, 0, O, V, M) t else W t) = W := by
    funext t
    unfold nW
    rw [heat_0 rfl]
    simp
  have e3 : mkb (fun t => if t < n then nL (n, K, S, W, P, 0, O, V, M) t else (0 : Nat).testBit t) n = 0 := by
    apply mkb_0
    intro t
    unfold nL
    rw [show hsL (n, K, S, W, P, 0, O, V, M) = 0 from rfl, tb0, heat_0 rfl]
    simp
  have e4 : min 99999 (M + smS (n, K, S, W, P, 0, O, V, M) n) = M := by rw [smS_0 rfl]; omega
  show (n, K, (fun t => if t < n then nS (n, K, S, W, P, 0, O, V, M) t else S t), (fun t => if t < n then nW (n, K, S, W, P, 0, O, V, M) t else W t), P, mkb (fun t => if t < n then nL (n, K, S, W, P, 0, O, V, M) t else (0 : Nat).testBit t) n, O, V, min 99999 (M + smS (n, K, S, W, P, 0, O, V, M) n)) = _
  rw [e1, e2, e3, e4]
def hoursS : Nat → HS → HS
  | 0, h => h
  | k + 1, h => hourS (hoursS k h)
theorem hours_ok {h : HS} (ok : okH h) : ∀ k, okH (hoursS k h)
  | 0 => ok
  | k + 1 => hour_ok (hours_ok ok k)
theorem hours_N (h : HS) : ∀ k, hsN (hoursS k h) = hsN h
  | 0 => rfl
  | k + 1 => hours_N h k
theorem hours_dead {h : HS} (ok : okH h) {i : Nat} (hL : hsL (hoursS i h) = 0) : ∀ k, i ≤ k → hoursS k h = hoursS i h := by
  intro k
  induction k with
  | zero => intro hi; have : i = 0 := by omega
            subst this; rfl
  | succ k ih =>
    intro hi
    by_cases e : i = k + 1
    · subst e; rfl
    · show hourS (hoursS k h) = _
      rw [ih (by omega)]
      exact hour_dead hL (hours_ok ok i).2.2.2.2.2.2.1
theorem mix_0 {h : HS} (ok : okH h) : eqH h (mixS 0 h) := by
  refine ⟨rfl, fun t ht => ⟨rfl, ?_, ?_, rfl⟩, ?_, rfl, rfl, ?_⟩
  · show hsS h t = (if t < 0 then nS h t else hsS h t)
    rw [if_neg (by omega)]
  · show hsW h t = (if t < 0 then nW h t else hsW h t)
    rw [if_neg (by omega)]
  · show hsL h = mkb (fun t => if t < 0 then nL h t else (hsL h).testBit t) (hsN h)
    rw [mkb_cong (g := fun t => (hsL h).testBit t) (fun t ht => by rw [if_neg (by omega)]), mkb_self ok.2.2.2.1]
  · show hsM h = min 99999 (hsM h + 0)
    have := ok.2.2.2.2.2.2.1
    omega
section CA
variable {mem : ZM} {b t : Nat} {h : HS}
theorem c_burnLoop (H : Hc mem b h) (ok : okH h) : ∃ r, fX3_passHour_l37 b (nI (hsL h)) (nI (fireS h)) (nI (hotS h)) (nI 0, mem) = some r ∧ (Hc r.2 b (hourS h) ∧ r.2 b 9 = mem b 9 ∧ FrB b mem r.2) := by
  have hn := ok.1
  unfold fX3_passHour_l37
  refine zi_inv (fun i s => s.1 = nI i ∧ Hc s.2 b (mixS i h) ∧ s.2 b 9 = mem b 9 ∧ FrB b mem s.2) _ (hsN h) ?_ ?_ 2000 0 _ (Nat.zero_le _) (by omega) ?_
  · intro i s hi hI
    obtain ⟨i1, i2, i3, i4⟩ := hI
    obtain ⟨m', e, h1, h2, h3⟩ := c_hourStep ok hi i2
    exact Or.inl ⟨(nI (i + 1), m'), by rw [i1]; exact e, rfl, h1, h2.trans i3, i4.tr h3⟩
  · intro s hI
    obtain ⟨i1, i2, i3, i4⟩ := hI
    refine ⟨s, ?_, i2, i3, i4⟩
    show fX3_passHour_b37 b _ _ _ s.1 s.2 = _
    unfold fX3_passHour_b37
    rw [i1, i2.1, if_pos (by show nI (hsN h) ≤ nI (hsN h); rw [e_le0 (by omega) (by omega)]; exact Nat.le_refl _)]
    rw [← i1]
  · exact ⟨rfl, H.ext (mix_0 ok), rfl, FrB.rf _ _⟩
theorem c_passHour (H : Hc mem b h) (ok : okH h) : ∃ mem', fX3_passHour b mem = some mem' ∧ Hc mem' b (hourS h) ∧ mem' b 9 = mem b 9 + 1 ∧ FrB b mem mem' := by
  unfold fX3_passHour
  have hL := ok.L
  have H1 : Hc (zst mem b 9 (mem b 9 + 1)) b h := H.st9
  rw [e_let, H1.2.2.1]
  by_cases hz : hsL h = 0
  · rw [if_pos (by rw [hz]; rfl)]
    exact ⟨_, rfl, by rw [hour_dead hz ok.2.2.2.2.2.2.1]; exact H1, by rw [e_st], FrB.st _ (by omega)⟩
  · rw [if_neg (fun e : nI (hsL h) = (0 : Int32) => hz ((e_eq0 (show hsL h < 2147483648 by omega) (show 0 < 2147483648 by decide)).mp e))]
    obtain ⟨r, e, h1, h2, h3⟩ := c_burnLoop H1 ok
    rw [e_let, c_placesLit H1 ok, e_bd, e_let, c_hotIron H1 ok (fire_lt ok), e_bd, e_let, e_let]
    rw [show pls (hsP h) (hotf h (fireS h)) (hsN h) = hotS h from rfl, show (0 : Int32) = nI 0 from rfl, e, e_bd]
    exact ⟨_, rfl, h1, h2.trans (by rw [e_st]), (FrB.st _ (by omega)).tr h3⟩
theorem e_t0 : (0 : Int32).toNatClampNeg = 0 := by decide
theorem e_t8 : (8 : Int32).toNatClampNeg = 8 := by decide
theorem e_cpg : zcpg 0 0 8 8 8 = true := by decide
theorem e_cpn {a i c j n d : Nat} (hd : d ≠ c) : zcp mem a i c j n d = mem d := by unfold zcp; rw [e_upn hd]
theorem e_cp (mem : ZM) (a i c j n : Nat) : zcp mem a i c j n c = va_cpy (mem a) (mem c) i j n := by unfold zcp; rw [e_up]
theorem c_takeFrom {q : Nat} (H : Hc mem q h) (hn : hsN h ≤ 8) (hd : b + 4 < q ∨ q + 4 < b) : ∃ mem', fX3_takeFrom b q mem = some mem' ∧ Hc mem' b h ∧ mem' b 9 = mem q 9 ∧ FrB b mem mem' := by
  unfold fX3_takeFrom
  simp only [e_let, e_t0, e_t8, e_gd' e_cpg]
  refine ⟨_, rfl, ⟨?_, fun t ht => ?_, ?_, ?_, ?_, ?_⟩, ?_, fun c hc => ?_⟩
  · simp (disch := omega) only [e_stn, e_stk, e_st, e_cpn]
    exact H.1
  · obtain ⟨a1, a2, a3, a4⟩ := H.2.1 t ht
    refine ⟨?_, ?_, ?_, ?_⟩
    · simp (disch := omega) only [e_stn, e_stk, e_st, e_cpn, e_cp]
      rw [pk_cpy_in (by omega) (by omega)]
      simp (disch := omega) only [Nat.zero_add, Nat.sub_zero, e_stn]
      exact a1
    · simp (disch := omega) only [e_stn, e_stk, e_st, e_cpn, e_cp]
      rw [pk_cpy_in (by omega) (by omega)]
      simp (disch := omega) only [Nat.zero_add, Nat.sub_zero, e_stn, e_cpn]
      exact a2
    · simp (disch := omega) only [e_stn, e_stk, e_st, e_cpn, e_cp]
      rw [pk_cpy_in (by omega) (by omega)]
      simp (disch := omega) only [Nat.zero_add, Nat.sub_zero, e_stn, e_cpn]
      exact a3
    · simp (disch := omega) only [e_stn, e_stk, e_st, e_cpn, e_cp]
      rw [pk_cpy_in (by omega) (by omega)]
      simp (disch := omega) only [Nat.zero_add, Nat.sub_zero, e_stn, e_cpn]
      exact a4
  · simp (disch := omega) only [e_stn, e_stk, e_st, e_cpn]; exact H.2.2.1
  · simp (disch := omega) only [e_stn, e_stk, e_st, e_cpn]; exact H.2.2.2.1
  · simp (disch := omega) only [e_stn, e_stk, e_st, e_cpn]; exact H.2.2.2.2.1
  · simp (disch := omega) only [e_stn, e_stk, e_st, e_cpn]; exact H.2.2.2.2.2
  · simp (disch := omega) only [e_stn, e_stk, e_st, e_cpn]
  · simp (disch := omega) only [e_stn, e_cpn]
/-- hours on trial -/
theorem c_tryHours (H : Hc mem 37 h) (ok : okH h) {k : Nat} (hk : k ≤ 200) : ∃ mem', fX2_tryHours (nI k) mem = some mem' ∧ Hc mem' 37 (hoursS k h) ∧ FrB 37 mem mem' := by
  have key : ∃ r, fX2_tryHours_l2 (nI k) (nI 0, mem) = some r ∧ (Hc r.2 37 (hoursS k h) ∧ FrB 37 mem r.2) := by
    unfold fX2_tryHours_l2
    refine zi_inv (fun i s => s.1 = nI i ∧ Hc s.2 37 (hoursS i h) ∧ FrB 37 mem s.2) _ k ?_ ?_ 2000 0 _ (Nat.zero_le _) (by omega) ⟨rfl, H, FrB.rf _ _⟩
    · intro i s hi hI
      obtain ⟨i1, i2, i3⟩ := hI
      have oki := hours_ok ok i
      have hL := oki.L
      show (∃ s', fX2_tryHours_b2 (nI k) s.1 s.2 = _ ∧ _) ∨ (∃ r, fX2_tryHours_b2 (nI k) s.1 s.2 = _ ∧ _)
      unfold fX2_tryHours_b2
      rw [i1, if_neg (by rw [e_le0 (by omega) (by omega)]; omega), i2.2.2.1, show (0 : Int32) = nI 0 from rfl]
      simp only [e_eq0 (show hsL (hoursS i h) < 2147483648 by omega) (show 0 < 2147483648 by decide)]
      by_cases hz : hsL (hoursS i h) = 0
      · rw [if_pos hz]
        exact Or.inr ⟨_, rfl, by rw [hours_dead ok hz k (by omega)]; exact i2, i3⟩
      · rw [if_neg hz]
        obtain ⟨m', e, h1, h2, h3⟩ := c_passHour i2 oki
        rw [e, e_bd, e_let, nI_1]
        exact Or.inl ⟨_, rfl, rfl, h1, i3.tr h3⟩
    · intro s hI
      obtain ⟨i1, i2, i3⟩ := hI
      refine ⟨s, ?_, i2, i3⟩
      show fX2_tryHours_b2 (nI k) s.1 s.2 = _
      unfold fX2_tryHours_b2
      rw [i1, if_pos (by rw [e_le0 (by omega) (by omega)]; exact Nat.le_refl _), ← i1]
  obtain ⟨r, e, h1, h2⟩ := key
  unfold fX2_tryHours
  rw [e_let, show (0 : Int32) = nI 0 from rfl, e, e_bd]
  exact ⟨_, rfl, h1, h2⟩
theorem c_hoursOn (H : Hc mem 17 h) (ok : okH h) {k : Nat} (hk : k ≤ 200) : ∃ mem', fX2_hoursOn 17 (nI k) mem = some mem' ∧ Hc mem' 37 (hoursS k h) ∧ FrB 37 mem mem' := by
  unfold fX2_hoursOn
  obtain ⟨m1, e1, h1, -, f1⟩ := c_takeFrom (b := 37) H ok.1 (by omega)
  obtain ⟨m2, e2, h2, f2⟩ := c_tryHours h1 ok hk
  rw [e1, e_bd, e2, e_bd]
  exact ⟨_, rfl, h2, f1.tr f2⟩
end CA
