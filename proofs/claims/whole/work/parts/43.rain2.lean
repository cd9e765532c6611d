section CRN
variable {mem : ZM} {t : Nat} {h : HS}
theorem c_power {b e : Nat} (he : e ≤ 8) : fX2_power (nI b) (nI e) = some (nI (b ^ e)) := by
  unfold fX2_power
  rw [e_let, e_let, l1, l0]
  have key : fX2_power_l4 (nI b) (nI e) (nI 1, nI 0) = some (nI (b ^ e), nI e) := by
    unfold fX2_power_l4
    refine zi_seq (fun i => (nI (b ^ i), nI i)) _ e 2000 0 (Nat.zero_le _) (by omega) (fun i _ hi => ?_) ?_
    · show fX2_power_b4 (nI b) (nI e) (nI (b ^ i)) (nI i) = _
      unfold fX2_power_b4
      rw [if_neg (by rw [e_le0 (by omega) (by omega)]; omega), e_let, e_let, nI_1, pk_mul, Nat.pow_succ]
    · show fX2_power_b4 (nI b) (nI e) (nI (b ^ e)) (nI e) = _
      unfold fX2_power_b4
      rw [if_pos (by rw [e_le0 (by omega) (by omega)]; exact Nat.le_refl _)]
  rw [key, e_bd]
theorem c_greatest {a b : Nat} (hab : a ≤ b) (hb : 0 < b) (hbb : b ≤ 100000000) : fX2_greatestDivisor (nI a) (nI b) = some (nI (Nat.gcd a b)) := by
  obtain ⟨k, hk, e0, epos, eg, ebd⟩ := euc_end hab hb hbb
  unfold fX2_greatestDivisor
  rw [e_let, e_let, e_let, l0]
  have key : fX2_greatestDivisor_l7 (nI a, nI b, nI 0) = some (nI (Nat.gcd a b), nI 0, nI k) := by
    unfold fX2_greatestDivisor_l7
    refine zi_seq (fun i => (nI (euc i (a, b)).1, nI (euc i (a, b)).2, nI i)) _ k 2000 0 (Nat.zero_le _) (by omega) (fun i _ hi => ?_) ?_
    · have hbd := ebd i (by omega)
      have hp := epos i hi
      show fX2_greatestDivisor_b7 (nI (euc i (a, b)).1) (nI (euc i (a, b)).2) (nI i) = _
      unfold fX2_greatestDivisor_b7
      have hne : ¬ nI (euc i (a, b)).2 = 0 := by rw [l0, e_eq0 (by omega) (by omega)]; omega
      rw [show (64 : Int32) = nI 64 from rfl, if_neg (by rw [e_le0 (by omega) (by omega)]; omega), if_neg hne, e_gd' (decide_eq_true hne), e_let, e_let, e_let, e_let, nI_1, pk_rem (by omega) hp (by omega)]
      rfl
    · show fX2_greatestDivisor_b7 (nI (euc k (a, b)).1) (nI (euc k (a, b)).2) (nI k) = _
      unfold fX2_greatestDivisor_b7
      rw [show (64 : Int32) = nI 64 from rfl, if_neg (by rw [e_le0 (by omega) (by omega)]; omega), e0, if_pos (show nI 0 = (0 : Int32) from rfl), eg]
  rw [key, e_bd]
theorem m_greatest {a b : Nat} (x y z : Int32) (m : ZM) (hab : a ≤ b) (hb : 0 < b) (hbb : b ≤ 100000000) : fX7_rain_l233 x y z m (nI a, nI b) = some (nI (Nat.gcd a b), nI 0) := by
  obtain ⟨k, hk, e0, epos, eg, ebd⟩ := euc_end hab hb hbb
  unfold fX7_rain_l233
  refine zi_seq (fun i => (nI (euc i (a, b)).1, nI (euc i (a, b)).2)) _ k 2000 0 (Nat.zero_le _) (by omega) (fun i _ hi => ?_) ?_
  · have hbd := ebd i (by omega)
    have hp := epos i hi
    show fX7_rain_b233 x y z m (nI (euc i (a, b)).1) (nI (euc i (a, b)).2) = _
    unfold fX7_rain_b233
    have hne : ¬ nI (euc i (a, b)).2 = 0 := by rw [l0, e_eq0 (by omega) (by omega)]; omega
    rw [if_neg hne, e_gd' (decide_eq_true hne), e_let, e_let, e_let, pk_rem (by omega) hp (by omega)]
    rfl
  · show fX7_rain_b233 x y z m (nI (euc k (a, b)).1) (nI (euc k (a, b)).2) = _
    unfold fX7_rain_b233
    rw [e0, if_pos (show nI 0 = (0 : Int32) from rfl), eg]
theorem c_wetted (H : Hc mem 17 h) (ok : okH h) (ht : t < hsN h) {x k : Nat} (hx : x < 256) (hk : k ≤ 60) : ∃ m', fX2_isAshWhenWetted 17 (nI x) (nI t) (nI k) mem = some (nI (ashR h t k x), m') ∧ FrB 37 mem m' := by
  have hn := ok.1
  obtain ⟨m1, e1, H1, -, f1⟩ := c_takeFrom (b := 37) H ok.1 (by omega)
  have k1 : ∃ r, fX2_isAshWhenWetted_l11 17 (nI x) (nI t) (nI k) (nI 0, m1) = some r ∧ (Hc r.2 37 (rainS h x) ∧ FrB 37 mem r.2) := by
    unfold fX2_isAshWhenWetted_l11
    refine zi_inv (fun i s => s.1 = nI i ∧ Hc s.2 37 (rainI h x i) ∧ FrB 37 mem s.2) _ (hsN h) ?_ ?_ 2000 0 _ (Nat.zero_le _) (by omega) ⟨rfl, H1, f1⟩
    · intro i s hi hI
      obtain ⟨i1, i2, i3⟩ := hI
      refine Or.inl ?_
      show ∃ s', fX2_isAshWhenWetted_b11 17 (nI x) (nI t) (nI k) s.1 s.2 = _ ∧ _
      unfold fX2_isAshWhenWetted_b11 fX2_isAshWhenWetted_j43
      have hNi : hsN (rainI h x i) = hsN h := rain_N h x i
      rw [i1, i2.1, hNi, if_neg (nI_le_f hn hi)]
      have hb := e_bit x hx i (by omega)
      by_cases hc : x.testBit i = true
      · rw [if_pos (hb.mpr hc)]
        obtain ⟨m2, e2, H2, -, f2⟩ := c_pourOn i2 (rain_ok ok x i (by omega)) (t := i) (by rw [hNi]; exact hi) (w := 3) (by omega)
        rw [l3, e2, e_bd, e_let, nI_1]
        refine ⟨_, rfl, rfl, ?_, i3.tr f2⟩
        show Hc m2 37 (if x.testBit i = true then waterS (rainI h x i) i 3 else rainI h x i)
        rw [if_pos hc]; exact H2
      · rw [if_neg (fun e => hc (hb.mp e)), e_let, nI_1]
        refine ⟨_, rfl, rfl, ?_, i3⟩
        show Hc s.2 37 (if x.testBit i = true then waterS (rainI h x i) i 3 else rainI h x i)
        rw [if_neg hc]; exact i2
    · intro s hI
      obtain ⟨i1, i2, i3⟩ := hI
      refine ⟨s, ?_, i2, i3⟩
      show fX2_isAshWhenWetted_b11 17 (nI x) (nI t) (nI k) s.1 s.2 = _
      unfold fX2_isAshWhenWetted_b11
      have hNi : hsN (rainI h x (hsN h)) = hsN h := rain_N h x _
      rw [i1, i2.1, hNi, if_pos (by rw [e_le0 (by omega) (by omega)]; exact Nat.le_refl _), ← i1]
  obtain ⟨r1, e2, g1, g2⟩ := k1
  have okR : okH (rainS h x) := rain_ok ok x _ (Nat.le_refl _)
  have hNR : hsN (rainS h x) = hsN h := rain_N h x _
  have k2 : ∃ r, fX2_isAshWhenWetted_l52 17 (nI t) (nI k) (nI 0, r1.2) = some r ∧ (∃ i, i ≤ k ∧ Hc r.2 37 (hoursS i (rainS h x)) ∧ (hsS (hoursS i (rainS h x)) t = 0 ↔ hsS (hoursS k (rainS h x)) t = 0) ∧ FrB 37 mem r.2) := by
    unfold fX2_isAshWhenWetted_l52
    refine zi_inv (fun i s => s.1 = nI i ∧ Hc s.2 37 (hoursS i (rainS h x)) ∧ FrB 37 mem s.2) _ k ?_ ?_ 2000 0 _ (Nat.zero_le _) (by omega) ⟨rfl, g1, g2⟩
    · intro i s hi hI
      obtain ⟨i1, i2, i3⟩ := hI
      have oki := hours_ok okR i
      have hL := oki.L
      have htN : t < hsN (hoursS i (rainS h x)) := by rw [hours_N, hNR]; exact ht
      show (∃ s', fX2_isAshWhenWetted_b52 17 (nI t) (nI k) s.1 s.2 = _ ∧ _) ∨ (∃ r, fX2_isAshWhenWetted_b52 17 (nI t) (nI k) s.1 s.2 = _ ∧ _)
      unfold fX2_isAshWhenWetted_b52
      rw [i1, if_neg (by rw [e_le0 (by omega) (by omega)]; omega), i2.2.2.1, l0]
      simp only [e_eq0 (show hsL (hoursS i (rainS h x)) < 2147483648 by omega) (show 0 < 2147483648 by decide)]
      by_cases hz : hsL (hoursS i (rainS h x)) = 0
      · rw [if_pos hz]
        exact Or.inr ⟨_, rfl, i, by omega, i2, by rw [hours_dead okR hz k (by omega)], i3⟩
      · rw [if_neg hz, c_isAsh i2 oki htN, e_bd]
        rw [show nI 0 = (0 : Int32) from rfl]
        simp only [bI_0]
        by_cases ha : hsS (hoursS i (rainS h x)) t = 0
        · rw [decide_eq_true ha, if_neg (by decide)]
          exact Or.inr ⟨_, rfl, i, by omega, i2, ⟨fun _ => ash_stays ha k (by omega), fun _ => ha⟩, i3⟩
        · rw [decide_eq_false ha, if_pos rfl]
          obtain ⟨m', e, h1, h2, h3⟩ := c_passHour i2 oki
          rw [e, e_bd, e_let, nI_1]
          exact Or.inl ⟨_, rfl, rfl, h1, i3.tr h3⟩
    · intro s hI
      obtain ⟨i1, i2, i3⟩ := hI
      refine ⟨s, ?_, k, Nat.le_refl _, i2, Iff.rfl, i3⟩
      show fX2_isAshWhenWetted_b52 17 (nI t) (nI k) s.1 s.2 = _
      unfold fX2_isAshWhenWetted_b52
      rw [i1, if_pos (by rw [e_le0 (by omega) (by omega)]; exact Nat.le_refl _), ← i1]
  obtain ⟨r2, e3, i, hi, g3, g4, g5⟩ := k2
  have htN : t < hsN (hoursS i (rainS h x)) := by rw [hours_N, hNR]; exact ht
  unfold fX2_isAshWhenWetted fX2_isAshWhenWetted_j93
  rw [e1, e_bd, e_let, l0, e2, e_bd, e_let, e3, e_bd, c_isAsh g3 (hours_ok okR i) htN, e_bd, e_gd' (bI_bl _)]
  refine ⟨r2.2, ?_, g5⟩
  unfold ashR
  by_cases ha : hsS (hoursS k (rainS h x)) t = 0
  · rw [if_pos ha, decide_eq_true (g4.mpr ha)]; rfl
  · rw [if_neg ha, decide_eq_false (fun e => ha (g4.mp e))]; rfl
end CRN
/-- the sum over the sets within B -/
def pB (c B n : Nat) (F : Nat → Nat) (x : Nat) : Nat := if subI B x n = true then partI c B x n * F (x ||| 0) else 0
theorem sub_bits {B x n : Nat} : subI B x n = true ↔ ∀ t, t < n → x.testBit t = true → B.testBit t = true := by
  unfold subI
  constructor
  · intro h t ht hb
    cases hB : B.testBit t
    · have ha : anyb (fun t => x.testBit t && !B.testBit t) n = true := (anyb_iff _ _).mpr ⟨t, ht, by rw [hb, hB]; rfl⟩
      rw [ha] at h; cases h
    · rfl
  · intro h
    cases ha : anyb (fun t => x.testBit t && !B.testBit t) n
    · rfl
    · obtain ⟨t, ht, h2⟩ := (anyb_iff _ _).mp ha
      rw [Bool.and_eq_true] at h2
      rw [h t ht h2.1] at h2
      cases h2.2
theorem sub_le {B x n : Nat} (hB : B < 2 ^ n) (hx : x < 2 ^ n) (h : subI B x n = true) : x ≤ B := by
  have h1 := sub_bits.mp h
  have : x &&& B = x := by
    apply tb_ext (n := n) (Nat.lt_of_le_of_lt Nat.and_le_left hx) hx
    intro t ht
    rw [Nat.testBit_and]
    cases hb : x.testBit t
    · rfl
    · rw [h1 t ht hb]; rfl
  rw [← this]
  exact Nat.and_le_right
theorem sub_int {B x n : Nat} (hn : n ≤ 8) (hB : B < 2 ^ n) (hx : x < 2 ^ n) : (nI x &&& (nI B ^^^ (-1))) = 0 ↔ subI B x n = true := by
  have h8 := pow_le256 hn
  rw [e_sub0 (by omega), sub_bits]
  constructor
  · intro h t ht hb; exact h t (by omega) hb
  · intro h t ht hb
    by_cases htn : t < n
    · exact h t htn hb
    · rw [tb_big hx (by omega)] at hb; cases hb
/-- up to B there is all of it -/
theorem sum_pB {c B n : Nat} {F : Nat → Nat} (hB : B < 2 ^ n) : sumB (pB c B n F) (B + 1) = TT c B F n 0 := by
  rw [← TT_sum c B F n 0]
  have h1 : sumB (fun x => if x ≤ B then pB c B n F x else 0) (B + 1) = sumB (pB c B n F) (B + 1) := sumB_cong (fun i hi => by rw [if_pos (by omega)])
  have h2 : sumB (fun x => if x ≤ B then pB c B n F x else 0) (2 ^ n) = sumB (fun x => if x ≤ B then pB c B n F x else 0) (B + 1) := sumB_0 (fun i hi => by rw [if_neg (by omega)]) _ (by omega)
  rw [← h1, ← h2]
  apply sumB_cong
  intro i hi
  by_cases hle : i ≤ B
  · rw [if_pos hle]; rfl
  · rw [if_neg hle]
    cases hs : subI B i n
    · rw [if_neg (by decide)]
    · exact absurd (sub_le hB hi hs) hle
theorem mkb_or0 (x : Nat) : x ||| 0 = x := Nat.or_zero x
theorem partI_le {c U s : Nat} (hc : c ≤ 10) : ∀ i, partI c U s i ≤ 10 ^ i
  | 0 => Nat.le_refl _
  | i + 1 => by
    unfold partI
    rw [Nat.pow_succ]
    apply Nat.mul_le_mul (partI_le hc i)
    split
    · split <;> omega
    · omega
theorem pow8 {n : Nat} (h : n ≤ 8) : 10 ^ n ≤ 100000000 := by
  have := Nat.pow_le_pow_right (n := 10) (by decide) h
  simpa using this
