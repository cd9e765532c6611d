/-! rain: sums over sets -/
def sumB (p : Nat → Nat) : Nat → Nat
  | 0 => 0
  | i + 1 => sumB p i + p i
theorem sumB_split (p : Nat → Nat) (a : Nat) : ∀ b, sumB p (a + b) = sumB p a + sumB (fun x => p (a + x)) b
  | 0 => rfl
  | b + 1 => by
    show sumB p (a + b) + p (a + b) = _
    rw [sumB_split p a b]
    show _ = sumB p a + (sumB (fun x => p (a + x)) b + p (a + b))
    omega
theorem sumB_cong {p q : Nat → Nat} : ∀ {n : Nat}, (∀ i, i < n → p i = q i) → sumB p n = sumB q n
  | 0, _ => rfl
  | n + 1, h => by
    unfold sumB
    rw [sumB_cong (fun i hi => h i (by omega)), h n (by omega)]
theorem sumB_0 {p : Nat → Nat} {a : Nat} (h : ∀ i, a ≤ i → p i = 0) : ∀ n, a ≤ n → sumB p n = sumB p a := by
  intro n
  induction n with
  | zero => intro ha; have : a = 0 := by omega
            subst this; rfl
  | succ n ih =>
    intro ha
    by_cases e : a = n + 1
    · subst e; rfl
    · show sumB p n + p n = _
      rw [h n (by omega), ih (by omega)]; rfl
theorem sumB_mul (k : Nat) (p : Nat → Nat) : ∀ n, sumB (fun x => k * p x) n = k * sumB p n
  | 0 => rfl
  | n + 1 => by
    show sumB (fun x => k * p x) n + k * p n = k * (sumB p n + p n)
    rw [sumB_mul k p n, Nat.mul_add]
/-- the part of one set, by the first i -/
def partI (c U s : Nat) : Nat → Nat
  | 0 => 1
  | i + 1 => partI c U s i * (if U.testBit i = true then (if s.testBit i = true then c else 10 - c) else 1)
def subI (U s i : Nat) : Bool := !anyb (fun t => s.testBit t && !U.testBit t) i
/-- the sum over the first i things -/
def TT (c U : Nat) (F : Nat → Nat) : Nat → Nat → Nat
  | 0, s => F s
  | i + 1, s => if U.testBit i = true then c * TT c U F i (s ||| 2 ^ i) + (10 - c) * TT c U F i s else TT c U F i s
theorem tb_lo {x i t : Nat} (hx : x < 2 ^ i) : (2 ^ i + x).testBit t = if t = i then true else x.testBit t := by
  have e : 2 ^ i + x = x ||| 2 ^ i := by rw [Nat.add_comm, Nat.or_two_pow_eq_add_of_lt hx]
  rw [e, tb_set]
  by_cases h : t = i
  · rw [if_pos h, decide_eq_true h, Bool.or_true]
  · rw [if_neg h, decide_eq_false h, Bool.or_false]
theorem partI_cong {c U s s' : Nat} : ∀ {i : Nat}, (∀ t, t < i → s.testBit t = s'.testBit t) → partI c U s i = partI c U s' i
  | 0, _ => rfl
  | i + 1, h => by
    unfold partI
    rw [partI_cong (fun t ht => h t (by omega)), h i (by omega)]
theorem anyb_cong {f g : Nat → Bool} : ∀ {n : Nat}, (∀ t, t < n → f t = g t) → anyb f n = anyb g n
  | 0, _ => rfl
  | n + 1, h => by
    unfold anyb
    rw [anyb_cong (fun t ht => h t (by omega)), h n (by omega)]
theorem TT_sum (c U : Nat) (F : Nat → Nat) : ∀ i hi, sumB (fun x => if subI U x i = true then partI c U x i * F (x ||| hi) else 0) (2 ^ i) = TT c U F i hi := by
  intro i
  induction i with
  | zero =>
    intro hi
    show 0 + (if subI U 0 0 = true then partI c U 0 0 * F (0 ||| hi) else 0) = F hi
    rw [show subI U 0 0 = true from rfl, if_pos rfl, Nat.zero_or]
    show 0 + 1 * F hi = F hi
    omega
  | succ i ih =>
    intro hi
    rw [Nat.pow_succ, Nat.mul_two, sumB_split]
    have lo : ∀ x, x < 2 ^ i → (if subI U x (i + 1) = true then partI c U x (i + 1) * F (x ||| hi) else 0) = (if U.testBit i = true then 10 - c else 1) * (if subI U x i = true then partI c U x i * F (x ||| hi) else 0) := by
      intro x hx
      have hb : x.testBit i = false := Nat.testBit_lt_two_pow hx
      have hs : subI U x (i + 1) = subI U x i := by
        show (!(anyb _ i || (x.testBit i && !U.testBit i))) = _
        rw [hb, Bool.false_and, Bool.or_false]; rfl
      rw [hs]
      have hp : partI c U x (i + 1) = partI c U x i * (if U.testBit i = true then 10 - c else 1) := by
        show partI c U x i * (if U.testBit i = true then (if x.testBit i = true then c else 10 - c) else 1) = _
        rw [hb, if_neg (show ¬ false = true by decide)]
      rw [hp]
      split
      · rw [Nat.mul_comm (partI c U x i), Nat.mul_assoc]
      · rw [Nat.mul_zero]
    have up : ∀ x, x < 2 ^ i → (if subI U (2 ^ i + x) (i + 1) = true then partI c U (2 ^ i + x) (i + 1) * F ((2 ^ i + x) ||| hi) else 0) = (if U.testBit i = true then c else 0) * (if subI U x i = true then partI c U x i * F (x ||| (hi ||| 2 ^ i)) else 0) := by
      intro x hx
      have hb : (2 ^ i + x).testBit i = true := by rw [tb_lo hx, if_pos rfl]
      have hlow : ∀ t, t < i → (2 ^ i + x).testBit t = x.testBit t := fun t ht => by rw [tb_lo hx, if_neg (by omega)]
      have hs : subI U (2 ^ i + x) (i + 1) = (subI U x i && U.testBit i) := by
        show (!(anyb (fun t => (2 ^ i + x).testBit t && !U.testBit t) i || ((2 ^ i + x).testBit i && !U.testBit i))) = _
        rw [hb, Bool.true_and, anyb_cong (g := fun t => x.testBit t && !U.testBit t) (fun t ht => by rw [hlow t ht])]
        unfold subI
        cases anyb (fun t => x.testBit t && !U.testBit t) i <;> cases U.testBit i <;> rfl
      have hor : (2 ^ i + x) ||| hi = x ||| (hi ||| 2 ^ i) := by
        have e : 2 ^ i + x = x ||| 2 ^ i := by rw [Nat.add_comm, Nat.or_two_pow_eq_add_of_lt hx]
        rw [e, Nat.or_assoc, Nat.or_comm (2 ^ i) hi]
      rw [hs, hor]
      have hp : partI c U (2 ^ i + x) (i + 1) = partI c U x i * (if U.testBit i = true then c else 1) := by
        show partI c U (2 ^ i + x) i * (if U.testBit i = true then (if (2 ^ i + x).testBit i = true then c else 10 - c) else 1) = _
        rw [hb, if_pos rfl, partI_cong hlow]
      rw [hp]
      cases hu : U.testBit i
      · rw [Bool.and_false, if_neg (by decide), if_neg (by decide), Nat.zero_mul]
      · rw [Bool.and_true, if_pos rfl, if_pos rfl]
        split
        · rw [Nat.mul_comm (partI c U x i), Nat.mul_assoc]
        · rw [Nat.mul_zero]
    rw [sumB_cong lo, sumB_cong up, sumB_mul, sumB_mul, ih hi, ih (hi ||| 2 ^ i)]
    show _ = (if U.testBit i = true then c * TT c U F i (hi ||| 2 ^ i) + (10 - c) * TT c U F i hi else TT c U F i hi)
    cases U.testBit i
    · rw [if_neg (by decide), if_neg (by decide), if_neg (by decide)]; omega
    · rw [if_pos rfl, if_pos rfl, if_pos rfl]; omega
/-- those of the rest don't matter -/
theorem TT_inv {c U : Nat} {F : Nat → Nat} {j : Nat} (hF : ∀ s, F (s ||| 2 ^ j) = F s) : ∀ i s, TT c U F i (s ||| 2 ^ j) = TT c U F i s := by
  intro i
  induction i with
  | zero => intro s; exact hF s
  | succ i ih =>
    intro s
    show (if U.testBit i = true then c * TT c U F i (s ||| 2 ^ j ||| 2 ^ i) + (10 - c) * TT c U F i (s ||| 2 ^ j) else TT c U F i (s ||| 2 ^ j)) = (if U.testBit i = true then c * TT c U F i (s ||| 2 ^ i) + (10 - c) * TT c U F i s else TT c U F i s)
    rw [Nat.or_assoc, Nat.or_comm (2 ^ j) (2 ^ i), ← Nat.or_assoc, ih, ih]
def popI (x : Nat) : Nat → Nat
  | 0 => 0
  | i + 1 => popI x i + (if x.testBit i = true then 1 else 0)
theorem TT_mul {c U B : Nat} {F : Nat → Nat} (hc : c ≤ 10) (hB : ∀ t, B.testBit t = true → U.testBit t = true) (hF : ∀ j, B.testBit j = false → ∀ s, F (s ||| 2 ^ j) = F s) : ∀ i s, popI B i ≤ popI U i ∧ TT c U F i s = 10 ^ (popI U i - popI B i) * TT c B F i s := by
  intro i
  induction i with
  | zero => intro s; exact ⟨Nat.le_refl _, by show F s = 10 ^ 0 * F s; rw [Nat.pow_zero, Nat.one_mul]⟩
  | succ i ih =>
    intro s
    have h1 : popI B (i + 1) = popI B i + (if B.testBit i = true then 1 else 0) := rfl
    have h2 : popI U (i + 1) = popI U i + (if U.testBit i = true then 1 else 0) := rfl
    have hle := (ih s).1
    show _ ∧ (if U.testBit i = true then c * TT c U F i (s ||| 2 ^ i) + (10 - c) * TT c U F i s else TT c U F i s) = _ * (if B.testBit i = true then c * TT c B F i (s ||| 2 ^ i) + (10 - c) * TT c B F i s else TT c B F i s)
    rw [h1, h2]
    cases hb : B.testBit i
    · cases hu : U.testBit i
      · simp only [Bool.false_eq_true, if_false, Nat.add_zero]
        exact ih s
      · rw [if_pos rfl, if_neg (by decide), if_pos rfl, if_neg (by decide), Nat.add_zero]
        refine ⟨by omega, ?_⟩
        rw [TT_inv (hF i hb) i s, (ih s).2, ← Nat.add_mul, show c + (10 - c) = 10 by omega, ← Nat.mul_assoc]
        congr 1
        rw [show popI U i + 1 - popI B i = (popI U i - popI B i) + 1 by omega, Nat.pow_succ, Nat.mul_comm]
    · rw [hB i hb, if_pos rfl, if_pos rfl, if_pos rfl]
      refine ⟨by omega, ?_⟩
      rw [(ih (s ||| 2 ^ i)).2, (ih s).2, show popI U i + 1 - (popI B i + 1) = popI U i - popI B i by omega, Nat.mul_add]
      congr 1
      · rw [← Nat.mul_assoc, ← Nat.mul_assoc, Nat.mul_comm c]
      · rw [← Nat.mul_assoc, ← Nat.mul_assoc, Nat.mul_comm (10 - c)]
theorem TT_le {c U : Nat} {F : Nat → Nat} (hc : c ≤ 10) (hF : ∀ s, F s ≤ 1) : ∀ i s, TT c U F i s ≤ 10 ^ popI U i := by
  intro i
  induction i with
  | zero => intro s; exact hF s
  | succ i ih =>
    intro s
    show (if U.testBit i = true then c * TT c U F i (s ||| 2 ^ i) + (10 - c) * TT c U F i s else TT c U F i s) ≤ 10 ^ (popI U i + (if U.testBit i = true then 1 else 0))
    cases U.testBit i
    · rw [if_neg (by decide), if_neg (by decide)]; exact ih s
    · rw [if_pos rfl, if_pos rfl, Nat.pow_succ]
      have h1 := Nat.mul_le_mul_left c (ih (s ||| 2 ^ i))
      have h2 := Nat.mul_le_mul_left (10 - c) (ih s)
      have h3 : c * 10 ^ popI U i + (10 - c) * 10 ^ popI U i = 10 ^ popI U i * 10 := by rw [← Nat.add_mul, show c + (10 - c) = 10 by omega, Nat.mul_comm]
      omega
theorem popI_le (x : Nat) : ∀ i, popI x i ≤ i
  | 0 => Nat.le_refl _
  | i + 1 => by
    have := popI_le x i
    unfold popI
    split <;> omega
theorem popI_8 : ∀ a, a < 256 → pop a = popI a 8 := by decide +kernel
theorem popI_n {a n : Nat} (ha : a < 2 ^ n) : ∀ i, n ≤ i → popI a i = popI a n := by
  intro i
  induction i with
  | zero => intro h; have : n = 0 := by omega
            subst this; rfl
  | succ i ih =>
    intro h
    by_cases e : n = i + 1
    · subst e; rfl
    · show popI a i + (if a.testBit i = true then 1 else 0) = _
      rw [tb_big ha (by omega), if_neg (by decide), ih (by omega)]; rfl
theorem pop_I {a n : Nat} (hn : n ≤ 8) (ha : a < 2 ^ n) : pop a = popI a n := by
  rw [popI_8 a (Nat.lt_of_lt_of_le ha (pow_le256 hn)), popI_n ha 8 hn]
/-- the part of a set within B, by how many it has -/
theorem partI_pow {c B w : Nat} : ∀ {i : Nat}, subI B w i = true → popI w i ≤ popI B i ∧ partI c B w i = c ^ popI w i * (10 - c) ^ (popI B i - popI w i) := by
  intro i
  induction i with
  | zero => intro _; exact ⟨Nat.le_refl _, rfl⟩
  | succ i ih =>
    intro hs
    have hs' : (!(anyb (fun t => w.testBit t && !B.testBit t) i || (w.testBit i && !B.testBit i))) = true := hs
    have hsi : subI B w i = true := by
      unfold subI
      cases ha : anyb (fun t => w.testBit t && !B.testBit t) i
      · rfl
      · rw [ha] at hs'; cases hs'
    have hwi : (w.testBit i && !B.testBit i) = false := by
      cases hb : (w.testBit i && !B.testBit i)
      · rfl
      · rw [hb, Bool.or_true] at hs'; cases hs'
    obtain ⟨h1, h2⟩ := ih hsi
    show popI w i + (if w.testBit i = true then 1 else 0) ≤ popI B i + (if B.testBit i = true then 1 else 0) ∧ partI c B w i * (if B.testBit i = true then (if w.testBit i = true then c else 10 - c) else 1) = c ^ (popI w i + (if w.testBit i = true then 1 else 0)) * (10 - c) ^ (popI B i + (if B.testBit i = true then 1 else 0) - (popI w i + (if w.testBit i = true then 1 else 0)))
    rw [h2]
    cases hw : w.testBit i
    · cases hb : B.testBit i
      · simp only [Bool.false_eq_true, if_false, Nat.add_zero, Nat.mul_one]
        exact ⟨h1, trivial⟩
      · simp only [Bool.false_eq_true, if_false, if_true, Nat.add_zero]
        refine ⟨by omega, ?_⟩
        rw [show popI B i + 1 - popI w i = (popI B i - popI w i) + 1 by omega, Nat.pow_succ, Nat.mul_assoc]
    · cases hb : B.testBit i
      · rw [hw, hb] at hwi; cases hwi
      · simp only [if_true]
        refine ⟨by omega, ?_⟩
        rw [show popI B i + 1 - (popI w i + 1) = popI B i - popI w i by omega, Nat.pow_succ, Nat.mul_right_comm]
/-! the greatest divisor -/
def euc : Nat → Nat × Nat → Nat × Nat
  | 0, s => s
  | i + 1, s => let q := euc i s; (q.2, q.1 % q.2)
theorem euc_inv {a b : Nat} (hab : a ≤ b) : ∀ i, (∀ j, j ≤ i → 0 < (euc j (a, b)).2) → Nat.gcd (euc (i + 1) (a, b)).1 (euc (i + 1) (a, b)).2 = Nat.gcd a b ∧ (euc (i + 1) (a, b)).2 < (euc (i + 1) (a, b)).1 ∧ (euc (i + 1) (a, b)).1 * (euc (i + 1) (a, b)).2 * 2 ^ i ≤ b * b ∧ (euc (i + 1) (a, b)).1 ≤ b := by
  intro i
  induction i with
  | zero =>
    intro hp
    have hb : 0 < b := hp 0 (Nat.le_refl _)
    show Nat.gcd b (a % b) = Nat.gcd a b ∧ a % b < b ∧ b * (a % b) * 2 ^ 0 ≤ b * b ∧ b ≤ b
    refine ⟨by rw [Nat.gcd_comm b, ← Nat.gcd_rec, Nat.gcd_comm], Nat.mod_lt _ hb, ?_, Nat.le_refl _⟩
    rw [Nat.pow_zero, Nat.mul_one]
    exact Nat.mul_le_mul_left b (Nat.le_of_lt (Nat.mod_lt _ hb))
  | succ i ih =>
    intro hp
    obtain ⟨g1, g2, g3, g4⟩ := ih (fun j hj => hp j (by omega))
    have hpos := hp (i + 1) (Nat.le_refl _)
    generalize hA : (euc (i + 1) (a, b)).1 = A at *
    generalize hB : (euc (i + 1) (a, b)).2 = B at *
    have e1 : (euc (i + 1 + 1) (a, b)).1 = B := by show (euc (i + 1) (a, b)).2 = B; exact hB
    have e2 : (euc (i + 1 + 1) (a, b)).2 = A % B := by show (euc (i + 1) (a, b)).1 % (euc (i + 1) (a, b)).2 = _; rw [hA, hB]
    rw [e1, e2]
    refine ⟨by rw [← g1, Nat.gcd_comm B, ← Nat.gcd_rec, Nat.gcd_comm], Nat.mod_lt _ hpos, ?_, by omega⟩
    have hdiv : A = B * (A / B) + A % B := (Nat.div_add_mod A B).symm
    have hq : 1 ≤ A / B := (Nat.one_le_div_iff hpos).mpr (by omega)
    have hm : A % B < B := Nat.mod_lt _ hpos
    have h2 : 2 * (A % B) ≤ A := by
      have := Nat.mul_le_mul_left B hq
      omega
    have h3 : B * (A % B) * 2 ^ (i + 1) ≤ A * B * 2 ^ i := by
      rw [Nat.pow_succ, Nat.mul_comm (2 ^ i) 2, ← Nat.mul_assoc]
      apply Nat.mul_le_mul_right
      rw [Nat.mul_assoc, Nat.mul_comm (A % B) 2, Nat.mul_comm A B]
      exact Nat.mul_le_mul_left B h2
    exact Nat.le_trans h3 g3
theorem euc_end {a b : Nat} (hab : a ≤ b) (hb : 0 < b) (hbb : b ≤ 100000000) : ∃ i, i < 60 ∧ (euc i (a, b)).2 = 0 ∧ (∀ j, j < i → 0 < (euc j (a, b)).2) ∧ (euc i (a, b)).1 = Nat.gcd a b ∧ (∀ j, j ≤ i → (euc j (a, b)).1 ≤ b ∧ (euc j (a, b)).2 ≤ b) := by
  have hex : ∃ i, i < 60 ∧ (euc i (a, b)).2 = 0 := by
    apply Classical.byContradiction
    intro hne
    have hall : ∀ j, j ≤ 59 → 0 < (euc j (a, b)).2 := by
      intro j hj
      rcases Nat.eq_zero_or_pos (euc j (a, b)).2 with e | e
      · exact absurd ⟨j, by omega, e⟩ hne
      · exact e
    obtain ⟨-, g2, g3, -⟩ := euc_inv hab 58 (fun j hj => hall j (by omega))
    have hp := hall 59 (Nat.le_refl _)
    have h1 : 1 ≤ (euc (58 + 1) (a, b)).1 * (euc (58 + 1) (a, b)).2 := Nat.mul_pos (by omega) hp
    have h2 : 1 * 2 ^ 58 ≤ (euc (58 + 1) (a, b)).1 * (euc (58 + 1) (a, b)).2 * 2 ^ 58 := Nat.mul_le_mul_right _ h1
    have h3 : b * b ≤ 100000000 * 100000000 := Nat.mul_le_mul hbb hbb
    have h4 : (1 : Nat) * 2 ^ 58 ≤ 100000000 * 100000000 := Nat.le_trans h2 (Nat.le_trans g3 h3)
    exact absurd h4 (by decide)
  obtain ⟨i, hi, hmin⟩ := pk_least (fun i => i < 60 ∧ (euc i (a, b)).2 = 0) hex
  have hpos : ∀ j, j < i → 0 < (euc j (a, b)).2 := by
    intro j hj
    rcases Nat.eq_zero_or_pos (euc j (a, b)).2 with e | e
    · exact absurd ⟨by omega, e⟩ (hmin j hj)
    · exact e
  have hbd : ∀ j, j ≤ i → (euc j (a, b)).1 ≤ b ∧ (euc j (a, b)).2 ≤ b := by
    intro j hj
    cases j with
    | zero => exact ⟨hab, Nat.le_refl _⟩
    | succ j =>
      obtain ⟨-, g2, -, g4⟩ := euc_inv hab j (fun l hl => hpos l (by omega))
      exact ⟨g4, by omega⟩
  refine ⟨i, hi.1, hi.2, hpos, ?_, hbd⟩
  cases i with
  | zero => have : b = 0 := hi.2
            omega
  | succ i =>
    obtain ⟨g1, -, -, -⟩ := euc_inv hab i (fun j hj => hpos j (by omega))
    rw [hi.2, Nat.gcd_zero_right] at g1
    exact g1
