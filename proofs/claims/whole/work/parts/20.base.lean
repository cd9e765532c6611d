/-! numbers -/
theorem e_lt (a b : Int32) : a < b ↔ a.toInt < b.toInt := Int32.lt_iff_toInt_lt
theorem e_le (a b : Int32) : a ≤ b ↔ a.toInt ≤ b.toInt := Int32.le_iff_toInt_le
theorem e_eq (a b : Int32) : a = b ↔ a.toInt = b.toInt := Int32.toInt_inj.symm
theorem e_le0 {a b : Nat} (ha : a < 2147483648) (hb : b < 2147483648) : (nI a ≤ nI b) = (a ≤ b) := propext (nI_leI ha hb)
theorem e_lt0 {a b : Nat} (ha : a < 2147483648) (hb : b < 2147483648) : (nI a < nI b) = (a < b) := propext (nI_ltI ha hb)
theorem e_eq0 {a b : Nat} (ha : a < 2147483648) (hb : b < 2147483648) : (nI a = nI b) = (a = b) := propext (nI_eq ha hb)
theorem e_cl {n : Nat} (h : n < 2147483648) : (nI n).toNatClampNeg = n := nI_clamp h
theorem e_zin {i n : Nat} (hi : i < 2147483648) : zin (nI i) n = decide (i < n) := by
  unfold zin
  have h0 : decide ((0 : Int32) ≤ nI i) = true := decide_eq_true (nI_pos' hi)
  rw [e_cl hi, h0, Bool.true_and]
theorem e_zint {i n : Nat} (hi : i < n) (hn : n < 2147483648) : zin (nI i) n = true := by
  rw [e_zin (by omega)]
  exact decide_eq_true hi
theorem e_gd {α : Type} (k : Option α) : zgd true k = k := rfl
theorem e_gd' {α : Type} {b : Bool} (h : b = true) (k : Option α) : zgd b k = k := by subst h; rfl
theorem e_bd {α β : Type} (a : α) (k : α → Option β) : Option.bind (some a) k = k a := rfl
theorem e_let {α β : Type} (e : α) (k : α → β) : zlet e k = k e := rfl
theorem e_up (mem : ZM) (c : Nat) (g : Nat → Int32) : zup mem c g c = g := by unfold zup; rw [if_pos rfl]
theorem e_upn {mem : ZM} {c d : Nat} {g : Nat → Int32} (h : d ≠ c) : zup mem c g d = mem d := by unfold zup; rw [if_neg h]
theorem e_st (mem : ZM) (c k : Nat) (v : Int32) : zst mem c k v c k = v := by unfold zst; rw [e_up]; unfold upd; rw [if_pos rfl]
theorem e_stk {mem : ZM} {c k j : Nat} {v : Int32} (h : j ≠ k) : zst mem c k v c j = mem c j := by unfold zst; rw [e_up]; unfold upd; rw [if_neg h]
theorem e_stn {mem : ZM} {c k d : Nat} {v : Int32} (h : d ≠ c) : zst mem c k v d = mem d := by unfold zst; rw [e_upn h]
theorem e_sta (mem : ZM) (c k : Nat) (v : Int32) (d j : Nat) : zst mem c k v d j = if d = c then (if j = k then v else mem d j) else mem d j := by
  by_cases h : d = c
  · subst h
    rw [if_pos rfl]
    by_cases h2 : j = k
    · subst h2; rw [if_pos rfl, e_st]
    · rw [if_neg h2, e_stk h2]
  · rw [if_neg h, e_stn h]
/-! loops -/
theorem zi_seq {σ ρ : Type} {body : σ → Option (σ ⊕ ρ)} (S : Nat → σ) (r : ρ) (k : Nat) : ∀ (N j : Nat), j ≤ k → k - j < N → (∀ i, j ≤ i → i < k → body (S i) = some (.inl (S (i + 1)))) → body (S k) = some (.inr r) → ziter body N (S j) = some r := by
  intro N
  induction N with
  | zero => intro j _ h; omega
  | succ N ih =>
    intro j hj hN hs he
    unfold ziter
    by_cases h : j = k
    · subst h; rw [he]; rfl
    · rw [hs j (Nat.le_refl j) (by omega)]
      exact ih (j + 1) (by omega) (by omega) (fun i h1 h2 => hs i (by omega) h2) he
theorem zi_inv {σ ρ : Type} {body : σ → Option (σ ⊕ ρ)} (Inv : Nat → σ → Prop) (Post : ρ → Prop) (k : Nat)
    (step : ∀ i s, i < k → Inv i s → (∃ s', body s = some (.inl s') ∧ Inv (i + 1) s') ∨ (∃ r, body s = some (.inr r) ∧ Post r))
    (fin : ∀ s, Inv k s → ∃ r, body s = some (.inr r) ∧ Post r) :
    ∀ (N i : Nat) (s : σ), i ≤ k → k - i < N → Inv i s → ∃ r, ziter body N s = some r ∧ Post r := by
  intro N
  induction N with
  | zero => intro i s _ h; omega
  | succ N ih =>
    intro i s hi hN hI
    unfold ziter
    by_cases h : i = k
    · subst h
      obtain ⟨r, e, hp⟩ := fin s hI
      rw [e]; exact ⟨r, rfl, hp⟩
    · rcases step i s (by omega) hI with ⟨s', e, h'⟩ | ⟨r, e, hp⟩
      · rw [e]; exact ih (i + 1) s' (by omega) (by omega) h'
      · rw [e]; exact ⟨r, rfl, hp⟩
/-! sets of at most eight, as bits -/
theorem e_bit : ∀ a, a < 256 → ∀ t, t < 8 → (((nI a >>> (nI t &&& 31)) &&& 1) = 1 ↔ a.testBit t = true) := by decide +kernel
theorem e_set : ∀ a, a < 256 → ∀ t, t < 8 → nI a ||| ((1 : Int32) <<< (nI t &&& 31)) = nI (a ||| 2 ^ t) := by decide +kernel
theorem e_clr : ∀ a, a < 256 → ∀ t, t < 8 → nI a &&& (((1 : Int32) <<< (nI t &&& 31)) ^^^ (-1)) = nI (a &&& (255 ^^^ 2 ^ t)) := by decide +kernel
/-- how many bits, of at most eight -/
def pop (a : Nat) : Nat := a % 2 + a / 2 % 2 + a / 4 % 2 + a / 8 % 2 + a / 16 % 2 + a / 32 % 2 + a / 64 % 2 + a / 128 % 2
theorem e_pop : ∀ a, a < 256 → fJ6_bitCount_0f7a4 (nI a) = some (nI (pop a)) := by decide +kernel
theorem e_ones : ∀ a, a < 256 → fX7_ones (nI a) = some (nI (pop a)) := by decide +kernel
/-- the set of those that f says, below n -/
def mkb (f : Nat → Bool) : Nat → Nat
  | 0 => 0
  | n + 1 => if f n then mkb f n ||| 2 ^ n else mkb f n
theorem mkb_lt (f : Nat → Bool) : ∀ n, mkb f n < 2 ^ n
  | 0 => Nat.one_pos
  | n + 1 => by
    have h := mkb_lt f n
    unfold mkb
    split
    · exact Nat.or_lt_two_pow (Nat.lt_trans h (Nat.pow_lt_pow_right (by decide) (Nat.lt_succ_self n))) (Nat.pow_lt_pow_right (by decide) (Nat.lt_succ_self n))
    · exact Nat.lt_trans h (Nat.pow_lt_pow_right (by decide) (Nat.lt_succ_self n))
theorem mkb_tb (f : Nat → Bool) (n t : Nat) : (mkb f n).testBit t = (decide (t < n) && f t) := by
  induction n with
  | zero => simp [mkb]
  | succ n ih =>
    unfold mkb
    by_cases hf : f n = true
    · rw [if_pos hf, Nat.testBit_or, ih, Nat.testBit_two_pow]
      by_cases h : t = n
      · subst h; simp [hf]
      · have h1 : decide (t < n + 1) = decide (t < n) := by simp; omega
        have h2 : decide (n = t) = false := by simp; omega
        rw [h1, h2, Bool.or_false]
    · rw [if_neg hf, ih]
      by_cases h : t = n
      · subst h; simp [hf]
      · have h1 : decide (t < n + 1) = decide (t < n) := by simp; omega
        rw [h1]
theorem pow_le256 {n : Nat} (h : n ≤ 8) : 2 ^ n ≤ 256 := by
  have := Nat.pow_le_pow_right (n := 2) (by decide) h
  simpa using this
theorem mkb_256 (f : Nat → Bool) {n : Nat} (h : n ≤ 8) : mkb f n < 256 := Nat.lt_of_lt_of_le (mkb_lt f n) (pow_le256 h)
theorem mkb_cong {f g : Nat → Bool} : ∀ {n : Nat}, (∀ t, t < n → f t = g t) → mkb f n = mkb g n
  | 0, _ => rfl
  | n + 1, h => by
    unfold mkb
    rw [h n (Nat.lt_succ_self n), mkb_cong (fun t ht => h t (by omega))]
/-- a set is what its bits are -/
theorem tb_ext {a b n : Nat} (ha : a < 2 ^ n) (hb : b < 2 ^ n) (h : ∀ t, t < n → a.testBit t = b.testBit t) : a = b := by
  apply Nat.eq_of_testBit_eq
  intro t
  by_cases ht : t < n
  · exact h t ht
  · have h1 : 2 ^ n ≤ 2 ^ t := Nat.pow_le_pow_right (by decide) (by omega)
    rw [Nat.testBit_lt_two_pow (by omega), Nat.testBit_lt_two_pow (by omega)]
theorem tb_big {a n t : Nat} (ha : a < 2 ^ n) (ht : n ≤ t) : a.testBit t = false := by
  have h1 : 2 ^ n ≤ 2 ^ t := Nat.pow_le_pow_right (by decide) ht
  exact Nat.testBit_lt_two_pow (by omega)
theorem mkb_self {a n : Nat} (ha : a < 2 ^ n) : mkb (fun t => a.testBit t) n = a := tb_ext (mkb_lt _ n) ha (fun t ht => by rw [mkb_tb]; simp [ht])
theorem tb_clr : ∀ a, a < 256 → ∀ t, t < 8 → ∀ s, s < 8 → (a &&& (255 ^^^ 2 ^ t)).testBit s = (a.testBit s && !decide (s = t)) := by decide +kernel
theorem clr_lt {a n : Nat} (t : Nat) (ha : a < 2 ^ n) : a &&& (255 ^^^ 2 ^ t) < 2 ^ n := Nat.lt_of_le_of_lt Nat.and_le_left ha
theorem set_lt {a n t : Nat} (ha : a < 2 ^ n) (ht : t < n) : a ||| 2 ^ t < 2 ^ n := Nat.or_lt_two_pow ha (Nat.pow_lt_pow_right (by decide) ht)
theorem tb_set (a t s : Nat) : (a ||| 2 ^ t).testBit s = (a.testBit s || decide (s = t)) := by
  rw [Nat.testBit_or, Nat.testBit_two_pow]
  have h : decide (t = s) = decide (s = t) := by simp only [eq_comm]
  rw [h]
