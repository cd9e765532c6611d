/-! a heap, in numbers: how many, kinds, stuff, wet, places, lit, out, wind, smoke -/
abbrev HS : Type := Nat × (Nat → Nat) × (Nat → Nat) × (Nat → Nat) × (Nat → Nat) × Nat × Nat × Nat × Nat
abbrev hsN (h : HS) : Nat := h.1
abbrev hsK (h : HS) : Nat → Nat := h.2.1
abbrev hsS (h : HS) : Nat → Nat := h.2.2.1
abbrev hsW (h : HS) : Nat → Nat := h.2.2.2.1
abbrev hsP (h : HS) : Nat → Nat := h.2.2.2.2.1
abbrev hsL (h : HS) : Nat := h.2.2.2.2.2.1
abbrev hsO (h : HS) : Nat := h.2.2.2.2.2.2.1
abbrev hsV (h : HS) : Nat := h.2.2.2.2.2.2.2.1
abbrev hsM (h : HS) : Nat := h.2.2.2.2.2.2.2.2
def okH (h : HS) : Prop :=
  hsN h ≤ 8 ∧ (∀ t, t < hsN h → (1 ≤ hsK h t ∧ hsK h t ≤ 5) ∧ hsS h t ≤ 30 ∧ hsW h t ≤ 20 ∧ hsP h t < hsN h) ∧ (∀ t u, t < hsN h → u < hsN h → hsP h t = hsP h u → t = u) ∧
  hsL h < 2 ^ hsN h ∧ hsO h < 2 ^ hsN h ∧ hsV h ≤ 1 ∧ hsM h ≤ 99999 ∧ (∀ t, t < hsN h → (hsL h).testBit t = true → hsK h t ≤ 3 ∧ 0 < hsS h t ∧ (hsO h).testBit t = false)
/-- the class's heap in the cells b .. b + 4 is h -/
def Hc (mem : ZM) (b : Nat) (h : HS) : Prop :=
  mem b 0 = nI (hsN h) ∧ (∀ t, t < hsN h → mem (b + 1) t = nI (hsK h t) ∧ mem (b + 2) t = nI (hsS h t) ∧ mem (b + 3) t = nI (hsW h t) ∧ mem (b + 4) t = nI (hsP h t)) ∧
  mem b 5 = nI (hsL h) ∧ mem b 6 = nI (hsO h) ∧ mem b 7 = nI (hsV h) ∧ mem b 8 = nI (hsM h)
def bI (x : Bool) : Int32 := if x = true then 1 else 0
theorem bI_0 (x : Bool) : (bI x = 0) = (x = false) := by cases x <;> decide
theorem bI_1 (x : Bool) : (bI x = 1) = (x = true) := by cases x <;> decide
theorem bI_bl (x : Bool) : zbl (bI x) = true := by cases x <;> decide
theorem bI_if (c : Prop) [Decidable c] : (if c then (some (1 : Int32)) else some 0) = some (bI (decide c)) := by
  by_cases h : c <;> simp [h, bI]
theorem okH.L {h : HS} (ok : okH h) : hsL h < 256 := Nat.lt_of_lt_of_le ok.2.2.2.1 (pow_le256 ok.1)
theorem okH.O {h : HS} (ok : okH h) : hsO h < 256 := Nat.lt_of_lt_of_le ok.2.2.2.2.1 (pow_le256 ok.1)
theorem okH.t8 {h : HS} (ok : okH h) {t : Nat} (ht : t < hsN h) : t < 8 := Nat.lt_of_lt_of_le ht ok.1
/-! what is asked of one thing -/
def cbS (h : HS) (t : Nat) : Bool := decide (hsK h t ≤ 3) && decide (hsS h t ≠ 0) && !(hsO h).testBit t
def mlS (h : HS) (t : Nat) : Bool := cbS h t && decide (hsW h t = 0) && !(hsL h).testBit t
section CR
variable {mem : ZM} {b t : Nat} {h : HS}
theorem c_bit {a : Nat} (ha : a < 256) (ht : t < 8) {x : Int32} (hx : x = nI a) : (if ((x >>> (nI t &&& 31)) &&& (1 : Int32)) = (1 : Int32) then (some (1 : Int32)) else some 0) = some (bI (a.testBit t)) := by
  subst hx
  rw [bI_if]
  congr 2
  have := e_bit a ha t ht
  cases hb : a.testBit t
  · exact decide_eq_false (fun e => by rw [this.mp e] at hb; cases hb)
  · exact decide_eq_true (this.mpr hb)
theorem c_isLit (H : Hc mem b h) (ok : okH h) (ht : t < hsN h) : fX3_isLit b (nI t) mem = some (bI ((hsL h).testBit t)) := by
  unfold fX3_isLit
  exact c_bit ok.L (ok.t8 ht) H.2.2.1
theorem c_isOut (H : Hc mem b h) (ok : okH h) (ht : t < hsN h) : fX3_isOut b (nI t) mem = some (bI ((hsO h).testBit t)) := by
  unfold fX3_isOut
  exact c_bit ok.O (ok.t8 ht) H.2.2.2.1
theorem c_isAsh (H : Hc mem b h) (ok : okH h) (ht : t < hsN h) : fX3_isAsh b (nI t) mem = some (bI (decide (hsS h t = 0))) := by
  unfold fX3_isAsh
  have h8 := ok.t8 ht
  have hs := (ok.2.1 t ht).2.1
  rw [e_gd' (e_zint h8 (by decide)), e_cl (by omega), (H.2.1 t ht).2.1, bI_if]
  congr 2
  rw [show (0 : Int32) = nI 0 from rfl]
  simp only [e_eq0 (show hsS h t < 2147483648 by omega) (show 0 < 2147483648 by decide)]
theorem c_kind1 : ∀ k, 1 ≤ k → k ≤ 5 → fX6_isOfKind (nI k) 1 = some (bI (decide (k ≤ 3))) := by
  have : ∀ k, k < 6 → 1 ≤ k → fX6_isOfKind (nI k) 1 = some (bI (decide (k ≤ 3))) := by decide +kernel
  exact fun k h1 h2 => this k (by omega) h1
theorem c_stuff1 : ∀ k, 1 ≤ k → k ≤ 5 → (zt1.getD k 0 ≤ (0 : Int32) ↔ ¬ k ≤ 3) := by
  have : ∀ k, k < 6 → 1 ≤ k → (zt1.getD k 0 ≤ (0 : Int32) ↔ ¬ k ≤ 3) := by decide +kernel
  exact fun k h1 h2 => this k (by omega) h1
theorem c_canBurn (H : Hc mem b h) (ok : okH h) (ht : t < hsN h) : fX3_canBurn b (nI t) mem = some (bI (cbS h t)) := by
  unfold fX3_canBurn
  have h8 := ok.t8 ht
  have hk := (ok.2.1 t ht).1
  rw [e_gd' (e_zint h8 (by decide)), e_cl (show t < 2147483648 by omega), (H.2.1 t ht).1, e_gd' (e_zint (show hsK h t < 6 by omega) (by decide)), e_cl (show hsK h t < 2147483648 by omega)]
  simp only [bI_0, c_isAsh H ok ht, c_isOut H ok ht, e_bd, c_stuff1 _ hk.1 hk.2]
  unfold cbS
  by_cases h1 : hsK h t ≤ 3 <;> by_cases h2 : hsS h t = 0 <;> cases h3 : (hsO h).testBit t <;> simp [h1, h2, bI]
theorem c_mayBeLit (H : Hc mem b h) (ok : okH h) (ht : t < hsN h) : fX3_mayBeLit b (nI t) mem = some (bI (mlS h t)) := by
  unfold fX3_mayBeLit
  have h8 := ok.t8 ht
  have hw := (ok.2.1 t ht).2.2.1
  rw [c_canBurn H ok ht, e_bd, e_gd' (e_zint h8 (by decide)), e_cl (by omega), (H.2.1 t ht).2.2.1, c_isLit H ok ht]
  simp only [bI_0, e_bd, show (0 : Int32) = nI 0 from rfl, e_eq0 (show hsW h t < 2147483648 by omega) (show 0 < 2147483648 by decide)]
  unfold mlS
  cases h1 : cbS h t <;> by_cases h2 : hsW h t = 0 <;> cases h3 : (hsL h).testBit t <;> simp [h2, bI, nI]
theorem c_hasThing (H : Hc mem b h) (ok : okH h) (x : Int32) : fX3_hasThing b x mem = some (bI (zin x (hsN h))) := by
  unfold fX3_hasThing zin
  have hn := ok.1
  rw [H.1]
  by_cases h1 : x < 0
  · have : ¬ (0 : Int32) ≤ x := by rw [e_le, e_lt] at *; omega
    simp [h1, this, bI]
  · have h2 : (0 : Int32) ≤ x := by rw [e_le, e_lt] at *; omega
    obtain ⟨j, hj, rfl⟩ := nI_of h1
    simp only [h1, h2, e_cl hj, e_le0 (show hsN h < 2147483648 by omega) hj, if_false, decide_true, Bool.true_and]
    by_cases h3 : hsN h ≤ j
    · simp [h3, bI]
    · simp [h3, bI]
theorem c_isNone (H : Hc mem b h) (ok : okH h) : fX3_isNone b mem = some (bI (decide (hsN h = 0))) := by
  unfold fX3_isNone
  have hn := ok.1
  rw [H.1, bI_if]
  congr 2
  simp only [show (0 : Int32) = nI 0 from rfl, e_eq0 (show hsN h < 2147483648 by omega) (show 0 < 2147483648 by decide)]
theorem c_all : ∀ n, n ≤ 8 → ((1 : Int32) <<< (nI n &&& 31)) - 1 = nI (2 ^ n - 1) := by
  have : ∀ n, n < 9 → ((1 : Int32) <<< (nI n &&& 31)) - 1 = nI (2 ^ n - 1) := by decide +kernel
  exact fun n h => this n (by omega)
theorem c_allThings (H : Hc mem b h) (ok : okH h) : fX3_allThings b mem = some (nI (2 ^ hsN h - 1)) := by
  unfold fX3_allThings
  rw [H.1, c_all _ ok.1]
end CR
