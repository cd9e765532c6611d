/-! heat, by the places that are lit -/
def anyb (f : Nat → Bool) : Nat → Bool
  | 0 => false
  | n + 1 => anyb f n || f n
theorem anyb_iff (f : Nat → Bool) (n : Nat) : anyb f n = true ↔ ∃ t, t < n ∧ f t = true := by
  induction n with
  | zero => simp [anyb]
  | succ n ih =>
    unfold anyb
    rw [Bool.or_eq_true, ih]
    constructor
    · rintro (⟨t, h1, h2⟩ | h)
      · exact ⟨t, by omega, h2⟩
      · exact ⟨n, by omega, h⟩
    · rintro ⟨t, h1, h2⟩
      by_cases e : t = n
      · subst e; exact Or.inr h2
      · exact Or.inl ⟨t, by omega, h2⟩
/-- a set of places -/
def pls (P : Nat → Nat) (f : Nat → Bool) : Nat → Nat
  | 0 => 0
  | n + 1 => if f n then pls P f n ||| 2 ^ P n else pls P f n
theorem pls_lt {P : Nat → Nat} {f : Nat → Bool} {N : Nat} : ∀ n, (∀ t, t < n → P t < N) → pls P f n < 2 ^ N
  | 0, _ => Nat.two_pow_pos N
  | n + 1, h => by
    have ih := pls_lt (f := f) n (fun t ht => h t (by omega))
    unfold pls
    split
    · exact set_lt ih (h n (by omega))
    · exact ih
theorem pls_tb (P : Nat → Nat) (f : Nat → Bool) (n w : Nat) : (pls P f n).testBit w = anyb (fun t => f t && decide (P t = w)) n := by
  induction n with
  | zero => simp [pls, anyb]
  | succ n ih =>
    unfold pls anyb
    by_cases hf : f n = true
    · rw [if_pos hf, tb_set, ih, hf, Bool.true_and]
      congr 1
      simp only [eq_comm]
    · rw [if_neg hf, ih]
      simp [hf]
/-- lit places, and places of hot iron -/
def fireS (h : HS) : Nat := pls (hsP h) (fun t => (hsL h).testBit t) (hsN h)
def besN (p : Nat) : Nat := 2 ^ (p + 1) ||| 2 ^ p / 2
def lbN (f p : Nat) : Nat := (if (decide (0 < p) && f.testBit (p - 1)) = true then 1 else 0) + (if f.testBit (p + 1) = true then 1 else 0)
def hotf (h : HS) (fire t : Nat) : Bool := decide (hsK h t = 5) && !(hsO h).testBit t && decide (0 < lbN fire (hsP h t))
def hotS (h : HS) : Nat := pls (hsP h) (hotf h (fireS h)) (hsN h)
def farN (v f p : Nat) : Nat := if v = 1 then (if (decide (2 ≤ p) && f.testBit (p - 2)) = true then 1 else 0) else (if f.testBit (p + 2) = true then 1 else 0)
def heatN (v f g p : Nat) : Nat := 2 * lbN f p + farN v f p + lbN g p
def heatS (h : HS) (t : Nat) : Nat := if (hsO h).testBit t = true then 0 else heatN (hsV h) (fireS h) (hotS h) (hsP h t)
theorem lbN_le (f p : Nat) : lbN f p ≤ 2 := by unfold lbN; split <;> split <;> omega
theorem farN_le (v f p : Nat) : farN v f p ≤ 1 := by unfold farN; split <;> split <;> omega
theorem heatN_le (v f g p : Nat) : heatN v f g p ≤ 7 := by
  have := lbN_le f p; have := lbN_le g p; have := farN_le v f p
  unfold heatN; omega
theorem heatS_le (h : HS) (t : Nat) : heatS h t ≤ 7 := by unfold heatS; split; omega; exact heatN_le _ _ _ _
theorem e_bes : ∀ p, p < 8 → (((1 : Int32) <<< (nI p &&& 31)) <<< ((1 : Int32) &&& 31)) ||| (((1 : Int32) <<< (nI p &&& 31)) >>> ((1 : Int32) &&& 31)) = nI (besN p) := by decide +kernel
theorem e_and (a b : Nat) : nI a &&& nI b = nI (a &&& b) := by
  apply Int32.toBitVec_inj.mp
  show BitVec.ofNat 32 a &&& BitVec.ofNat 32 b = BitVec.ofNat 32 (a &&& b)
  apply BitVec.eq_of_getLsbD_eq
  intro i hi
  simp [BitVec.getLsbD_and, BitVec.getLsbD_ofNat, Nat.testBit_and, hi]
theorem e_lb : ∀ f, f < 256 → ∀ p, p < 8 → pop (f &&& besN p) = lbN f p := by decide +kernel
theorem e_lb0 : ∀ f, f < 256 → ∀ p, p < 8 → (decide (f &&& besN p = 0)) = !decide (0 < lbN f p) := by decide +kernel
theorem e_w1 : ∀ f, f < 256 → ∀ p, p < 8 → (if (nI f &&& (((1 : Int32) <<< (nI p &&& 31)) >>> ((2 : Int32) &&& 31))) = 0 then (0 : Int32) else 1) = nI (farN 1 f p) := by decide +kernel
theorem e_w0 : ∀ f, f < 256 → ∀ p, p < 8 → (if (nI f &&& (((1 : Int32) <<< (nI p &&& 31)) <<< ((2 : Int32) &&& 31))) = 0 then (0 : Int32) else 1) = nI (farN 0 f p) := by decide +kernel
section CH
variable {mem : ZM} {b t : Nat} {h : HS}
theorem c_beside {p : Nat} (hp : p < 8) : fX3_placesBeside (nI p) = some (nI (besN p)) := by
  unfold fX3_placesBeside
  rw [e_bes p hp]
theorem c_heat41 {f g p : Nat} {k : Int32} (hf : f < 256) (hg : g < 256) (hp : p < 8) {q : Nat} (hk : k = nI q) : fX3_heatAt_j41 b (nI f) (nI g) (nI (besN p)) k mem = some (nI (2 * lbN f p + q + lbN g p)) := by
  subst hk
  unfold fX3_heatAt_j41
  have h1 : f &&& besN p < 256 := Nat.lt_of_le_of_lt Nat.and_le_left hf
  have h2 : g &&& besN p < 256 := Nat.lt_of_le_of_lt Nat.and_le_left hg
  rw [e_let, e_and, e_and, e_pop _ h1, e_pop _ h2, e_bd, e_bd, e_lb f hf p hp, e_lb g hg p hp, show (2 : Int32) = nI 2 from rfl, pk_mul, nI_add, nI_add]
theorem c_heat27 {f g p : Nat} {k : Int32} (hf : f < 256) (hg : g < 256) (hp : p < 8) {q : Nat} (hk : (if (nI f &&& k) = 0 then (0 : Int32) else 1) = nI q) : fX3_heatAt_j27 b (nI f) (nI g) (nI (besN p)) k mem = some (nI (2 * lbN f p + q + lbN g p)) := by
  unfold fX3_heatAt_j27
  rw [e_let]
  by_cases hz : (nI f &&& k) = 0
  · rw [if_pos hz] at hk ⊢
    exact c_heat41 hf hg hp hk
  · rw [if_neg hz] at hk ⊢
    exact c_heat41 hf hg hp hk
theorem c_heatAt (H : Hc mem b h) (ok : okH h) {f g p : Nat} (hf : f < 256) (hg : g < 256) (hp : p < 8) : fX3_heatAt b (nI p) (nI f) (nI g) mem = some (nI (heatN (hsV h) f g p)) := by
  unfold fX3_heatAt heatN
  have hv := ok.2.2.2.2.2.1
  rw [c_beside hp, e_bd, e_let, H.2.2.2.2.1]
  by_cases h1 : hsV h = 1
  · rw [h1, if_pos (show nI 1 = 1 from rfl)]
    exact c_heat27 hf hg hp (e_w1 f hf p hp)
  · have h0 : hsV h = 0 := by omega
    rw [h0, if_neg (by decide)]
    exact c_heat27 hf hg hp (e_w0 f hf p hp)
theorem fire_lt (ok : okH h) : fireS h < 256 := Nat.lt_of_lt_of_le (pls_lt (N := hsN h) _ (fun t ht => (ok.2.1 t ht).2.2.2)) (pow_le256 ok.1)
theorem hot_lt (ok : okH h) : hotS h < 256 := Nat.lt_of_lt_of_le (pls_lt (N := hsN h) _ (fun t ht => (ok.2.1 t ht).2.2.2)) (pow_le256 ok.1)
theorem pls_256 (ok : okH h) (f : Nat → Bool) {i : Nat} (hi : i ≤ hsN h) : pls (hsP h) f i < 256 := Nat.lt_of_lt_of_le (pls_lt (N := hsN h) _ (fun t ht => (ok.2.1 t (by omega)).2.2.2)) (pow_le256 ok.1)
theorem pls_s (ok : okH h) {f : Nat → Bool} {i : Nat} (hi : i < hsN h) : f i = true → nI (pls (hsP h) f i) ||| ((1 : Int32) <<< (nI (hsP h i) &&& 31)) = nI (pls (hsP h) f (i + 1)) := by
  intro hf
  have h1 := (ok.2.1 i hi).2.2.2
  have h2 := ok.1
  rw [e_set _ (pls_256 ok f (by omega)) _ (by omega)]
  show _ = nI (if f i = true then pls (hsP h) f i ||| 2 ^ hsP h i else pls (hsP h) f i)
  rw [if_pos hf]
theorem pls_n {f : Nat → Bool} {i : Nat} {P : Nat → Nat} : f i = false → pls P f i = pls P f (i + 1) := by
  intro hf
  show _ = (if f i = true then pls P f i ||| 2 ^ P i else pls P f i)
  rw [hf]; rfl
theorem c_placesLit (H : Hc mem b h) (ok : okH h) : fX3_placesLit b mem = some (nI (fireS h)) := by
  have hn := ok.1
  have key : fX3_placesLit_l4 b mem (nI 0, nI 0) = some (nI (fireS h), nI (hsN h)) := by
    unfold fX3_placesLit_l4
    refine zi_seq (fun i => (nI (pls (hsP h) (fun t => (hsL h).testBit t) i), nI i)) _ (hsN h) 2000 0 (Nat.zero_le _) (by omega) (fun i _ hi => ?_) ?_
    · show fX3_placesLit_b4 b mem (nI (pls (hsP h) (fun t => (hsL h).testBit t) i)) (nI i) = _
      unfold fX3_placesLit_b4 fX3_placesLit_j31
      rw [H.1, if_neg (nI_le_f hn hi), c_isLit H ok hi, e_bd, e_gd' (e_zint (ok.t8 hi) (by decide)), e_cl (by omega), (H.2.1 i hi).2.2.2]
      simp only [bI_0, e_let]
      cases hf : (hsL h).testBit i
      · rw [if_pos rfl, nI_1, pls_n (f := fun t => (hsL h).testBit t) hf]
      · rw [if_neg (by decide), nI_1, pls_s (f := fun t => (hsL h).testBit t) ok hi hf]
    · show fX3_placesLit_b4 b mem _ (nI (hsN h)) = _
      unfold fX3_placesLit_b4
      rw [H.1, if_pos (by rw [e_le0 (by omega) (by omega)]; exact Nat.le_refl _)]
      rfl
  unfold fX3_placesLit
  rw [e_let, e_let, show ((0 : Int32), (0 : Int32)) = (nI 0, nI 0) from rfl, key, e_bd]
theorem c_hotIron (H : Hc mem b h) (ok : okH h) {f : Nat} (hf : f < 256) : fX3_placesOfHotIron b (nI f) mem = some (nI (pls (hsP h) (hotf h f) (hsN h))) := by
  have hn := ok.1
  have key : fX3_placesOfHotIron_l4 b (nI f) mem (nI 0, nI 0) = some (nI (pls (hsP h) (hotf h f) (hsN h)), nI (hsN h)) := by
    unfold fX3_placesOfHotIron_l4
    refine zi_seq (fun i => (nI (pls (hsP h) (hotf h f) i), nI i)) _ (hsN h) 2000 0 (Nat.zero_le _) (by omega) (fun i _ hi => ?_) ?_
    · show fX3_placesOfHotIron_b4 b (nI f) mem (nI (pls (hsP h) (hotf h f) i)) (nI i) = _
      have hp := (ok.2.1 i hi).2.2.2
      have hk := (ok.2.1 i hi).1
      unfold fX3_placesOfHotIron_b4 fX3_placesOfHotIron_j55
      rw [H.1, if_neg (nI_le_f hn hi)]
      simp only [e_gd' (e_zint (ok.t8 hi) (show 8 < 2147483648 by decide)), e_cl (show i < 2147483648 by omega), (H.2.1 i hi).1, (H.2.1 i hi).2.2.2, c_isOut H ok hi, e_bd, bI_0, c_beside (show hsP h i < 8 by omega), e_let, e_and, nI_1]
      have hz : (nI (f &&& besN (hsP h i)) = 0) = (¬ 0 < lbN f (hsP h i)) := by
        have h1 := e_lb0 f hf (hsP h i) (by omega)
        have h2 : f &&& besN (hsP h i) < 2147483648 := Nat.lt_of_le_of_lt Nat.and_le_left (by omega)
        rw [show (0 : Int32) = nI 0 from rfl, e_eq0 h2 (by decide)]
        by_cases h3 : 0 < lbN f (hsP h i)
        · simp [h3] at h1 ⊢; exact h1
        · simp [h3] at h1 ⊢; exact h1
      rw [show (5 : Int32) = nI 5 from rfl]
      simp only [hz, e_eq0 (show hsK h i < 2147483648 by omega) (show 5 < 2147483648 by decide)]
      cases hh : hotf h f i
      · rw [pls_n hh]
        unfold hotf at hh
        by_cases h1 : hsK h i = 5 <;> cases h2 : (hsO h).testBit i <;> by_cases h3 : 0 < lbN f (hsP h i) <;> simp [h1, h2, h3] at hh ⊢
      · rw [← pls_s ok hi hh]
        unfold hotf at hh
        by_cases h1 : hsK h i = 5 <;> cases h2 : (hsO h).testBit i <;> by_cases h3 : 0 < lbN f (hsP h i) <;> simp [h1, h2, h3] at hh ⊢
    · show fX3_placesOfHotIron_b4 b _ mem _ (nI (hsN h)) = _
      unfold fX3_placesOfHotIron_b4
      rw [H.1, if_pos (by rw [e_le0 (by omega) (by omega)]; exact Nat.le_refl _)]
  unfold fX3_placesOfHotIron
  rw [e_let, e_let, show ((0 : Int32), (0 : Int32)) = (nI 0, nI 0) from rfl, key, e_bd]
theorem c_heatOf (H : Hc mem b h) (ok : okH h) (ht : t < hsN h) : fX3_heatOf b (nI t) mem = some (nI (heatS h t)) := by
  unfold fX3_heatOf heatS
  have hn := ok.1
  have hp := (ok.2.1 t ht).2.2.2
  rw [c_placesLit H ok, e_bd, e_let, c_isOut H ok ht, e_bd, e_gd' (e_zint (ok.t8 ht) (by decide)), e_cl (by omega), (H.2.1 t ht).2.2.2, c_hotIron H ok (fire_lt ok), e_bd]
  rw [show pls (hsP h) (hotf h (fireS h)) (hsN h) = hotS h from rfl, c_heatAt H ok (fire_lt ok) (hot_lt ok) (by omega)]
  simp only [bI_0]
  cases (hsO h).testBit t <;> simp [nI]
end CH
