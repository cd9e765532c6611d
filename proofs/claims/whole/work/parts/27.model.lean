/-! the reference's heap: a row of 38 -/
def Hr (f : Nat → Int32) (h : HS) : Prop :=
  f 0 = nI (hsN h) ∧ (∀ t, t < hsN h → f (6 + t) = nI (hsK h t) ∧ f (14 + t) = nI (hsS h t) ∧ f (22 + t) = nI (hsW h t) ∧ f (30 + t) = nI (hsP h t)) ∧
  f 4 = nI (hsL h) ∧ f 5 = nI (hsO h) ∧ f 2 = nI (hsV h) ∧ f 3 = nI (hsM h)
theorem Hr.ext {f : Nat → Int32} {h g : HS} (H : Hr f h) (e : eqH h g) : Hr f g := by
  obtain ⟨e0, e1, e2, e3, e4, e5⟩ := e
  refine ⟨by rw [← e0]; exact H.1, fun t ht => ?_, by rw [← e2]; exact H.2.2.1, by rw [← e3]; exact H.2.2.2.1, by rw [← e4]; exact H.2.2.2.2.1, by rw [← e5]; exact H.2.2.2.2.2⟩
  have ht' : t < hsN h := by rw [e0]; exact ht
  obtain ⟨a1, a2, a3, a4⟩ := H.2.1 t ht'
  obtain ⟨c1, c2, c3, c4⟩ := e1 t ht'
  exact ⟨by rw [← c1]; exact a1, by rw [← c2]; exact a2, by rw [← c3]; exact a3, by rw [← c4]; exact a4⟩
theorem Hr.kept {f g : Nat → Int32} {h : HS} (H : Hr f h) (hn : hsN h ≤ 8) (e : ∀ k, k < 38 → k ≠ 1 → g k = f k) : Hr g h :=
  ⟨by rw [e 0 (by decide) (by decide)]; exact H.1, fun t ht => by rw [e (6 + t) (by omega) (by omega), e (14 + t) (by omega) (by omega), e (22 + t) (by omega) (by omega), e (30 + t) (by omega) (by omega)]; exact H.2.1 t ht,
    by rw [e 4 (by decide) (by decide)]; exact H.2.2.1, by rw [e 5 (by decide) (by decide)]; exact H.2.2.2.1, by rw [e 2 (by decide) (by decide)]; exact H.2.2.2.2.1, by rw [e 3 (by decide) (by decide)]; exact H.2.2.2.2.2⟩
theorem l0 : (0 : Int32) = nI 0 := rfl
theorem l1 : (1 : Int32) = nI 1 := rfl
theorem l2 : (2 : Int32) = nI 2 := rfl
theorem l3 : (3 : Int32) = nI 3 := rfl
theorem l4 : (4 : Int32) = nI 4 := rfl
theorem l5 : (5 : Int32) = nI 5 := rfl
theorem l6 : (6 : Int32) = nI 6 := rfl
theorem l14 : (14 : Int32) = nI 14 := rfl
theorem l22 : (22 : Int32) = nI 22 := rfl
theorem l30 : (30 : Int32) = nI 30 := rfl
theorem e_gz {α : Type} {i n : Nat} {k : Option α} (h : i < n) (hn : n < 2147483648) : zgd (zin (nI i) n) k = k := e_gd' (e_zint h hn) k
section MR
variable {mem : ZM} {t : Nat} {h : HS}
theorem m_has {a : Nat} (ha : a < 256) (ht : t < 8) : fX7_has (nI a) (nI t) = some (bI (a.testBit t)) := by
  unfold fX7_has
  exact c_bit ha ht rfl
theorem m_burns : ∀ k, k < 6 → fX7_burns (nI k) = some (nI (burnsN k)) := by decide +kernel
theorem m_smokes : ∀ k, k < 6 → fX7_smokes (nI k) = some (nI (smokesN k)) := by decide +kernel
theorem m_th_b (H : Hr (mem 62) h) (hn : hsN h ≤ 8) {i : Nat} (hi : i < hsN h) (x : Int32) : fX7_thingIn_b2 x mem (nI i) = if nI (hsP h i) = x then some (Sum.inr (Sum.inr (nI i))) else some (Sum.inl (nI (i + 1))) := by
  unfold fX7_thingIn_b2
  simp (disch := omega) only [l0, l30, nI_add, nI_1, e_let, e_gz, e_cl, H.1, if_neg (nI_le_f hn hi), (H.2.1 i hi).2.2.2]
theorem m_th_e (H : Hr (mem 62) h) (hn : hsN h ≤ 8) (x : Int32) : fX7_thingIn_b2 x mem (nI (hsN h)) = some (Sum.inr (Sum.inl (nI (hsN h)))) := by
  unfold fX7_thingIn_b2
  simp (disch := omega) only [l0, e_gz, e_cl, H.1]
  rw [if_pos (by rw [e_le0 (by omega) (by omega)]; exact Nat.le_refl _)]
theorem m_th_no (H : Hr (mem 62) h) (hn : hsN h ≤ 8) {x : Int32} (hx : ∀ t, t < hsN h → nI (hsP h t) ≠ x) : fX7_thingIn x mem = some (-1) := by
  unfold fX7_thingIn fX7_thingIn_l2
  rw [e_let, l0, zi_seq (body := fun s => fX7_thingIn_b2 x mem s) (fun i => nI i) (Sum.inl (nI (hsN h))) (hsN h) 2000 0 (Nat.zero_le _) (by omega) (fun i _ hi => by rw [m_th_b H hn hi x, if_neg (hx i hi)]) (m_th_e H hn x), e_bd]
  rfl
theorem m_th_yes (H : Hr (mem 62) h) (ok : okH h) (ht : t < hsN h) : fX7_thingIn (nI (hsP h t)) mem = some (nI t) := by
  have hn := ok.1
  unfold fX7_thingIn fX7_thingIn_l2
  have hne : ∀ i, i < t → ¬ nI (hsP h i) = nI (hsP h t) := by
    intro i hi e
    have h1 := (ok.2.1 i (by omega)).2.2.2
    have h2 := (ok.2.1 t ht).2.2.2
    rw [e_eq0 (by omega) (by omega)] at e
    have := ok.2.2.1 i t (by omega) ht e
    omega
  rw [e_let, l0, zi_seq (body := fun s => fX7_thingIn_b2 (nI (hsP h t)) mem s) (fun i => nI i) (Sum.inr (nI t)) t 2000 0 (Nat.zero_le _) (by omega) (fun i _ hi => by rw [m_th_b H hn (by omega) _, if_neg (hne i hi)]) (by rw [m_th_b H hn ht _, if_pos rfl]), e_bd]
  rfl
/-- at a place given as an int: is there one of the set that f says -/
def atI (s : Nat) (x : Int32) : Bool := decide (0 ≤ x) && s.testBit x.toNatClampNeg
theorem atI_n (s : Nat) {w : Nat} (hw : w < 2147483648) : atI s (nI w) = s.testBit w := by
  unfold atI
  rw [e_cl hw, decide_eq_true (nI_pos' hw), Bool.true_and]
theorem atI_neg (s : Nat) {x : Int32} (hx : x < 0) : atI s x = false := by
  unfold atI
  rw [decide_eq_false (by rw [e_le, e_lt] at *; omega), Bool.false_and]
theorem pls_at (ok : okH h) (f : Nat → Bool) (ht : t < hsN h) : (pls (hsP h) f (hsN h)).testBit (hsP h t) = f t := by
  rw [pls_tb]
  cases hf : f t
  · cases ha : anyb (fun u => f u && decide (hsP h u = hsP h t)) (hsN h)
    · rfl
    · obtain ⟨u, hu, h2⟩ := (anyb_iff _ _).mp ha
      simp only [Bool.and_eq_true, decide_eq_true_eq] at h2
      have := ok.2.2.1 u t hu ht h2.2
      subst this
      rw [hf] at h2; cases h2.1
  · exact (anyb_iff _ _).mpr ⟨t, ht, by rw [hf, decide_eq_true rfl]; rfl⟩
theorem pls_no (f : Nat → Bool) {x : Int32} (hx : ∀ t, t < hsN h → nI (hsP h t) ≠ x) : atI (pls (hsP h) f (hsN h)) x = false := by
  by_cases h0 : x < 0
  · exact atI_neg _ h0
  · obtain ⟨w, hw, rfl⟩ := nI_of h0
    rw [atI_n _ hw, pls_tb]
    cases ha : anyb (fun u => f u && decide (hsP h u = w)) (hsN h)
    · rfl
    · obtain ⟨u, hu, h2⟩ := (anyb_iff _ _).mp ha
      simp only [Bool.and_eq_true, decide_eq_true_eq] at h2
      exact absurd (by rw [h2.2]) (hx u hu)
theorem place_or (h : HS) (x : Int32) : (∃ t, t < hsN h ∧ nI (hsP h t) = x) ∨ (∀ t, t < hsN h → nI (hsP h t) ≠ x) := by
  by_cases hx : ∃ t, t < hsN h ∧ nI (hsP h t) = x
  · exact Or.inl hx
  · exact Or.inr (fun t ht e => hx ⟨t, ht, e⟩)
theorem nI_n0 {t : Nat} (h : t < 2147483648) : ¬ nI t < 0 := nI_pos h
theorem m_isLitIn (H : Hr (mem 62) h) (ok : okH h) (x : Int32) : fX7_isLitIn x mem = some (bI (atI (fireS h) x)) := by
  have hn := ok.1
  have hL := ok.L
  unfold fX7_isLitIn
  rcases place_or h x with ⟨t, ht, rfl⟩ | hx
  · have hp := (ok.2.1 t ht).2.2.2
    rw [m_th_yes H ok ht, e_bd, e_let, if_neg (nI_n0 (by omega))]
    simp (disch := omega) only [l4, e_gz, e_cl, H.2.2.1, m_has hL (ok.t8 ht), e_bd, bI_0]
    rw [atI_n _ (by omega)]
    unfold fireS
    rw [pls_at ok _ ht]
    cases (hsL h).testBit t <;> rfl
  · rw [m_th_no H hn hx, e_bd, e_let, if_pos (by decide)]
    unfold fireS
    rw [pls_no _ hx]; rfl
theorem nI_m1 {p : Nat} (hp : 0 < p) : nI p - 1 = nI (p - 1) := by
  rw [l1, pk_sub (by omega)]
theorem m_litBeside (H : Hr (mem 62) h) (ok : okH h) {p : Nat} (hp : p < 8) : fX7_litBeside (nI p) mem = some (nI (lbN (fireS h) p)) := by
  unfold fX7_litBeside fX7_litBeside_j15
  simp only [m_isLitIn H ok, e_bd, bI_0, nI_1]
  rw [atI_n _ (by omega)]
  have e : atI (fireS h) (nI p - 1) = (decide (0 < p) && (fireS h).testBit (p - 1)) := by
    by_cases h0 : 0 < p
    · rw [nI_m1 h0, atI_n _ (by omega), decide_eq_true h0, Bool.true_and]
    · have : p = 0 := by omega
      subst this
      rw [atI_neg _ (by decide)]; rfl
  rw [e]
  unfold lbN
  cases (decide (0 < p) && (fireS h).testBit (p - 1)) <;> cases (fireS h).testBit (p + 1) <;> rfl
theorem m_isHotIn (H : Hr (mem 62) h) (ok : okH h) (x : Int32) : fX7_isHotIn x mem = some (bI (atI (hotS h) x)) := by
  have hn := ok.1
  have hO := ok.O
  unfold fX7_isHotIn
  rcases place_or h x with ⟨t, ht, rfl⟩ | hx
  · obtain ⟨hk, -, -, hp⟩ := ok.2.1 t ht
    have hlb := lbN_le (fireS h) (hsP h t)
    rw [m_th_yes H ok ht, e_bd, e_let, if_neg (nI_n0 (by omega))]
    simp (disch := omega) only [l5, l6, l0, nI_add, e_gz, e_cl, (H.2.1 t ht).1, H.2.2.2.1, m_has hO (ok.t8 ht), e_bd, m_litBeside H ok (show hsP h t < 8 by omega), e_eq0, e_le0]
    rw [atI_n _ (by omega)]
    unfold hotS
    rw [pls_at ok _ ht]
    unfold hotf
    simp only [show nI 0 = (0 : Int32) from rfl, bI_0]
    by_cases h1 : hsK h t = 5 <;> cases h2 : (hsO h).testBit t <;> by_cases h3 : 0 < lbN (fireS h) (hsP h t) <;> simp [h1, h2, h3, bI]
    all_goals omega
  · rw [m_th_no H hn hx, e_bd, e_let, if_pos (by decide)]
    unfold hotS
    rw [pls_no _ hx]; rfl
theorem m_heatOf (H : Hr (mem 62) h) (ok : okH h) (ht : t < hsN h) : fX7_heatOf (nI t) mem = some (nI (heatS h t)) := by
  have hn := ok.1
  have hV := ok.2.2.2.2.2.1
  obtain ⟨hk, -, -, hp⟩ := ok.2.1 t ht
  have hp8 : hsP h t < 8 := by omega
  unfold fX7_heatOf
  simp (disch := omega) only [l30, l2, nI_add, e_gz, e_cl, e_let, (H.2.1 t ht).2.2.2, H.2.2.2.2.1]
  have hfar : ∀ (k : Int32), atI (fireS h) k = decide (0 < farN (hsV h) (fireS h) (hsP h t)) → fX7_heatOf_j29 (nI t) (nI (hsP h t)) k mem = some (nI (heatS h t)) := by
    intro k hk
    have hb := e_bes
    unfold fX7_heatOf_j29 fX7_heatOf_j50 fX7_heatOf_j66 fX7_heatOf_j82
    simp only [e_let, m_litBeside H ok hp8, e_bd, m_isLitIn H ok, m_isHotIn H ok, bI_0, hk]
    rw [nI_1, atI_n _ (show hsP h t + 1 < 2147483648 by omega)]
    have e : atI (hotS h) (nI (hsP h t) - 1) = (decide (0 < hsP h t) && (hotS h).testBit (hsP h t - 1)) := by
      by_cases h0 : 0 < hsP h t
      · rw [nI_m1 h0, atI_n _ (by omega), decide_eq_true h0, Bool.true_and]
      · have h00 : hsP h t = 0 := by omega
        rw [h00, atI_neg _ (by decide)]; rfl
    rw [e]
    simp (disch := omega) only [l5, e_gz, e_cl, H.2.2.2.1, m_has ok.O (ok.t8 ht), e_bd, bI_0]
    have hfl := farN_le (hsV h) (fireS h) (hsP h t)
    unfold heatS heatN
    rw [show lbN (hotS h) (hsP h t) = (if (decide (0 < hsP h t) && (hotS h).testBit (hsP h t - 1)) = true then 1 else 0) + (if (hotS h).testBit (hsP h t + 1) = true then 1 else 0) from rfl]
    generalize lbN (fireS h) (hsP h t) = A
    generalize farN (hsV h) (fireS h) (hsP h t) = F at hfl ⊢
    rw [show (2 : Int32) = nI 2 from rfl, pk_mul]
    cases (hsO h).testBit t
    · by_cases hF : 0 < F
      · have : F = 1 := by omega
        subst this
        cases (decide (0 < hsP h t) && (hotS h).testBit (hsP h t - 1)) <;> cases (hotS h).testBit (hsP h t + 1) <;> simp [l0, l1, nI_add]
      · have : F = 0 := by omega
        subst this
        cases (decide (0 < hsP h t) && (hotS h).testBit (hsP h t - 1)) <;> cases (hotS h).testBit (hsP h t + 1) <;> simp [l0, l1, nI_add]
    · by_cases hF : 0 < F <;> cases (decide (0 < hsP h t) && (hotS h).testBit (hsP h t - 1)) <;> cases (hotS h).testBit (hsP h t + 1) <;> simp [hF, l0]
  by_cases hv : hsV h = 1
  · rw [if_pos (by rw [hv]; rfl)]
    apply hfar
    unfold farN
    rw [if_pos hv]
    by_cases h2 : 2 ≤ hsP h t
    · rw [pk_sub h2, atI_n _ (by omega)]
      cases (fireS h).testBit (hsP h t - 2) <;> simp [h2]
    · have hneg : nI (hsP h t) - nI 2 < 0 := pk_sneg (by omega) (by omega)
      rw [atI_neg _ hneg]
      simp [h2]
  · have hv0 : hsV h = 0 := by omega
    rw [if_neg (by rw [hv0]; decide)]
    apply hfar
    unfold farN
    rw [if_neg hv, atI_n _ (by omega)]
    cases (fireS h).testBit (hsP h t + 2) <;> simp
end MR
