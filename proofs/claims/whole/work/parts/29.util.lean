/-! ranges -/
def wit (x : Int32) (a b : Int) : Bool := decide (a ≤ x.toInt) && decide (x.toInt ≤ b)
theorem c_isWithin (x a b : Int32) : fX6_isWithin x a b = some (bI (wit x a.toInt b.toInt)) := by
  unfold fX6_isWithin wit
  simp only [e_lt]
  by_cases h1 : x.toInt < a.toInt
  · rw [if_pos h1, decide_eq_false (by omega)]; rfl
  · rw [if_neg h1, decide_eq_true (show a.toInt ≤ x.toInt by omega)]
    by_cases h2 : b.toInt < x.toInt
    · rw [if_pos h2, decide_eq_false (by omega)]; rfl
    · rw [if_neg h2, decide_eq_true (show x.toInt ≤ b.toInt by omega)]; rfl
theorem m_in (x : Int32) (a b : Int64) : fX7_in x.toInt64 a b = some (bI (wit x a.toInt b.toInt)) := by
  have hx : x.toInt64.toInt = x.toInt := Int32.toInt_toInt64 x
  have e1 : ∀ p q : Int64, (lg_cmp p q < 0) ↔ p.toInt < q.toInt := by
    intro p q
    unfold lg_cmp
    have hg : (p > q) ↔ q.toInt < p.toInt := Int64.lt_iff_toInt_lt
    by_cases h1 : q.toInt < p.toInt
    · rw [if_pos (hg.mpr h1)]; exact ⟨fun h => absurd h (by decide), fun h => by omega⟩
    · rw [if_neg (fun e => h1 (hg.mp e))]
      by_cases h2 : p = q
      · rw [if_pos h2, h2]; exact ⟨fun h => absurd h (by decide), fun h => by omega⟩
      · rw [if_neg h2]
        have : p.toInt ≠ q.toInt := fun e => h2 (Int64.toInt_inj.mp e)
        exact ⟨fun _ => by omega, fun _ => by decide⟩
  have e2 : ∀ p q : Int64, (0 < lg_cmp p q) ↔ q.toInt < p.toInt := by
    intro p q
    unfold lg_cmp
    have hg : (p > q) ↔ q.toInt < p.toInt := Int64.lt_iff_toInt_lt
    by_cases h1 : q.toInt < p.toInt
    · rw [if_pos (hg.mpr h1)]; exact ⟨fun _ => h1, fun _ => by decide⟩
    · rw [if_neg (fun e => h1 (hg.mp e))]
      by_cases h2 : p = q
      · rw [if_pos h2]; exact ⟨fun h => absurd h (by decide), fun h => absurd h h1⟩
      · rw [if_neg h2]; exact ⟨fun h => absurd h (by decide), fun h => absurd h h1⟩
  unfold fX7_in wit
  simp only [e1, e2, hx]
  by_cases h1 : x.toInt < a.toInt
  · rw [if_pos h1, decide_eq_false (by omega)]; rfl
  · rw [if_neg h1, decide_eq_true (show a.toInt ≤ x.toInt by omega)]
    by_cases h2 : b.toInt < x.toInt
    · rw [if_pos h2, decide_eq_false (by omega)]; rfl
    · rw [if_neg h2, decide_eq_true (show x.toInt ≤ b.toInt by omega)]; rfl
theorem wit_of {x : Int32} {a b : Nat} (hb : b < 2147483648) (h : wit x a b = true) : ∃ j, x = nI j ∧ a ≤ j ∧ j ≤ b := by
  unfold wit at h
  rw [Bool.and_eq_true, decide_eq_true_eq, decide_eq_true_eq] at h
  have h0 : ¬ x < 0 := by rw [e_lt]; show ¬ x.toInt < 0; omega
  obtain ⟨j, hj, rfl⟩ := nI_of h0
  rw [nI_toInt hj] at h
  exact ⟨j, rfl, by omega, by omega⟩
theorem wit_n {j a b : Nat} (hj : j < 2147483648) (h1 : a ≤ j) (h2 : j ≤ b) : wit (nI j) a b = true := by
  unfold wit
  rw [nI_toInt hj, Bool.and_eq_true, decide_eq_true_eq, decide_eq_true_eq]
  omega
theorem zin_of {x : Int32} {n : Nat} (hn : n < 2147483648) (h : zin x n = true) : ∃ t, x = nI t ∧ t < n := by
  obtain ⟨j, hj, e⟩ := vp_in_of (zin_in h) hn
  exact ⟨j, e, hj⟩
theorem zin_wit (x : Int32) {n : Nat} (hn : n < 2147483648) : wit x 0 ((n : Int) - 1) = zin x n := by
  unfold wit zin
  by_cases h0 : x < 0
  · have h1 : ¬ (0 : Int32) ≤ x := by rw [e_le, e_lt] at *; omega
    have h2 : ¬ (0 : Int) ≤ x.toInt := by rw [e_lt] at h0; have : (0 : Int32).toInt = 0 := rfl; omega
    rw [decide_eq_false h1, decide_eq_false h2]; rfl
  · obtain ⟨j, hj, rfl⟩ := nI_of h0
    rw [decide_eq_true (nI_pos' hj), e_cl hj, nI_toInt hj, decide_eq_true (show (0 : Int) ≤ (j : Int) by omega)]
    congr 1
    by_cases h : j < n
    · rw [decide_eq_true h, decide_eq_true (by omega)]
    · rw [decide_eq_false h, decide_eq_false (by omega)]
theorem c_isEither (x : Int32) : fX6_isEither x = some (bI (wit x 0 1)) := by
  unfold fX6_isEither
  by_cases h0 : x = 0
  · subst h0; rfl
  · rw [if_neg h0]
    by_cases h1 : x = 1
    · subst h1; rfl
    · rw [if_neg h1]
      have e : wit x 0 1 = false := by
        cases hw : wit x 0 1
        · rfl
        · obtain ⟨j, rfl, h2, h3⟩ := wit_of (x := x) (a := 0) (b := 1) (by decide) hw
          have : j = 0 ∨ j = 1 := by omega
          rcases this with rfl | rfl
          · exact absurd rfl h0
          · exact absurd rfl h1
      rw [e]; rfl
theorem m_isWhat (x : Int32) : fX7_isWhat x = some (bI (wit x 0 1)) := by
  unfold fX7_isWhat
  rw [m_in, e_bd, e_gd' (bI_bl _)]
  rfl
section MU
variable {mem : ZM} {t : Nat} {h : HS}
theorem m_isThing (H : Hr (mem 62) h) (hn : hsN h ≤ 8) (x : Int32) : fX7_isThing x mem = some (bI (zin x (hsN h))) := by
  unfold fX7_isThing
  simp (disch := omega) only [l0, e_gz, e_cl, H.1, m_in, e_bd, e_gd' (bI_bl _)]
  rw [← zin_wit x (show hsN h < 2147483648 by omega)]
  congr 3
  rw [Int32.toInt_toInt64]
  by_cases h0 : hsN h = 0
  · rw [h0]; rfl
  · rw [nI_m1 (by omega), nI_toInt (by omega)]; omega
/-! what the reference puts aside -/
theorem m_putAside (mem : ZM) : ∃ m', fX7_putAside mem = some m' ∧ (∀ k, k < 38 → m' 68 k = mem 62 k) ∧ (∀ c, c ≠ 68 → m' c = mem c) := by
  have key : ∃ r, fX7_putAside_l2 (nI 0, mem) = some r ∧ ((∀ k, k < 38 → r.2 68 k = mem 62 k) ∧ (∀ c, c ≠ 68 → r.2 c = mem c)) := by
    unfold fX7_putAside_l2
    refine zi_inv (fun i s => s.1 = nI i ∧ (∀ k, k < i → s.2 68 k = mem 62 k) ∧ (∀ c, c ≠ 68 → s.2 c = mem c)) _ 38 ?_ ?_ 2000 0 _ (Nat.zero_le _) (by omega) ⟨rfl, fun k hk => absurd hk (Nat.not_lt_zero k), fun _ _ => rfl⟩
    · intro i s hi hI
      obtain ⟨i1, i2, i3⟩ := hI
      refine Or.inl ⟨(nI (i + 1), zst s.2 68 i (s.2 62 i)), ?_, rfl, fun k hk => ?_, fun c hc => ?_⟩
      · show fX7_putAside_b2 s.1 s.2 = _
        unfold fX7_putAside_b2
        rw [i1, show (38 : Int32) = nI 38 from rfl, if_neg (by rw [e_le0 (by omega) (by omega)]; omega)]
        simp (disch := omega) only [e_gz, e_cl, e_let, nI_1]
      · show zst s.2 68 i (s.2 62 i) 68 k = _
        rw [e_sta, if_pos rfl, i3 62 (by decide)]
        by_cases e : k = i
        · rw [if_pos e, e]
        · rw [if_neg e]; exact i2 k (by omega)
      · show zst s.2 68 i (s.2 62 i) c = _
        rw [e_stn hc]; exact i3 c hc
    · intro s hI
      obtain ⟨i1, i2, i3⟩ := hI
      refine ⟨s, ?_, i2, i3⟩
      show fX7_putAside_b2 s.1 s.2 = _
      unfold fX7_putAside_b2
      rw [i1, show (38 : Int32) = nI 38 from rfl, if_pos (by rw [e_le0 (by omega) (by omega)]; exact Nat.le_refl _), ← i1]
  obtain ⟨r, e, h1, h2⟩ := key
  unfold fX7_putAside
  rw [e_let, l0, e, e_bd]
  exact ⟨_, rfl, h1, h2⟩
theorem m_takeBack (mem : ZM) : ∃ m', fX7_takeBack mem = some m' ∧ (∀ k, k < 38 → m' 62 k = mem 68 k) ∧ (∀ c, c ≠ 62 → m' c = mem c) := by
  have key : ∃ r, fX7_takeBack_l2 (nI 0, mem) = some r ∧ ((∀ k, k < 38 → r.2 62 k = mem 68 k) ∧ (∀ c, c ≠ 62 → r.2 c = mem c)) := by
    unfold fX7_takeBack_l2
    refine zi_inv (fun i s => s.1 = nI i ∧ (∀ k, k < i → s.2 62 k = mem 68 k) ∧ (∀ c, c ≠ 62 → s.2 c = mem c)) _ 38 ?_ ?_ 2000 0 _ (Nat.zero_le _) (by omega) ⟨rfl, fun k hk => absurd hk (Nat.not_lt_zero k), fun _ _ => rfl⟩
    · intro i s hi hI
      obtain ⟨i1, i2, i3⟩ := hI
      refine Or.inl ⟨(nI (i + 1), zst s.2 62 i (s.2 68 i)), ?_, rfl, fun k hk => ?_, fun c hc => ?_⟩
      · show fX7_takeBack_b2 s.1 s.2 = _
        unfold fX7_takeBack_b2
        rw [i1, show (38 : Int32) = nI 38 from rfl, if_neg (by rw [e_le0 (by omega) (by omega)]; omega)]
        simp (disch := omega) only [e_gz, e_cl, e_let, nI_1]
      · show zst s.2 62 i (s.2 68 i) 62 k = _
        rw [e_sta, if_pos rfl, i3 68 (by decide)]
        by_cases e : k = i
        · rw [if_pos e, e]
        · rw [if_neg e]; exact i2 k (by omega)
      · show zst s.2 62 i (s.2 68 i) c = _
        rw [e_stn hc]; exact i3 c hc
    · intro s hI
      obtain ⟨i1, i2, i3⟩ := hI
      refine ⟨s, ?_, i2, i3⟩
      show fX7_takeBack_b2 s.1 s.2 = _
      unfold fX7_takeBack_b2
      rw [i1, show (38 : Int32) = nI 38 from rfl, if_pos (by rw [e_le0 (by omega) (by omega)]; exact Nat.le_refl _), ← i1]
  obtain ⟨r, e, h1, h2⟩ := key
  unfold fX7_takeBack
  rw [e_let, l0, e, e_bd]
  exact ⟨_, rfl, h1, h2⟩
theorem m_goOn (H : Hr (mem 62) h) (ok : okH h) {k : Nat} (hk : k ≤ 200) : ∃ m', fX7_goOn (nI k) mem = some m' ∧ Hr (m' 62) (hoursS k h) ∧ FrO mem m' := by
  have key : ∃ r, fX7_goOn_l2 (nI k) (nI 0, mem) = some r ∧ (Hr (r.2 62) (hoursS k h) ∧ FrO mem r.2) := by
    unfold fX7_goOn_l2
    refine zi_inv (fun i s => s.1 = nI i ∧ Hr (s.2 62) (hoursS i h) ∧ FrO mem s.2) _ k ?_ ?_ 2000 0 _ (Nat.zero_le _) (by omega) ⟨rfl, H, FrO.rf _⟩
    · intro i s hi hI
      obtain ⟨i1, i2, i3⟩ := hI
      obtain ⟨m', e, h1, -, -, h2⟩ := m_oneHour i2 (hours_ok ok i)
      refine Or.inl ⟨(nI (i + 1), m'), ?_, rfl, h1, i3.tr h2⟩
      show fX7_goOn_b2 (nI k) s.1 s.2 = _
      unfold fX7_goOn_b2
      rw [i1, if_neg (by rw [e_le0 (by omega) (by omega)]; omega), e, e_bd, e_let, nI_1]
    · intro s hI
      obtain ⟨i1, i2, i3⟩ := hI
      refine ⟨s, ?_, i2, i3⟩
      show fX7_goOn_b2 (nI k) s.1 s.2 = _
      unfold fX7_goOn_b2
      rw [i1, if_pos (by rw [e_le0 (by omega) (by omega)]; exact Nat.le_refl _), ← i1]
  obtain ⟨r, e, h1, h2⟩ := key
  unfold fX7_goOn
  rw [e_let, l0, e, e_bd]
  exact ⟨_, rfl, h1, h2⟩
theorem m_ashes (H : Hr (mem 62) h) (ok : okH h) : fX7_ashes mem = some (nI (mkb (fun t => decide (hsS h t = 0)) (hsN h))) := by
  have hn := ok.1
  have key : fX7_ashes_l4 mem (nI 0, nI 0) = some (nI (mkb (fun t => decide (hsS h t = 0)) (hsN h)), nI (hsN h)) := by
    unfold fX7_ashes_l4
    refine zi_seq (fun i => (nI (mkb (fun t => decide (hsS h t = 0)) i), nI i)) _ (hsN h) 2000 0 (Nat.zero_le _) (by omega) (fun i _ hi => ?_) ?_
    · have hs := (ok.2.1 i hi).2.1
      show fX7_ashes_b4 mem (nI (mkb (fun t => decide (hsS h t = 0)) i)) (nI i) = _
      unfold fX7_ashes_b4 fX7_ashes_j34
      simp (disch := omega) only [l0, l14, nI_add, e_gz, e_cl, H.1, if_neg (nI_le_f hn hi), (H.2.1 i hi).2.1, e_let, nI_1, e_eq0]
      cases hf : (fun t => decide (hsS h t = 0)) i
      · rw [if_neg (of_decide_eq_false hf), ← mkb_n hf]
        congr 3
        show nI _ ||| (0 : Int32) = _
        simp
      · rw [if_pos (of_decide_eq_true hf), mkb_s (by omega) hf]
    · show fX7_ashes_b4 mem _ (nI (hsN h)) = _
      unfold fX7_ashes_b4
      simp (disch := omega) only [l0, e_gz, e_cl, H.1]
      rw [if_pos (by rw [e_le0 (by omega) (by omega)]; exact Nat.le_refl _)]
  unfold fX7_ashes
  rw [e_let, e_let, show ((0 : Int32), (0 : Int32)) = (nI 0, nI 0) from rfl, key, e_bd]
end MU
/-! what foretelling leaves as it is -/
def Keep (mem mem' : ZM) : Prop := (∀ c, c < 37 ∨ (41 < c ∧ c ≠ 58 ∧ c ≠ 62 ∧ c ≠ 66 ∧ c ≠ 68) → mem' c = mem c) ∧ (∀ k, k ≠ 17 → mem' 58 k = mem 58 k) ∧ (∀ k, k < 38 → mem' 62 k = mem 62 k)
theorem Keep.rf (mem : ZM) : Keep mem mem := ⟨fun _ _ => rfl, fun _ _ => rfl, fun _ _ => rfl⟩
theorem Keep.tr {a b c : ZM} (h : Keep a b) (g : Keep b c) : Keep a c := ⟨fun d hd => (g.1 d hd).trans (h.1 d hd), fun k hk => (g.2.1 k hk).trans (h.2.1 k hk), fun k hk => (g.2.2 k hk).trans (h.2.2 k hk)⟩
theorem Keep.fr {a b : ZM} (h : FrB 37 a b) : Keep a b := ⟨fun c hc => h c (by omega), fun k _ => by rw [h 58 (by omega)], fun k _ => by rw [h 62 (by omega)]⟩
/-- with the row put aside -/
def Asd (mem m : ZM) : Prop := (∀ c, c ≠ 58 → c ≠ 62 → c ≠ 66 → c ≠ 68 → m c = mem c) ∧ (∀ k, k ≠ 17 → m 58 k = mem 58 k) ∧ (∀ k, k < 38 → m 68 k = mem 62 k)
theorem Asd.o {mem m m' : ZM} (h : Asd mem m) (g : FrO m m') : Asd mem m' := ⟨fun c h1 h2 h3 h4 => (g.1 c h1 h2 h3).trans (h.1 c h1 h2 h3 h4), fun k hk => (g.2 k hk).trans (h.2.1 k hk), fun k hk => by rw [g.1 68 (by decide) (by decide) (by decide)]; exact h.2.2 k hk⟩
theorem m_aside (mem : ZM) : ∃ m', fX7_putAside mem = some m' ∧ Asd mem m' ∧ m' 62 = mem 62 := by
  obtain ⟨m', e, h1, h2⟩ := m_putAside mem
  exact ⟨m', e, ⟨fun c _ _ _ h4 => h2 c h4, fun k _ => by rw [h2 58 (by decide)], h1⟩, h2 62 (by decide)⟩
theorem m_back {mem m : ZM} (h : Asd mem m) : ∃ m', fX7_takeBack m = some m' ∧ Asd mem m' ∧ Keep mem m' := by
  obtain ⟨m', e, h1, h2⟩ := m_takeBack m
  have hA : Asd mem m' := ⟨fun c a1 a2 a3 a4 => by rw [h2 c a2]; exact h.1 c a1 a2 a3 a4, fun k hk => by rw [h2 58 (by decide)]; exact h.2.1 k hk, fun k hk => by rw [h2 68 (by decide)]; exact h.2.2 k hk⟩
  exact ⟨m', e, hA, ⟨fun c hc => hA.1 c (by omega) (by omega) (by omega) (by omega), hA.2.1, fun k hk => by rw [h1 k hk]; exact h.2.2 k hk⟩⟩
theorem Keep.Hr {mem m : ZM} {h : HS} (k : Keep mem m) (hn : hsN h ≤ 8) (H : Hr (mem 62) h) : Hr (m 62) h := H.kept hn (fun j hj _ => k.2.2 j hj)
