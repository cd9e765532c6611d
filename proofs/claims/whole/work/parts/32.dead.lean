section F3
variable {mem : ZM} {h : HS} {t : Nat}
def deadP (h : HS) (i : Nat) : Bool := decide (hsL (hoursS i h) = 0)
theorem c_deadBehind (H : Hc mem 17 h) (ok : okH h) : ∃ r m', fX2_deadBehind 17 mem = some (r, m') ∧ FirstIs (deadP h) 200 r ∧ FrB 37 mem m' := by
  have hn := ok.1
  obtain ⟨m1, e1, H1, -, f1⟩ := c_takeFrom (b := 37) H ok.1 (by omega)
  have key : ∃ r, fX2_deadBehind_l10 17 (nI 0, m1) = some r ∧ (∀ q : Int32 × ZM, (Sum.elim (fun s2 => ((-1000000 : Int32), s2.2)) (fun t2 => t2) r) = q → FirstIs (deadP h) 200 q.1 ∧ FrB 37 mem q.2) := by
    unfold fX2_deadBehind_l10
    refine zi_inv (fun i s => s.1 = nI i ∧ Hc s.2 37 (hoursS i h) ∧ FrB 37 mem s.2 ∧ (∀ j, j < i → deadP h j = false)) _ 201 ?_ ?_ 2000 0 _ (Nat.zero_le _) (by omega) ⟨rfl, H1, f1, fun j hj => absurd hj (Nat.not_lt_zero j)⟩
    · intro i s hi hI
      obtain ⟨i1, i2, i3, i4⟩ := hI
      have oki := hours_ok ok i
      have hL := oki.L
      show (∃ s', fX2_deadBehind_b10 17 s.1 s.2 = _ ∧ _) ∨ (∃ r, fX2_deadBehind_b10 17 s.1 s.2 = _ ∧ _)
      unfold fX2_deadBehind_b10
      rw [i1, show (200 : Int32) = nI 200 from rfl, if_neg (by rw [e_lt0 (by omega) (by omega)]; omega), i2.2.2.1, l0]
      simp only [e_eq0 (show hsL (hoursS i h) < 2147483648 by omega) (show 0 < 2147483648 by decide)]
      by_cases hz : hsL (hoursS i h) = 0
      · rw [if_pos hz]
        refine Or.inr ⟨_, rfl, fun q hq => ?_⟩
        subst hq
        exact ⟨Or.inl ⟨i, by omega, decide_eq_true hz, i4, rfl⟩, i3⟩
      · rw [if_neg hz]
        obtain ⟨m', e, g1, g2, g3⟩ := c_passHour i2 oki
        rw [e, e_bd, e_let, nI_1]
        refine Or.inl ⟨_, rfl, rfl, g1, i3.tr g3, fun j hj => ?_⟩
        by_cases hji : j = i
        · subst hji; exact decide_eq_false hz
        · exact i4 j (by omega)
    · intro s hI
      obtain ⟨i1, i2, i3, i4⟩ := hI
      show ∃ r, fX2_deadBehind_b10 17 s.1 s.2 = _ ∧ _
      unfold fX2_deadBehind_b10
      rw [i1, show (200 : Int32) = nI 200 from rfl, if_pos (by rw [e_lt0 (by omega) (by omega)]; omega)]
      refine ⟨_, rfl, fun q hq => ?_⟩
      subst hq
      exact ⟨Or.inr ⟨fun j hj => i4 j (by omega), rfl⟩, i3⟩
  obtain ⟨r, e, g⟩ := key
  unfold fX2_deadBehind
  rw [e1, e_bd, e_let, l0, e, e_bd]
  cases r with
  | inl s => exact ⟨_, _, rfl, (g _ rfl).1, (g _ rfl).2⟩
  | inr s => exact ⟨s.1, s.2, rfl, (g _ rfl).1, (g _ rfl).2⟩
def ashS (h : HS) : Nat := mkb (fun t => decide (hsS h t = 0)) (hsN h)
def leftS (h : HS) : Int32 := (nI (2 ^ hsN h - 1) &&& (nI (ashS h) ^^^ (-1))) &&& (nI (hsO h) ^^^ (-1))
theorem c_left (H : Hc mem 17 h) (ok : okH h) : ∃ m', fX2_leftWhenDead 17 mem = some (leftS (hoursS 200 h), m') ∧ FrB 37 mem m' := by
  obtain ⟨m1, e1, H1, -, f1⟩ := c_takeFrom (b := 37) H ok.1 (by omega)
  obtain ⟨m2, e2, H2, f2⟩ := c_tryHours H1 ok (k := 200) (by omega)
  have ok2 := hours_ok ok 200
  unfold fX2_leftWhenDead
  rw [e1, e_bd, show (200 : Int32) = nI 200 from rfl, e2, e_bd, c_allThings H2 ok2, e_bd, c_ashes H2 ok2, e_bd, H2.2.2.2.1]
  exact ⟨_, rfl, f1.tr f2⟩
theorem o_dead (R : RH mem h) (a1 : Int32) : Op (fX6_dead a1) (fX7_dead a1) mem (Keep mem) := by
  obtain ⟨ok, H, Hm, ht⟩ := R
  have hn := ok.1
  by_cases z0 : hsN h = 0
  · exact ⟨-1000002, mem, mem, by simp [fX6_dead, c_isNone H ok, z0, bI], by simp [fX7_dead, ht, z0, bI], Keep.rf _⟩
  have hd : decide (hsN h = 0) = false := decide_eq_false z0
  have hd2 : decide (hsN h ≠ 0) = true := decide_eq_true z0
  rw [hd2] at ht
  cases z3 : wit a1 0 1
  · exact ⟨-1000001, mem, mem, by simp [fX6_dead, c_isNone H ok, z0, bI, c_isEither, z3], by simp [fX7_dead, ht, bI, m_isWhat, z3], Keep.rf _⟩
  have cls : ∃ r m1, fX6_dead a1 mem = some (r, m1) ∧ (if a1 = 1 then r = leftS (hoursS 200 h) else FirstIs (deadP h) 200 r) ∧ FrB 37 mem m1 := by
    unfold fX6_dead
    simp (disch := omega) only [c_isNone H ok, hd, c_isEither, z3, e_bd, bI_0, Bool.true_eq_false, if_false, if_true]
    rcases either z3 with rfl | rfl
    · rw [if_pos rfl]
      obtain ⟨r, m1, e1, g1, f1⟩ := c_deadBehind H ok
      rw [e1, e_bd]
      exact ⟨r, m1, rfl, by rw [if_neg (by decide)]; exact g1, f1⟩
    · rw [if_neg (by decide)]
      obtain ⟨m1, e1, f1⟩ := c_left H ok
      rw [e1, e_bd]
      exact ⟨_, m1, rfl, by rw [if_pos rfl], f1⟩
  obtain ⟨r, m1, e1, g1, f1⟩ := cls
  have K1 := Keep.fr f1
  have Hm1 : Hr (m1 62) h := K1.Hr hn Hm
  have ht1 : m1 58 4 = bI true := by rw [K1.2.1 4 (by decide)]; exact ht
  obtain ⟨m2, e2, A2, H2⟩ := m_asideHr Hm1
  have key : ∃ q, fX7_dead_l26 a1 (nI 0, m2) = some q ∧ (∃ i, q.1 = nI i ∧ i ≤ 200 ∧ Hr (q.2 62) (hoursS i h) ∧ Asd m1 q.2 ∧ (∀ j, j < i → deadP h j = false) ∧ (i < 200 → deadP h i = true)) := by
    unfold fX7_dead_l26
    refine zi_inv (fun i s => s.1 = nI i ∧ Hr (s.2 62) (hoursS i h) ∧ Asd m1 s.2 ∧ (∀ j, j < i → deadP h j = false)) _ 200 ?_ ?_ 2000 0 _ (Nat.zero_le _) (by omega) ⟨rfl, H2, A2, fun j hj => absurd hj (Nat.not_lt_zero j)⟩
    · intro i s hi hI
      obtain ⟨i1, i2, i3, i4⟩ := hI
      have oki := hours_ok ok i
      have hL := oki.L
      show (∃ s', fX7_dead_b26 a1 s.1 s.2 = _ ∧ _) ∨ (∃ r, fX7_dead_b26 a1 s.1 s.2 = _ ∧ _)
      unfold fX7_dead_b26
      simp (disch := omega) only [l4, e_gz, e_cl, i2.2.2.1, i1, l0, e_eq0]
      by_cases hz : hsL (hoursS i h) = 0
      · rw [if_pos hz]
        exact Or.inr ⟨_, rfl, i, rfl, by omega, i2, i3, i4, fun _ => decide_eq_true hz⟩
      · rw [if_neg hz, show (200 : Int32) = nI 200 from rfl, if_neg (by rw [e_le0 (by omega) (by omega)]; omega)]
        obtain ⟨m', e, g1, -, -, g2⟩ := m_oneHour i2 oki
        rw [e, e_bd, e_let, nI_1]
        refine Or.inl ⟨_, rfl, rfl, g1, i3.o g2, fun j hj => ?_⟩
        by_cases hji : j = i
        · subst hji; exact decide_eq_false hz
        · exact i4 j (by omega)
    · intro s hI
      obtain ⟨i1, i2, i3, i4⟩ := hI
      have hL := (hours_ok ok 200).L
      show ∃ r, fX7_dead_b26 a1 s.1 s.2 = _ ∧ _
      unfold fX7_dead_b26
      simp (disch := omega) only [l4, e_gz, e_cl, i2.2.2.1, i1, l0, e_eq0]
      by_cases hz : hsL (hoursS 200 h) = 0
      · rw [if_pos hz]
        exact ⟨_, rfl, 200, rfl, by omega, i2, i3, i4, fun hh => absurd hh (by omega)⟩
      · rw [if_neg hz, show (200 : Int32) = nI 200 from rfl, if_pos (by rw [e_le0 (by omega) (by omega)]; exact Nat.le_refl _)]
        exact ⟨_, rfl, 200, rfl, by omega, i2, i3, i4, fun hh => absurd hh (by omega)⟩
  obtain ⟨q, e3, i, q1, qi, H3, A3, hj, hi⟩ := key
  obtain ⟨m4, e4, -, K4⟩ := m_back A3
  have oki := hours_ok ok i
  have hL := oki.L
  have hend : hoursS 200 h = hoursS i h := by
    by_cases h2 : i < 200
    · exact hours_dead ok (of_decide_eq_true (hi h2)) 200 (by omega)
    · have : i = 200 := by omega
      rw [this]
  have fin : ∀ x : Int32, x = bI (deadP h i) → fX7_dead_j66 a1 (nI i) x q.2 = some (r, m4) := by
    intro x hx
    subst hx
    unfold fX7_dead_j66
    have hN8 : hsN (hoursS i h) ≤ 8 := oki.1
    simp (disch := omega) only [e_let, l0, l5, e_gz, e_cl, H3.1, m_ashes H3 oki, e_bd, H3.2.2.2.1, c_all _ hN8, e4]
    have e : (nI (2 ^ hsN (hoursS i h) - 1) &&& (nI (mkb (fun t => decide (hsS (hoursS i h) t = 0)) (hsN (hoursS i h))) ^^^ -1)) &&& (nI (hsO (hoursS i h)) ^^^ -1) = leftS (hoursS i h) := rfl
    rw [e]
    rcases either z3 with rfl | rfl
    · rw [if_neg (by decide)] at g1 ⊢
      simp only [show nI 0 = (0 : Int32) from rfl, bI_0]
      have g2 : FirstIs (deadP h) 200 (if deadP h i = false then -1000000 else nI i) := by
        cases hb : deadP h i
        · rw [if_pos rfl]
          refine Or.inr ⟨fun j hj' => ?_, rfl⟩
          have hi2 : i = 200 := by
            by_cases h6 : i < 200
            · have := hi h6; rw [hb] at this; cases this
            · omega
          by_cases hji : j < i
          · exact hj j hji
          · have : j = i := by omega
            subst this; exact hb
        · rw [if_neg (by decide)]
          exact Or.inl ⟨i, qi, hb, hj, rfl⟩
      have := g1.one g2
      rw [this]
      cases deadP h i <;> rfl
    · rw [if_pos rfl] at g1 ⊢
      rw [g1, hend]
  refine ⟨r, m1, m4, e1, ?_, K1.tr K4⟩
  unfold fX7_dead fX7_dead_j52
  simp (disch := omega) only [ht1, m_isWhat, z3, e_bd, bI_0, Bool.true_eq_false, if_false, e2, e_let]
  rw [l0, e3, e_bd, q1]
  simp (disch := omega) only [l4, e_gz, e_cl, H3.2.2.1, l0, e_eq0]
  by_cases hz : hsL (hoursS i h) = 0
  · rw [if_pos hz]
    exact fin _ (by unfold deadP; rw [decide_eq_true hz]; rfl)
  · rw [if_neg hz]
    exact fin _ (by unfold deadP; rw [decide_eq_false hz]; rfl)
end F3
