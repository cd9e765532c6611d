section AN
variable {mem : ZM} {h : HS} {k : Nat} {G : Nat → HS} {T : Nat → Int32}
theorem m_note49 (H : Hr (mem 62) h) (hn : hsN h ≤ 8) (hN8 : ∀ i, i < k → hsN (G i) ≤ 8) (hk : k < 24) (A : AM mem k G T) : ∃ m', fX7_note_j49 mem = some m' ∧ AM m' (k + 1) (pG h G) (pG (mem 62 1) T) ∧ (∀ c, c ≠ 58 → c ≠ 67 → m' c = mem c) ∧ (∀ j, j ≠ 19 → m' 58 j = mem 58 j) := by
  have key : ∃ r, fX7_note_l51 (nI 0, mem) = some r ∧ ((∀ j, j < 38 → r.2 67 (38 * k + j) = mem 62 j) ∧ (∀ j, j < 38 * k → r.2 67 j = mem 67 j) ∧ (∀ c, c ≠ 67 → r.2 c = mem c)) := by
    unfold fX7_note_l51
    refine zi_inv (fun i s => s.1 = nI i ∧ (∀ j, j < i → s.2 67 (38 * k + j) = mem 62 j) ∧ (∀ j, j < 38 * k → s.2 67 j = mem 67 j) ∧ (∀ c, c ≠ 67 → s.2 c = mem c)) _ 38 ?_ ?_ 2000 0 _ (Nat.zero_le _) (by omega) ⟨rfl, fun j hj => absurd hj (Nat.not_lt_zero j), fun _ _ => rfl, fun _ _ => rfl⟩
    · intro i s hi hI
      obtain ⟨i1, i2, i3, i4⟩ := hI
      refine Or.inl ⟨(nI (i + 1), zst s.2 67 (38 * k + i) (mem 62 i)), ?_, rfl, fun j hj => ?_, fun j hj => ?_, fun c hc => ?_⟩
      · show fX7_note_b51 s.1 s.2 = _
        unfold fX7_note_b51
        rw [i1, show (38 : Int32) = nI 38 from rfl, if_neg (by rw [e_le0 (by omega) (by omega)]; omega), i4 58 (by decide), A.1, i4 62 (by decide)]
        simp (disch := omega) only [pk_mul, nI_add, e_gz, e_cl, e_let, nI_1]
      · show zst s.2 67 (38 * k + i) (mem 62 i) 67 (38 * k + j) = _
        rw [e_sta, if_pos rfl]
        by_cases e : j = i
        · subst e; rw [if_pos rfl]
        · rw [if_neg (by omega)]; exact i2 j (by omega)
      · show zst s.2 67 (38 * k + i) (mem 62 i) 67 j = _
        rw [e_stk (by omega)]; exact i3 j hj
      · show zst s.2 67 (38 * k + i) (mem 62 i) c = _
        rw [e_stn hc]; exact i4 c hc
    · intro s hI
      obtain ⟨i1, i2, i3, i4⟩ := hI
      refine ⟨s, ?_, i2, i3, i4⟩
      show fX7_note_b51 s.1 s.2 = _
      unfold fX7_note_b51
      rw [i1, show (38 : Int32) = nI 38 from rfl, if_pos (by rw [e_le0 (by omega) (by omega)]; exact Nat.le_refl _), ← i1]
  obtain ⟨r, e, g1, g2, g3⟩ := key
  unfold fX7_note_j49
  rw [e_let, l0, e, e_bd, e_let, g3 58 (by decide), A.1, nI_1]
  refine ⟨_, rfl, ⟨by rw [e_st], fun i hi => ?_⟩, fun c h1 h2 => by rw [e_stn h1]; exact g3 c h2, fun j hj => by rw [e_stk hj, g3 58 (by decide)]⟩
  unfold MA
  rw [e_stn (by decide)]
  by_cases hi0 : i = 0
  · subst hi0
    rw [show k + 1 - 1 - 0 = k by omega]
    refine ⟨Hr.kept H hn (fun j hj _ => g1 j hj), ?_⟩
    exact g1 1 (by omega)
  · have hg : pG h G i = G (i - 1) := by unfold pG; rw [if_neg hi0]
    have hT : pG (mem 62 1) T i = T (i - 1) := by unfold pG; rw [if_neg hi0]
    rw [hg, hT, show k + 1 - 1 - i = k - 1 - (i - 1) by omega]
    obtain ⟨a1, a2⟩ := A.2 (i - 1) (by omega)
    refine ⟨Hr.kept a1 (hN8 _ (by omega)) (fun j hj _ => g2 _ (by omega)), ?_⟩
    rw [g2 _ (by omega)]; exact a2
theorem m_note (H : Hr (mem 62) h) (hn : hsN h ≤ 8) (hG : AG h k G) (A : AM mem k G T) : ∃ m', fX7_note mem = some m' ∧ AM m' (min 24 (k + 1)) (pG h G) (pG (mem 62 1) T) ∧ (∀ c, c ≠ 58 → c ≠ 67 → m' c = mem c) ∧ (∀ j, j ≠ 19 → m' 58 j = mem 58 j) := by
  have hk := hG.1
  have hN8 : ∀ i, i < k → hsN (G i) ≤ 8 := fun i hi => (hG.2 i hi).1.1
  unfold fX7_note
  rw [A.1, show (24 : Int32) = nI 24 from rfl]
  simp only [e_eq0 (show k < 2147483648 by omega) (show 24 < 2147483648 by decide)]
  by_cases h24 : k = 24
  · rw [if_pos h24]
    subst h24
    have key : ∃ r, fX7_note_l11 (nI 0, mem) = some r ∧ ((∀ j, j < 874 → r.2 67 j = mem 67 (j + 38)) ∧ (∀ c, c ≠ 67 → r.2 c = mem c)) := by
      unfold fX7_note_l11
      refine zi_inv (fun i s => s.1 = nI i ∧ (∀ j, j < i → s.2 67 j = mem 67 (j + 38)) ∧ (∀ j, i ≤ j → s.2 67 j = mem 67 j) ∧ (∀ c, c ≠ 67 → s.2 c = mem c)) _ 874 ?_ ?_ 2000 0 _ (Nat.zero_le _) (by omega) ⟨rfl, fun j hj => absurd hj (Nat.not_lt_zero j), fun _ _ => rfl, fun _ _ => rfl⟩
      · intro i s hi hI
        obtain ⟨i1, i2, i3, i4⟩ := hI
        refine Or.inl ⟨(nI (i + 1), zst s.2 67 i (mem 67 (i + 38))), ?_, rfl, fun j hj => ?_, fun j hj => ?_, fun c hc => ?_⟩
        · show fX7_note_b11 s.1 s.2 = _
          unfold fX7_note_b11
          rw [i1, show (874 : Int32) = nI 874 from rfl, if_neg (by rw [e_le0 (by omega) (by omega)]; omega), show (38 : Int32) = nI 38 from rfl]
          simp (disch := omega) only [nI_add, e_gz, e_cl, e_let, nI_1]
          rw [i3 (i + 38) (by omega)]
        · show zst s.2 67 i _ 67 j = _
          rw [e_sta, if_pos rfl]
          by_cases e : j = i
          · subst e; rw [if_pos rfl]
          · rw [if_neg e]; exact i2 j (by omega)
        · show zst s.2 67 i _ 67 j = _
          rw [e_stk (by omega)]; exact i3 j (by omega)
        · show zst s.2 67 i _ c = _
          rw [e_stn hc]; exact i4 c hc
      · intro s hI
        obtain ⟨i1, i2, i3, i4⟩ := hI
        refine ⟨s, ?_, i2, i4⟩
        show fX7_note_b11 s.1 s.2 = _
        unfold fX7_note_b11
        rw [i1, show (874 : Int32) = nI 874 from rfl, if_pos (by rw [e_le0 (by omega) (by omega)]; exact Nat.le_refl _), ← i1]
    obtain ⟨r, e, g1, g2⟩ := key
    rw [e_let, l0, e, e_bd, e_let, g2 58 (by decide), A.1, nI_m1 (by omega)]
    have A1 : AM (zst r.2 58 19 (nI (24 - 1))) 23 G T := by
      refine ⟨by rw [e_st], fun i hi => ?_⟩
      obtain ⟨a1, a2⟩ := A.2 i (by omega)
      unfold MA
      rw [e_stn (by decide)]
      refine ⟨Hr.kept a1 (hN8 i (by omega)) (fun j hj _ => ?_), ?_⟩
      · show r.2 67 (38 * (23 - 1 - i) + j) = mem 67 (38 * (24 - 1 - i) + j)
        rw [g1 _ (by omega), show 38 * (23 - 1 - i) + j + 38 = 38 * (24 - 1 - i) + j by omega]
      · rw [g1 _ (by omega), ← a2, show 38 * (23 - 1 - i) + 1 + 38 = 38 * (24 - 1 - i) + 1 by omega]
    have e62 : (zst r.2 58 19 (nI (24 - 1))) 62 = mem 62 := by rw [e_stn (by decide), g2 62 (by decide)]
    obtain ⟨m', e2, A2, f2, f3⟩ := m_note49 (mem := zst r.2 58 19 (nI (24 - 1))) (by rw [e62]; exact H) hn (fun i hi => hN8 i (by omega)) (by decide) A1
    rw [e62] at A2
    exact ⟨m', e2, A2, fun c c1 c2 => by rw [f2 c c1 c2, e_stn c1, g2 c c2], fun j hj => by rw [f3 j hj, e_stk hj, g2 58 (by decide)]⟩
  · rw [if_neg h24]
    have hm : min 24 (k + 1) = k + 1 := by omega
    rw [hm]
    exact m_note49 H hn hN8 (by omega) A
theorem m_undo (hn : hsN h ≤ 8) (hG : AG h k G) (A : AM mem k G T) (h0 : 0 < k) : ∃ m', fX7_undo mem = some (nI (k - 1), m') ∧ Hr (m' 62) (G 0) ∧ m' 62 1 = T 0 ∧ AM m' (k - 1) (fun i => G (i + 1)) (fun i => T (i + 1)) ∧ (∀ c, c ≠ 58 → c ≠ 62 → m' c = mem c) ∧ (∀ j, j ≠ 19 → m' 58 j = mem 58 j) := by
  have hk := hG.1
  have hk0 : ¬ nI k = 0 := by rw [l0, e_eq0 (by omega) (by omega)]; omega
  have key : ∃ r, fX7_undo_l22 (nI 0, zst mem 58 19 (nI (k - 1))) = some r ∧ ((∀ j, j < 38 → r.2 62 j = mem 67 (38 * (k - 1) + j)) ∧ (∀ c, c ≠ 62 → r.2 c = zst mem 58 19 (nI (k - 1)) c)) := by
    unfold fX7_undo_l22
    refine zi_inv (fun i s => s.1 = nI i ∧ (∀ j, j < i → s.2 62 j = mem 67 (38 * (k - 1) + j)) ∧ (∀ c, c ≠ 62 → s.2 c = zst mem 58 19 (nI (k - 1)) c)) _ 38 ?_ ?_ 2000 0 _ (Nat.zero_le _) (by omega) ⟨rfl, fun j hj => absurd hj (Nat.not_lt_zero j), fun _ _ => rfl⟩
    · intro i s hi hI
      obtain ⟨i1, i2, i4⟩ := hI
      refine Or.inl ⟨(nI (i + 1), zst s.2 62 i (mem 67 (38 * (k - 1) + i))), ?_, rfl, fun j hj => ?_, fun c hc => ?_⟩
      · show fX7_undo_b22 s.1 s.2 = _
        unfold fX7_undo_b22
        rw [i1, show (38 : Int32) = nI 38 from rfl, if_neg (by rw [e_le0 (by omega) (by omega)]; omega), i4 58 (by decide), i4 67 (by decide), e_st, e_stn (by decide)]
        simp (disch := omega) only [pk_mul, nI_add, e_gz, e_cl, e_let, nI_1]
      · show zst s.2 62 i _ 62 j = _
        rw [e_sta, if_pos rfl]
        by_cases e : j = i
        · subst e; rw [if_pos rfl]
        · rw [if_neg e]; exact i2 j (by omega)
      · show zst s.2 62 i _ c = _
        rw [e_stn hc]; exact i4 c hc
    · intro s hI
      obtain ⟨i1, i2, i4⟩ := hI
      refine ⟨s, ?_, i2, i4⟩
      show fX7_undo_b22 s.1 s.2 = _
      unfold fX7_undo_b22
      rw [i1, show (38 : Int32) = nI 38 from rfl, if_pos (by rw [e_le0 (by omega) (by omega)]; exact Nat.le_refl _), ← i1]
  obtain ⟨r, e, g1, g3⟩ := key
  unfold fX7_undo
  rw [A.1, if_neg hk0, e_let, nI_m1 h0, e_let, l0, e, e_bd, g3 58 (by decide), e_st]
  obtain ⟨a1, a2⟩ := A.2 0 h0
  refine ⟨_, rfl, Hr.kept a1 (hG.2 0 h0).1.1 (fun j hj _ => g1 j hj), by rw [g1 1 (by omega)]; exact a2, ⟨by rw [g3 58 (by decide), e_st], fun i hi => ?_⟩, fun c c1 c2 => by rw [g3 c c2, e_stn c1], fun j hj => by rw [g3 58 (by decide), e_stk hj]⟩
  obtain ⟨b1, b2⟩ := A.2 (i + 1) (by omega)
  unfold MA
  rw [g3 67 (by decide), e_stn (by decide), show k - 1 - 1 - i = k - 1 - (i + 1) by omega]
  exact ⟨b1, b2⟩
end AN
