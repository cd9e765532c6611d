/-! rows -/
/-- a row as both have it: missing, or lane, size, items -/
def Rw1 (mem : ZM) (r : Nat) : Prop :=
  (mem (42 + 2 * r) 0 = -1 ∧ mem 60 r = -1) ∨
  (∃ l n, l ≤ 2 ∧ n ≤ 40 ∧ mem (42 + 2 * r) 0 = nI l ∧ mem (42 + 2 * r) 1 = nI n ∧ mem 59 r = nI l ∧ mem 60 r = nI n ∧ ∀ i, i < 40 → mem (42 + 2 * r + 1) i = mem 61 (40 * r + i))
def RR (mem : ZM) : Prop := ∀ r, r < 8 → Rw1 mem r
def RF (mem : ZM) : Prop := mem 0 8 = mem 58 3
def FrR (mem m : ZM) : Prop := (∀ c, c ≠ 0 → c ≠ 63 → (c < 42 ∨ 61 < c) → m c = mem c) ∧ (∀ k, k ≠ 3 → m 58 k = mem 58 k)
def RP (mem m : ZM) : Prop := RR m ∧ RF m ∧ FrR mem m
theorem Rw1.same {mem m : ZM} {r : Nat} (h : Rw1 mem r) (h1 : m (42 + 2 * r) = mem (42 + 2 * r)) (h2 : m (42 + 2 * r + 1) = mem (42 + 2 * r + 1)) (h3 : m 59 r = mem 59 r) (h4 : m 60 r = mem 60 r) (h5 : ∀ i, i < 40 → m 61 (40 * r + i) = mem 61 (40 * r + i)) : Rw1 m r := by
  rcases h with ⟨a1, a2⟩ | ⟨l, n, b1, b2, b3, b4, b5, b6, b7⟩
  · exact Or.inl ⟨by rw [h1]; exact a1, by rw [h4]; exact a2⟩
  · exact Or.inr ⟨l, n, b1, b2, by rw [h1]; exact b3, by rw [h1]; exact b4, by rw [h3]; exact b5, by rw [h4]; exact b6, fun i hi => by rw [h2, h5 i hi]; exact b7 i hi⟩
theorem RR.same {mem m : ZM} (h : RR mem) (e : ∀ c, (42 ≤ c ∧ c ≤ 57) ∨ c = 59 ∨ c = 60 ∨ c = 61 → m c = mem c) : RR m :=
  fun r hr => (h r hr).same (e _ (by omega)) (e _ (by omega)) (by rw [e 59 (by omega)]) (by rw [e 60 (by omega)]) (fun i _ => by rw [e 61 (by omega)])
section RO
variable {mem : ZM}
theorem c_isRow (x : Int32) : fX6_isRow x = some (bI (zin x 8)) := by
  unfold fX6_isRow
  rw [c_isWithin, e_bd, e_gd' (bI_bl _), ← zin_wit x (show 8 < 2147483648 by decide)]
  rfl
theorem m_isRow (x : Int32) : fX7_isRow x = some (bI (zin x 8)) := by
  unfold fX7_isRow
  rw [m_in, e_bd, e_gd' (bI_bl _), ← zin_wit x (show 8 < 2147483648 by decide)]
  rfl
/-- a finding, or none, told by both -/
theorem o_tell (hR : RR mem) {m1 m2 : ZM} (v : Int32) (h1 : m1 = zst mem 0 8 v) (h2 : m2 = zst m1 58 3 v) : RP mem m2 := by
  subst h2; subst h1
  refine ⟨hR.same (fun c hc => by rw [e_stn (by omega), e_stn (by omega)]), ?_, fun c h1 h2 h3 => by rw [e_stn (by omega), e_stn (by omega)], fun k hk => by rw [e_stk hk, e_stn (by decide)]⟩
  unfold RF
  rw [e_st, e_stn (by decide), e_st]
theorem RP.rf (hR : RR mem) (hF : RF mem) : RP mem mem := ⟨hR, hF, fun _ _ _ _ => rfl, fun _ _ => rfl⟩
/-- after other writes to rows -/
theorem o_tell2 {m1 m2 m3 m4 : ZM} (v : Int32) (h1 : m2 = zst m1 0 8 v) (h2 : m4 = zst m3 58 3 v) (e0 : m3 0 = m2 0) (hR : RR m4) (f1 : ∀ c, c ≠ 0 → c ≠ 63 → (c < 42 ∨ 61 < c) → m1 c = mem c) (f3 : ∀ c, c ≠ 63 → (c < 42 ∨ 61 < c) → m3 c = m2 c) (g1 : m1 58 = mem 58) (g3 : m3 58 = m2 58) : RP mem m4 := by
  refine ⟨hR, ?_, fun c a1 a2 a3 => ?_, fun k hk => ?_⟩
  · unfold RF
    rw [h2, e_st, e_stn (by decide), e0, h1, e_st]
  · rw [h2, e_stn (by omega), f3 c a2 a3, h1, e_stn (by omega), f1 c a1 a2 a3]
  · rw [h2, e_stk hk, g3, h1, e_stn (by decide), g1]
theorem c_missing {r : Nat} (hr : Rw1 mem r) : fX4_isMissing (42 + 2 * r) mem = some (bI (decide (mem 60 r < 0))) := by
  unfold fX4_isMissing
  rw [bI_if]
  congr 2
  rcases hr with ⟨a1, a2⟩ | ⟨l, n, b1, b2, b3, b4, b5, b6, b7⟩
  · rw [a1, a2]; rfl
  · rw [b3, b6, decide_eq_false (nI_n0 (t := n) (by omega)), decide_eq_false]
    intro e
    have := nI_n0 (t := l) (by omega)
    rw [e] at this
    exact this (by decide)
theorem e_40 (r i : Nat) : (40 : Int32) * nI r + nI i = nI (40 * r + i) := by rw [show (40 : Int32) = nI 40 from rfl, pk_mul, nI_add]
theorem o_row (hR : RR mem) (hF : RF mem) (a1 a2 a3 : Int32) : Op (fX6_row a1 a2 a3) (fX7_row a1 a2 a3) mem (RP mem) := by
  cases z1 : zin a1 8
  · exact ⟨-1000001, mem, mem, by simp [fX6_row, c_isRow, z1, bI], by simp [fX7_row, m_isRow, z1, bI], RP.rf hR hF⟩
  have hw2 : fX7_in a2.toInt64 0 2 = some (bI (wit a2 0 2)) := m_in a2 0 2
  have hs2 : wit a2 0 2 = (!decide (a2 < 0) && !decide ((2 : Int32) < a2)) := by
    unfold wit
    have e1 : ∀ x y : Int, decide (x ≤ y) = !decide (y < x) := fun x y => by by_cases h : x ≤ y <;> simp [h] <;> omega
    rw [e1, e1]
    simp only [e_lt]
    rfl
  by_cases c1 : a2 < 0
  · have hw : wit a2 0 2 = false := by rw [hs2]; simp [c1]
    exact ⟨-1000001, mem, mem, by simp [fX6_row, c_isRow, z1, bI, c1], by simp [fX7_row, m_isRow, z1, bI, hw2, hw], RP.rf hR hF⟩
  by_cases c2 : (2 : Int32) < a2
  · have hw : wit a2 0 2 = false := by rw [hs2]; simp [c2]
    exact ⟨-1000001, mem, mem, by simp [fX6_row, c_isRow, z1, bI, c1, c2], by simp [fX7_row, m_isRow, z1, bI, hw2, hw], RP.rf hR hF⟩
  have hw : wit a2 0 2 = true := by rw [hs2]; simp [c1, c2]
  by_cases c3 : ¬ a3 ≤ 40
  · exact ⟨-1000001, mem, mem, by simp [fX6_row, c_isRow, z1, bI, c1, c2, c3], by simp [fX7_row, m_isRow, z1, bI, hw2, hw, c3], RP.rf hR hF⟩
  have c3 := Classical.not_not.mp c3
  by_cases c4 : ¬ 0 ≤ a3
  · refine ⟨-1000010 - 4, zst mem 0 8 4, zst (zst mem 0 8 4) 58 3 4, ?_, ?_, o_tell hR 4 rfl rfl⟩
    · unfold fX6_row fX6_found
      simp only [c_isRow, z1, e_bd, bI_0, Bool.true_eq_false, if_false, if_neg c1, if_neg c2, if_pos c3, if_neg c4, e_let]
    · unfold fX7_row fX7_find
      simp only [m_isRow, z1, hw2, hw, e_bd, bI_0, Bool.true_eq_false, if_false, if_pos c3, if_neg c4, e_let]
  have c4 := Classical.not_not.mp c4
  obtain ⟨r, rfl, hr⟩ := zin_of (by decide) z1
  obtain ⟨l, rfl, -, hl⟩ := wit_of (a := 0) (b := 2) (by decide) hw
  have hn0 : ¬ a3 < 0 := by rw [e_le] at c4; rw [e_lt]; omega
  obtain ⟨n, hn, rfl⟩ := nI_of hn0
  have hn40 : n ≤ 40 := by rw [show (40 : Int32) = nI 40 from rfl, e_le0 hn (by decide)] at c3; exact c3
  -- the class
  have cls : ∃ m, fX4_begin (42 + 2 * r) (nI l) (nI n) mem = some m ∧ m (42 + 2 * r) 0 = nI l ∧ m (42 + 2 * r) 1 = nI n ∧ (∀ i, i < 40 → m (42 + 2 * r + 1) i = 0) ∧ (∀ c, c ≠ 42 + 2 * r → c ≠ 42 + 2 * r + 1 → m c = mem c) := by
    have key : ∃ q, fX4_begin_l12 (42 + 2 * r) (nI 0, zst (zst mem (42 + 2 * r) 0 (nI l)) (42 + 2 * r) 1 (nI n)) = some q ∧ ((∀ i, i < 40 → q.2 (42 + 2 * r + 1) i = 0) ∧ (∀ c, c ≠ 42 + 2 * r + 1 → q.2 c = (zst (zst mem (42 + 2 * r) 0 (nI l)) (42 + 2 * r) 1 (nI n)) c)) := by
      unfold fX4_begin_l12
      refine zi_inv (fun i q => q.1 = nI i ∧ (∀ j, j < i → q.2 (42 + 2 * r + 1) j = 0) ∧ (∀ c, c ≠ 42 + 2 * r + 1 → q.2 c = (zst (zst mem (42 + 2 * r) 0 (nI l)) (42 + 2 * r) 1 (nI n)) c)) _ 40 ?_ ?_ 2000 0 _ (Nat.zero_le _) (by omega) ⟨rfl, fun j hj => absurd hj (Nat.not_lt_zero j), fun _ _ => rfl⟩
      · intro i q hi hI
        obtain ⟨i1, i2, i3⟩ := hI
        refine Or.inl ⟨(nI (i + 1), zst q.2 (42 + 2 * r + 1) i 0), ?_, rfl, fun j hj => ?_, fun c hc => ?_⟩
        · show fX4_begin_b12 (42 + 2 * r) q.1 q.2 = _
          unfold fX4_begin_b12
          rw [i1, show (40 : Int32) = nI 40 from rfl, if_neg (by rw [e_le0 (by omega) (by omega)]; omega)]
          simp (disch := omega) only [e_gz, e_gd, e_cl, e_let, nI_1]
        · show zst q.2 (42 + 2 * r + 1) i 0 (42 + 2 * r + 1) j = 0
          rw [e_sta, if_pos rfl]
          by_cases e : j = i
          · rw [if_pos e]
          · rw [if_neg e]; exact i2 j (by omega)
        · show zst q.2 (42 + 2 * r + 1) i 0 c = _
          rw [e_stn hc]; exact i3 c hc
      · intro q hI
        obtain ⟨i1, i2, i3⟩ := hI
        refine ⟨q, ?_, i2, i3⟩
        show fX4_begin_b12 (42 + 2 * r) q.1 q.2 = _
        unfold fX4_begin_b12
        rw [i1, show (40 : Int32) = nI 40 from rfl, if_pos (by rw [e_le0 (by omega) (by omega)]; exact Nat.le_refl _), ← i1]
    obtain ⟨q, e, g1, g2⟩ := key
    unfold fX4_begin
    simp only [e_let]
    rw [l0, e, e_bd]
    refine ⟨q.2, rfl, ?_, ?_, g1, fun c h1 h2 => ?_⟩
    · rw [g2 _ (by omega), e_stk (by decide), e_st]
    · rw [g2 _ (by omega), e_st]
    · rw [g2 c h2, e_stn h1, e_stn h1]
  obtain ⟨m1, e1, p1, p2, p3, p4⟩ := cls
  -- the reference
  have key2 : ∃ q, fX7_row_l55 (nI r) (nI n) (nI 0, zst (zst (zst m1 0 8 0) 59 r (nI l)) 60 r (nI n)) = some q ∧ ((∀ i, i < 40 → q.2 61 (40 * r + i) = 0) ∧ (∀ j, (∀ i, i < 40 → j ≠ 40 * r + i) → q.2 61 j = m1 61 j) ∧ (∀ c, c ≠ 61 → q.2 c = (zst (zst (zst m1 0 8 0) 59 r (nI l)) 60 r (nI n)) c)) := by
    unfold fX7_row_l55
    refine zi_inv (fun i q => q.1 = nI i ∧ (∀ j, j < i → q.2 61 (40 * r + j) = 0) ∧ (∀ j, (∀ i, i < 40 → j ≠ 40 * r + i) → q.2 61 j = m1 61 j) ∧ (∀ c, c ≠ 61 → q.2 c = (zst (zst (zst m1 0 8 0) 59 r (nI l)) 60 r (nI n)) c)) _ 40 ?_ ?_ 2000 0 _ (Nat.zero_le _) (by omega) ⟨rfl, fun j hj => absurd hj (Nat.not_lt_zero j), fun j _ => by show zst (zst (zst m1 0 8 0) 59 r (nI l)) 60 r (nI n) 61 j = _; rw [e_stn (by decide), e_stn (by decide), e_stn (by decide)], fun _ _ => rfl⟩
    · intro i q hi hI
      obtain ⟨i1, i2, i3, i4⟩ := hI
      refine Or.inl ⟨(nI (i + 1), zst q.2 61 (40 * r + i) 0), ?_, rfl, fun j hj => ?_, fun j hj => ?_, fun c hc => ?_⟩
      · show fX7_row_b55 (nI r) (nI n) q.1 q.2 = _
        unfold fX7_row_b55
        rw [i1, e_40, show (40 : Int32) = nI 40 from rfl, if_neg (by rw [e_le0 (by omega) (by omega)]; omega)]
        simp (disch := omega) only [e_gz, e_gd, e_cl, e_let, nI_1]
      · show zst q.2 61 (40 * r + i) 0 61 (40 * r + j) = 0
        rw [e_sta, if_pos rfl]
        by_cases e : 40 * r + j = 40 * r + i
        · rw [if_pos e]
        · rw [if_neg e]; exact i2 j (by omega)
      · show zst q.2 61 (40 * r + i) 0 61 j = _
        rw [e_stk (hj i hi)]; exact i3 j hj
      · show zst q.2 61 (40 * r + i) 0 c = _
        rw [e_stn hc]; exact i4 c hc
    · intro q hI
      obtain ⟨i1, i2, i3, i4⟩ := hI
      refine ⟨q, ?_, i2, i3, i4⟩
      show fX7_row_b55 (nI r) (nI n) q.1 q.2 = _
      unfold fX7_row_b55
      rw [i1, e_40, show (40 : Int32) = nI 40 from rfl, if_pos (by rw [e_le0 (by omega) (by omega)]; exact Nat.le_refl _), ← i1]
  obtain ⟨q, e2, g1, g2, g3⟩ := key2
  refine ⟨nI n, zst m1 0 8 0, zst q.2 58 3 0, ?_, ?_, ?_⟩
  · unfold fX6_row fX6_foundNothing
    simp (disch := omega) only [c_isRow, z1, e_bd, bI_0, Bool.true_eq_false, if_false, if_neg c1, if_neg c2, if_pos c3, if_pos c4, e_let, e_gz, e_gd, e_cl, e1]
  · unfold fX7_row fX7_well
    simp (disch := omega) only [m_isRow, z1, hw2, hw, e_bd, bI_0, Bool.true_eq_false, if_false, if_pos c3, if_pos c4, e_let, e_gz, e_gd, e_cl]
    rw [show ((0 : Int32), zst (zst (zst m1 0 8 0) 59 r (nI l)) 60 r (nI n)) = (nI 0, zst (zst (zst m1 0 8 0) 59 r (nI l)) 60 r (nI n)) from rfl, e2, e_bd]
  · have q61 : ∀ c, c ≠ 61 → c ≠ 60 → c ≠ 59 → c ≠ 0 → q.2 c = m1 c := fun c h1 h2 h3 h4 => by rw [g3 c h1, e_stn h2, e_stn h3, e_stn h4]
    refine o_tell2 (m1 := m1) (m2 := zst m1 0 8 0) (m3 := q.2) 0 rfl rfl ?_ ?_ (fun c h1 h2 h3 => p4 c (by omega) (by omega)) (fun c h2 h3 => by rw [g3 c (by omega), e_stn (by omega), e_stn (by omega)]) (p4 58 (by omega) (by omega)) (by rw [g3 58 (by decide), e_stn (by decide), e_stn (by decide)])
    · rw [g3 0 (by decide), e_stn (by decide), e_stn (by decide)]
    · intro r' hr'
      by_cases hrr : r' = r
      · subst hrr
        refine Or.inr ⟨l, n, hl, hn40, ?_, ?_, ?_, ?_, fun i hi => ?_⟩
        · rw [e_stn (by omega), q61 _ (by omega) (by omega) (by omega) (by omega), p1]
        · rw [e_stn (by omega), q61 _ (by omega) (by omega) (by omega) (by omega), p2]
        · rw [e_stn (by decide), g3 59 (by decide), e_stn (by decide), e_st]
        · rw [e_stn (by decide), g3 60 (by decide), e_st]
        · rw [e_stn (by omega), e_stn (by decide), q61 _ (by omega) (by omega) (by omega) (by omega), p3 i hi, g1 i hi]
      · refine (hR r' hr').same ?_ ?_ ?_ ?_ (fun i hi => ?_)
        · rw [e_stn (by omega), q61 _ (by omega) (by omega) (by omega) (by omega), p4 _ (by omega) (by omega)]
        · rw [e_stn (by omega), q61 _ (by omega) (by omega) (by omega) (by omega), p4 _ (by omega) (by omega)]
        · rw [e_stn (by decide), g3 59 (by decide), e_stn (by decide), e_stk hrr, e_stn (by decide), p4 59 (by omega) (by omega)]
        · rw [e_stn (by decide), g3 60 (by decide), e_stk hrr, e_stn (by decide), e_stn (by decide), p4 60 (by omega) (by omega)]
        · rw [e_stn (by decide), g2 _ (fun j hj => by omega), p4 61 (by omega) (by omega)]
theorem o_drop (hR : RR mem) (hF : RF mem) (a1 : Int32) : Op (fX6_drop a1) (fX7_drop a1) mem (RP mem) := by
  cases z1 : zin a1 8
  · exact ⟨-1000001, mem, mem, by simp [fX6_drop, c_isRow, z1, bI], by simp [fX7_drop, m_isRow, z1, bI], RP.rf hR hF⟩
  obtain ⟨r, rfl, hr⟩ := zin_of (by decide) z1
  have hrw := hR r hr
  rcases hrw with ⟨b1, b2⟩ | ⟨l, n, b1, b2, b3, b4, b5, b6, b7⟩
  · refine ⟨-1000010 - 1, zst mem 0 8 1, zst (zst mem 0 8 1) 58 3 1, ?_, ?_, o_tell hR 1 rfl rfl⟩
    · unfold fX6_drop fX6_found
      simp (disch := omega) only [c_isRow, z1, e_bd, bI_0, Bool.true_eq_false, if_false, e_gz, e_gd, e_cl, c_missing (Or.inl ⟨b1, b2⟩ : Rw1 mem r), b2, e_let, show decide ((-1 : Int32) < 0) = true from by decide]
    · unfold fX7_drop fX7_find
      simp (disch := omega) only [m_isRow, z1, e_bd, bI_0, Bool.true_eq_false, if_false, e_gz, e_gd, e_cl, e_let]
      rw [e_stn (by decide), b2, if_neg (by decide)]
  · have hmis : fX4_isMissing (42 + 2 * r) mem = some (bI false) := by
      rw [c_missing (Or.inr ⟨l, n, b1, b2, b3, b4, b5, b6, b7⟩), b6, decide_eq_false (nI_n0 (by omega))]
    refine ⟨nI n, zst (zst (zst mem (42 + 2 * r) 0 (-1)) (42 + 2 * r) 1 0) 0 8 0, zst (zst (zst (zst (zst mem (42 + 2 * r) 0 (-1)) (42 + 2 * r) 1 0) 0 8 0) 60 r (-1)) 58 3 0, ?_, ?_, ?_⟩
    · unfold fX6_drop fX6_foundNothing fX4_lose
      simp (disch := omega) only [c_isRow, z1, e_bd, bI_0, Bool.true_eq_false, if_false, if_true, e_gz, e_gd, e_cl, hmis, e_let, b4]
    · unfold fX7_drop fX7_well
      simp (disch := omega) only [m_isRow, z1, e_bd, bI_0, Bool.true_eq_false, if_false, e_gz, e_gd, e_cl, e_let]
      rw [e_stn (by decide), e_stn (by omega), e_stn (by omega), b6, if_pos (nI_pos' (by omega))]
    · refine o_tell2 (m1 := zst (zst mem (42 + 2 * r) 0 (-1)) (42 + 2 * r) 1 0) 0 rfl rfl (by rw [e_stn (by decide)]) ?_ (fun c h1 h2 h3 => by rw [e_stn (by omega), e_stn (by omega)]) (fun c h2 h3 => by rw [e_stn (by omega)]) (by rw [e_stn (by omega), e_stn (by omega)]) (by rw [e_stn (by decide)])
      intro r' hr'
      by_cases hrr : r' = r
      · subst hrr
        refine Or.inl ⟨?_, ?_⟩
        · rw [e_stn (by omega), e_stn (by omega), e_stn (by omega), e_stk (by decide), e_st]
        · rw [e_stn (by decide), e_st]
      · refine (hR r' hr').same ?_ ?_ ?_ ?_ (fun i hi => ?_)
        · rw [e_stn (by omega), e_stn (by omega), e_stn (by omega), e_stn (by omega), e_stn (by omega)]
        · rw [e_stn (by omega), e_stn (by omega), e_stn (by omega), e_stn (by omega), e_stn (by omega)]
        · rw [e_stn (by omega), e_stn (by omega), e_stn (by omega), e_stn (by omega), e_stn (by omega)]
        · rw [e_stn (by omega), e_stk hrr, e_stn (by omega), e_stn (by omega), e_stn (by omega)]
        · rw [e_stn (by omega), e_stn (by omega), e_stn (by omega), e_stn (by omega), e_stn (by omega)]
end RO
