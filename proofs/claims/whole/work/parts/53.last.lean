section LA
variable {mem : ZM}
theorem anL_len : ∀ b n, n < 6 → (anL b n).length ≤ 6 := by decide
theorem o_ask (R : Rel mem) (a1 a2 : Int32) : Op (fX6_ask a1 a2) (fX7_ask a1 a2) mem Rel := by
  obtain ⟨h, r1, r2, r3, r4, r5, r6⟩ := id R
  obtain ⟨ok, H, Hm, -⟩ := r1.1
  have hn := ok.1
  cases z1 : zin a1 (hsN h)
  · exact ⟨-1000001, mem, mem, by simp [fX6_ask, c_hasThing H ok, z1, bI], by simp [fX7_ask, m_isThing Hm hn, z1, bI], R⟩
  cases z2 : wit a2 0 1
  · exact ⟨-1000001, mem, mem, by simp [fX6_ask, c_hasThing H ok, z1, bI, c_isEither, z2], by simp [fX7_ask, m_isThing Hm hn, z1, bI, m_in, tj0, tj1, z2], R⟩
  obtain ⟨t, rfl, ht⟩ := zin_of (by omega) z1
  have h8 := ok.t8 ht
  obtain ⟨k1, k2, k3, k4⟩ := H.2.1 t ht
  obtain ⟨q1, q2, q3, q4⟩ := Hm.2.1 t ht
  obtain ⟨hk, -, -, -⟩ := ok.2.1 t ht
  have hl6 := anL_len (decide (a2 = 0)) (hsK h t) (by omega)
  have q0 : ¬ bI true = 0 := by decide
  -- the class
  have hc : ∃ m1, fX6_ask (nI t) a2 mem = some (anS (decide (a2 = 0)) (hsK h t) (nI t) (nI (hsS h t)) (nI (hsW h t)), m1) ∧ TC m1 (anL (decide (a2 = 0)) (hsK h t)) ∧ (∀ c, c ≠ 15 → c ≠ 16 → m1 c = mem c) := by
    have key : ∀ b : Bool, ∃ m1, fX1_answer 17 (nI t) (bI b) mem = some (anS b (hsK h t) (nI t) (nI (hsS h t)) (nI (hsW h t)), m1) ∧ TC m1 (anL b (hsK h t)) ∧ (∀ c, c ≠ 15 → c ≠ 16 → m1 c = mem c) := by
      intro b
      have hl6' := anL_len b (hsK h t) (by omega)
      unfold fX1_answer
      simp (disch := omega) only [e_let, e_gz, e_cl, e_stn]
      rw [k1, k2, k3]
      have V : AV (zst (zst (zst (zst (zst mem 15 2 (nI t)) 15 3 (nI (hsK h t))) 15 4 (nI (hsS h t))) 15 5 (nI (hsW h t))) 15 1 0) (nI t) (nI (hsK h t)) (nI (hsS h t)) (nI (hsW h t)) := by
        unfold AV
        simp (disch := omega) only [e_st, e_stk, and_self]
      have T : TC (zst (zst (zst (zst (zst mem 15 2 (nI t)) 15 3 (nI (hsK h t))) 15 4 (nI (hsS h t))) 15 5 (nI (hsW h t))) 15 1 0) [] := ⟨by rw [e_st]; rfl, fun j hj => absurd hj (Nat.not_lt_zero j)⟩
      cases b
      · obtain ⟨m1, e1, T1, F1⟩ := c_askMark hk.1 hk.2 V [] (by rw [List.length_nil]; omega) T
        refine ⟨m1, ?_, T1, fun c c1 c2 => by rw [F1.1 c c1 c2]; simp (disch := omega) only [e_stn]⟩
        rw [if_pos (show bI false = 0 from rfl), e1, e_bd]
      · obtain ⟨m1, e1, T1, F1⟩ := c_askSize hk.1 hk.2 V [] (by rw [List.length_nil]; omega) T
        refine ⟨m1, ?_, T1, fun c c1 c2 => by rw [F1.1 c c1 c2]; simp (disch := omega) only [e_stn]⟩
        rw [if_neg q0, e1, e_bd]
    obtain ⟨m1, e1, T1, F1⟩ := key (decide (a2 = 0))
    refine ⟨m1, ?_, T1, F1⟩
    unfold fX6_ask fX6_ask_j39
    rw [c_hasThing H ok, z1, e_bd, if_neg q0, c_isEither, z2, e_bd, if_neg q0]
    by_cases h0 : a2 = 0
    · rw [if_pos h0]
      rw [decide_eq_true h0] at e1 ⊢
      have e1' : fX1_answer 17 (nI t) 1 mem = _ := e1
      rw [e1', e_bd]
    · rw [if_neg h0]
      rw [decide_eq_false h0] at e1 ⊢
      have e1' : fX1_answer 17 (nI t) 0 mem = _ := e1
      rw [e1', e_bd]
  obtain ⟨m1, e1, T1, F1⟩ := hc
  have e62 : m1 62 = mem 62 := F1 62 (by decide) (by decide)
  have e58 : m1 58 = mem 58 := F1 58 (by decide) (by decide)
  have V : MV (zst m1 58 24 0) t (nI (hsK h t)) (nI (hsS h t)) (nI (hsW h t)) := by
    unfold MV
    rw [e_stn (by decide), e62]
    exact ⟨h8, q1, q2, q3⟩
  have T : TM (zst m1 58 24 0) [] := ⟨by rw [e_st]; rfl, fun j hj => absurd hj (Nat.not_lt_zero j)⟩
  have hm : ∃ m2, fX7_ask (nI t) a2 m1 = some (anS (decide (a2 = 0)) (hsK h t) (nI t) (nI (hsS h t)) (nI (hsW h t)), m2) ∧ TM m2 (anL (decide (a2 = 0)) (hsK h t)) ∧ (∀ c, c ≠ 58 → c ≠ 71 → m2 c = m1 c) ∧ (∀ k, k ≠ 24 → m2 58 k = m1 58 k) := by
    unfold fX7_ask
    rw [m_isThing (h := h) (by rw [e62]; exact Hm) hn, z1, e_bd, if_neg q0, m_in, tj0, tj1, z2, e_bd, if_neg q0, e_let]
    by_cases h0 : a2 = 0
    · rw [decide_eq_true h0] at hl6 ⊢
      rw [if_pos h0]
      obtain ⟨m2, e2, T2, F2⟩ := m_sizeOf hk.1 hk.2 V [] (by rw [List.length_nil]; omega) T
      rw [e2, e_bd]
      exact ⟨m2, rfl, T2, fun c c1 c2 => by rw [F2.1 c c1 c2, e_stn c1], fun k hk => by rw [F2.2 k hk, e_stk hk]⟩
    · rw [decide_eq_false h0] at hl6 ⊢
      rw [if_neg h0]
      obtain ⟨m2, e2, T2, F2⟩ := m_markOf hk.1 hk.2 V [] (by rw [List.length_nil]; omega) T
      rw [e2, e_bd]
      exact ⟨m2, rfl, T2, fun c c1 c2 => by rw [F2.1 c c1 c2, e_stn c1], fun k hk => by rw [F2.2 k hk, e_stk hk]⟩
  obtain ⟨m2, e2, T2, F2, F2'⟩ := hm
  have hall : ∀ c, c ≠ 15 → c ≠ 16 → c ≠ 58 → c ≠ 71 → m2 c = mem c := fun c a b d e => by rw [F2 c d e, F1 c a b]
  have h58 : ∀ k, k ≠ 24 → m2 58 k = mem 58 k := fun k hk => by rw [F2' k hk, e58]
  refine ⟨_, m1, m2, e1, e2, h, r1.same (fun c hc => hall c (by omega) (by omega) (by omega) (by omega)) (fun k _ => by rw [hall 62 (by omega) (by omega) (by omega) (by omega)]) (fun k hk => h58 k (by omega)), r2.same (fun c hc => hall c (by omega) (by omega) (by omega) (by omega)), ?_, r4.same (fun q => q) (fun c hc => hall c (by omega) (by omega) (by omega) (by omega)), r5.same (fun c hc => hall c (by omega) (by omega) (by omega) (by omega)) (h58 8 (by decide)) (h58 9 (by decide)), ?_⟩
  · unfold RF
    rw [hall 0 (by decide) (by decide) (by decide) (by decide), h58 3 (by decide)]; exact r3
  · refine ⟨(anL (decide (a2 = 0)) (hsK h t)).length, by omega, by rw [F2 15 (by decide) (by decide)]; exact T1.1, T2.1, fun j hj => ?_⟩
    rw [F2 16 (by decide) (by decide), T1.2 j hj, T2.2 j hj]
theorem kd_eq : ∀ k, k < 6 → 1 ≤ k → ∀ w, w < 6 → fX6_isOfKind (nI k) (nI w) = fX7_isKind (nI k) (nI w) ∧ (fX7_isKind (nI k) (nI w) = some 0 ∨ fX7_isKind (nI k) (nI w) = some 1) := by decide +kernel
theorem o_as (R : Rel mem) (a1 a2 : Int32) : Op (fX6_as a1 a2) (fX7_as a1 a2) mem Rel := by
  obtain ⟨h, r1, r2, r3, r4, r5, r6⟩ := id R
  obtain ⟨ok, H, Hm, -⟩ := r1.1
  have hn := ok.1
  have ti5 : Int32.toInt 5 = 5 := rfl
  have tj5 : Int64.toInt 5 = 5 := rfl
  cases z1 : zin a1 (hsN h)
  · exact ⟨-1000001, mem, mem, by simp [fX6_as, c_hasThing H ok, z1, bI], by simp [fX7_as, m_isThing Hm hn, z1, bI], R⟩
  cases z2 : wit a2 0 5
  · exact ⟨-1000001, mem, mem, by simp [fX6_as, c_hasThing H ok, z1, bI, c_isWithin, ti0, ti5, z2], by simp [fX7_as, m_isThing Hm hn, z1, bI, m_in, tj0, tj5, z2], R⟩
  obtain ⟨t, rfl, ht⟩ := zin_of (by omega) z1
  obtain ⟨w, rfl, -, hw⟩ := wit_of (b := 5) (a := 0) (by decide) z2
  have h8 := ok.t8 ht
  have k1 := (H.2.1 t ht).1
  have q1 := (Hm.2.1 t ht).1
  have hk := (ok.2.1 t ht).1
  have q0 : ¬ bI true = 0 := by decide
  obtain ⟨g1, g2⟩ := kd_eq (hsK h t) (by omega) hk.1 w (by omega)
  have fin : ∀ v : Int32, Rel (zst (zst mem 0 8 v) 58 3 v) := by
    intro v
    have P := o_tell r2 (m1 := zst mem 0 8 v) (m2 := zst (zst mem 0 8 v) 58 3 v) v rfl rfl
    exact R.rows P
  have e62 : ∀ v : Int32, (zst mem 0 8 v) 62 = mem 62 := fun v => e_stn (by decide)
  have hc : fX6_as (nI t) (nI w) mem = Option.bind (fX7_isKind (nI (hsK h t)) (nI w)) (fun r3 => if r3 = 0 then (Option.bind (fX6_found (3 : Int32) mem) (fun r4 => some (r4.1, r4.2))) else (Option.bind (fX6_foundNothing (nI t) mem) (fun r5 => some (r5.1, r5.2)))) := by
    unfold fX6_as
    rw [c_hasThing H ok, z1, e_bd, if_neg q0, c_isWithin, ti0, ti5, z2, e_bd, if_neg q0, e_gz (by omega) (by omega), e_cl (by omega), k1, g1]
  have hm : ∀ m : ZM, m 62 = mem 62 → fX7_as (nI t) (nI w) m = Option.bind (fX7_isKind (nI (hsK h t)) (nI w)) (fun r3 => if r3 = 0 then (Option.bind (fX7_find (3 : Int32) m) (fun r4 => some (r4.1, r4.2))) else (Option.bind (fX7_well (nI t) m) (fun r5 => some (r5.1, r5.2)))) := by
    intro m e
    unfold fX7_as
    rw [m_isThing (h := h) (by rw [e]; exact Hm) hn, z1, e_bd, if_neg q0, m_in, tj0, tj5, z2, e_bd, if_neg q0, l6, nI_add, e_gz (by omega) (by omega), e_cl (by omega), e, q1]
  rcases g2 with g2 | g2
  · refine ⟨(-1000010 : Int32) - 3, zst mem 0 8 3, zst (zst mem 0 8 3) 58 3 3, ?_, ?_, fin 3⟩
    · rw [hc, g2]; rfl
    · rw [hm _ (e62 _), g2]; rfl
  · refine ⟨nI t, zst mem 0 8 0, zst (zst mem 0 8 0) 58 3 0, ?_, ?_, fin 0⟩
    · rw [hc, g2]; rfl
    · rw [hm _ (e62 _), g2]; rfl
theorem o_image (R : Rel mem) (a1 : Int32) : Op (fX6_image a1) (fX7_image a1) mem Rel := by
  obtain ⟨h, r1, r2, r3, r4, r5, r6⟩ := id R
  obtain ⟨ok, H, Hm, Hi⟩ := r1.1
  have hn := ok.1
  have q0 : ¬ bI true = 0 := by decide
  cases z1 : wit a1 0 1
  · exact ⟨-1000001, mem, mem, by simp [fX6_image, c_isWithin, ti0, ti1, bI, z1], by simp [fX7_image, m_in, tj0, tj1, bI, z1], R⟩
  by_cases z0 : hsN h = 0
  · have hz : mem 58 4 = 0 := by rw [Hi, decide_eq_false (by omega)]; rfl
    exact ⟨-1000002, mem, mem, by simp [fX6_image, c_isWithin, ti0, ti1, bI, z1, c_isNone H ok, z0], by simp [fX7_image, m_in, tj0, tj1, bI, z1, hz], R⟩
  have hz : ¬ mem 58 4 = 0 := by rw [Hi, decide_eq_true z0]; decide
  obtain ⟨k, rfl, -, hk⟩ := wit_of (b := 1) (a := 0) (by decide) z1
  obtain ⟨m1, e1, H1, t1, f1⟩ := c_takeFrom (b := 27 + 5 * k) (q := 17) H hn (by omega)
  have e62 : m1 62 = mem 62 := f1 62 (by omega)
  have key : ∃ r, fX7_image_l25 (nI k) (nI 0, m1) = some r ∧ ((∀ j, j < 38 → r.2 70 (38 * k + j) = mem 62 j) ∧ (∀ j, j < 38 * k ∨ 38 * k + 38 ≤ j → r.2 70 j = mem 70 j) ∧ (∀ c, c ≠ 70 → r.2 c = m1 c)) := by
    unfold fX7_image_l25
    refine zi_inv (fun i s => s.1 = nI i ∧ (∀ j, j < i → s.2 70 (38 * k + j) = mem 62 j) ∧ (∀ j, j < 38 * k ∨ 38 * k + 38 ≤ j → s.2 70 j = mem 70 j) ∧ (∀ c, c ≠ 70 → s.2 c = m1 c)) _ 38 ?_ ?_ 2000 0 _ (Nat.zero_le _) (by omega) ⟨rfl, fun j hj => absurd hj (Nat.not_lt_zero j), fun j _ => by show m1 70 j = _; rw [f1 70 (by omega)], fun _ _ => rfl⟩
    · intro i s hi hI
      obtain ⟨i1, i2, i3, i4⟩ := hI
      refine Or.inl ⟨(nI (i + 1), zst s.2 70 (38 * k + i) (mem 62 i)), ?_, rfl, fun j hj => ?_, fun j hj => ?_, fun c hc => ?_⟩
      · show fX7_image_b25 (nI k) s.1 s.2 = _
        unfold fX7_image_b25
        rw [i1, show (38 : Int32) = nI 38 from rfl, if_neg (by rw [e_le0 (by omega) (by omega)]; omega), i4 62 (by decide), e62]
        simp (disch := omega) only [pk_mul, nI_add, e_gz, e_cl, e_let, nI_1]
      · show zst s.2 70 (38 * k + i) (mem 62 i) 70 (38 * k + j) = _
        rw [e_sta, if_pos rfl]
        by_cases e : j = i
        · subst e; rw [if_pos rfl]
        · rw [if_neg (by omega)]; exact i2 j (by omega)
      · show zst s.2 70 (38 * k + i) (mem 62 i) 70 j = _
        rw [e_stk (by omega)]; exact i3 j hj
      · show zst s.2 70 (38 * k + i) (mem 62 i) c = _
        rw [e_stn hc]; exact i4 c hc
    · intro s hI
      obtain ⟨i1, i2, i3, i4⟩ := hI
      refine ⟨s, ?_, i2, i3, i4⟩
      show fX7_image_b25 (nI k) s.1 s.2 = _
      unfold fX7_image_b25
      rw [i1, show (38 : Int32) = nI 38 from rfl, if_pos (by rw [e_le0 (by omega) (by omega)]; exact Nat.le_refl _), ← i1]
  obtain ⟨r, e2, g1, g2, g3⟩ := key
  have hall : ∀ c, (c < 27 ∨ 36 < c) → c ≠ 70 → c ≠ 69 → (zst r.2 69 k 1) c = mem c := fun c a b d => by rw [e_stn d, g3 c b, f1 c (by omega)]
  refine ⟨1, m1, zst r.2 69 k 1, ?_, ?_, h, r1.same (fun c hc => hall c (by omega) (by omega) (by omega)) (fun k _ => by rw [hall 62 (by omega) (by omega) (by omega)]) (fun k hk => by rw [hall 58 (by omega) (by omega) (by omega)]), r2.same (fun c hc => hall c (by omega) (by omega) (by omega)), ?_, ?_, r5.same (fun c hc => hall c (by omega) (by omega) (by omega)) (by rw [hall 58 (by omega) (by omega) (by omega)]) (by rw [hall 58 (by omega) (by omega) (by omega)]), r6.same (fun c hc => hall c (by omega) (by omega) (by omega)) (by rw [hall 58 (by omega) (by omega) (by omega)])⟩
  · unfold fX6_image
    rw [c_isWithin, ti0, ti1, z1, e_bd, if_neg q0, c_isNone H ok, e_bd, decide_eq_false z0, if_pos (show bI false = 0 from rfl), e_gz (by omega) (by omega), e_cl (by omega), e1, e_bd]
  · unfold fX7_image
    rw [m_in, tj0, tj1, z1, e_bd, if_neg q0, f1 58 (by omega), if_neg hz, e_let, l0, e2, e_bd, e_gz (by omega) (by omega), e_let, e_cl (by omega)]
  · unfold RF
    rw [hall 0 (by omega) (by omega) (by omega), hall 58 (by omega) (by omega) (by omega)]; exact r3
  · intro j hj
    by_cases e : j = k
    · subst e
      refine ⟨h, ok, H1.kept (fun i _ => by rw [e_stn (by omega), g3 _ (by omega)]) (fun c a b => by rw [e_stn (by omega), g3 _ (by omega)]), by rw [e_st, decide_eq_true z0]; rfl, fun _ => ⟨z0, ?_, ?_⟩⟩
      · rw [e_stn (by decide)]
        exact Hr.kept Hm hn (fun i hi _ => g1 i hi)
      · rw [e_stn (by omega), g3 _ (by omega), t1, e_stn (by decide), g1 1 (by omega)]; exact r1.2.1
    · obtain ⟨g, p1, p2, p3, p4⟩ := r4 j hj
      have hc : ∀ c, 27 + 5 * j ≤ c → c ≤ 27 + 5 * j + 4 → (zst r.2 69 k 1) c = mem c := fun c a b => by rw [e_stn (by omega), g3 c (by omega), f1 c (by omega)]
      refine ⟨g, p1, p2.kept (fun i _ => by rw [hc _ (by omega) (by omega)]) (fun c a b => hc c (by omega) (by omega)), by rw [e_stk e, g3 69 (by decide), f1 69 (by omega)]; exact p3, fun h0 => ?_⟩
      obtain ⟨s1, s2, s3⟩ := p4 h0
      refine ⟨s1, ?_, ?_⟩
      · rw [e_stn (by decide)]
        exact Hr.kept s2 p1.1 (fun i hi _ => g2 _ (by omega))
      · rw [hc _ (by omega) (by omega), e_stn (by decide), g2 _ (by omega)]; exact s3
theorem o_restore (R : Rel mem) (a1 : Int32) : Op (fX6_restore a1) (fX7_restore a1) mem Rel := by
  obtain ⟨h, r1, r2, r3, r4, r5, r6⟩ := id R
  have q0 : ¬ bI true = 0 := by decide
  cases z1 : wit a1 0 1
  · exact ⟨-1000001, mem, mem, by simp [fX6_restore, c_isWithin, ti0, ti1, bI, z1], by simp [fX7_restore, m_in, tj0, tj1, bI, z1], R⟩
  obtain ⟨k, rfl, -, hk⟩ := wit_of (b := 1) (a := 0) (by decide) z1
  obtain ⟨g, ok, H, Hi, Hk⟩ := r4 k (by omega)
  have hn := ok.1
  by_cases z0 : hsN g = 0
  · have hz : mem 69 k = 0 := by rw [Hi, decide_eq_false (by omega)]; rfl
    refine ⟨-1000002, mem, mem, ?_, ?_, R⟩
    · unfold fX6_restore
      rw [c_isWithin, ti0, ti1, z1, e_bd, if_neg q0, e_gz (by omega) (by omega), e_cl (by omega), c_isNone H ok, e_bd, decide_eq_true z0, if_neg q0]
    · unfold fX7_restore
      rw [m_in, tj0, tj1, z1, e_bd, if_neg q0, e_gz (by omega) (by omega), e_cl (by omega), if_pos hz]
  obtain ⟨s1, s2, s3⟩ := Hk z0
  have hz : ¬ mem 69 k = 0 := by rw [Hi, decide_eq_true z0]; exact q0
  obtain ⟨m1, e1, H1, t1, f1⟩ := c_takeFrom (b := 17) (q := 27 + 5 * k) H hn (by omega)
  have key : ∃ r, fX7_restore_l27 (nI k) (nI 0, zst m1 5 0 0) = some r ∧ ((∀ j, j < 38 → r.2 62 j = mem 70 (38 * k + j)) ∧ (∀ c, c ≠ 62 → r.2 c = zst m1 5 0 0 c)) := by
    unfold fX7_restore_l27
    refine zi_inv (fun i s => s.1 = nI i ∧ (∀ j, j < i → s.2 62 j = mem 70 (38 * k + j)) ∧ (∀ c, c ≠ 62 → s.2 c = zst m1 5 0 0 c)) _ 38 ?_ ?_ 2000 0 _ (Nat.zero_le _) (by omega) ⟨rfl, fun j hj => absurd hj (Nat.not_lt_zero j), fun _ _ => rfl⟩
    · intro i s hi hI
      obtain ⟨i1, i2, i4⟩ := hI
      refine Or.inl ⟨(nI (i + 1), zst s.2 62 i (mem 70 (38 * k + i))), ?_, rfl, fun j hj => ?_, fun c hc => ?_⟩
      · show fX7_restore_b27 (nI k) s.1 s.2 = _
        unfold fX7_restore_b27
        rw [i1, show (38 : Int32) = nI 38 from rfl, if_neg (by rw [e_le0 (by omega) (by omega)]; omega), i4 70 (by decide), e_stn (by decide), f1 70 (by omega)]
        simp (disch := omega) only [pk_mul, nI_add, e_gz, e_cl, e_let, nI_1]
      · show zst s.2 62 i _ 62 j = _
        rw [e_sta, if_pos rfl]
        by_cases e : j = i
        · subst e; rw [if_pos rfl]
        · rw [if_neg e]; exact i2 j (by omega)
      · show zst s.2 62 i _ c = _
        rw [e_stn hc]; exact i4 c hc
    · intro s hI
      obtain ⟨i1, i2, i4⟩ := hI
      refine ⟨s, ?_, i2, i4⟩
      show fX7_restore_b27 (nI k) s.1 s.2 = _
      unfold fX7_restore_b27
      rw [i1, show (38 : Int32) = nI 38 from rfl, if_pos (by rw [e_le0 (by omega) (by omega)]; exact Nat.le_refl _), ← i1]
  obtain ⟨r, e2, g1, g3⟩ := key
  have hall : ∀ c, (c < 17 ∨ 21 < c) → c ≠ 5 → c ≠ 62 → c ≠ 58 → (zst r.2 58 19 0) c = mem c := fun c a b d e => by rw [e_stn e, g3 c d, e_stn b, f1 c (by omega)]
  have h58 : ∀ j, j ≠ 19 → (zst r.2 58 19 0) 58 j = mem 58 j := fun j hj => by rw [e_stk hj, g3 58 (by decide), e_stn (by decide), f1 58 (by omega)]
  have h17 : ∀ c, 17 ≤ c → c ≤ 21 → (zst r.2 58 19 0) c = m1 c := fun c a b => by rw [e_stn (by omega), g3 c (by omega), e_stn (by omega)]
  have h62 : (zst r.2 58 19 0) 62 = r.2 62 := e_stn (by decide)
  obtain ⟨k0, G0, T0, ag, ⟨nx, n1, n2, n3, -⟩, am⟩ := r1.2.2
  refine ⟨1, zst m1 5 0 0, zst r.2 58 19 0, ?_, ?_, g, ⟨⟨ok, H1.kept (fun i _ => by rw [h17 17 (by omega) (by omega)]) (fun c a b => h17 c (by omega) (by omega)), ?_, ?_⟩, ?_, 0, G0, T0, ⟨by omega, fun i hi => absurd hi (Nat.not_lt_zero i)⟩, ⟨nx, n1, ?_, ?_, fun i hi => absurd hi (Nat.not_lt_zero i)⟩, ⟨by rw [e_st]; rfl, fun i hi => absurd hi (Nat.not_lt_zero i)⟩⟩, r2.same (fun c hc => hall c (by omega) (by omega) (by omega) (by omega)), ?_, r4.same (fun _ => z0) (fun c hc => hall c (by omega) (by omega) (by omega) (by omega)), r5.same (fun c hc => hall c (by omega) (by omega) (by omega) (by omega)) (h58 8 (by decide)) (h58 9 (by decide)), r6.same (fun c hc => hall c (by omega) (by omega) (by omega) (by omega)) (h58 24 (by decide))⟩
  · unfold fX6_restore fX0_forget
    rw [c_isWithin, ti0, ti1, z1, e_bd, if_neg q0, e_gz (by omega) (by omega), e_cl (by omega), c_isNone H ok, e_bd, decide_eq_false z0, if_pos (show bI false = 0 from rfl), e_gz (by omega) (by omega), e1, e_bd, e_let, e_bd]
  · unfold fX7_restore
    rw [m_in, tj0, tj1, z1, e_bd, if_neg q0, e_gz (by omega) (by omega), e_cl (by omega), e_stn (by decide), f1 69 (by omega), if_neg hz, e_let]
    have e2' : fX7_restore_l27 (nI k) (0, zst m1 5 0 0) = some r := e2
    rw [e2', e_bd, e_let]
  · rw [h62]; exact Hr.kept s2 hn (fun i hi _ => g1 i hi)
  · rw [h58 4 (by decide), r1.1.2.2.2, decide_eq_true s1, decide_eq_true z0]
  · rw [h17 17 (by omega) (by omega), t1, h62, g1 1 (by omega)]; exact s3
  · rw [e_stn (by decide), g3 5 (by decide), e_st]; rfl
  · rw [e_stn (by decide), g3 5 (by decide), e_stk (by decide), f1 5 (by omega)]; exact n3
  · unfold RF
    rw [hall 0 (by omega) (by omega) (by omega) (by omega), h58 3 (by decide)]; exact r3
theorem o_feed (R : Rel mem) (a1 : Int32) : Op (fX6_feed a1) (fX7_feed a1) mem Rel := by
  obtain ⟨h, r1, r2, r3, r4, r5, r6⟩ := id R
  obtain ⟨n, t1, t2, t3, t4, t5⟩ := id r5
  have q0 : ¬ bI true = 0 := by decide
  have ti255 : Int32.toInt 255 = 255 := rfl
  have tj255 : Int64.toInt 255 = 255 := rfl
  have hw : ∀ {α : Type} (x y : α), (if a1 < 0 then x else (if a1 ≤ (255 : Int32) then y else x)) = if wit a1 0 255 = true then y else x := by
    intro α x y
    unfold wit
    simp only [e_lt, e_le, ti0, ti255, Bool.and_eq_true, decide_eq_true_eq]
    by_cases h1 : a1.toInt < 0
    · rw [if_pos h1, if_neg (by omega)]
    · by_cases h2 : a1.toInt ≤ 255
      · rw [if_neg h1, if_pos h2, if_pos ⟨by omega, h2⟩]
      · rw [if_neg h1, if_neg h2, if_neg (by omega)]
  cases z1 : wit a1 0 255
  · refine ⟨-1000001, mem, mem, ?_, by simp [fX7_feed, m_in, tj0, tj255, bI, z1], R⟩
    unfold fX6_feed
    rw [hw, z1, if_neg (show ¬ false = true by decide)]
  obtain ⟨b, rfl, -, hb⟩ := wit_of (b := 255) (a := 0) (by decide) z1
  by_cases hn : n < 90
  · have hall : ∀ c, c ≠ 3 → c ≠ 4 → c ≠ 58 → c ≠ 64 → (zst (zst (zst (zst mem 4 n (nI b)) 3 1 (nI (n + 1))) 64 n (nI b)) 58 8 (nI (n + 1))) c = mem c := fun c x1 x2 x3 x4 => by rw [e_stn x3, e_stn x4, e_stn x1, e_stn x2]
    have h58 : ∀ j, j ≠ 8 → (zst (zst (zst (zst mem 4 n (nI b)) 3 1 (nI (n + 1))) 64 n (nI b)) 58 8 (nI (n + 1))) 58 j = mem 58 j := fun j hj => by rw [e_stk hj, e_stn (by decide), e_stn (by decide), e_stn (by decide)]
    refine ⟨nI (n + 1), zst (zst mem 4 n (nI b)) 3 1 (nI (n + 1)), zst (zst (zst (zst mem 4 n (nI b)) 3 1 (nI (n + 1))) 64 n (nI b)) 58 8 (nI (n + 1)), ?_, ?_, h, r1.same (fun c hc => hall c (by omega) (by omega) (by omega) (by omega)) (fun k _ => by rw [hall 62 (by omega) (by omega) (by omega) (by omega)]) (fun k hk => h58 k (by omega)), r2.same (fun c hc => hall c (by omega) (by omega) (by omega) (by omega)), ?_, r4.same (fun q => q) (fun c hc => hall c (by omega) (by omega) (by omega) (by omega)), ⟨n + 1, by omega, ?_, ?_, fun j hj => ?_, ?_⟩, r6.same (fun c hc => hall c (by omega) (by omega) (by omega) (by omega)) (h58 24 (by decide))⟩
    · unfold fX6_feed fX5_takeByte
      rw [hw, z1, if_pos rfl, t2, show (90 : Int32) = nI 90 from rfl, if_pos (by rw [e_lt0 (by omega) (by omega)]; exact hn), e_gz hn (by decide), e_cl (by omega), e_let, e_stn (by decide), t2, nI_1, e_let, e_bd]
      show (if (1 : Int32) = 0 then _ else some ((zst (zst mem 4 n (nI b)) 3 1 (nI (n + 1))) 3 1, zst (zst mem 4 n (nI b)) 3 1 (nI (n + 1)))) = _
      rw [if_neg (by decide), e_st]
    · unfold fX7_feed
      rw [m_in, tj0, tj255, z1, e_bd, if_neg q0, e_stn (by decide), e_stn (by decide), t3, show (90 : Int32) = nI 90 from rfl, if_neg (by rw [e_eq0 (by omega) (by omega)]; omega), e_gz hn (by decide), e_cl (by omega), e_let, e_stn (by decide), e_stn (by decide), e_stn (by decide), t3, nI_1, e_let, e_st]
    · unfold RF
      rw [hall 0 (by decide) (by decide) (by decide) (by decide), h58 3 (by decide)]; exact r3
    · rw [e_stn (by decide), e_stn (by decide), e_st]
    · rw [e_st]
    · by_cases e : j = n
      · subst e
        refine ⟨b, by omega, ?_, ?_⟩
        · rw [e_stn (by decide), e_stn (by decide), e_stn (by decide), e_st]
        · rw [e_stn (by decide), e_st]
      · obtain ⟨c, c1, c2, c3⟩ := t4 j (by omega)
        refine ⟨c, c1, ?_, ?_⟩
        · rw [e_stn (by decide), e_stn (by decide), e_stn (by decide), e_stk e]; exact c2
        · rw [e_stn (by decide), e_stk e, e_stn (by decide), e_stn (by decide)]; exact c3
    · rw [h58 9 (by decide), e_stn (by decide), e_stn (by decide), e_stk (by decide), e_stn (by decide)]; exact t5
  · have h90 : n = 90 := by omega
    subst h90
    refine ⟨-1000003, mem, mem, ?_, ?_, R⟩
    · unfold fX6_feed fX5_takeByte
      rw [hw, z1, if_pos rfl, t2, show (90 : Int32) = nI 90 from rfl, if_neg (by rw [e_lt0 (by omega) (by omega)]; omega), e_bd, if_pos rfl]
    · unfold fX7_feed
      rw [m_in, tj0, tj255, z1, e_bd, if_neg q0, t3, if_pos (show nI 90 = (90 : Int32) from rfl)]
end LA
