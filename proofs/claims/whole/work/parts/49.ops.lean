def HA (mem : ZM) (h : HS) : Prop := RH mem h ∧ mem 17 9 = mem 62 1 ∧ AR mem h
def FrA (mem m : ZM) : Prop := (∀ c, (c < 5 ∨ 13 < c) → (c < 17 ∨ 21 < c) → c ≠ 58 → c ≠ 62 → c ≠ 66 → c ≠ 67 → m c = mem c) ∧ (∀ k, k ≠ 17 → k ≠ 19 → m 58 k = mem 58 k)
def PA (mem m : ZM) : Prop := (∃ h, HA m h) ∧ FrA mem m
theorem FrA.rf (mem : ZM) : FrA mem mem := ⟨fun _ _ _ _ _ _ _ => rfl, fun _ _ _ => rfl⟩
theorem PA.rf {mem : ZM} {h : HS} (A : HA mem h) : PA mem mem := ⟨⟨h, A⟩, FrA.rf _⟩
section OP
variable {mem : ZM} {h : HS}
theorem AG.push {h' : HS} {k : Nat} {G : Nat → HS} (ok : okH h) (hG : AG h k G) (hN : hsN h' = hsN h) (hK : ∀ t, hsK h' t = hsK h t) : AG h' (min 24 (k + 1)) (pG h G) := by
  refine ⟨Nat.min_le_left _ _, fun i hi => ?_⟩
  unfold pG
  by_cases h0 : i = 0
  · rw [if_pos h0]
    exact ⟨ok, hN.symm, fun t _ => (hK t).symm⟩
  · rw [if_neg h0]
    obtain ⟨a1, a2, a3⟩ := hG.2 (i - 1) (by omega)
    exact ⟨a1, by rw [a2, hN], fun t ht => by rw [a3 t (by omega), hK]⟩
theorem act_c (A : HA mem h) : ∃ k G T m1, AG h k G ∧ AM mem k G T ∧ fX0_keep 17 mem = some m1 ∧ Hc m1 17 h ∧ m1 17 9 = mem 17 9 ∧ (∀ c, c < 5 ∨ 13 < c → m1 c = mem c) ∧ AC m1 (min 24 (k + 1)) (pG h G) (pG (mem 17 9) T) := by
  obtain ⟨R, hh, k, G, T, hG, hC, hM⟩ := A
  obtain ⟨m1, e, c1, c2⟩ := c_keep R.2.1 R.1.1 hG hC
  exact ⟨k, G, T, m1, hG, hM, e, R.2.1.kept (fun j _ => by rw [c2 17 (by omega)]) (fun c a b => c2 c (by omega)), by rw [c2 17 (by omega)], c2, c1⟩
theorem act_m (R : RH mem h) {k : Nat} {G : Nat → HS} {T : Nat → Int32} (hG : AG h k G) (hM : AM mem k G T) {m2 : ZM} (e : ∀ c, c = 58 ∨ c = 62 ∨ c = 67 → m2 c = mem c) : ∃ m3, fX7_note m2 = some m3 ∧ AM m3 (min 24 (k + 1)) (pG h G) (pG (mem 62 1) T) ∧ Hr (m3 62) h ∧ m3 62 1 = mem 62 1 ∧ (∀ c, c ≠ 58 → c ≠ 67 → m3 c = m2 c) ∧ (∀ j, j ≠ 19 → m3 58 j = m2 58 j) := by
  have e62 := e 62 (by omega)
  obtain ⟨m3, e3, a1, a2, a3⟩ := m_note (mem := m2) (by rw [e62]; exact R.2.2.1) R.1.1 hG (hM.same (by rw [e 58 (by omega)]) (e 67 (by omega)))
  rw [e62] at a1
  exact ⟨m3, e3, a1, by rw [a2 62 (by decide) (by decide), e62]; exact R.2.2.1, by rw [a2 62 (by decide) (by decide), e62], a2, a3⟩
theorem act_fin {h' : HS} {k : Nat} {G : Nat → HS} {T : Nat → Int32} {m1 m2 m3 m4 : ZM} (A : HA mem h) (hG : AG h k G) (ok' : okH h') (hN : hsN h' = hsN h) (hK : ∀ t, hsK h' t = hsK h t)
    (f1 : ∀ c, c < 5 ∨ 13 < c → m1 c = mem c) (c1 : AC m1 (min 24 (k + 1)) (pG h G) (pG (mem 17 9) T)) (f2 : FrB 17 m1 m2) (H2 : Hc m2 17 h')
    (n3 : AM m3 (min 24 (k + 1)) (pG h G) (pG (mem 62 1) T)) (f3 : ∀ c, c ≠ 58 → c ≠ 67 → m3 c = m2 c) (f3' : ∀ j, j ≠ 19 → m3 58 j = m2 58 j) (f4 : FrO m3 m4) (H4 : Hr (m4 62) h') (ht : m2 17 9 = m4 62 1) : PA mem m4 := by
  obtain ⟨R, hh, -⟩ := A
  rw [← hh] at n3
  have e42 : ∀ c, c ≠ 58 → c ≠ 62 → c ≠ 66 → c ≠ 67 → m4 c = m2 c := fun c a b d e => by rw [f4.1 c a b d, f3 c a e]
  refine ⟨⟨h', ⟨ok', H2.kept (fun j _ => by rw [e42 17 (by decide) (by decide) (by decide) (by decide)]) (fun c a b => e42 c (by omega) (by omega) (by omega) (by omega)), H4, ?_⟩, ?_, min 24 (k + 1), pG h G, pG (mem 17 9) T, AG.push R.1 hG hN hK, ?_, ?_⟩, ?_, ?_⟩
  · rw [f4.2 4 (by decide), f3' 4 (by decide), f2 58 (by omega), f1 58 (by omega), hN]; exact R.2.2.2
  · rw [e42 17 (by decide) (by decide) (by decide) (by decide)]; exact ht
  · exact c1.same (fun c a b => by rw [e42 c (by omega) (by omega) (by omega) (by omega), f2 c (by omega)])
  · exact n3.same (f4.2 19 (by decide)) (f4.1 67 (by decide) (by decide) (by decide))
  · intro c a b d e g i
    rw [e42 c d e g i, f2 c (by omega), f1 c a]
  · intro j a b
    rw [f4.2 j a, f3' j b, f2 58 (by omega), f1 58 (by omega)]
theorem o_light (A : HA mem h) (a1 : Int32) : Op (fX6_light a1) (fX7_light a1) mem (PA mem) := by
  have R := A.1
  obtain ⟨ok, H, Hm, -⟩ := A.1
  have hn := ok.1
  cases z1 : zin a1 (hsN h)
  · exact ⟨-1000001, mem, mem, by simp [fX6_light, c_hasThing H ok, z1, bI], by simp [fX7_light, m_isThing Hm hn, z1, bI], PA.rf A⟩
  obtain ⟨t, rfl, ht⟩ := zin_of (by omega) z1
  have h8 := ok.t8 ht
  cases z2 : mlS h t
  · exact ⟨-1000002, mem, mem, by simp [fX6_light, c_hasThing H ok, z1, bI, c_mayBeLit H ok ht, z2], by simp [fX7_light, m_isThing Hm hn, z1, bI, m_mayLight Hm ok ht, z2], PA.rf A⟩
  obtain ⟨k, G, T, m1, hG, hM, e1, H1, t1, f1, c1⟩ := act_c A
  obtain ⟨m2, e2, H2, t2, f2⟩ := c_light H1 ok ht
  have em2 : ∀ c, 21 < c → m2 c = mem c := fun c hc => by rw [f2 c (by omega), f1 c (by omega)]
  obtain ⟨m3, e3, n3, H3, t3, f3, f3'⟩ := act_m R hG hM (m2 := m2) (fun c hc => em2 c (by omega))
  have Hm2 : Hr (m2 62) h := by rw [em2 62 (by omega)]; exact Hm
  have H4 : Hr ((zst m3 62 4 (nI (hsL h ||| 2 ^ t))) 62) (lightS h t) := by rw [e_row]; exact H3.stL
  refine ⟨nI (hsL h ||| 2 ^ t), m2, zst m3 62 4 (nI (hsL h ||| 2 ^ t)), ?_, ?_, act_fin A hG (light_ok ok ht z2) rfl (fun _ => rfl) f1 c1 f2 H2 n3 f3 f3' (FrO.s62 _ _ _) H4 ?_⟩
  · unfold fX6_light
    simp only [c_hasThing H ok, z1, e_bd, bI_0, Bool.true_eq_false, if_false, c_mayBeLit H ok ht, z2, e1, e2]
    rw [H2.2.2.1]; rfl
  · unfold fX7_light
    simp (disch := omega) only [m_isThing Hm2 hn, z1, e_bd, bI_0, Bool.true_eq_false, if_false, m_mayLight Hm2 ok ht, z2, e3, l4, e_gz, e_cl, H3.2.2.1, e_let, e_st, e_set _ ok.L t h8]
  · rw [e_stk (by decide), t2, t1, A.2.1, t3]
theorem o_water (A : HA mem h) (a1 a2 : Int32) : Op (fX6_water a1 a2) (fX7_water a1 a2) mem (PA mem) := by
  have R := A.1
  obtain ⟨ok, H, Hm, -⟩ := A.1
  have hn := ok.1
  cases z1 : zin a1 (hsN h)
  · exact ⟨-1000001, mem, mem, by simp [fX6_water, c_hasThing H ok, z1, bI], by simp [fX7_water, m_isThing Hm hn, z1, bI], PA.rf A⟩
  have hw : ∀ {α : Type} (x y : α), (if a2 < (1 : Int32) then x else (if a2 ≤ (20 : Int32) then y else x)) = if wit a2 1 20 = true then y else x := by
    intro α x y
    unfold wit
    simp only [e_lt, e_le, ti1, ti20, Bool.and_eq_true, decide_eq_true_eq]
    by_cases h1 : a2.toInt < 1
    · rw [if_pos h1, if_neg (by omega)]
    · by_cases h2 : a2.toInt ≤ 20
      · rw [if_neg h1, if_pos h2, if_pos ⟨by omega, h2⟩]
      · rw [if_neg h1, if_neg h2, if_neg (by omega)]
  cases z2 : wit a2 1 20
  · refine ⟨-1000001, mem, mem, ?_, by simp [fX7_water, m_isThing Hm hn, z1, bI, m_in, tj1, tj20, z2], PA.rf A⟩
    unfold fX6_water
    rw [c_hasThing H ok, z1, e_bd, if_neg (show ¬ bI true = 0 by decide), hw, z2, if_neg (show ¬ false = true by decide)]
  obtain ⟨t, rfl, ht⟩ := zin_of (by omega) z1
  have h8 := ok.t8 ht
  obtain ⟨w, rfl, hw1, hw2⟩ := wit_of (b := 20) (a := 1) (by decide) z2
  cases z3 : (hsO h).testBit t
  · obtain ⟨k, G, T, m1, hG, hM, e1, H1, t1, f1, c1⟩ := act_c A
    obtain ⟨m2, e2, H2, t2, f2⟩ := c_pourOn H1 ok ht (w := w) (by omega)
    have em2 : ∀ c, 21 < c → m2 c = mem c := fun c hc => by rw [f2 c (by omega), f1 c (by omega)]
    obtain ⟨m3, e3, n3, H3, t3, f3, f3'⟩ := act_m R hG hM (m2 := m2) (fun c hc => em2 c (by omega))
    have Hm2 : Hr (m2 62) h := by rw [em2 62 (by omega)]; exact Hm
    have e4 := m_waterBy H3 ok ht (w := w) (by omega)
    have H4 := m_waterHr H3 ok ht (w := w)
    refine ⟨nI (min 20 (hsW h t + w)), m2, _, ?_, ?_, act_fin A hG (water_ok ok ht w) rfl (fun _ => rfl) f1 c1 f2 H2 n3 f3 f3' ((FrO.s62 _ _ _).tr (FrO.s62 _ _ _)) H4 ?_⟩
    · unfold fX6_water
      rw [c_hasThing H ok, z1, e_bd, if_neg (show ¬ bI true = 0 by decide), hw, z2, if_pos rfl]
      simp (disch := omega) only [c_isOut H ok ht, z3, e_bd, bI_0, if_true, e1, e2, e_gz, e_cl]
      have q := (H2.2.1 t ht).2.2.1
      rw [show 17 + 3 = 20 from rfl] at q ⊢
      rw [q]
      show some (nI (if t = t then min 20 (hsW h t + w) else hsW h t), m2) = _
      rw [if_pos rfl]
    · unfold fX7_water
      simp (disch := omega) only [m_isThing Hm2 hn, z1, e_bd, bI_0, Bool.true_eq_false, if_false, m_in, tj1, tj20, z2, l5, e_gz, e_cl, Hm2.2.2.2.1, m_has ok.O h8, z3, if_true, e3, e4, l22, nI_add]
      rw [e_stk (by omega), e_st]
    · rw [e_stk (by decide), e_stk (by omega), t2, t1, A.2.1, t3]
  · refine ⟨-1000002, mem, mem, ?_, ?_, PA.rf A⟩
    · unfold fX6_water
      rw [c_hasThing H ok, z1, e_bd, if_neg (show ¬ bI true = 0 by decide), hw, z2, if_pos rfl]
      simp only [c_isOut H ok ht, z3, e_bd, bI_0, Bool.true_eq_false, if_false]
    · unfold fX7_water
      simp (disch := omega) only [m_isThing Hm hn, z1, e_bd, bI_0, Bool.true_eq_false, if_false, m_in, tj1, tj20, z2, l5, e_gz, e_cl, Hm.2.2.2.1, m_has ok.O h8, z3]
theorem o_swap (A : HA mem h) (a1 a2 : Int32) : Op (fX6_swap a1 a2) (fX7_swap a1 a2) mem (PA mem) := by
  have R := A.1
  obtain ⟨ok, H, Hm, -⟩ := A.1
  have hn := ok.1
  cases z1 : zin a1 (hsN h)
  · exact ⟨-1000001, mem, mem, by simp [fX6_swap, c_hasThing H ok, z1, bI], by simp [fX7_swap, m_isThing Hm hn, z1, bI], PA.rf A⟩
  cases z2 : zin a2 (hsN h)
  · exact ⟨-1000001, mem, mem, by simp [fX6_swap, c_hasThing H ok, z1, z2, bI], by simp [fX7_swap, m_isThing Hm hn, z1, z2, bI], PA.rf A⟩
  by_cases z3 : a1 = a2
  · refine ⟨-1000001, mem, mem, ?_, ?_, PA.rf A⟩
    · unfold fX6_swap
      simp only [c_hasThing H ok, z1, z2, e_bd, bI_0, Bool.true_eq_false, if_false]
      rw [if_pos z3]
    · unfold fX7_swap
      simp only [m_isThing Hm hn, z1, z2, e_bd, bI_0, Bool.true_eq_false, if_false]
      rw [if_pos z3]
  obtain ⟨t, rfl, ht⟩ := zin_of (by omega) z1
  obtain ⟨u, rfl, hu⟩ := zin_of (by omega) z2
  have h8 := ok.t8 ht
  have u8 := ok.t8 hu
  obtain ⟨k, G, T, m1, hG, hM, e1, H1, t1, f1, c1⟩ := act_c A
  obtain ⟨m2, e2, H2, t2, f2⟩ := c_swap H1 ok ht hu
  have em2 : ∀ c, 21 < c → m2 c = mem c := fun c hc => by rw [f2 c (by omega), f1 c (by omega)]
  obtain ⟨m3, e3, n3, H3, t3, f3, f3'⟩ := act_m R hG hM (m2 := m2) (fun c hc => em2 c (by omega))
  have Hm2 : Hr (m2 62) h := by rw [em2 62 (by omega)]; exact Hm
  obtain ⟨m4, e4, H4, t4, v1, v2, q4⟩ := m_swap H3 ok ht hu
  refine ⟨nI (hsP (swapS h t u) t), m2, m4, ?_, ?_, act_fin A hG (swap_ok ok ht hu) rfl (fun _ => rfl) f1 c1 f2 H2 n3 f3 f3' (by rw [q4]; exact (FrO.s62 _ _ _).tr (FrO.s62 _ _ _)) H4 ?_⟩
  · unfold fX6_swap
    simp (disch := omega) only [c_hasThing H ok, z1, z2, e_bd, bI_0, Bool.true_eq_false, if_false, e1, e2, e_gz, e_cl]
    rw [if_neg z3, (H2.2.1 t ht).2.2.2]
  · unfold fX7_swap
    simp (disch := omega) only [m_isThing Hm2 hn, z1, z2, e_bd, bI_0, Bool.true_eq_false, if_false, e3, e4, l30, nI_add, e_gz, e_cl]
    rw [if_neg z3, (H4.2.1 t ht).2.2.2]
  · rw [t2, t1, A.2.1, t4, t3]
theorem o_wind (A : HA mem h) : Op fX6_wind fX7_wind mem (PA mem) := by
  have R := A.1
  obtain ⟨ok, H, Hm, Hi⟩ := A.1
  have hn := ok.1
  have hv := ok.2.2.2.2.2.1
  by_cases z0 : hsN h = 0
  · have hz : mem 58 4 = 0 := by rw [Hi, decide_eq_false (by omega)]; rfl
    exact ⟨-1000002, mem, mem, by simp [fX6_wind, c_isNone H ok, z0, bI], by simp [fX7_wind, hz], PA.rf A⟩
  have hz : ¬ mem 58 4 = 0 := by rw [Hi, decide_eq_true z0]; decide
  obtain ⟨k, G, T, m1, hG, hM, e1, H1, t1, f1, c1⟩ := act_c A
  obtain ⟨m2, e2, H2, t2, f2⟩ := c_turn H1 ok
  have em2 : ∀ c, 21 < c → m2 c = mem c := fun c hc => by rw [f2 c (by omega), f1 c (by omega)]
  obtain ⟨m3, e3, n3, H3, t3, f3, f3'⟩ := act_m R hG hM (m2 := m2) (fun c hc => em2 c (by omega))
  have H4 : Hr ((zst m3 62 2 (nI (1 - hsV h))) 62) (turnS h) := by rw [e_row]; exact H3.stV
  refine ⟨nI (1 - hsV h), m2, zst m3 62 2 (nI (1 - hsV h)), ?_, ?_, act_fin A hG (turn_ok ok) rfl (fun _ => rfl) f1 c1 f2 H2 n3 f3 f3' (FrO.s62 _ _ _) H4 ?_⟩
  · unfold fX6_wind
    rw [c_isNone H ok, e_bd, decide_eq_false z0, if_pos (show bI false = 0 from rfl), e1, e_bd, e2, e_bd, H2.2.2.2.2.1]; rfl
  · unfold fX7_wind
    rw [em2 58 (by omega), if_neg hz, e3, e_bd]
    simp (disch := omega) only [l2, e_gz, e_cl, H3.2.2.2.2.1, e_let, e_st]
    rw [l1, pk_sub hv]
  · rw [e_stk (by decide), t2, t1, A.2.1, t3]
theorem o_undo (A : HA mem h) : Op fX6_undo fX7_undo mem (PA mem) := by
  obtain ⟨R, hh, k, G, T, hG, hC, hM⟩ := id A
  have hk := hG.1
  by_cases h0 : k = 0
  · obtain ⟨nx, -, q1, -, -⟩ := hC
    have q2 := hM.1
    rw [h0] at q1 q2
    refine ⟨-1000002, mem, mem, ?_, ?_, PA.rf A⟩
    · unfold fX6_undo; rw [q1, if_pos (show nI 0 = (0 : Int32) from rfl)]
    · unfold fX7_undo; rw [q2, if_pos (show nI 0 = (0 : Int32) from rfl)]
  · obtain ⟨m1, e1, H1, t1, q1, c1, f1⟩ := c_takeBack R.2.1 R.1.1 hG hC (by omega)
    obtain ⟨m2, e2, H2, t2, c2, f2, f2'⟩ := m_undo (mem := m1) R.1.1 hG (hM.same (by rw [f1 58 (by decide) (by omega)]) (f1 67 (by decide) (by omega))) (by omega)
    obtain ⟨ok0, hN, hK⟩ := hG.2 0 (by omega)
    have hk0 : ¬ mem 5 0 = 0 := by
      obtain ⟨nx, -, q, -, -⟩ := hC
      rw [q, l0, e_eq0 (by omega) (by omega)]; omega
    refine ⟨nI (k - 1), m1, m2, ?_, e2, ⟨G 0, ⟨ok0, H1.kept (fun j _ => by rw [f2 17 (by decide) (by decide)]) (fun c a b => f2 c (by omega) (by omega)), H2, ?_⟩, ?_, k - 1, fun i => G (i + 1), fun i => T (i + 1), ⟨by omega, fun i hi => ?_⟩, c1.same (fun c a b => f2 c (by omega) (by omega)), c2⟩, ?_, ?_⟩
    · unfold fX6_undo; rw [if_neg hk0, e1, e_bd, q1]
    · rw [f2' 4 (by decide), f1 58 (by decide) (by omega), hN]; exact R.2.2.2
    · rw [f2 17 (by decide) (by decide), t1, t2]
    · obtain ⟨a1, a2, a3⟩ := hG.2 (i + 1) (by omega)
      exact ⟨a1, by rw [a2, hN], fun t ht => by rw [a3 t (by omega), hK t (by omega)]⟩
    · intro c a b d e g i
      rw [f2 c d e, f1 c (by omega) b]
    · intro j a b
      rw [f2' j b, f1 58 (by decide) (by omega)]
end OP
