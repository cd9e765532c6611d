/-! the class's hour -/
theorem e_mx {a c : Nat} (ha : a < 1000) (hc : c < 1000) : (if (0 : Int32) < nI a - nI c then nI a - nI c else (0 : Int32)) = nI (a - c) := by
  by_cases h : c ≤ a
  · rw [pk_sub h, show (0 : Int32) = nI 0 from rfl]
    simp only [e_lt0 (show 0 < 2147483648 by decide) (show a - c < 2147483648 by omega)]
    by_cases h2 : 0 < a - c
    · rw [if_pos h2]
    · rw [if_neg h2]; congr 1; omega
  · have h1 := pk_sneg (a := a) (b := c) (by omega) (by omega)
    have h2 : ¬ (0 : Int32) < nI a - nI c := by rw [e_lt] at *; omega
    rw [if_neg h2, show a - c = 0 by omega]; rfl
theorem e_mn {a c : Nat} (ha : a < 1000000) (hc : c < 1000000) : (if nI a + nI c < (99999 : Int32) then nI a + nI c else (99999 : Int32)) = nI (min 99999 (a + c)) := by
  rw [nI_add, show (99999 : Int32) = nI 99999 from rfl]
  simp only [e_lt0 (show a + c < 2147483648 by omega) (show 99999 < 2147483648 by decide)]
  by_cases h : a + c < 99999
  · rw [if_pos h]; congr 1; omega
  · rw [if_neg h]; congr 1; omega
theorem e_t1 : ∀ k, k < 6 → zt1.getD k 0 = nI (burnsN k) := by decide +kernel
theorem e_t2 : ∀ k, k < 6 → zt2.getD k 0 = nI (smokesN k) := by decide +kernel
theorem burns_le (k : Nat) : burnsN k ≤ 4 := by unfold burnsN; split; omega; split; omega; split <;> omega
theorem smokes_le (k : Nat) : smokesN k ≤ 3 := by unfold smokesN; split; omega; split <;> omega
def bdS (h : HS) (t : Nat) : HS :=
  let g := setM (setS h t (hsS h t - burnsN (hsK h t))) (min 99999 (hsM h + smokesN (hsK h t)))
  if hsS h t - burnsN (hsK h t) = 0 then setL g (hsL h &&& (255 ^^^ 2 ^ t)) else g
section CB
variable {mem : ZM} {b t : Nat} {h : HS}
theorem c_quench (H : Hc mem b h) (hL : hsL h < 256) (ht : t < 8) : fX3_quench b (nI t) mem = some (zst mem b 5 (nI (hsL h &&& (255 ^^^ 2 ^ t)))) := by
  unfold fX3_quench
  rw [e_let, H.2.2.1, e_clr _ hL t ht]
theorem c_burnDown (H : Hc mem b h) (ok : okH h) (ht : t < hsN h) : ∃ mem', fX3_burnDown b (nI t) mem = some mem' ∧ Hc mem' b (bdS h t) ∧ mem' b 9 = mem b 9 ∧ FrB b mem mem' := by
  have hn := ok.1
  have h8 := ok.t8 ht
  obtain ⟨hk, hs, hw, hp⟩ := ok.2.1 t ht
  have hM := ok.2.2.2.2.2.2.1
  have hbl := burns_le (hsK h t)
  have hsl := smokes_le (hsK h t)
  obtain ⟨a1, a2, a3, a4⟩ := H.2.1 t ht
  unfold fX3_burnDown
  simp only [e_gd' (e_zint h8 (show 8 < 2147483648 by decide)), e_cl (show t < 2147483648 by omega), a1, a2, e_let, e_gd' (e_zint (show hsK h t < 6 by omega) (show 6 < 2147483648 by decide)), e_cl (show hsK h t < 2147483648 by omega), e_t1 _ (show hsK h t < 6 by omega), e_t2 _ (show hsK h t < 6 by omega), e_mx (show hsS h t < 1000 by omega) (show burnsN (hsK h t) < 1000 by omega)]
  have H1 : Hc (zst mem (b + 2) t (nI (hsS h t - burnsN (hsK h t)))) b (setS h t (hsS h t - burnsN (hsK h t))) := H.stS
  generalize hm1 : zst mem (b + 2) t (nI (hsS h t - burnsN (hsK h t))) = m1 at H1 ⊢
  have F1 : FrB b mem m1 := by rw [← hm1]; exact FrB.st _ (by omega)
  have n1 : m1 b 9 = mem b 9 := by rw [← hm1, e_stn (by omega)]
  have hM1 : m1 b 8 = nI (hsM h) := H1.2.2.2.2.2
  rw [hM1, e_mn (by omega) (by omega)]
  have H2 : Hc (zst m1 b 8 (nI (min 99999 (hsM h + smokesN (hsK h t))))) b (setM (setS h t (hsS h t - burnsN (hsK h t))) (min 99999 (hsM h + smokesN (hsK h t)))) := H1.stM
  generalize hm2 : zst m1 b 8 (nI (min 99999 (hsM h + smokesN (hsK h t)))) = m2 at H2 ⊢
  have F2 : FrB b mem m2 := F1.tr (by rw [← hm2]; exact FrB.st _ (by omega))
  have n2 : m2 b 9 = mem b 9 := by rw [← hm2, e_stk (by decide), n1]
  have hash : fX3_isAsh b (nI t) m2 = some (bI (decide (hsS h t - burnsN (hsK h t) = 0))) := by
    unfold fX3_isAsh
    have e := (H2.2.1 t ht).2.1
    have e' : m2 (b + 2) t = nI (hsS h t - burnsN (hsK h t)) := by
      rw [e]; show nI (if t = t then _ else _) = _; rw [if_pos rfl]
    rw [e_gd' (e_zint h8 (by decide)), e_cl (by omega), e', bI_if]
    congr 2
    simp only [show (0 : Int32) = nI 0 from rfl, e_eq0 (show hsS h t - burnsN (hsK h t) < 2147483648 by omega) (show 0 < 2147483648 by decide)]
  rw [hash, e_bd]
  simp only [bI_0]
  unfold bdS
  by_cases hz : hsS h t - burnsN (hsK h t) = 0
  · rw [if_neg (by simp [hz]), c_quench H2 ok.L h8, e_bd, if_pos hz]
    exact ⟨_, rfl, H2.stL, by rw [e_stk (by decide), n2], F2.tr (FrB.st _ (by omega))⟩
  · rw [if_pos (by simp [hz]), if_neg hz]
    exact ⟨_, rfl, H2, n2, F2⟩
/-- what the first part of a thing's hour does -/
theorem mix_L (h : HS) (i : Nat) : hsL (mixS i h) = mkb (fun t => if t < i then nL h t else (hsL h).testBit t) (hsN h) := rfl
theorem mix_Lb {h : HS} {i t : Nat} (ht : t < hsN h) : (hsL (mixS i h)).testBit t = if t < i then nL h t else (hsL h).testBit t := by
  rw [mix_L, mkb_tb, decide_eq_true ht, Bool.true_and]
theorem mix_ml {h : HS} {i : Nat} (hi : i < hsN h) : mlS (mixS i h) i = mlS h i := by
  unfold mlS cbS
  rw [mix_Lb hi]
  show (decide (hsK h i ≤ 3) && decide ((if i < i then nS h i else hsS h i) ≠ 0) && !(hsO h).testBit i && decide ((if i < i then nW h i else hsW h i) = 0) && !(if i < i then nL h i else (hsL h).testBit i)) = _
  simp only [Nat.lt_irrefl, if_false]
/-- the mixture of the next -/
theorem mix_next {h g : HS} {i : Nat} (ok : okH h) (hi : i < hsN h) (e0 : hsN g = hsN h) (eK : hsK g = hsK h) (eP : hsP g = hsP h) (eO : hsO g = hsO h) (eV : hsV g = hsV h)
    (eS : ∀ t, t < hsN h → hsS g t = if t = i then nS h i else hsS (mixS i h) t) (eW : ∀ t, t < hsN h → hsW g t = if t = i then nW h i else hsW (mixS i h) t)
    (eL1 : hsL g < 2 ^ hsN h) (eL : ∀ t, t < hsN h → (hsL g).testBit t = if t = i then nL h i else (hsL (mixS i h)).testBit t) (eM : hsM g = min 99999 (hsM h + smS h (i + 1))) : eqH g (mixS (i + 1) h) := by
  refine ⟨e0, fun t ht => ⟨by rw [eK]; rfl, ?_, ?_, by rw [eP]; rfl⟩, ?_, eO, eV, eM⟩
  · rw [eS t (by omega)]
    show (if t = i then nS h i else (if t < i then nS h t else hsS h t)) = (if t < i + 1 then nS h t else hsS h t)
    by_cases h1 : t = i
    · subst h1; rw [if_pos rfl, if_pos (by omega)]
    · rw [if_neg h1]
      by_cases h2 : t < i
      · rw [if_pos h2, if_pos (by omega)]
      · rw [if_neg h2, if_neg (by omega)]
  · rw [eW t (by omega)]
    show (if t = i then nW h i else (if t < i then nW h t else hsW h t)) = (if t < i + 1 then nW h t else hsW h t)
    by_cases h1 : t = i
    · subst h1; rw [if_pos rfl, if_pos (by omega)]
    · rw [if_neg h1]
      by_cases h2 : t < i
      · rw [if_pos h2, if_pos (by omega)]
      · rw [if_neg h2, if_neg (by omega)]
  · refine tb_ext eL1 (mkb_lt _ _) (fun t ht => ?_)
    rw [eL t ht, show (hsL (mixS (i + 1) h)) = mkb (fun t => if t < i + 1 then nL h t else (hsL h).testBit t) (hsN h) from rfl, mkb_tb, decide_eq_true ht, Bool.true_and]
    by_cases h1 : t = i
    · subst h1; rw [if_pos rfl, if_pos (by omega)]
    · rw [if_neg h1, mix_Lb ht]
      by_cases h2 : t < i
      · rw [if_pos h2, if_pos (by omega)]
      · rw [if_neg h2, if_neg (by omega)]
theorem smS_le (h : HS) : ∀ i, smS h i ≤ 3 * i
  | 0 => by simp [smS]
  | i + 1 => by
    have := smS_le h i
    have := smokes_le (hsK h i)
    unfold smS
    split <;> omega
/-- the end of a thing's hour: less wet -/
theorem c_wetter {g : HS} (H : Hc mem b g) (ht : t < hsN g) (h8 : t < 8) (hw : hsW g t ≤ 20) {q : Nat} (hq : q ≤ 7) (y1 y2 y3 : Int32) : fX3_passHour_j121 b y1 y2 y3 (nI t) (nI q) mem = some (Sum.inl (nI (t + 1), zst mem (b + 3) t (nI (hsW g t - q)))) := by
  unfold fX3_passHour_j121
  rw [e_gd' (e_zint h8 (by decide)), e_gd' (e_zint h8 (by decide)), e_cl (by omega), (H.2.1 t ht).2.2.1, e_mx (by omega) (by omega), e_let, e_let, nI_1]
theorem c_hourStep (ok : okH h) {i : Nat} (hi : i < hsN h) (H : Hc mem b (mixS i h)) : ∃ mem', fX3_passHour_b37 b (nI (hsL h)) (nI (fireS h)) (nI (hotS h)) (nI i) mem = some (Sum.inl (nI (i + 1), mem')) ∧ Hc mem' b (mixS (i + 1) h) ∧ mem' b 9 = mem b 9 ∧ FrB b mem mem' := by
  have okm := mix_ok ok i
  have hn := ok.1
  have h8 := ok.t8 hi
  have him : i < hsN (mixS i h) := hi
  have hp := (ok.2.1 i hi).2.2.2
  have hwb := (okm.2.1 i him).2.2.1
  have hwi : hsW (mixS i h) i = hsW h i := by show (if i < i then _ else _) = _; rw [if_neg (Nat.lt_irrefl i)]
  have hsi : hsS (mixS i h) i = hsS h i := by show (if i < i then _ else _) = _; rw [if_neg (Nat.lt_irrefl i)]
  have hM := ok.2.2.2.2.2.2.1
  have hsm := smS_le h i
  have hsk := smokes_le (hsK h i)
  -- the heat is that of the hour's beginning
  have key : ∀ q, q = heatS h i → ∃ mem', fX3_passHour_j72 b (nI (hsL h)) (nI (fireS h)) (nI (hotS h)) (nI i) (nI q) mem = some (Sum.inl (nI (i + 1), mem')) ∧ Hc mem' b (mixS (i + 1) h) ∧ mem' b 9 = mem b 9 ∧ FrB b mem mem' := by
    intro q hq
    have hq7 : q ≤ 7 := by rw [hq]; exact heatS_le h i
    unfold fX3_passHour_j72
    rw [e_let]
    have hbit := e_bit (hsL h) ok.L i h8
    by_cases hL : (hsL h).testBit i = true
    · rw [if_pos (hbit.mpr hL)]
      obtain ⟨m1, e1, H1, n1, F1⟩ := c_burnDown H okm him
      rw [e1, e_bd]
      have hN : hsN (bdS (mixS i h) i) = hsN h := by unfold bdS; simp only []; split <;> rfl
      have hW : ∀ u, hsW (bdS (mixS i h) i) u = hsW (mixS i h) u := by intro u; unfold bdS; simp only []; split <;> rfl
      rw [c_wetter H1 (by rw [hN]; exact hi) h8 (by rw [hW]; exact hwb) hq7]
      refine ⟨_, rfl, ?_, by rw [e_stn (by omega), n1], F1.tr (FrB.st _ (by omega))⟩
      refine (H1.stW).ext (mix_next ok hi hN ?_ ?_ ?_ ?_ ?_ ?_ ?_ ?_ ?_)
      · unfold bdS; simp only []; split <;> rfl
      · unfold bdS; simp only []; split <;> rfl
      · unfold bdS; simp only []; split <;> rfl
      · unfold bdS; simp only []; split <;> rfl
      · intro t ht
        have : hsS (bdS (mixS i h) i) t = if t = i then hsS (mixS i h) i - burnsN (hsK h i) else hsS (mixS i h) t := by unfold bdS; simp only []; split <;> rfl
        show hsS (bdS (mixS i h) i) t = _
        rw [this, hsi]
        unfold nS
        rw [if_pos hL]
      · intro t ht
        show (if t = i then hsW (bdS (mixS i h) i) i - q else hsW (bdS (mixS i h) i) t) = _
        rw [hW, hW, hwi]
        unfold nW
        rw [hq]
      · show hsL (bdS (mixS i h) i) < _
        unfold bdS; simp only []
        split
        · exact clr_lt _ okm.2.2.2.1
        · exact okm.2.2.2.1
      · intro t ht
        show (hsL (bdS (mixS i h) i)).testBit t = _
        unfold nL
        rw [if_pos hL]
        unfold bdS nS; simp only []
        rw [if_pos hL, hsi]
        by_cases hz : hsS h i - burnsN (hsK h i) = 0
        · rw [if_pos (show hsS h i - burnsN (hsK (mixS i h) i) = 0 from hz)]
          show (hsL (mixS i h) &&& (255 ^^^ 2 ^ i)).testBit t = _
          rw [tb_clr _ okm.L i h8 t (by omega)]
          by_cases hti : t = i
          · subst hti; simp [hz]
          · simp [hti]
        · rw [if_neg (show ¬ hsS h i - burnsN (hsK (mixS i h) i) = 0 from hz)]
          show (hsL (mixS i h)).testBit t = _
          by_cases hti : t = i
          · subst hti
            rw [mix_Lb hi, if_neg (Nat.lt_irrefl t), if_pos rfl, hL]; simp [hz]
          · rw [if_neg hti]
      · show hsM (bdS (mixS i h) i) = _
        have : hsM (bdS (mixS i h) i) = min 99999 (min 99999 (hsM h + smS h i) + smokesN (hsK h i)) := by unfold bdS; simp only []; split <;> rfl
        rw [this]
        show _ = min 99999 (hsM h + (smS h i + (if (hsL h).testBit i = true then smokesN (hsK h i) else 0)))
        rw [if_pos hL]; omega
    · rw [if_neg (fun e => hL (hbit.mp e))]
      have hsm1 : smS h (i + 1) = smS h i := by
        show smS h i + (if (hsL h).testBit i = true then smokesN (hsK h i) else 0) = smS h i
        rw [if_neg hL, Nat.add_zero]
      have fin : ∀ (m1 : ZM) (g : HS), Hc m1 b g → m1 b 9 = mem b 9 → FrB b mem m1 → hsN g = hsN h → hsK g = hsK h → hsP g = hsP h → hsO g = hsO h → hsV g = hsV h → hsS g = hsS (mixS i h) → hsW g = hsW (mixS i h) → hsM g = hsM (mixS i h) → hsL g < 2 ^ hsN h →
          (∀ t, t < hsN h → (hsL g).testBit t = if t = i then nL h i else (hsL (mixS i h)).testBit t) → ∃ mem', fX3_passHour_j121 b (nI (hsL h)) (nI (fireS h)) (nI (hotS h)) (nI i) (nI q) m1 = some (Sum.inl (nI (i + 1), mem')) ∧ Hc mem' b (mixS (i + 1) h) ∧ mem' b 9 = mem b 9 ∧ FrB b mem mem' := by
        intro m1 g H1 n1 F1 eN eK eP eO eV eS eW eM eL1 eL
        rw [c_wetter H1 (by rw [eN]; exact hi) h8 (by rw [eW]; exact hwb) hq7]
        refine ⟨_, rfl, ?_, by rw [e_stn (by omega), n1], F1.tr (FrB.st _ (by omega))⟩
        refine (H1.stW).ext (mix_next ok hi eN eK eP eO eV (fun t ht => ?_) (fun t ht => ?_) eL1 eL ?_)
        · show hsS g t = _
          rw [eS]
          by_cases hti : t = i
          · subst hti; rw [if_pos rfl, hsi]; unfold nS; rw [if_neg hL]
          · rw [if_neg hti]
        · show (if t = i then hsW g i - q else hsW g t) = _
          rw [eW, hwi]
          unfold nW
          rw [hq]
        · show hsM g = _
          rw [eM, hsm1]; rfl
      have hnl : nL h i = (decide (2 ≤ heatS h i) && mlS h i) := by unfold nL; rw [if_neg hL]
      have hold : (hsL (mixS i h)).testBit i = false := by rw [mix_Lb hi, if_neg (Nat.lt_irrefl i)]; simpa using hL
      have same : nL h i = false → ∃ mem', fX3_passHour_j121 b (nI (hsL h)) (nI (fireS h)) (nI (hotS h)) (nI i) (nI q) mem = some (Sum.inl (nI (i + 1), mem')) ∧ Hc mem' b (mixS (i + 1) h) ∧ mem' b 9 = mem b 9 ∧ FrB b mem mem' := by
        intro hf
        refine fin mem _ H rfl (FrB.rf _ _) rfl rfl rfl rfl rfl rfl rfl rfl okm.2.2.2.1 (fun t ht => ?_)
        by_cases hti : t = i
        · subst hti; rw [if_pos rfl, hold, hf]
        · rw [if_neg hti]
      rw [show (2 : Int32) = nI 2 from rfl]
      simp only [e_lt0 (show q < 2147483648 by omega) (show 2 < 2147483648 by decide)]
      by_cases h2 : q < 2
      · rw [if_pos h2]
        exact same (by rw [hnl, decide_eq_false (by omega), Bool.false_and])
      · rw [if_neg h2, c_mayBeLit H okm him, mix_ml hi, e_bd]
        simp only [bI_0]
        cases hm : mlS h i
        · rw [if_pos rfl]
          exact same (by rw [hnl, hm, Bool.and_false])
        · rw [if_neg (by decide), e_let, H.2.2.1, e_set _ okm.L i h8]
          refine fin _ (setL (mixS i h) (hsL (mixS i h) ||| 2 ^ i)) H.stL (by rw [e_stk (by decide)]) (FrB.st _ (by omega)) rfl rfl rfl rfl rfl rfl rfl rfl (set_lt okm.2.2.2.1 hi) (fun t ht => ?_)
          show (hsL (mixS i h) ||| 2 ^ i).testBit t = _
          rw [tb_set]
          by_cases hti : t = i
          · subst hti; rw [if_pos rfl, hnl, hm, decide_eq_true (show 2 ≤ heatS h t by omega)]; simp
          · rw [if_neg hti, decide_eq_false hti, Bool.or_false]
  unfold fX3_passHour_b37
  rw [H.1, if_neg (nI_le_f (n := hsN (mixS i h)) hn him), c_isOut H okm him, e_bd, e_gd' (e_zint h8 (by decide)), e_cl (by omega), (H.2.1 i him).2.2.2]
  rw [c_heatAt H okm (fire_lt ok) (hot_lt ok) (show hsP (mixS i h) i < 8 from by show hsP h i < 8; omega), e_bd]
  simp only [bI_0]
  have hheat : heatS h i = if (hsO h).testBit i = true then 0 else heatN (hsV h) (fireS h) (hotS h) (hsP h i) := rfl
  cases ho : (hsO h).testBit i
  · rw [if_pos (show (hsO (mixS i h)).testBit i = false from ho)]
    exact key _ (by rw [hheat, ho, if_neg (by decide)]; rfl)
  · rw [if_neg (show ¬ (hsO (mixS i h)).testBit i = false from by rw [show (hsO (mixS i h)).testBit i = true from ho]; decide)]
    exact key 0 (by rw [hheat, ho, if_pos rfl])
end CB
