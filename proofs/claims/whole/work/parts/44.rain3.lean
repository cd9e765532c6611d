section RN
variable {mem : ZM} {t : Nat} {h : HS}
theorem c_ashInRain (H : Hc mem 17 h) (ok : okH h) (ht : t < hsN h) {k c : Nat} (hk : k ≤ 60) (hc : c ≤ 10) (w : Int32) : ∃ m', fX2_ashInRain 17 (nI t) (nI k) (nI c) w mem = some (nI ((if w = 0 then 10 ^ popI (mkb (cbS h) (hsN h)) (hsN h) else TT c (mkb (cbS h) (hsN h)) (ashR h t k) (hsN h) 0) / Nat.gcd (TT c (mkb (cbS h) (hsN h)) (ashR h t k) (hsN h) 0) (10 ^ popI (mkb (cbS h) (hsN h)) (hsN h))), m') ∧ FrB 37 mem m' := by
  have hn := ok.1
  have hBn := mkb_lt (cbS h) (hsN h)
  have h8 := pow_le256 hn
  generalize hB : mkb (cbS h) (hsN h) = B at *
  have hpb : pop B = popI B (hsN h) := pop_I hn hBn
  have hple := popI_le B (hsN h)
  have hA := TT_le (c := c) (U := B) (F := ashR h t k) hc (ashR_le h t k) (hsN h) 0
  have hpow : 10 ^ popI B (hsN h) ≤ 100000000 := pow8 (by omega)
  have hpos : 0 < 10 ^ popI B (hsN h) := Nat.pow_pos (by decide)
  have key : ∃ r, fX2_ashInRain_l12 17 (nI t) (nI k) (nI c) w (nI B) (nI 0, nI 0, mem) = some r ∧ (r.1 = nI (TT c B (ashR h t k) (hsN h) 0) ∧ FrB 37 mem r.2.2) := by
    unfold fX2_ashInRain_l12
    refine zi_inv (fun i s => s.1 = nI (sumB (pB c B (hsN h) (ashR h t k)) i) ∧ s.2.1 = nI i ∧ FrB 37 mem s.2.2) _ (B + 1) ?_ ?_ 2000 0 _ (Nat.zero_le _) (by omega) ⟨rfl, rfl, FrB.rf _ _⟩
    · intro i s hi hI
      obtain ⟨i1, i2, i3⟩ := hI
      have H' : Hc s.2.2 17 h := H.fr i3 (by omega)
      refine Or.inl ?_
      show ∃ s', fX2_ashInRain_b12 17 (nI t) (nI k) (nI c) w (nI B) s.1 s.2.1 s.2.2 = _ ∧ _
      unfold fX2_ashInRain_b12 fX2_ashInRain_j90
      rw [i2, if_neg (by rw [e_lt0 (by omega) (by omega)]; omega)]
      have hsub := sub_int (B := B) (x := i) hn hBn (by omega)
      have hstep : sumB (pB c B (hsN h) (ashR h t k)) (i + 1) = sumB (pB c B (hsN h) (ashR h t k)) i + pB c B (hsN h) (ashR h t k) i := rfl
      by_cases hs : subI B i (hsN h) = true
      · obtain ⟨q1, q2⟩ := partI_pow (c := c) hs
        have hpi : pop i = popI i (hsN h) := pop_I hn (by omega)
        have hpv : pB c B (hsN h) (ashR h t k) i = partI c B i (hsN h) * ashR h t k i := by
          unfold pB
          rw [if_pos hs, mkb_or0]
        have hpl := partI_le (c := c) (U := B) (s := i) hc (hsN h)
        have hp8 := pow8 hn
        rw [if_pos (hsub.mpr hs), e_pop i (by omega), e_bd, e_let, e_pop B (by omega), e_bd, e_let, hpi, hpb, pk_sub q1, c_power (by omega), e_bd, show (10 : Int32) = nI 10 from rfl, pk_sub hc, c_power (by omega), e_bd, e_let, pk_mul, ← q2, l0]
        simp only [e_le0 (show partI c B i (hsN h) < 2147483648 by omega) (show 0 < 2147483648 by decide)]
        by_cases hz : partI c B i (hsN h) ≤ 0
        · rw [if_pos hz, e_let, nI_1]
          refine ⟨_, rfl, ?_, rfl, i3⟩
          show s.1 = _
          rw [hstep, hpv, show partI c B i (hsN h) = 0 by omega, Nat.zero_mul, i1]; rfl
        · rw [if_neg hz]
          obtain ⟨m', e, f⟩ := c_wetted H' ok ht (x := i) (k := k) (by omega) hk
          rw [e, e_bd]
          have hal := ashR_le h t k i
          simp only [e_eq0 (show ashR h t k i < 2147483648 by omega) (show 0 < 2147483648 by decide)]
          by_cases ha : ashR h t k i = 0
          · rw [if_pos ha, e_let, nI_1]
            refine ⟨_, rfl, ?_, rfl, i3.tr f⟩
            show s.1 = _
            rw [hstep, hpv, ha, Nat.mul_zero, i1]; rfl
          · rw [if_neg ha, e_let, e_let, nI_1]
            refine ⟨_, rfl, ?_, rfl, i3.tr f⟩
            show s.1 + nI (partI c B i (hsN h)) = _
            rw [hstep, hpv, show ashR h t k i = 1 by omega, Nat.mul_one, i1, nI_add]
      · rw [if_neg (fun e => hs (hsub.mp e)), e_let, nI_1]
        refine ⟨_, rfl, ?_, rfl, i3⟩
        show s.1 = _
        rw [hstep, show pB c B (hsN h) (ashR h t k) i = 0 by unfold pB; rw [if_neg hs], i1]; rfl
    · intro s hI
      obtain ⟨i1, i2, i3⟩ := hI
      refine ⟨s, ?_, by rw [i1, sum_pB hBn], i3⟩
      show fX2_ashInRain_b12 17 (nI t) (nI k) (nI c) w (nI B) s.1 s.2.1 s.2.2 = _
      unfold fX2_ashInRain_b12
      rw [i2, if_pos (by rw [e_lt0 (by omega) (by omega)]; omega), ← i2]
  obtain ⟨r, e, g1, g2⟩ := key
  have hgp : 0 < Nat.gcd (TT c B (ashR h t k) (hsN h) 0) (10 ^ popI B (hsN h)) := Nat.gcd_pos_of_pos_right _ hpos
  have hgl : Nat.gcd (TT c B (ashR h t k) (hsN h) 0) (10 ^ popI B (hsN h)) ≤ 10 ^ popI B (hsN h) := Nat.gcd_le_right _ hpos
  unfold fX2_ashInRain fX2_ashInRain_j129
  rw [c_burnables H ok, e_bd, hB, e_let, e_let, e_let, l0, e, e_bd, e_pop B (by omega), e_bd, hpb, show (10 : Int32) = nI 10 from rfl, c_power (by omega), e_bd, e_let, g1, c_greatest hA hpos hpow, e_bd, e_let, e_let, e_let]
  have hne : ¬ nI (Nat.gcd (TT c B (ashR h t k) (hsN h) 0) (10 ^ popI B (hsN h))) = nI 0 := by rw [e_eq0 (by omega) (by omega)]; omega
  refine ⟨r.2.2, ?_, g2⟩
  by_cases hw : w = nI 0
  · rw [if_pos hw, if_neg hne, e_gd' (decide_eq_true hne), if_pos hw, pk_div (by omega) hgp (by omega)]
  · rw [if_neg hw, if_neg hne, e_gd' (decide_eq_true hne), if_neg hw, pk_div (by omega) hgp (by omega)]
/-- all that lie on the heap -/
def couldS (h : HS) : Nat := (2 ^ hsN h - 1) &&& (hsO h ^^^ 4294967295)
theorem could_eq (h : HS) : nI (2 ^ hsN h - 1) &&& (nI (hsO h) ^^^ (-1)) = nI (couldS h) := by
  rw [e_m1, e_xor, e_and]
  unfold couldS
  rfl
theorem could_lt (h : HS) : couldS h < 2 ^ hsN h := Nat.lt_of_le_of_lt Nat.and_le_left (by have := Nat.two_pow_pos (hsN h); omega)
theorem could_tb {h : HS} (hn : hsN h ≤ 8) (t : Nat) : (couldS h).testBit t = (decide (t < hsN h) && !(hsO h).testBit t) := by
  unfold couldS
  rw [Nat.testBit_and, Nat.testBit_two_pow_sub_one, Nat.testBit_xor]
  by_cases ht : t < hsN h
  · rw [tb_full t (by omega), decide_eq_true ht, Bool.xor_true]
  · rw [decide_eq_false ht]; rfl
theorem m_below (x1 x2 x3 x4 x5 x6 : Int32) (m : ZM) {e : Nat} (he : e ≤ 8) : fX7_rain_l81 x1 x2 x3 x4 x5 x6 m (nI 1, nI e) = some (nI (10 ^ e), nI 0) := by
  unfold fX7_rain_l81
  have := zi_seq (body := fun s => fX7_rain_b81 x1 x2 x3 x4 x5 x6 m s.1 s.2) (fun i => (nI (10 ^ i), nI (e - i))) (nI (10 ^ e), nI 0) e 2000 0 (Nat.zero_le _) (by omega) (fun i _ hi => ?_) ?_
  · exact this
  · show fX7_rain_b81 x1 x2 x3 x4 x5 x6 m (nI (10 ^ i)) (nI (e - i)) = _
    unfold fX7_rain_b81
    rw [l0, if_neg (by rw [e_le0 (by omega) (by omega)]; omega), e_let, e_let, show (10 : Int32) = nI 10 from rfl, pk_mul, ← Nat.pow_succ, show e - i = (e - (i + 1)) + 1 by omega, pk_m1]
  · show fX7_rain_b81 x1 x2 x3 x4 x5 x6 m (nI (10 ^ e)) (nI (e - e)) = _
    unfold fX7_rain_b81
    rw [Nat.sub_self, if_pos (by decide)]
theorem m_rainPart {m : ZM} (A : Asd mem m) (H : Hr (m 62) h) (ok : okH h) {U x c : Nat} (hU : U < 256) (hx : x < 256) (hc : c ≤ 10) (y1 y2 y4 y6 y7 : Int32) : ∃ r, fX7_rain_l125 y1 y2 (nI c) y4 (nI U) y6 y7 (nI x) (nI 1, nI 0, m) = some r ∧ r.1 = nI (partI c U x (hsN h)) ∧ Hr (r.2.2 62) (rainS h x) ∧ Asd mem r.2.2 := by
  have hn := ok.1
  unfold fX7_rain_l125
  refine zi_inv (fun i s => s.1 = nI (partI c U x i) ∧ s.2.1 = nI i ∧ Hr (s.2.2 62) (rainI h x i) ∧ Asd mem s.2.2) _ (hsN h) ?_ ?_ 2000 0 _ (Nat.zero_le _) (by omega) ⟨rfl, rfl, H, A⟩
  · intro i s hi hI
    obtain ⟨i1, i2, i3, i4⟩ := hI
    refine Or.inl ?_
    have hNi : hsN (rainI h x i) = hsN h := rain_N h x i
    have oki := rain_ok ok x i (by omega)
    have fin : ∀ k0 : Int32, k0 = nI (if U.testBit i = true then (if x.testBit i = true then c else 10 - c) else 1) → ∃ s', fX7_rain_j170 y1 y2 (nI c) y4 (nI U) y6 y7 (nI x) (nI i) k0 (nI (partI c U x i)) s.2.2 = some (Sum.inl s') ∧ (s'.1 = nI (partI c U x (i + 1)) ∧ s'.2.1 = nI (i + 1) ∧ Hr (s'.2.2 62) (rainI h x (i + 1)) ∧ Asd mem s'.2.2) := by
      intro k0 hk0
      subst hk0
      unfold fX7_rain_j170 fX7_rain_j190
      rw [e_let, m_has hx (by omega), e_bd, pk_mul]
      simp only [bI_0, e_let, nI_1]
      have hw : fX7_waterBy (nI i) 3 s.2.2 = _ := m_waterBy (w := 3) i3 oki (by rw [hNi]; exact hi) (by omega)
      have hw2 := m_waterHr (w := 3) i3 oki (t := i) (by rw [hNi]; exact hi)
      have hR : rainI h x (i + 1) = if x.testBit i = true then waterS (rainI h x i) i 3 else rainI h x i := rfl
      rw [hR]
      cases hb : x.testBit i
      · rw [if_pos rfl]
        refine ⟨_, rfl, ?_, rfl, ?_, i4⟩
        · show nI _ = nI (partI c U x i * _)
          rw [hb]
        · rw [if_neg (show ¬ false = true by decide)]; exact i3
      · rw [if_neg (by decide), hw, e_bd]
        refine ⟨_, rfl, ?_, rfl, ?_, (i4.s62 _ _).s62 _ _⟩
        · show nI _ = nI (partI c U x i * _)
          rw [hb]
        · rw [if_pos rfl]; exact hw2
    show ∃ s', fX7_rain_b125 y1 y2 (nI c) y4 (nI U) y6 y7 (nI x) s.1 s.2.1 s.2.2 = _ ∧ _
    unfold fX7_rain_b125
    rw [e_gd' (show zin (0 : Int32) 38 = true from rfl), show (0 : Int32).toNatClampNeg = 0 from rfl]
    rw [i3.1, hNi, i2, if_neg (nI_le_f hn hi), m_has hU (by omega), e_bd, m_has hx (by omega), e_bd, i1]
    simp only [bI_0]
    cases hu : U.testBit i
    · rw [if_pos rfl]
      exact fin _ (by rw [hu]; rfl)
    · rw [if_neg (by decide)]
      cases hb : x.testBit i
      · rw [if_pos rfl]
        exact fin _ (by rw [hu, hb, show (10 : Int32) = nI 10 from rfl, pk_sub hc]; rfl)
      · rw [if_neg (by decide)]
        exact fin _ (by rw [hu, hb]; rfl)
  · intro s hI
    obtain ⟨i1, i2, i3, i4⟩ := hI
    refine ⟨s, ?_, i1, i3, i4⟩
    show fX7_rain_b125 y1 y2 (nI c) y4 (nI U) y6 y7 (nI x) s.1 s.2.1 s.2.2 = _
    unfold fX7_rain_b125
    have hNi : hsN (rainI h x (hsN h)) = hsN h := rain_N h x _
    simp (disch := omega) only [l0, e_gz, e_cl]
    rw [i3.1, hNi, i2, if_pos (by rw [e_le0 (by omega) (by omega)]; exact Nat.le_refl _), ← i2]
theorem m_above {m : ZM} (A : Asd mem m) (Hm0 : Hr (mem 62) h) (H : Hr (m 62) h) (ok : okH h) (ht : t < hsN h) {U k c : Nat} (hU : U < 2 ^ hsN h) (hk : k ≤ 60) (hc : c ≤ 10) (y4 y7 : Int32) : ∃ r, fX7_rain_l102 (nI t) (nI k) (nI c) y4 (nI U) y7 (nI 0, nI 0, m) = some r ∧ (r.1 = nI (TT c U (ashR h t k) (hsN h) 0) ∧ Keep mem r.2.2) := by
  have hn := ok.1
  have h8 := pow_le256 hn
  have ht8 := ok.t8 ht
  unfold fX7_rain_l102
  refine zi_inv (fun i s => s.1 = nI (sumB (pB c U (hsN h) (ashR h t k)) i) ∧ s.2.1 = nI i ∧ Hr (s.2.2 62) h ∧ Asd mem s.2.2 ∧ (0 < i → Keep mem s.2.2)) _ (U + 1) ?_ ?_ 2000 0 _ (Nat.zero_le _) (by omega) ⟨rfl, rfl, H, A, fun hh => absurd hh (by omega)⟩
  · intro i s hi hI
    obtain ⟨i1, i2, i3, i4, i5⟩ := hI
    refine Or.inl ?_
    show ∃ s', fX7_rain_b102 (nI t) (nI k) (nI c) y4 (nI U) y7 s.1 s.2.1 s.2.2 = _ ∧ _
    unfold fX7_rain_b102 fX7_rain_j219 fX7_rain_j216 fX7_rain_j219
    rw [i2, if_neg (by rw [e_lt0 (by omega) (by omega)]; omega)]
    have hsub := sub_int (B := U) (x := i) hn hU (by omega)
    have hstep : sumB (pB c U (hsN h) (ashR h t k)) (i + 1) = sumB (pB c U (hsN h) (ashR h t k)) i + pB c U (hsN h) (ashR h t k) i := rfl
    by_cases hs : subI U i (hsN h) = true
    · have hpv : pB c U (hsN h) (ashR h t k) i = partI c U i (hsN h) * ashR h t k i := by
        unfold pB
        rw [if_pos hs, mkb_or0]
      obtain ⟨q, e, g1, g2, g3⟩ := m_rainPart i4 i3 ok (U := U) (x := i) (c := c) (by omega) (by omega) hc (nI t) (nI k) y4 s.1 y7
      have okR : okH (rainS h i) := rain_ok ok i _ (Nat.le_refl _)
      have hNR : hsN (rainS h i) = hsN h := rain_N h i _
      obtain ⟨m2, e2, A2, K2⟩ := m_ashesBehind g3 g2 okR (k := k) hk
      have hash : ashS (hoursS k (rainS h i)) < 256 := mkb_256 _ (by rw [hours_N, hNR]; exact hn)
      have htb : (ashS (hoursS k (rainS h i))).testBit t = decide (hsS (hoursS k (rainS h i)) t = 0) := by
        show (mkb _ (hsN (hoursS k (rainS h i)))).testBit t = _
        rw [mkb_tb, hours_N, hNR, decide_eq_true ht, Bool.true_and]
      rw [if_pos (hsub.mpr hs), e_let, e_let, l1, l0, e, e_bd, e2, e_bd, m_has hash ht8, e_bd, htb, show nI 0 = (0 : Int32) from rfl]
      simp only [bI_0, e_let, nI_add]
      have H2 : Hr (m2 62) h := K2.Hr hn Hm0
      by_cases ha : hsS (hoursS k (rainS h i)) t = 0
      · rw [decide_eq_true ha, if_neg (by decide)]
        refine ⟨_, rfl, ?_, rfl, H2, A2, fun _ => K2⟩
        show s.1 + q.1 = _
        rw [hstep, hpv, show ashR h t k i = 1 by unfold ashR; rw [if_pos ha], Nat.mul_one, i1, g1, nI_add]
      · rw [decide_eq_false ha, if_pos rfl]
        refine ⟨_, rfl, ?_, rfl, H2, A2, fun _ => K2⟩
        show s.1 + 0 = _
        rw [hstep, hpv, show ashR h t k i = 0 by unfold ashR; rw [if_neg ha], Nat.mul_zero, i1, l0, nI_add]
    · have hi0 : 0 < i := by
        rcases Nat.eq_zero_or_pos i with e | e
        · subst e
          exact absurd (sub_bits.mpr (fun t _ hb => by rw [tb0] at hb; cases hb)) hs
        · exact e
      rw [if_neg (fun e => hs (hsub.mp e)), e_let, nI_1]
      refine ⟨_, rfl, ?_, rfl, i3, i4, fun _ => i5 hi0⟩
      show s.1 = _
      rw [hstep, show pB c U (hsN h) (ashR h t k) i = 0 by unfold pB; rw [if_neg hs], i1]; rfl
  · intro s hI
    obtain ⟨i1, i2, i3, i4, i5⟩ := hI
    refine ⟨s, ?_, by rw [i1, sum_pB hU], i5 (by omega)⟩
    show fX7_rain_b102 (nI t) (nI k) (nI c) y4 (nI U) y7 s.1 s.2.1 s.2.2 = _
    unfold fX7_rain_b102
    rw [i2, if_pos (by rw [e_lt0 (by omega) (by omega)]; omega), ← i2]
theorem m_rain (Hm1 : Hr (mem 62) h) (ok : okH h) (ht : t < hsN h) {k c : Nat} (hk : k ≤ 60) (hc : c ≤ 10) (a4 : Int32) (z4 : wit a4 0 1 = true) : ∃ m', fX7_rain (nI t) (nI k) (nI c) a4 mem = some (nI ((if a4 = 0 then TT c (couldS h) (ashR h t k) (hsN h) 0 else 10 ^ popI (couldS h) (hsN h)) / Nat.gcd (TT c (couldS h) (ashR h t k) (hsN h) 0) (10 ^ popI (couldS h) (hsN h))), m') ∧ Keep mem m' := by
  have hn := ok.1
  have tj10 : Int64.toInt 10 = 10 := rfl
  have h8 := ok.t8 ht
  have z1 : zin (nI t) (hsN h) = true := e_zint ht (by omega)
  have z2 : wit (nI k) 0 60 = true := wit_n (a := 0) (b := 60) (by omega) (by omega) hk
  have z3 : wit (nI c) 0 10 = true := wit_n (a := 0) (b := 10) (by omega) (by omega) hc
  have hp256 := pow_le256 hn
  obtain ⟨m2, e2, A2, H2⟩ := m_asideHr Hm1
  have hU := could_lt h
  have hU2 : couldS h < 256 := Nat.lt_of_lt_of_le hU hp256
  have hUp : pop (couldS h) = popI (couldS h) (hsN h) := pop_I hn hU
  have hUl := popI_le (couldS h) (hsN h)
  have hU8 : popI (couldS h) (hsN h) ≤ 8 := Nat.le_trans hUl hn
  obtain ⟨r, e3, g1, g2⟩ := m_above A2 Hm1 H2 ok ht (U := couldS h) (k := k) (c := c) hU hk hc a4 (nI (10 ^ popI (couldS h) (hsN h)))
  have hAl := TT_le (c := c) (U := couldS h) (F := ashR h t k) hc (ashR_le h t k) (hsN h) 0
  have hpow : 10 ^ popI (couldS h) (hsN h) ≤ 100000000 := pow8 hU8
  have hpos : 0 < 10 ^ popI (couldS h) (hsN h) := Nat.pow_pos (by decide)
  have e5 := m_below (nI t) (nI k) (nI c) a4 (nI (couldS h)) (nI 0) m2 hU8
  generalize hTT : TT c (couldS h) (ashR h t k) (hsN h) 0 = TA at *
  generalize hTB : 10 ^ popI (couldS h) (hsN h) = TB at *
  have hgp : 0 < Nat.gcd TA TB := Nat.gcd_pos_of_pos_right _ hpos
  have hgl : Nat.gcd TA TB ≤ TB := Nat.gcd_le_right _ hpos
  have hne : ¬ nI (Nat.gcd TA TB) = 0 := by rw [l0, e_eq0 (by omega) (by omega)]; omega
  have e4 := fun x y z => m_greatest x y z r.2.2 hAl hpos hpow
  refine ⟨r.2.2, ?_, g2⟩
  have q1 : ¬ bI true = 0 := by decide
  have q2 : zin (0 : Int32) 38 = true := by decide
  have q3 : zin (5 : Int32) 38 = true := by decide
  have q4 : (0 : Int32).toNatClampNeg = 0 := by decide
  have q5 : (5 : Int32).toNatClampNeg = 5 := by decide
  unfold fX7_rain
  rw [m_isThing Hm1 hn, z1, e_bd, if_neg q1, m_in, tj0, tj60, z2, e_bd, if_neg q1, m_in, tj0, tj10, z3, e_bd, if_neg q1, m_isWhat, z4, e_bd, if_neg q1, e2, e_bd, e_gd' q2, e_gd' q3, q4, q5, H2.1, H2.2.2.2.1, c_all _ hn]
  rw [could_eq]
  rw [e_let, e_let, e_let, e_ones _ hU2, e_bd, hUp, e_let]
  have e5' : fX7_rain_l81 (nI t) (nI k) (nI c) a4 (nI (couldS h)) 0 m2 (1, nI (popI (couldS h) (hsN h))) = some (nI TB, nI 0) := by rw [l0, l1]; exact e5
  have e3' : fX7_rain_l102 (nI t) (nI k) (nI c) a4 (nI (couldS h)) (nI TB) (0, 0, m2) = some r := by rw [l0]; exact e3
  rw [e5', e_bd, e_let, e3', e_bd, e_let, e_let, g1, e4, e_bd]
  by_cases h0 : a4 = 0
  · rw [if_pos h0, if_pos h0, e_gd' (decide_eq_true hne), pk_div (by omega) hgp (by omega)]
  · rw [if_neg h0, if_neg h0, e_gd' (decide_eq_true hne), pk_div (by omega) hgp (by omega)]
theorem o_rain (R : RH mem h) (a1 a2 a3 a4 : Int32) : Op (fX6_rain a1 a2 a3 a4) (fX7_rain a1 a2 a3 a4) mem (Keep mem) := by
  obtain ⟨ok, H, Hm, -⟩ := R
  have hn := ok.1
  have ti10 : Int32.toInt 10 = 10 := rfl
  have tj10 : Int64.toInt 10 = 10 := rfl
  cases z1 : zin a1 (hsN h)
  · exact ⟨-1000001, mem, mem, by simp [fX6_rain, c_hasThing H ok, z1, bI], by simp [fX7_rain, m_isThing Hm hn, z1, bI], Keep.rf _⟩
  cases z2 : wit a2 0 60
  · exact ⟨-1000001, mem, mem, by simp [fX6_rain, c_hasThing H ok, z1, bI, c_isWithin, ti0, ti60, z2], by simp [fX7_rain, m_isThing Hm hn, z1, bI, m_in, tj0, tj60, z2], Keep.rf _⟩
  cases z3 : wit a3 0 10
  · exact ⟨-1000001, mem, mem, by simp [fX6_rain, c_hasThing H ok, z1, bI, c_isWithin, ti0, ti60, ti10, z2, z3], by simp [fX7_rain, m_isThing Hm hn, z1, bI, m_in, tj0, tj60, tj10, z2, z3], Keep.rf _⟩
  cases z4 : wit a4 0 1
  · exact ⟨-1000001, mem, mem, by simp [fX6_rain, c_hasThing H ok, z1, bI, c_isWithin, ti0, ti60, ti10, z2, z3, c_isEither, z4], by simp [fX7_rain, m_isThing Hm hn, z1, bI, m_in, tj0, tj60, tj10, z2, z3, m_isWhat, z4], Keep.rf _⟩
  obtain ⟨t, rfl, ht⟩ := zin_of (by omega) z1
  obtain ⟨k, rfl, -, hk⟩ := wit_of (b := 60) (a := 0) (by decide) z2
  obtain ⟨c, rfl, -, hc⟩ := wit_of (b := 10) (a := 0) (by decide) z3
  obtain ⟨m1, e1, f1⟩ := c_ashInRain H ok ht (k := k) (c := c) hk hc (if a4 = 0 then 1 else 0)
  have K1 := Keep.fr f1
  obtain ⟨m2, e2, K2⟩ := m_rain (K1.Hr hn Hm) ok ht hk hc a4 z4
  have hBU := TT_mul (c := c) (U := couldS h) (B := mkb (cbS h) (hsN h)) (F := ashR h t k) hc (fun u hu => by
    rw [could_tb hn]
    rw [mkb_tb, Bool.and_eq_true] at hu
    rw [hu.1, Bool.true_and]
    have hu2 := hu.2
    unfold cbS at hu2
    simp only [Bool.and_eq_true] at hu2
    exact hu2.2) (fun j hj s => ashR_inv ok hj s) (hsN h) 0
  generalize TT c (couldS h) (ashR h t k) (hsN h) 0 = TA at *
  generalize TT c (mkb (cbS h) (hsN h)) (ashR h t k) (hsN h) 0 = TB at *
  generalize popI (couldS h) (hsN h) = PA at *
  generalize popI (mkb (cbS h) (hsN h)) (hsN h) = PB at *
  have hsplit : 10 ^ PA = 10 ^ (PA - PB) * 10 ^ PB := by
    rw [← Nat.pow_add, Nat.sub_add_cancel hBU.1]
  have hcpos : 0 < 10 ^ (PA - PB) := Nat.pow_pos (by decide)
  refine ⟨_, m1, m2, ?_, e2, K1.tr K2⟩
  have hval : ((if a4 = 0 then TA else 10 ^ PA) / Nat.gcd TA (10 ^ PA)) = ((if (if a4 = 0 then (1 : Int32) else 0) = 0 then 10 ^ PB else TB) / Nat.gcd TB (10 ^ PB)) := by
    rw [hBU.2, hsplit, Nat.gcd_mul_left]
    by_cases h0 : a4 = 0
    · rw [if_pos h0, if_pos h0, if_neg (by decide), Nat.mul_div_mul_left _ _ hcpos]
    · rw [if_neg h0, if_neg h0, if_pos rfl, Nat.mul_div_mul_left _ _ hcpos]
  rw [hval]
  unfold fX6_rain fX6_rain_j66
  simp only [c_hasThing H ok, z1, c_isWithin, ti0, ti60, ti10, z2, z3, c_isEither, z4, e_bd, bI_0, Bool.true_eq_false, if_false]
  by_cases h0 : a4 = 0
  · simp only [h0, if_true] at e1 ⊢
    rw [e1, e_bd]
  · simp only [h0, if_false] at e1 ⊢
    rw [e1, e_bd]
end RN
