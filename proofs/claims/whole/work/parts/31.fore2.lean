/-- the first number up to k of which p says so, as an answer -/
def FirstIs (p : Nat → Bool) (k : Nat) (r : Int32) : Prop := (∃ i, i ≤ k ∧ p i = true ∧ (∀ j, j < i → p j = false) ∧ r = nI i) ∨ ((∀ i, i ≤ k → p i = false) ∧ r = -1000000)
theorem FirstIs.one {p : Nat → Bool} {k : Nat} {r r' : Int32} (h : FirstIs p k r) (h' : FirstIs p k r') : r = r' := by
  rcases h with ⟨i, i1, i2, i3, i4⟩ | ⟨i1, i2⟩ <;> rcases h' with ⟨j, j1, j2, j3, j4⟩ | ⟨j1, j2⟩
  · have : i = j := by
      rcases Nat.lt_trichotomy i j with q | q | q
      · have := j3 i q; rw [i2] at this; cases this
      · exact q
      · have := i3 j q; rw [j2] at this; cases this
    rw [i4, j4, this]
  · have := j1 i i1; rw [i2] at this; cases this
  · have := i1 j j1; rw [j2] at this; cases this
  · rw [i2, j2]
section F2
variable {mem : ZM} {h : HS} {t : Nat}
theorem o_later (R : RH mem h) (a1 a2 : Int32) : Op (fX6_later a1 a2) (fX7_later a1 a2) mem (Keep mem) := by
  obtain ⟨ok, H, Hm, ht⟩ := R
  have hn := ok.1
  by_cases z0 : hsN h = 0
  · exact ⟨-1000002, mem, mem, by simp [fX6_later, c_isNone H ok, z0, bI], by simp [fX7_later, ht, z0, bI], Keep.rf _⟩
  have hd : decide (hsN h = 0) = false := decide_eq_false z0
  have hd2 : decide (hsN h ≠ 0) = true := decide_eq_true z0
  rw [hd2] at ht
  cases z2 : wit a1 0 60
  · exact ⟨-1000001, mem, mem, by simp [fX6_later, c_isNone H ok, z0, bI, c_isWithin, ti0, ti60, z2], by simp [fX7_later, ht, bI, m_in, tj0, tj60, z2], Keep.rf _⟩
  cases z3 : wit a2 0 1
  · exact ⟨-1000001, mem, mem, by simp [fX6_later, c_isNone H ok, z0, bI, c_isWithin, ti0, ti60, z2, c_isEither, z3], by simp [fX7_later, ht, bI, m_in, tj0, tj60, z2, m_isWhat, z3], Keep.rf _⟩
  obtain ⟨k, rfl, -, hk⟩ := wit_of (b := 60) (a := 0) (by decide) z2
  obtain ⟨m1, e1, h1, f1⟩ := c_hoursOn H ok (k := k) (by omega)
  have K1 := Keep.fr f1
  have Hm1 : Hr (m1 62) h := K1.Hr hn Hm
  have ht1 : m1 58 4 = bI true := by rw [K1.2.1 4 (by decide)]; exact ht
  obtain ⟨m2, e2, A2, H2⟩ := m_asideHr Hm1
  obtain ⟨m3, e3, H3, F3⟩ := m_goOn H2 ok (k := k) (by omega)
  obtain ⟨m4, e4, -, K4⟩ := m_back (A2.o F3)
  refine ⟨if a2 = 0 then nI (hsL (hoursS k h)) else nI (hsM (hoursS k h)), m1, m4, ?_, ?_, K1.tr K4⟩
  · unfold fX6_later
    simp (disch := omega) only [c_isNone H ok, hd, c_isWithin, ti0, ti60, z2, c_isEither, z3, e_bd, bI_0, Bool.true_eq_false, if_false, if_true, e1]
    rw [h1.2.2.1, h1.2.2.2.2.2]
    by_cases h0 : a2 = 0
    · rw [if_pos h0, if_pos h0]
    · rw [if_neg h0, if_neg h0]
  · unfold fX7_later fX7_later_j60
    simp (disch := omega) only [ht1, m_in, tj0, tj60, z2, m_isWhat, z3, e_bd, bI_0, Bool.true_eq_false, if_false, e2, e3, l4, l3, e_gz, e_cl, e_let, e4]
    rw [H3.2.2.1, H3.2.2.2.2.2]
    by_cases h0 : a2 = 0
    · rw [if_pos h0, if_pos h0]
    · rw [if_neg h0, if_neg h0]
/-! when -/
theorem c_tryUntilLit (H : Hc mem 37 h) (ok : okH h) (ht : t < hsN h) {k : Nat} (hk : k ≤ 60) : ∃ r m', fX2_tryUntilLit (nI t) (nI k) mem = some (r, m') ∧ FirstIs (fun i => (hsL (hoursS i h)).testBit t) k r ∧ FrB 37 mem m' := by
  have hn := ok.1
  have key : ∃ r, fX2_tryUntilLit_l2 (nI t) (nI k) (nI 0, mem) = some r ∧ (∀ q : Int32 × ZM, (Sum.elim (fun s2 => ((-1000000 : Int32), s2.2)) (fun t2 => t2) r) = q → FirstIs (fun i => (hsL (hoursS i h)).testBit t) k q.1 ∧ FrB 37 mem q.2) := by
    unfold fX2_tryUntilLit_l2
    refine zi_inv (fun i s => s.1 = nI i ∧ Hc s.2 37 (hoursS i h) ∧ FrB 37 mem s.2 ∧ (∀ j, j < i → (hsL (hoursS j h)).testBit t = false)) _ (k + 1) ?_ ?_ 2000 0 _ (Nat.zero_le _) (by omega) ⟨rfl, H, FrB.rf _ _, fun j hj => absurd hj (Nat.not_lt_zero j)⟩
    · intro i s hi hI
      obtain ⟨i1, i2, i3, i4⟩ := hI
      have oki := hours_ok ok i
      have hL := oki.L
      have htN : t < hsN (hoursS i h) := by rw [hours_N]; exact ht
      show (∃ s', fX2_tryUntilLit_b2 (nI t) (nI k) s.1 s.2 = _ ∧ _) ∨ (∃ r, fX2_tryUntilLit_b2 (nI t) (nI k) s.1 s.2 = _ ∧ _)
      unfold fX2_tryUntilLit_b2
      rw [i1, if_neg (by rw [e_lt0 (by omega) (by omega)]; omega), i2.2.2.1, l0]
      simp only [e_eq0 (show hsL (hoursS i h) < 2147483648 by omega) (show 0 < 2147483648 by decide)]
      by_cases hz : hsL (hoursS i h) = 0
      · rw [if_pos hz]
        refine Or.inr ⟨_, rfl, fun q hq => ?_⟩
        subst hq
        refine ⟨Or.inr ⟨fun j hj => ?_, rfl⟩, i3⟩
        by_cases hji : j < i
        · exact i4 j hji
        · show (hsL (hoursS j h)).testBit t = false
          rw [hours_dead ok hz j (by omega), hz]; exact tb0 t
      · rw [if_neg hz, c_isLit i2 oki htN, e_bd]
        simp only [show nI 0 = (0 : Int32) from rfl, bI_0]
        cases hb : (hsL (hoursS i h)).testBit t
        · rw [if_pos rfl]
          obtain ⟨m', e, g1, g2, g3⟩ := c_passHour i2 oki
          rw [e, e_bd, e_let, nI_1]
          refine Or.inl ⟨_, rfl, rfl, g1, i3.tr g3, fun j hj => ?_⟩
          by_cases hji : j = i
          · subst hji; exact hb
          · exact i4 j (by omega)
        · rw [if_neg (by decide)]
          refine Or.inr ⟨_, rfl, fun q hq => ?_⟩
          subst hq
          exact ⟨Or.inl ⟨i, by omega, hb, i4, rfl⟩, i3⟩
    · intro s hI
      obtain ⟨i1, i2, i3, i4⟩ := hI
      show ∃ r, fX2_tryUntilLit_b2 (nI t) (nI k) s.1 s.2 = _ ∧ _
      unfold fX2_tryUntilLit_b2
      rw [i1, if_pos (by rw [e_lt0 (by omega) (by omega)]; omega)]
      refine ⟨_, rfl, fun q hq => ?_⟩
      subst hq
      exact ⟨Or.inr ⟨fun j hj => i4 j (by omega), rfl⟩, i3⟩
  obtain ⟨r, e, g⟩ := key
  unfold fX2_tryUntilLit
  rw [e_let, l0, e, e_bd]
  cases r with
  | inl s => exact ⟨_, _, rfl, (g _ rfl).1, (g _ rfl).2⟩
  | inr s => exact ⟨s.1, s.2, rfl, (g _ rfl).1, (g _ rfl).2⟩
theorem c_ashBehind (H : Hc mem 17 h) (ok : okH h) (ht : t < hsN h) : ∃ r m', fX2_ashBehind 17 (nI t) mem = some (r, m') ∧ FirstIs (fun i => decide (hsS (hoursS i h) t = 0)) 60 r ∧ FrB 37 mem m' := by
  have hn := ok.1
  obtain ⟨m1, e1, H1, -, f1⟩ := c_takeFrom (b := 37) H ok.1 (by omega)
  have key : ∃ r, fX2_ashBehind_l10 17 (nI t) (nI 0, m1) = some r ∧ (∀ q : Int32 × ZM, (Sum.elim (fun s2 => ((-1000000 : Int32), s2.2)) (fun t2 => t2) r) = q → FirstIs (fun i => decide (hsS (hoursS i h) t = 0)) 60 q.1 ∧ FrB 37 mem q.2) := by
    unfold fX2_ashBehind_l10
    refine zi_inv (fun i s => s.1 = nI i ∧ Hc s.2 37 (hoursS i h) ∧ FrB 37 mem s.2 ∧ (∀ j, j < i → decide (hsS (hoursS j h) t = 0) = false)) _ 61 ?_ ?_ 2000 0 _ (Nat.zero_le _) (by omega) ⟨rfl, H1, f1, fun j hj => absurd hj (Nat.not_lt_zero j)⟩
    · intro i s hi hI
      obtain ⟨i1, i2, i3, i4⟩ := hI
      have oki := hours_ok ok i
      have htN : t < hsN (hoursS i h) := by rw [hours_N]; exact ht
      show (∃ s', fX2_ashBehind_b10 17 (nI t) s.1 s.2 = _ ∧ _) ∨ (∃ r, fX2_ashBehind_b10 17 (nI t) s.1 s.2 = _ ∧ _)
      unfold fX2_ashBehind_b10
      rw [i1, show (60 : Int32) = nI 60 from rfl, if_neg (by rw [e_lt0 (by omega) (by omega)]; omega), c_isAsh i2 oki htN, e_bd]
      simp only [bI_0]
      cases hb : decide (hsS (hoursS i h) t = 0)
      · rw [if_pos rfl]
        obtain ⟨m', e, g1, g2, g3⟩ := c_passHour i2 oki
        rw [e, e_bd, e_let, nI_1]
        refine Or.inl ⟨_, rfl, rfl, g1, i3.tr g3, fun j hj => ?_⟩
        by_cases hji : j = i
        · subst hji; exact hb
        · exact i4 j (by omega)
      · rw [if_neg (by decide)]
        refine Or.inr ⟨_, rfl, fun q hq => ?_⟩
        subst hq
        exact ⟨Or.inl ⟨i, by omega, hb, i4, rfl⟩, i3⟩
    · intro s hI
      obtain ⟨i1, i2, i3, i4⟩ := hI
      show ∃ r, fX2_ashBehind_b10 17 (nI t) s.1 s.2 = _ ∧ _
      unfold fX2_ashBehind_b10
      rw [i1, show (60 : Int32) = nI 60 from rfl, if_pos (by rw [e_lt0 (by omega) (by omega)]; omega)]
      refine ⟨_, rfl, fun q hq => ?_⟩
      subst hq
      exact ⟨Or.inr ⟨fun j hj => i4 j (by omega), rfl⟩, i3⟩
  obtain ⟨r, e, g⟩ := key
  unfold fX2_ashBehind
  rw [e1, e_bd, e_let, l0, e, e_bd]
  cases r with
  | inl s => exact ⟨_, _, rfl, (g _ rfl).1, (g _ rfl).2⟩
  | inr s => exact ⟨s.1, s.2, rfl, (g _ rfl).1, (g _ rfl).2⟩
def nowP (h : HS) (t : Nat) (w : Int32) (i : Nat) : Bool := if w = 0 then (hsL (hoursS i h)).testBit t else decide (hsS (hoursS i h) t = 0)
theorem m_isNow {g : HS} (H : Hr (mem 62) g) (ok : okH g) (ht : t < hsN g) (w : Int32) : fX7_isNow (nI t) w mem = some (bI (if w = 0 then (hsL g).testBit t else decide (hsS g t = 0))) := by
  have hn := ok.1
  have hs := (ok.2.1 t ht).2.1
  unfold fX7_isNow
  simp (disch := omega) only [l4, l14, nI_add, e_gz, e_cl, H.2.2.1, (H.2.1 t ht).2.1, m_has ok.L (ok.t8 ht), e_bd, e_gd' (bI_bl _), bI_if]
  by_cases h0 : w = 0
  · rw [if_pos h0, if_pos h0]
  · rw [if_neg h0, if_neg h0]
    congr 2
    simp (disch := omega) only [l0, e_eq0]
theorem m_when (H : Hr (mem 62) h) (ok : okH h) (ht : t < hsN h) {w : Int32} (hw : wit w 0 1 = true) : ∃ r m', fX7_when (nI t) w mem = some (r, m') ∧ FirstIs (nowP h t w) 60 r ∧ Keep mem m' := by
  have hn := ok.1
  obtain ⟨m1, e1, A1, H1⟩ := m_asideHr H
  have key : ∃ r, fX7_when_l24 (nI t) w (nI 0, m1) = some r ∧ (∃ i, r.1 = nI i ∧ i ≤ 60 ∧ Hr (r.2 62) (hoursS i h) ∧ Asd mem r.2 ∧ (∀ j, j < i → nowP h t w j = false) ∧ (i < 60 → nowP h t w i = true)) := by
    unfold fX7_when_l24
    refine zi_inv (fun i s => s.1 = nI i ∧ Hr (s.2 62) (hoursS i h) ∧ Asd mem s.2 ∧ (∀ j, j < i → nowP h t w j = false)) _ 60 ?_ ?_ 2000 0 _ (Nat.zero_le _) (by omega) ⟨rfl, H1, A1, fun j hj => absurd hj (Nat.not_lt_zero j)⟩
    · intro i s hi hI
      obtain ⟨i1, i2, i3, i4⟩ := hI
      have oki := hours_ok ok i
      have htN : t < hsN (hoursS i h) := by rw [hours_N]; exact ht
      show (∃ s', fX7_when_b24 (nI t) w s.1 s.2 = _ ∧ _) ∨ (∃ r, fX7_when_b24 (nI t) w s.1 s.2 = _ ∧ _)
      unfold fX7_when_b24
      rw [m_isNow i2 oki htN, e_bd, i1]
      simp only [bI_0]
      cases hb : (if w = 0 then (hsL (hoursS i h)).testBit t else decide (hsS (hoursS i h) t = 0))
      · rw [if_pos rfl, show (60 : Int32) = nI 60 from rfl, if_neg (by rw [e_le0 (by omega) (by omega)]; omega)]
        obtain ⟨m', e, g1, -, -, g2⟩ := m_oneHour i2 oki
        rw [e, e_bd, e_let, nI_1]
        refine Or.inl ⟨_, rfl, rfl, g1, i3.o g2, fun j hj => ?_⟩
        by_cases hji : j = i
        · subst hji; exact hb
        · exact i4 j (by omega)
      · rw [if_neg (by decide)]
        exact Or.inr ⟨_, rfl, i, rfl, by omega, i2, i3, i4, fun _ => hb⟩
    · intro s hI
      obtain ⟨i1, i2, i3, i4⟩ := hI
      have htN : t < hsN (hoursS 60 h) := by rw [hours_N]; exact ht
      show ∃ r, fX7_when_b24 (nI t) w s.1 s.2 = _ ∧ _
      unfold fX7_when_b24
      rw [m_isNow i2 (hours_ok ok 60) htN, e_bd, i1]
      simp only [bI_0]
      cases hb : (if w = 0 then (hsL (hoursS 60 h)).testBit t else decide (hsS (hoursS 60 h) t = 0))
      · rw [if_pos rfl, show (60 : Int32) = nI 60 from rfl, if_pos (by rw [e_le0 (by omega) (by omega)]; exact Nat.le_refl _)]
        exact ⟨_, rfl, 60, rfl, by omega, i2, i3, i4, fun hh => absurd hh (by omega)⟩
      · rw [if_neg (by decide)]
        exact ⟨_, rfl, 60, rfl, by omega, i2, i3, i4, fun hh => absurd hh (by omega)⟩
  obtain ⟨r, e2, i, r1, ri, H2, A2, hj, hi⟩ := key
  obtain ⟨m4, e4, -, K4⟩ := m_back A2
  have htN : t < hsN (hoursS i h) := by rw [hours_N]; exact ht
  have hN := m_isNow H2 (hours_ok ok i) htN w
  refine ⟨if nowP h t w i = true then nI i else -1000000, m4, ?_, ?_, K4⟩
  · unfold fX7_when fX7_when_j49
    simp (disch := omega) only [m_isThing H hn, e_zint ht (show hsN h < 2147483648 by omega), m_isWhat, hw, e_bd, bI_0, Bool.true_eq_false, if_false, e1, e_let]
    rw [l0, e2, e_bd, hN, e_bd, e4, e_bd]
    simp only [show nI 0 = (0 : Int32) from rfl, bI_0, r1]
    show (if nowP h t w i = false then _ else _) = _
    cases nowP h t w i <;> rfl
  · cases hb : nowP h t w i
    · rw [if_neg (by decide)]
      refine Or.inr ⟨fun j hj' => ?_, rfl⟩
      have hi60 : i = 60 := by
        by_cases h6 : i < 60
        · have := hi h6; rw [hb] at this; cases this
        · omega
      by_cases hji : j < i
      · exact hj j hji
      · have : j = i := by omega
        subst this; exact hb
    · rw [if_pos rfl]
      exact Or.inl ⟨i, ri, hb, hj, rfl⟩
theorem o_when (R : RH mem h) (a1 a2 : Int32) : Op (fX6_when a1 a2) (fX7_when a1 a2) mem (Keep mem) := by
  obtain ⟨ok, H, Hm, -⟩ := R
  have hn := ok.1
  cases z1 : zin a1 (hsN h)
  · exact ⟨-1000001, mem, mem, by simp [fX6_when, c_hasThing H ok, z1, bI], by simp [fX7_when, m_isThing Hm hn, z1, bI], Keep.rf _⟩
  cases z3 : wit a2 0 1
  · exact ⟨-1000001, mem, mem, by simp [fX6_when, c_hasThing H ok, z1, bI, c_isEither, z3], by simp [fX7_when, m_isThing Hm hn, z1, bI, m_isWhat, z3], Keep.rf _⟩
  obtain ⟨t, rfl, ht⟩ := zin_of (by omega) z1
  have cls : ∃ r m1, fX6_when (nI t) a2 mem = some (r, m1) ∧ FirstIs (nowP h t a2) 60 r ∧ FrB 37 mem m1 := by
    unfold fX6_when
    simp (disch := omega) only [c_hasThing H ok, z1, c_isEither, z3, e_bd, bI_0, Bool.true_eq_false, if_false]
    by_cases h0 : a2 = 0
    · rw [if_pos h0]
      obtain ⟨m1, e1, H1, -, f1⟩ := c_takeFrom (b := 37) H ok.1 (by omega)
      obtain ⟨r, m2, e2, g2, f2⟩ := c_tryUntilLit H1 ok ht (k := 60) (by omega)
      unfold fX2_caughtBehind
      rw [e1, e_bd, show (60 : Int32) = nI 60 from rfl, e2, e_bd, e_bd]
      refine ⟨r, m2, rfl, ?_, f1.tr f2⟩
      have : nowP h t a2 = fun i => (hsL (hoursS i h)).testBit t := by funext i; unfold nowP; rw [if_pos h0]
      rw [this]; exact g2
    · rw [if_neg h0]
      obtain ⟨r, m2, e2, g2, f2⟩ := c_ashBehind H ok ht
      rw [e2, e_bd]
      refine ⟨r, m2, rfl, ?_, f2⟩
      have : nowP h t a2 = fun i => decide (hsS (hoursS i h) t = 0) := by funext i; unfold nowP; rw [if_neg h0]
      rw [this]; exact g2
  obtain ⟨r, m1, e1, g1, f1⟩ := cls
  have K1 := Keep.fr f1
  obtain ⟨r', m2, e2, g2, K2⟩ := m_when (K1.Hr hn Hm) ok ht z3
  have : r' = r := g2.one g1
  subst this
  exact ⟨r', m1, m2, e1, e2, K1.tr K2⟩
end F2
