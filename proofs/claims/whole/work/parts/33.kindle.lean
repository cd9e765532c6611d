theorem e_or (a b : Nat) : nI a ||| nI b = nI (a ||| b) := by
  apply Int32.toBitVec_inj.mp
  show BitVec.ofNat 32 a ||| BitVec.ofNat 32 b = BitVec.ofNat 32 (a ||| b)
  apply BitVec.eq_of_getLsbD_eq
  intro i hi
  simp [BitVec.getLsbD_or, BitVec.getLsbD_ofNat, Nat.testBit_or, hi]
theorem e_xor (a b : Nat) : nI a ^^^ nI b = nI (a ^^^ b) := by
  apply Int32.toBitVec_inj.mp
  show BitVec.ofNat 32 a ^^^ BitVec.ofNat 32 b = BitVec.ofNat 32 (a ^^^ b)
  apply BitVec.eq_of_getLsbD_eq
  intro i hi
  simp [BitVec.getLsbD_xor, BitVec.getLsbD_ofNat, Nat.testBit_xor, hi]
theorem e_m1 : (-1 : Int32) = nI 4294967295 := by decide
theorem tb_full : ∀ t, t < 8 → (4294967295 : Nat).testBit t = true := by decide
/-- one set in another -/
theorem e_sub0 {s A : Nat} (hs : s < 256) : (nI s &&& (nI A ^^^ (-1))) = 0 ↔ ∀ t, t < 8 → s.testBit t = true → A.testBit t = true := by
  rw [e_m1, e_xor, e_and, l0, nI_eq (Nat.lt_of_le_of_lt Nat.and_le_left (by omega)) (by decide)]
  constructor
  · intro h t ht hb
    have h1 : (s &&& (A ^^^ 4294967295)).testBit t = false := by rw [h]; exact tb0 t
    rw [Nat.testBit_and, Nat.testBit_xor, hb, tb_full t ht] at h1
    simpa using h1
  · intro h
    apply Nat.eq_of_testBit_eq
    intro t
    rw [tb0, Nat.testBit_and, Nat.testBit_xor]
    by_cases ht : t < 8
    · cases hb : s.testBit t
      · rfl
      · rw [h t ht hb, tb_full t ht]; rfl
    · rw [tb_big (n := 8) (a := s) hs (by omega)]; rfl
def mayS (h : HS) : Nat := mkb (mlS h) (hsN h)
/-- lit by hand besides -/
def handS (h : HS) (x : Nat) : HS := setL h (hsL h ||| x)
theorem hand_ok {h : HS} (ok : okH h) {x : Nat} (hx : x < 256) (hs : ∀ t, t < 8 → x.testBit t = true → (mayS h).testBit t = true) : okH (handS h x) := by
  have hx2 : ∀ t, x.testBit t = true → t < hsN h ∧ mlS h t = true := by
    intro t hb
    have ht : t < 8 := by
      by_cases h8 : t < 8
      · exact h8
      · rw [tb_big (n := 8) hx (by omega)] at hb; cases hb
    have h1 := hs t ht hb
    unfold mayS at h1
    rw [mkb_tb, Bool.and_eq_true, decide_eq_true_eq] at h1
    exact h1
  have hxl : x < 2 ^ hsN h := by
    have : x = mkb (fun t => x.testBit t) (hsN h) := by
      apply Nat.eq_of_testBit_eq
      intro t
      rw [mkb_tb]
      cases hb : x.testBit t
      · simp
      · rw [decide_eq_true (hx2 t hb).1]; rfl
    rw [this]
    exact mkb_lt _ _
  obtain ⟨o1, o2, o3, o4, o5, o6, o7, o8⟩ := ok
  refine ⟨o1, o2, o3, Nat.or_lt_two_pow o4 hxl, o5, o6, o7, fun t ht hl => ?_⟩
  have hl' : ((hsL h).testBit t || x.testBit t) = true := by rw [← Nat.testBit_or]; exact hl
  cases hL : (hsL h).testBit t
  · rw [hL, Bool.false_or] at hl'
    have := (hx2 t hl').2
    unfold mlS cbS at this
    simp only [Bool.and_eq_true, decide_eq_true_eq, Bool.not_eq_true'] at this
    exact ⟨this.1.1.1.1, Nat.pos_of_ne_zero this.1.1.1.2, this.1.1.2⟩
  · exact o8 t ht hL
/-- what can't burn is as it was -/
theorem never1 {h : HS} (ok : okH h) {t : Nat} (ht : t < hsN h) (hc : cbS h t = false) : hsS (hourS h) t = hsS h t ∧ cbS (hourS h) t = false := by
  have hnl : (hsL h).testBit t = false := by
    cases hL : (hsL h).testBit t
    · rfl
    · have := ok.2.2.2.2.2.2.2 t ht hL
      unfold cbS at hc
      simp [this.1, this.2.2, Nat.pos_iff_ne_zero.mp this.2.1] at hc
  have e : hsS (hourS h) t = hsS h t := by
    show (if t < hsN h then nS h t else hsS h t) = _
    rw [if_pos ht]
    unfold nS
    rw [hnl, if_neg (by decide)]
  refine ⟨e, ?_⟩
  unfold cbS at hc ⊢
  rw [e]
  exact hc
theorem never {h : HS} (ok : okH h) {t : Nat} (ht : t < hsN h) (hc : cbS h t = false) : ∀ k, hsS (hoursS k h) t = hsS h t ∧ cbS (hoursS k h) t = false
  | 0 => ⟨rfl, hc⟩
  | k + 1 => by
    have ih := never ok ht hc k
    have := never1 (hours_ok ok k) (t := t) (by rw [hours_N]; exact ht) ih.2
    exact ⟨this.1.trans ih.1, this.2⟩
/-! kindle, in numbers -/
def gdK (h : HS) (s n x : Nat) : Bool := decide ((nI s &&& (nI (ashS (hoursS n (handS h x))) ^^^ (-1))) = 0)
def subK (h : HS) (x : Nat) : Bool := decide ((nI x &&& (nI (mayS h) ^^^ (-1))) = 0)
def kbO (o : Option Nat) (i : Nat) : Bool := match o with | none => true | some b => decide (pop i < pop b)
def kb (h : HS) (s n : Nat) : Nat → Option Nat
  | 0 => none
  | i + 1 => if (subK h i && kbO (kb h s n i) i && gdK h s n i) = true then some i else kb h s n i
def encK (o : Option Nat) : Int32 := match o with | none => -1000000 | some b => nI b
def encF (o : Option Nat) : Int32 := match o with | none => nI 9 | some b => nI (pop b)
theorem kb_lt (h : HS) (s n : Nat) : ∀ i b, kb h s n i = some b → b < i
  | 0, b, e => by cases e
  | i + 1, b, e => by
    have e' : (if (subK h i && kbO (kb h s n i) i && gdK h s n i) = true then some i else kb h s n i) = some b := e
    by_cases hc : (subK h i && kbO (kb h s n i) i && gdK h s n i) = true
    · rw [if_pos hc] at e'
      have := Option.some.inj e'
      omega
    · rw [if_neg hc] at e'
      have := kb_lt h s n i b e'
      omega
theorem pop_le : ∀ a, a < 256 → pop a ≤ 8 := by decide +kernel
theorem subK_le {h : HS} (ok : okH h) {x : Nat} (hx : x < 256) (hs : subK h x = true) : x ≤ mayS h := by
  have h1 := (e_sub0 hx).mp (of_decide_eq_true hs)
  have : x &&& mayS h = x := by
    apply Nat.eq_of_testBit_eq
    intro t
    rw [Nat.testBit_and]
    by_cases ht : t < 8
    · cases hb : x.testBit t
      · rfl
      · rw [h1 t ht hb]; rfl
    · rw [tb_big (n := 8) (a := x) hx (by omega)]; rfl
  rw [← this]
  exact Nat.and_le_right
theorem kb_end {h : HS} (ok : okH h) (s n : Nat) : ∀ i, mayS h + 1 ≤ i → i ≤ 256 → kb h s n i = kb h s n (mayS h + 1) := by
  intro i
  induction i with
  | zero => intro h1; omega
  | succ i ih =>
    intro h1 h2
    by_cases e : mayS h + 1 = i + 1
    · rw [e]
    · have hn : subK h i = false := by
        cases hs : subK h i
        · rfl
        · have := subK_le ok (by omega) hs; omega
      rw [← ih (by omega) (by omega)]
      show (if (subK h i && _ && _) = true then some i else kb h s n i) = _
      rw [hn, Bool.false_and, Bool.false_and]
      rfl
/-- where one of the set can't ever be ash, none will do -/
theorem kb_no {h : HS} (ok : okH h) {s n : Nat} (hs : s < 2 ^ hsN h) (hb : ¬ (nI s &&& ((nI (ashS h) ||| nI (mkb (cbS h) (hsN h))) ^^^ (-1))) = 0) : ∀ i, i ≤ 256 → kb h s n i = none := by
  have hs256 : s < 256 := Nat.lt_of_lt_of_le hs (pow_le256 ok.1)
  rw [e_or, e_sub0 hs256] at hb
  have : ∃ t, t < hsN h ∧ s.testBit t = true ∧ hsS h t ≠ 0 ∧ cbS h t = false := by
    apply Classical.byContradiction
    intro hne
    apply hb
    intro t ht hst
    have htn : t < hsN h := by
      by_cases q : t < hsN h
      · exact q
      · rw [tb_big hs (by omega)] at hst; cases hst
    rw [Nat.testBit_or]
    unfold ashS
    rw [mkb_tb, mkb_tb, decide_eq_true htn, Bool.true_and, Bool.true_and]
    by_cases h0 : hsS h t = 0
    · rw [decide_eq_true h0]; rfl
    · cases hc : cbS h t
      · exact absurd ⟨t, htn, hst, h0, hc⟩ hne
      · rw [Bool.or_true]
  obtain ⟨t, ht, hst, h0, hc⟩ := this
  intro i
  induction i with
  | zero => intro _; rfl
  | succ i ih =>
    intro hi
    show (if (subK h i && _ && gdK h s n i) = true then some i else kb h s n i) = none
    rw [ih (by omega)]
    cases hsub : subK h i
    · rfl
    · have h1 := (e_sub0 (by omega)).mp (of_decide_eq_true hsub)
      have okx := hand_ok ok (x := i) (by omega) h1
      have hcx : cbS (handS h i) t = false := hc
      have hnv := (never okx (t := t) ht hcx n).1
      have : gdK h s n i = false := by
        apply decide_eq_false
        rw [e_sub0 hs256]
        intro hall
        have h2 := hall t (ok.t8 ht) hst
        unfold ashS at h2
        rw [mkb_tb, Bool.and_eq_true, decide_eq_true_eq, decide_eq_true_eq, hnv] at h2
        exact h0 h2.2
      rw [this, Bool.and_false]
      rfl
section KI
variable {mem : ZM} {h : HS} {t : Nat}
theorem c_makesAsh (H : Hc mem 17 h) (ok : okH h) {x n : Nat} (hx : x < 256) (hsub : subK h x = true) (hn : n ≤ 60) (s : Nat) : ∃ m', fX2_makesAsh 17 (nI x) (nI s) (nI n) mem = some (bI (gdK h s n x), m') ∧ FrB 37 mem m' := by
  have okx := hand_ok ok hx ((e_sub0 hx).mp (of_decide_eq_true hsub))
  obtain ⟨m1, e1, H1, -, f1⟩ := c_takeFrom (b := 37) H ok.1 (by omega)
  have H2 : Hc (zst m1 37 5 (nI (hsL h ||| x))) 37 (handS h x) := H1.stL
  have f2 : FrB 37 mem (zst m1 37 5 (nI (hsL h ||| x))) := f1.tr (FrB.st _ (by omega))
  obtain ⟨m3, e3, H3, f3⟩ := c_tryHours H2 okx (k := n) (by omega)
  unfold fX2_makesAsh
  rw [e1, e_bd, e_let, H1.2.2.1, e_or, e3, e_bd, c_ashes H3 (hours_ok okx n), e_bd]
  refine ⟨m3, ?_, f2.tr f3⟩
  unfold gdK
  show (if (nI s &&& (nI (ashS (hoursS n (handS h x))) ^^^ -1)) = 0 then _ else _) = _
  by_cases hc : (nI s &&& (nI (ashS (hoursS n (handS h x))) ^^^ -1)) = 0
  · rw [if_pos hc, decide_eq_true hc]; rfl
  · rw [if_neg hc, decide_eq_false hc]; rfl
theorem c_fewest (H : Hc mem 17 h) (ok : okH h) {s n : Nat} (hs : s < 2 ^ hsN h) (hn : n ≤ 60) : ∃ m', fX2_fewestToLight 17 (nI s) (nI n) mem = some (encK (kb h s n (2 ^ hsN h)), m') ∧ FrB 37 mem m' := by
  have h8 := ok.1
  have hp := pow_le256 ok.1
  have hpp := Nat.two_pow_pos (hsN h)
  unfold fX2_fewestToLight
  rw [c_ashes H ok, e_bd, c_burnables H ok, e_bd, show mkb (fun t => decide (hsS h t = 0)) (hsN h) = ashS h from rfl]
  by_cases hb : (nI s &&& ((nI (ashS h) ||| nI (mkb (cbS h) (hsN h))) ^^^ (-1))) = 0
  · rw [if_pos hb, c_lightables H ok, e_bd]
    simp only [e_let]
    have key : ∃ r, fX2_fewestToLight_l38 17 (nI s) (nI n) (nI (mayS h) ^^^ (-1)) (-1000000, nI 9, nI 0, mem) = some r ∧ (r.1 = encK (kb h s n (2 ^ hsN h)) ∧ FrB 37 mem r.2.2.2) := by
      unfold fX2_fewestToLight_l38
      refine zi_inv (fun i q => q.1 = encK (kb h s n i) ∧ q.2.1 = encF (kb h s n i) ∧ q.2.2.1 = nI i ∧ FrB 37 mem q.2.2.2) _ (2 ^ hsN h) ?_ ?_ 2000 0 _ (Nat.zero_le _) (by omega) ⟨rfl, rfl, rfl, FrB.rf _ _⟩
      · intro i q hi hI
        obtain ⟨i1, i2, i3, i4⟩ := hI
        have H' : Hc q.2.2.2 17 h := H.fr i4 (by omega)
        refine Or.inl ?_
        show ∃ q', fX2_fewestToLight_b38 17 (nI s) (nI n) (nI (mayS h) ^^^ (-1)) q.1 q.2.1 q.2.2.1 q.2.2.2 = _ ∧ _
        unfold fX2_fewestToLight_b38 fX2_fewestToLight_j89
        rw [c_allThings H' ok, e_bd, i3, if_neg (by rw [e_lt0 (by omega) (by omega)]; omega), e_pop i (by omega), e_bd]
        simp only [e_let, nI_1]
        have hkb : kb h s n (i + 1) = if (subK h i && kbO (kb h s n i) i && gdK h s n i) = true then some i else kb h s n i := rfl
        have hcond : (¬ q.2.1 ≤ nI (pop i)) ↔ kbO (kb h s n i) i = true := by
          rw [i2]
          have hpi := pop_le i (by omega)
          cases hk : kb h s n i with
          | none =>
            show ¬ nI 9 ≤ nI (pop i) ↔ _
            rw [e_le0 (by omega) (by omega)]
            simp [kbO]; omega
          | some b =>
            have hbi := kb_lt h s n i b hk
            have hpb := pop_le b (by omega)
            show ¬ nI (pop b) ≤ nI (pop i) ↔ _
            rw [e_le0 (by omega) (by omega)]
            simp [kbO]
        by_cases c1 : (nI i &&& (nI (mayS h) ^^^ (-1))) = 0
        · rw [if_pos c1]
          have hsub : subK h i = true := decide_eq_true c1
          by_cases c2 : q.2.1 ≤ nI (pop i)
          · rw [if_pos c2]
            have hm : kbO (kb h s n i) i = false := by
              cases hm : kbO (kb h s n i) i
              · rfl
              · exact absurd c2 (hcond.mpr hm)
            refine ⟨_, rfl, ?_, ?_, rfl, i4⟩
            · show q.1 = _
              rw [hkb, hm, Bool.and_false, Bool.false_and, i1]; rfl
            · show q.2.1 = _
              rw [hkb, hm, Bool.and_false, Bool.false_and, i2]; rfl
          · rw [if_neg c2]
            have hm := hcond.mp c2
            obtain ⟨m', e, f'⟩ := c_makesAsh H' ok (x := i) (n := n) (by omega) hsub hn s
            rw [e, e_bd]
            simp only [bI_0]
            cases hg : gdK h s n i
            · rw [if_pos rfl]
              refine ⟨_, rfl, ?_, ?_, rfl, i4.tr f'⟩
              · show q.1 = _
                rw [hkb, hg, Bool.and_false, i1]; rfl
              · show q.2.1 = _
                rw [hkb, hg, Bool.and_false, i2]; rfl
            · rw [if_neg (by decide)]
              refine ⟨_, rfl, ?_, ?_, rfl, i4.tr f'⟩
              · show nI i = _
                rw [hkb, hg, hsub, hm]; rfl
              · show nI (pop i) = _
                rw [hkb, hg, hsub, hm]; rfl
        · rw [if_neg c1]
          have hsub : subK h i = false := decide_eq_false c1
          refine ⟨_, rfl, ?_, ?_, rfl, i4⟩
          · show q.1 = _
            rw [hkb, hsub, Bool.false_and, Bool.false_and, i1]; rfl
          · show q.2.1 = _
            rw [hkb, hsub, Bool.false_and, Bool.false_and, i2]; rfl
      · intro q hI
        obtain ⟨i1, i2, i3, i4⟩ := hI
        have H' : Hc q.2.2.2 17 h := H.fr i4 (by omega)
        refine ⟨q, ?_, i1, i4⟩
        show fX2_fewestToLight_b38 17 (nI s) (nI n) (nI (mayS h) ^^^ (-1)) q.1 q.2.1 q.2.2.1 q.2.2.2 = _
        unfold fX2_fewestToLight_b38
        rw [c_allThings H' ok, e_bd, i3, if_pos (by rw [e_lt0 (by omega) (by omega)]; omega), ← i3]
    obtain ⟨r, e, g1, g2⟩ := key
    rw [show (9 : Int32) = nI 9 from rfl, l0, show mkb (mlS h) (hsN h) = mayS h from rfl, e, e_bd, g1]
    exact ⟨_, rfl, g2⟩
  · rw [if_neg hb, kb_no ok hs hb _ hp]
    exact ⟨mem, rfl, FrB.rf _ _⟩
theorem m_ashesBehind {m : ZM} {g : HS} (A : Asd mem m) (H : Hr (m 62) g) (ok : okH g) {k : Nat} (hk : k ≤ 60) : ∃ m', fX7_ashesBehind (nI k) m = some (nI (ashS (hoursS k g)), m') ∧ Asd mem m' ∧ Keep mem m' := by
  obtain ⟨m1, e1, H1, F1⟩ := m_goOn H ok (k := k) (by omega)
  obtain ⟨m2, e2, A2, K2⟩ := m_back (A.o F1)
  unfold fX7_ashesBehind
  rw [e1, e_bd, m_ashes H1 (hours_ok ok k), e_bd, e_let, e2, e_bd]
  exact ⟨m2, rfl, A2, K2⟩
theorem Asd.s62 {m : ZM} (A : Asd mem m) (k : Nat) (v : Int32) : Asd mem (zst m 62 k v) :=
  ⟨fun c h1 h2 h3 h4 => by rw [e_stn h2]; exact A.1 c h1 h2 h3 h4, fun k hk => by rw [e_stn (by decide)]; exact A.2.1 k hk, fun k hk => by rw [e_stn (by decide)]; exact A.2.2 k hk⟩
theorem m_mayLight (H : Hr (mem 62) h) (ok : okH h) (ht : t < hsN h) : fX7_mayLight (nI t) mem = some (bI (mlS h t)) := by
  have hn := ok.1
  obtain ⟨hk, hs, hw, -⟩ := ok.2.1 t ht
  have hLO : hsL h ||| hsO h < 256 := Nat.or_lt_two_pow (n := 8) ok.L ok.O
  have hbk := burns_le (hsK h t)
  unfold fX7_mayLight
  simp (disch := omega) only [l4, l5, l6, l14, l22, nI_add, e_gz, e_cl, H.2.2.1, H.2.2.2.1, e_or, m_has hLO (ok.t8 ht), e_bd, (H.2.1 t ht).1, (H.2.1 t ht).2.1, (H.2.1 t ht).2.2.1, m_burns _ (show hsK h t < 6 by omega), bI_0, Nat.testBit_or]
  rw [l0]
  simp (disch := omega) only [e_le0, e_eq0]
  have hb : burnsN (hsK h t) ≤ 0 ↔ ¬ hsK h t ≤ 3 := by
    have h4 : ∀ k, k < 6 → 1 ≤ k → (burnsN k ≤ 0 ↔ ¬ k ≤ 3) := by decide
    exact h4 _ (by omega) hk.1
  unfold mlS cbS
  simp only [hb]
  cases h1 : (hsL h).testBit t <;> cases h2 : (hsO h).testBit t <;> by_cases h3 : hsK h t ≤ 3 <;> by_cases h4 : hsS h t = 0 <;> by_cases h5 : hsW h t = 0 <;> simp [h3, h4, h5, bI, nI_0] <;> omega
theorem m_mayL (H : Hr (mem 62) h) (ok : okH h) (y1 y2 y3 : Int32) : fX7_kindle_l58 y1 y2 y3 mem (nI 0, nI 0) = some (nI (mayS h), nI (hsN h)) := by
  have hn := ok.1
  unfold fX7_kindle_l58
  refine zi_seq (fun i => (nI (mkb (mlS h) i), nI i)) _ (hsN h) 2000 0 (Nat.zero_le _) (by omega) (fun i _ hi => ?_) ?_
  · show fX7_kindle_b58 y1 y2 y3 mem (nI (mkb (mlS h) i)) (nI i) = _
    unfold fX7_kindle_b58 fX7_kindle_j88
    simp (disch := omega) only [l0, e_gz, e_cl, H.1, if_neg (nI_le_f hn hi), m_mayLight H ok hi, e_bd, e_let, nI_1]
    simp only [show nI 0 = (0 : Int32) from rfl, bI_0]
    cases hf : mlS h i
    · rw [if_pos rfl, ← mkb_n hf]
      congr 3
      simp
    · rw [if_neg (by decide), mkb_s (by omega) hf]
  · show fX7_kindle_b58 y1 y2 y3 mem _ (nI (hsN h)) = _
    unfold fX7_kindle_b58
    simp (disch := omega) only [l0, e_gz, e_cl, H.1]
    rw [if_pos (by rw [e_le0 (by omega) (by omega)]; exact Nat.le_refl _)]
    rfl
theorem may_lt (ok : okH h) : mayS h < 2 ^ hsN h := mkb_lt _ _
theorem m_kindleL {m : ZM} (A : Asd mem m) (Hm : Hr (mem 62) h) (H : Hr (m 62) h) (ok : okH h) {s n : Nat} (hs : s < 2 ^ hsN h) (hn : n ≤ 60) (y3 : Int32) : ∃ r, fX7_kindle_l108 (nI s) (nI n) y3 (nI (mayS h)) (-1000000, nI 0, m) = some r ∧ (r.1 = encK (kb h s n (mayS h + 1)) ∧ (r.2.2 = m ∨ Keep mem r.2.2)) := by
  have h8 := ok.1
  have hp := pow_le256 ok.1
  have hml := may_lt ok
  unfold fX7_kindle_l108
  refine zi_inv (fun i q => q.1 = encK (kb h s n i) ∧ q.2.1 = nI i ∧ Asd mem q.2.2 ∧ Hr (q.2.2 62) h ∧ (q.2.2 = m ∨ Keep mem q.2.2)) _ (mayS h + 1) ?_ ?_ 2000 0 _ (Nat.zero_le _) (by omega) ⟨rfl, rfl, A, H, Or.inl rfl⟩
  · intro i q hi hI
    obtain ⟨i1, i2, i3, i4, i5⟩ := hI
    refine Or.inl ?_
    show ∃ q', fX7_kindle_b108 (nI s) (nI n) y3 (nI (mayS h)) q.1 q.2.1 q.2.2 = _ ∧ _
    unfold fX7_kindle_b108
    rw [i2, if_neg (by rw [e_lt0 (by omega) (by omega)]; omega)]
    have hkb : kb h s n (i + 1) = if (subK h i && kbO (kb h s n i) i && gdK h s n i) = true then some i else kb h s n i := rfl
    have no : kb h s n (i + 1) = kb h s n i → ∃ q', fX7_kindle_j175 (nI s) (nI n) y3 (nI (mayS h)) q.1 (nI i) q.2.2 = some (Sum.inl q') ∧ (q'.1 = encK (kb h s n (i + 1)) ∧ q'.2.1 = nI (i + 1) ∧ Asd mem q'.2.2 ∧ Hr (q'.2.2 62) h ∧ (q'.2.2 = m ∨ Keep mem q'.2.2)) := by
      intro e
      unfold fX7_kindle_j175
      rw [e_let, nI_1]
      exact ⟨_, rfl, by rw [e]; exact i1, rfl, i3, i4, i5⟩
    have yes : subK h i = true → kbO (kb h s n i) i = true → ∃ q', fX7_kindle_j143 (nI s) (nI n) y3 (nI (mayS h)) q.1 (nI i) q.2.2 = some (Sum.inl q') ∧ (q'.1 = encK (kb h s n (i + 1)) ∧ q'.2.1 = nI (i + 1) ∧ Asd mem q'.2.2 ∧ Hr (q'.2.2 62) h ∧ (q'.2.2 = m ∨ Keep mem q'.2.2)) := by
      intro hsub hm
      have okx := hand_ok ok (x := i) (by omega) ((e_sub0 (by omega)).mp (of_decide_eq_true hsub))
      have H' : Hr ((zst q.2.2 62 4 (nI (hsL h ||| i))) 62) (handS h i) := by rw [e_row]; exact i4.stL
      obtain ⟨m', e, A', K'⟩ := m_ashesBehind (i3.s62 4 (nI (hsL h ||| i))) H' okx (k := n) hn
      have Hk : Hr (m' 62) h := K'.Hr h8 Hm
      unfold fX7_kindle_j143 fX7_kindle_j173 fX7_kindle_j175
      simp (disch := omega) only [l4, e_gz, e_cl, i4.2.2.1, e_or, e_let, e, e_bd, nI_1]
      by_cases hc : (nI s &&& (nI (ashS (hoursS n (handS h i))) ^^^ -1)) = 0
      · rw [if_pos hc]
        refine ⟨_, rfl, ?_, rfl, A', Hk, Or.inr K'⟩
        show nI i = _
        have hg : gdK h s n i = true := decide_eq_true hc
        rw [hkb, hg, hsub, hm]; rfl
      · rw [if_neg hc]
        refine ⟨_, rfl, ?_, rfl, A', Hk, Or.inr K'⟩
        show q.1 = _
        have hg : gdK h s n i = false := decide_eq_false hc
        rw [hkb, hg, Bool.and_false, i1]; rfl
    by_cases c1 : (nI i &&& (nI (mayS h) ^^^ (-1))) = 0
    · rw [if_pos c1]
      have hsub : subK h i = true := decide_eq_true c1
      rw [i1]
      cases hk : kb h s n i with
      | none =>
        rw [if_pos (by show (-1000000 : Int32) < 0; decide)]
        have := yes hsub (by rw [hk]; rfl)
        rw [i1, hk] at this
        exact this
      | some b =>
        have hbi := kb_lt h s n i b hk
        have hpb := pop_le b (by omega)
        have hpi := pop_le i (by omega)
        rw [if_neg (by show ¬ nI b < 0; exact nI_n0 (by omega)), e_ones i (by omega), e_bd, show encK (some b) = nI b from rfl, e_ones b (by omega), e_bd]
        simp only [e_le0 (show pop b < 2147483648 by omega) (show pop i < 2147483648 by omega)]
        by_cases c2 : pop b ≤ pop i
        · rw [if_pos c2]
          have hm : kbO (kb h s n i) i = false := by rw [hk]; exact decide_eq_false (by omega)
          have := no (by rw [hkb, hm, Bool.and_false, Bool.false_and]; rfl)
          rw [i1, hk] at this
          exact this
        · rw [if_neg c2]
          have := yes hsub (by rw [hk]; exact decide_eq_true (by omega))
          rw [i1, hk] at this
          exact this
    · rw [if_neg c1]
      exact no (by rw [hkb, show subK h i = false from decide_eq_false c1, Bool.false_and, Bool.false_and]; rfl)
  · intro q hI
    obtain ⟨i1, i2, i3, i4, i5⟩ := hI
    refine ⟨q, ?_, i1, i5⟩
    show fX7_kindle_b108 (nI s) (nI n) y3 (nI (mayS h)) q.1 q.2.1 q.2.2 = _
    unfold fX7_kindle_b108
    rw [i2, if_pos (by rw [e_lt0 (by omega) (by omega)]; omega), ← i2]
theorem Asd.keep {m : ZM} (A : Asd mem m) (e : ∀ k, k < 38 → m 62 k = mem 62 k) : Keep mem m := ⟨fun c hc => A.1 c (by omega) (by omega) (by omega) (by omega), A.2.1, e⟩
theorem o_kindle (R : RH mem h) (a1 a2 a3 : Int32) : Op (fX6_kindle a1 a2 a3) (fX7_kindle a1 a2 a3) mem (Keep mem) := by
  obtain ⟨ok, H, Hm, ht⟩ := R
  have hn := ok.1
  have hp := pow_le256 ok.1
  have hpp := Nat.two_pow_pos (hsN h)
  by_cases z0 : hsN h = 0
  · exact ⟨-1000002, mem, mem, by simp [fX6_kindle, c_isNone H ok, z0, bI], by simp [fX7_kindle, ht, z0, bI], Keep.rf _⟩
  have hd : decide (hsN h = 0) = false := decide_eq_false z0
  have hd2 : decide (hsN h ≠ 0) = true := decide_eq_true z0
  rw [hd2] at ht
  have htop : (nI (2 ^ hsN h - 1)).toInt = ((2 ^ hsN h - 1 : Nat) : Int) := nI_toInt (by omega)
  have cin : fX6_isWithin a1 0 (nI (2 ^ hsN h - 1)) = some (bI (wit a1 0 ((2 ^ hsN h - 1 : Nat) : Int))) := by rw [c_isWithin, htop, ti0]
  have min' : fX7_in a1.toInt64 0 (nI (2 ^ hsN h - 1)).toInt64 = some (bI (wit a1 0 ((2 ^ hsN h - 1 : Nat) : Int))) := by rw [m_in, Int32.toInt_toInt64, htop, tj0]
  cases z1 : wit a1 0 ((2 ^ hsN h - 1 : Nat) : Int)
  · refine ⟨-1000001, mem, mem, ?_, ?_, Keep.rf _⟩
    · unfold fX6_kindle
      simp only [c_isNone H ok, hd, c_allThings H ok, c_isWithin, ti0, htop, z1, e_bd, bI_0, if_true]
    · unfold fX7_kindle
      simp (disch := omega) only [ht, l0, e_gz, e_cl, Hm.1, c_all _ hn, e_bd]
      simp only [show nI 0 = (0 : Int32) from rfl, bI_0, Bool.true_eq_false, if_false, min', z1, e_bd, if_true]
  cases z2 : wit a2 1 60
  · refine ⟨-1000001, mem, mem, ?_, ?_, Keep.rf _⟩
    · unfold fX6_kindle
      simp only [c_isNone H ok, hd, c_allThings H ok, c_isWithin, ti0, htop, z1, e_bd, bI_0, if_true, c_isWithin, ti1, ti60, z2, Bool.true_eq_false, if_false]
    · unfold fX7_kindle
      simp (disch := omega) only [ht, l0, e_gz, e_cl, Hm.1, c_all _ hn, e_bd]
      simp only [show nI 0 = (0 : Int32) from rfl, bI_0, Bool.true_eq_false, if_false, min', z1, e_bd, if_true, m_in, tj1, tj60, z2]
  cases z3 : wit a3 0 1
  · refine ⟨-1000001, mem, mem, ?_, ?_, Keep.rf _⟩
    · unfold fX6_kindle
      simp only [c_isNone H ok, hd, c_allThings H ok, c_isWithin, ti0, htop, z1, e_bd, bI_0, if_true, c_isWithin, ti1, ti60, z2, c_isEither, z3, Bool.true_eq_false, if_false]
    · unfold fX7_kindle
      simp (disch := omega) only [ht, l0, e_gz, e_cl, Hm.1, c_all _ hn, e_bd]
      simp only [show nI 0 = (0 : Int32) from rfl, bI_0, Bool.true_eq_false, if_false, min', z1, e_bd, if_true, m_in, tj1, tj60, z2, m_isWhat, z3]
  obtain ⟨s, rfl, -, hs⟩ := wit_of (b := 2 ^ hsN h - 1) (a := 0) (by omega) z1
  obtain ⟨n, rfl, hn1, hn2⟩ := wit_of (b := 60) (a := 1) (by decide) z2
  obtain ⟨m1, e1, f1⟩ := c_fewest H ok (s := s) (n := n) (by omega) hn2
  have K1 := Keep.fr f1
  have Hm1 : Hr (m1 62) h := K1.Hr hn Hm
  have ht1 : m1 58 4 = bI true := by rw [K1.2.1 4 (by decide)]; exact ht
  obtain ⟨m2, e2, A2, hm2⟩ := m_aside m1
  have H2 : Hr (m2 62) h := by rw [hm2]; exact Hm1
  obtain ⟨q, e3, q1, q2⟩ := m_kindleL A2 Hm1 H2 ok (s := s) (n := n) (by omega) hn2 a3
  have K3 : Keep m1 q.2.2 := by
    rcases q2 with e | k
    · rw [e]; exact A2.keep (fun k _ => by rw [hm2])
    · exact k
  have hml := may_lt ok
  rw [← kb_end ok s n (2 ^ hsN h) (by omega) hp] at q1
  refine ⟨if a3 = 1 then encK (kb h s n (2 ^ hsN h)) else (match kb h s n (2 ^ hsN h) with | none => -1000000 | some b => nI (pop b)), m1, q.2.2, ?_, ?_, K1.tr K3⟩
  · unfold fX6_kindle
    simp only [c_isNone H ok, hd, c_allThings H ok, c_isWithin, ti0, htop, z1, e_bd, bI_0, if_true, c_isWithin, ti1, ti60, z2, c_isEither, z3, Bool.true_eq_false, if_false, e1, e_let]
    by_cases h1 : a3 = 1
    · rw [if_pos h1, if_pos h1]
    · rw [if_neg h1, if_neg h1]
      cases hk : kb h s n (2 ^ hsN h) with
      | none => rfl
      | some b =>
        have hbi := kb_lt h s n _ b hk
        have hb : encK (some b) = nI b := rfl
        have hne : ¬ nI b = -1000000 := by
          intro e
          have := nI_n0 (t := b) (by omega)
          rw [e] at this
          exact this (by decide)
        rw [hb, if_neg hne, e_pop b (by omega), e_bd]
  · unfold fX7_kindle
    simp (disch := omega) only [ht1, l0, e_gz, e_cl, Hm1.1, c_all _ hn, e_bd]
    simp only [show nI 0 = (0 : Int32) from rfl, bI_0, Bool.true_eq_false, if_false, min', z1, e_bd, m_in, tj1, tj60, z2, m_isWhat, z3, e_let]
    rw [l0, m_mayL Hm1 ok, e_bd, e2, e_bd, e3, e_bd, q1]
    by_cases h1 : a3 = 1
    · simp only [if_pos h1]
      cases hk : kb h s n (2 ^ hsN h) with
      | none => rw [if_pos (by show (-1000000 : Int32) < nI 0; decide)]
      | some b =>
        have hbi := kb_lt h s n _ b hk
        rw [if_neg (by show ¬ nI b < 0; exact nI_n0 (by omega))]
    · simp only [if_neg h1]
      cases hk : kb h s n (2 ^ hsN h) with
      | none => rw [if_pos (by show (-1000000 : Int32) < nI 0; decide)]; rfl
      | some b =>
        have hbi := kb_lt h s n _ b hk
        rw [if_neg (by show ¬ nI b < 0; exact nI_n0 (by omega)), show encK (some b) = nI b from rfl, e_ones b (by omega), e_bd]
end KI
