section CI
variable {mem : ZM} {B : Nat → Nat} {n p : Nat}
theorem c_begin (m : ZM) (v : Nat) : ∃ m', fX3_begin 22 (nI v) m = some m' ∧ Hc m' 22 (noH v) ∧ m' 22 9 = 0 ∧ m' 3 = m 3 ∧ (∀ c, c < 22 ∨ 26 < c → m' c = m c) := by
  unfold fX3_begin
  simp only [e_let]
  refine ⟨_, rfl, ⟨?_, fun t ht => absurd ht (Nat.not_lt_zero t), ?_, ?_, ?_, ?_⟩, by rw [e_st], ?_, fun c hc => ?_⟩
  · simp (disch := omega) only [e_stk, e_st]; rfl
  · simp (disch := omega) only [e_stk, e_st]; rfl
  · simp (disch := omega) only [e_stk, e_st]; rfl
  · simp (disch := omega) only [e_stk, e_st]; rfl
  · simp (disch := omega) only [e_stk, e_st]; rfl
  · simp (disch := omega) only [e_stn]
  · simp (disch := omega) only [e_stn]
theorem c_readInto (T : TB mem B n) : Sum.elim (fun e => ∃ m', fX5_readInto 22 mem = some (0, m') ∧ m' 3 2 = nI e.2 ∧ m' 3 3 = nI e.1 ∧ FrP mem m') (fun g => ∃ m', fX5_readInto 22 mem = some (1, m') ∧ Hc m' 22 g ∧ m' 22 9 = 0 ∧ m' 3 3 = mem 3 3 ∧ FrP mem m') (pAll B n) := by
  have F0 : FrP mem (zst mem 3 2 (nI 0)) := FrP.s3 _ _ (by decide)
  have hS := c_sign (T.fr F0) (Nat.zero_le n) (by rw [e_st]) (c := 98) (by decide)
  unfold pAll
  cases hs : pSign B n 98 0 with
  | inl e =>
    rw [hs] at hS
    obtain ⟨m', e1, e2, e3, e4⟩ := hS
    refine ⟨m', ?_, e2, e3, F0.tr e4⟩
    unfold fX5_readInto
    rw [e_let]
    have e1' : fX5_readSign 98 (zst mem 3 2 0) = some (0, m') := e1
    rw [e1', e_bd]; rfl
  | inr p =>
    rw [hs] at hS
    obtain ⟨m1, e1, ⟨a1, a2, a3, a4⟩, a5, a6⟩ := hS
    have e1' : fX5_readSign 98 (zst mem 3 2 0) = some (1, m1) := e1
    have hrun : fX5_readInto 22 mem = Option.bind (fX5_readNumber (nI 0) (nI 1) m1) (fun r3 => if r3.1 = 0 then (some ((0 : Int32), r3.2)) else (Option.bind (fX5_readSign (nI 59) r3.2) (fun r4 => if r4.1 = 0 then (some ((0 : Int32), r4.2)) else (Option.bind (fX3_begin 22 (r4.2 3 4) r4.2) (fun r5 => zlet (0 : Int32) (fun v6 => Option.bind (fX5_readInto_l44 22 (v6, r5)) (fun r7 => Sum.elim (fun s7 => some ((1 : Int32), s7.2)) (fun t7 => some t7) r7))))))) := by
      unfold fX5_readInto
      rw [e_let, e1', e_bd]
      show (if (1 : Int32) = 0 then _ else _) = _
      rw [if_neg (by decide)]
      rfl
    have A := c_ns (L := fun _ => fX5_readInto 22 mem) (mem := m1) (p := p) ((T.fr F0).fr a6) a2 a1 (lo := 0) (hi := 1) (c := 59) (by decide) (by decide) (by decide) (K := fun r4 => Option.bind (fX3_begin 22 (r4 3 4) r4) (fun r5 => zlet (0 : Int32) (fun v6 => Option.bind (fX5_readInto_l44 22 (v6, r5)) (fun r7 => Sum.elim (fun s7 => some ((1 : Int32), s7.2)) (fun t7 => some t7) r7)))) hrun
    show Sum.elim _ _ (Sum.elim (fun e => .inl e) (fun a => pRest B n 9 (noH a.1) a.2) (pNS B n 0 1 59 p))
    cases ha : pNS B n 0 1 59 p with
    | inl e =>
      rw [ha] at A
      obtain ⟨m', e1, e2, e3, e4⟩ := A
      exact ⟨m', e1, e2, e3, (F0.tr a6).tr e4⟩
    | inr a =>
      rw [ha] at A
      obtain ⟨m2, e2, b1, b2, b3, b4, b5, b6⟩ := A
      have e2' : fX5_readInto 22 mem = _ := e2
      obtain ⟨m3, e3, d1, d2, d3, d4⟩ := c_begin m2 a.1
      have F3 : FrP m2 m3 := ⟨fun c x y => d4 c y, by rw [d3]⟩
      have Fall := ((F0.tr a6).tr b6).tr F3
      have I := c_rest (B := B) (n := n) 9 (noH a.1) a.2 m3 2000 rfl (by show 0 ≤ 8; omega) (by omega) (T.fr Fall) b2 (by rw [d3]; exact b1) d1 d2
      have h33 : m3 3 3 = mem 3 3 := by rw [d3, b5, a5, e_stk (by decide)]
      show Sum.elim _ _ (pRest B n 9 (noH a.1) a.2)
      have hrun2 : fX5_readInto 22 mem = Option.bind (ziter (fun s => fX5_readInto_b44 22 s.1 s.2) 2000 (nI (hsN (noH a.1)), m3)) (fun r7 => Sum.elim (fun s7 => some ((1 : Int32), s7.2)) (fun t7 => some t7) r7) := by
        rw [e2', b3, e3, e_bd, e_let]
        rfl
      cases hr : pRest B n 9 (noH a.1) a.2 with
      | inl e =>
        rw [hr] at I
        obtain ⟨m', i1, i2, i3, i4⟩ := I
        exact ⟨m', by rw [hrun2, i1, e_bd]; rfl, i2, i3, Fall.tr i4⟩
      | inr g =>
        rw [hr] at I
        obtain ⟨m', i1, i2, i3, i4, i5⟩ := I
        exact ⟨m', by rw [hrun2, i1, e_bd]; rfl, i2, i3, i4.trans h33, Fall.tr i5⟩
end CI
/-! the reference reads ahead by one token -/
def sg (b : Nat) : Bool := (decide (97 ≤ b) && decide (b ≤ 122)) || decide (b = 44) || decide (b = 59)
def Tok (B : Nat → Nat) (n : Nat) (m : ZM) (p : Nat) : Prop := m 58 13 = nI p ∧ p ≤ n ∧ (p = n → m 58 11 = 3) ∧ (p < n → (ln B n p = 0 → m 58 12 = nI (B p) ∧ m 58 10 = nI (p + 1) ∧ m 58 11 = bI (sg (B p))) ∧ (ln B n p = 1 ∨ ln B n p = 2 → m 58 11 = 2 ∧ m 58 12 = nI (nv B p (ln B n p)) ∧ m 58 10 = nI (p + ln B n p)) ∧ (ln B n p = 3 → m 58 11 = 0))
def FrN (m m' : ZM) : Prop := (∀ c, c ≠ 58 → m' c = m c) ∧ (∀ k, k < 10 ∨ 14 < k → m' 58 k = m 58 k)
def FrM (m m' : ZM) : Prop := (∀ c, c ≠ 58 → c ≠ 65 → m' c = m c) ∧ (∀ k, k < 10 ∨ 14 < k → m' 58 k = m 58 k)
theorem FrN.m {m m' : ZM} (h : FrN m m') : FrM m m' := ⟨fun c a _ => h.1 c a, h.2⟩
theorem FrN.tr {a b c : ZM} (h : FrN a b) (g : FrN b c) : FrN a c := ⟨fun d h1 => (g.1 d h1).trans (h.1 d h1), fun k hk => (g.2 k hk).trans (h.2 k hk)⟩
theorem FrM.tr {a b c : ZM} (h : FrM a b) (g : FrM b c) : FrM a c := ⟨fun d h1 h2 => (g.1 d h1 h2).trans (h.1 d h1 h2), fun k hk => (g.2 k hk).trans (h.2 k hk)⟩
theorem FrN.s (m : ZM) {k : Nat} (v : Int32) (hk : 10 ≤ k ∧ k ≤ 14) : FrN m (zst m 58 k v) := ⟨fun c h => e_stn h, fun j hj => e_stk (by omega)⟩
theorem FrM.s65 (m : ZM) (k : Nat) (v : Int32) : FrM m (zst m 65 k v) := ⟨fun c _ h => e_stn h, fun j _ => by rw [e_stn (by decide)]⟩
/-- bytes on the reference's tape -/
def TBM (mem : ZM) (B : Nat → Nat) (n : Nat) : Prop := n ≤ 90 ∧ True ∧ mem 58 8 = nI n ∧ ∀ j, j < n → B j < 256 ∧ True ∧ mem 64 j = nI (B j)
section MP
variable {mem : ZM} {B : Nat → Nat} {n p : Nat}
theorem TBM.frM {m : ZM} (T : TBM mem B n) (F : FrM mem m) : TBM m B n :=
  ⟨T.1, trivial, by rw [F.2 8 (by omega)]; exact T.2.2.1, fun j hj => by rw [F.1 64 (by decide) (by decide)]; exact T.2.2.2 j hj⟩
theorem m_digit {b : Nat} (hb : b < 256) (x y : Nat) (hx : x < 1000) (hy : y < 1000) : fX7_in ((nI b).toInt64) (lN x) (lN y) = some (bI (decide (x ≤ b) && decide (b ≤ y))) := by
  rw [m_in]
  unfold wit
  rw [pk_lT (by omega), pk_lT (by omega), nI_toInt (by omega)]
  congr 3
  · by_cases h : x ≤ b
    · rw [decide_eq_true h, decide_eq_true (by omega)]
    · rw [decide_eq_false h, decide_eq_false (by omega)]
  · by_cases h : b ≤ y
    · rw [decide_eq_true h, decide_eq_true (by omega)]
    · rw [decide_eq_false h, decide_eq_false (by omega)]
theorem m_digits (T : TBM mem B n) (hp : p ≤ n) (h10 : mem 58 10 = nI p) (h12 : mem 58 12 = nI 0) : ∃ r, fX7_nextToken_l33 mem = some r ∧ ∃ i, (r 58 10 = nI (p + i) ∧ (∀ j, j < i → dg B n (p + j) = true) ∧ dg B n (p + i) = false ∧ (i ≤ 2 → r 58 12 = nI (nv B p i)) ∧ (∀ c, c ≠ 58 → r c = mem c) ∧ (∀ k, k ≠ 10 → k ≠ 12 → r 58 k = mem 58 k)) := by
  obtain ⟨t1, t2, t3, t4⟩ := T
  unfold fX7_nextToken_l33
  refine zi_inv (fun i s => p + i ≤ n ∧ s 58 10 = nI (p + i) ∧ (∀ j, j < i → dg B n (p + j) = true) ∧ (i ≤ 2 → s 58 12 = nI (nv B p i)) ∧ (∀ c, c ≠ 58 → s c = mem c) ∧ (∀ k, k ≠ 10 → k ≠ 12 → s 58 k = mem 58 k)) _ (n - p) ?_ ?_ 2000 0 _ (Nat.zero_le _) (by omega) ⟨by omega, h10, fun j hj => absurd hj (Nat.not_lt_zero j), fun _ => h12, fun _ _ => rfl, fun _ _ _ => rfl⟩
  · intro i s hi hI
    obtain ⟨i0, i1, i2, i3, i4, i5⟩ := hI
    obtain ⟨b1, b2, b3⟩ := t4 (p + i) (by omega)
    have hdd : dg B n (p + i) = (decide (48 ≤ B (p + i)) && decide (B (p + i) ≤ 57)) := by
      unfold dg
      rw [decide_eq_true (show p + i < n by omega), Bool.true_and]
    have hm : fX7_in ((nI (B (p + i))).toInt64) (48 : Int64) (57 : Int64) = some (bI (decide (48 ≤ B (p + i)) && decide (B (p + i) ≤ 57))) := m_digit b1 48 57 (by decide) (by decide)
    unfold fX7_nextToken_b33
    rw [i5 8 (by decide) (by decide), t3, i1, if_neg (by rw [e_le0 (by omega) (by omega)]; omega), e_gz (by omega) (by decide), e_cl (by omega), i4 64 (by decide), b3, hm, e_bd, ← hdd]
    cases hd : dg B n (p + i)
    · rw [if_pos (show bI false = 0 from rfl)]
      exact Or.inr ⟨_, rfl, i, i1, i2, hd, i3, i4, i5⟩
    · rw [if_neg (show ¬ bI true = 0 by decide)]
      have hdi := dg_iff.mp hd
      have i2' : ∀ j, j < i + 1 → dg B n (p + j) = true := by
        intro j hj
        by_cases e : j = i
        · subst e; exact hd
        · exact i2 j (by omega)
      refine Or.inl ?_
      have fin : ∀ k0 : Int32, (i + 1 ≤ 2 → k0 = nI (nv B p (i + 1))) → ∃ s', fX7_nextToken_j103 k0 s = some (Sum.inl s') ∧ (p + (i + 1) ≤ n ∧ s' 58 10 = nI (p + (i + 1)) ∧ (∀ j, j < i + 1 → dg B n (p + j) = true) ∧ (i + 1 ≤ 2 → s' 58 12 = nI (nv B p (i + 1))) ∧ (∀ c, c ≠ 58 → s' c = mem c) ∧ (∀ k, k ≠ 10 → k ≠ 12 → s' 58 k = mem 58 k)) := by
        intro k0 hk
        unfold fX7_nextToken_j103
        rw [e_let, e_stk (by decide), i1, nI_1, e_let]
        exact ⟨_, rfl, by omega, by rw [e_st]; rfl, i2', fun h => by rw [e_stk (by decide), e_st]; exact hk h, fun c hc => by rw [e_stn hc, e_stn hc]; exact i4 c hc, fun k a b => by rw [e_stk a, e_stk b]; exact i5 k a b⟩
      by_cases hi2 : i ≤ 1
      · have hv := i3 (by omega)
        have h99 := nv_lt i2 (show i ≤ 2 by omega)
        rw [hv, show (99 : Int32) = nI 99 from rfl, if_pos (by rw [e_le0 (by omega) (by omega)]; exact h99), e_gz (by omega) (by decide), nv_int hdi.2.1]
        refine fin _ (fun _ => ?_)
        congr 1
        have : i = 0 ∨ i = 1 := by omega
        rcases this with rfl | rfl
        · show 10 * 0 + (B (p + 0) - 48) = B p - 48
          rw [Nat.add_zero]; omega
        · rfl
      · rw [e_gz (by omega) (by decide)]
        split
        · exact fin _ (fun h => by omega)
        · exact fin _ (fun h => by omega)
  · intro s hI
    obtain ⟨i0, i1, i2, i3, i4, i5⟩ := hI
    have hpn : p + (n - p) = n := by omega
    refine ⟨s, ?_, n - p, i1, i2, by rw [hpn]; exact dg_no (Nat.le_refl _), i3, i4, i5⟩
    show fX7_nextToken_b33 s = _
    unfold fX7_nextToken_b33
    rw [i5 8 (by decide) (by decide), t3, i1, hpn, if_pos (by rw [e_le0 (by omega) (by omega)]; exact Nat.le_refl _)]
theorem m_next (T : TBM mem B n) (hp : p ≤ n) (h10 : mem 58 10 = nI p) : ∃ m', fX7_nextToken mem = some m' ∧ Tok B n m' p ∧ FrN mem m' := by
  obtain ⟨t1, t2, t3, t4⟩ := id T
  have hrun : ∃ k0 : Int32, (p = n → k0 = 3) ∧ (p < n → k0 = 0) ∧ fX7_nextToken mem = fX7_nextToken_j25 k0 (zst mem 58 13 (nI p)) := by
    unfold fX7_nextToken
    rw [e_let, h10, e_stk (by decide), e_stk (by decide), h10, t3]
    by_cases h : p = n
    · exact ⟨3, fun _ => rfl, fun h' => by omega, by rw [if_pos (by rw [h])]⟩
    · exact ⟨0, fun h' => absurd h' h, fun _ => rfl, by rw [if_neg (by rw [e_eq0 (by omega) (by omega)]; exact h)]⟩
  obtain ⟨k0, hk1, hk2, hrun⟩ := hrun
  have F1 : FrN mem (zst (zst (zst mem 58 13 (nI p)) 58 11 k0) 58 12 (nI 0)) := ((FrN.s _ _ (by omega)).tr (FrN.s _ _ (by omega))).tr (FrN.s _ _ (by omega))
  obtain ⟨r, e, i, g1, g2, g3, g4, g5, g6⟩ := m_digits (T.frM F1.m) hp (by rw [e_stk (by decide), e_stk (by decide), e_stk (by decide)]; exact h10) (by rw [e_st])
  have q13 : r 58 13 = nI p := by rw [g6 13 (by decide) (by decide), e_stk (by decide), e_stk (by decide), e_st]
  have q11 : r 58 11 = k0 := by rw [g6 11 (by decide) (by decide), e_stk (by decide), e_st]
  have F2 : FrN mem r := ⟨fun c hc => by rw [g5 c hc, F1.1 c hc], fun k hk => by rw [g6 k (by omega) (by omega), F1.2 k hk]⟩
  have hl := ln_of g2 g3
  have hi90 : p + i ≤ 90 := by
    by_cases h : i = 0
    · omega
    · have := dg_iff.mp (g2 (i - 1) (by omega)); omega
  rw [hrun]
  unfold fX7_nextToken_j25
  rw [e_let, e_let, l0, e, e_bd]
  unfold fX7_nextToken_j119
  rw [g1, q13, q11]
  by_cases hi0 : i = 0
  · subst hi0
    have hl : ln B n p = 0 := hl
    rw [if_pos (by rw [e_le0 (by omega) (by omega)]; omega)]
    by_cases hpn : p = n
    · rw [hk1 hpn, if_neg (by decide)]
      exact ⟨r, rfl, ⟨q13, hp, fun _ => by rw [q11, hk1 hpn], fun h => by omega⟩, F2⟩
    · have hlt : p < n := by omega
      obtain ⟨b1, b2, b3⟩ := t4 p hlt
      have hm : fX7_in ((nI (B p)).toInt64) (97 : Int64) (122 : Int64) = some (bI (decide (97 ≤ B p) && decide (B p ≤ 122))) := m_digit b1 97 122 (by decide) (by decide)
      have fin : ∀ k : Int32, k = bI (sg (B p)) → ∃ m', fX7_nextToken_j216 k (zst r 58 12 (nI (B p))) = some m' ∧ Tok B n m' p ∧ FrN mem m' := by
        intro k hk
        unfold fX7_nextToken_j216
        rw [e_let, e_stk (by decide), e_stk (by decide), g1, Nat.add_zero, nI_1, e_let]
        refine ⟨_, rfl, ⟨by rw [e_stk (by decide), e_stk (by decide), e_stk (by decide)]; exact q13, hp, fun h => absurd h hpn, fun _ => ⟨fun _ => ⟨by rw [e_stk (by decide), e_stk (by decide), e_st], by rw [e_st], by rw [e_stk (by decide), e_st]; exact hk⟩, fun h => by omega, fun h => by omega⟩⟩, ((F2.tr (FrN.s _ _ (by omega))).tr (FrN.s _ _ (by omega))).tr (FrN.s _ _ (by omega))⟩
      rw [hk2 hlt, if_pos rfl, Nat.add_zero, e_gz (by omega) (by decide), e_cl (by omega), g5 64 (by decide), F1.1 64 (by decide), b3, e_let, e_st, hm, e_bd]
      unfold fX7_nextToken_j211
      cases ha : (decide (97 ≤ B p) && decide (B p ≤ 122))
      · rw [if_pos (show bI false = 0 from rfl), show (44 : Int32) = nI 44 from rfl, show (59 : Int32) = nI 59 from rfl]
        simp only [e_eq0 (show B p < 2147483648 by omega) (show 44 < 2147483648 by decide), e_eq0 (show B p < 2147483648 by omega) (show 59 < 2147483648 by decide)]
        have hsg : sg (B p) = (decide (B p = 44) || decide (B p = 59)) := by unfold sg; rw [ha, Bool.false_or]
        by_cases h44 : B p = 44
        · rw [if_pos h44]; exact fin _ (by rw [hsg, decide_eq_true h44]; rfl)
        · rw [if_neg h44]
          by_cases h59 : B p = 59
          · rw [if_pos h59]; exact fin _ (by rw [hsg, decide_eq_true h59, Bool.or_true]; rfl)
          · rw [if_neg h59]; exact fin _ (by rw [hsg, decide_eq_false h44, decide_eq_false h59]; rfl)
      · rw [if_neg (show ¬ bI true = 0 by decide)]
        exact fin _ (by unfold sg; rw [ha]; rfl)
  · have hd0 := dg_iff.mp (g2 0 (by omega))
    rw [Nat.add_zero] at hd0
    rw [if_neg (by rw [e_le0 (by omega) (by omega)]; omega), pk_sub (by omega), show p + i - p = i by omega, show (2 : Int32) = nI 2 from rfl]
    simp only [e_le0 (show i < 2147483648 by omega) (show 2 < 2147483648 by decide)]
    by_cases hi2 : i ≤ 2
    · rw [if_pos hi2] at hl
      rw [if_pos hi2, e_let]
      refine ⟨_, rfl, ⟨by rw [e_stk (by decide)]; exact q13, hp, fun h => by omega, fun _ => ⟨fun h => by omega, fun _ => ⟨by rw [e_st]; rfl, by rw [e_stk (by decide), hl]; exact g4 hi2, by rw [e_stk (by decide), hl]; exact g1⟩, fun h => by omega⟩⟩, F2.tr (FrN.s _ _ (by omega))⟩
    · rw [if_neg hi2] at hl
      rw [if_neg hi2, e_let]
      refine ⟨_, rfl, ⟨by rw [e_stk (by decide)]; exact q13, hp, fun h => by omega, fun _ => ⟨fun h => by omega, fun h => by omega, fun _ => by rw [e_st]⟩⟩, F2.tr (FrN.s _ _ (by omega))⟩
end MP
