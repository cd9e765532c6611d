section CT
variable {mem : ZM} {B : Nat → Nat} {n p : Nat}
/-- number and sign -/
theorem c_ns (T : TB mem B n) (hp : p ≤ n) (h2 : mem 3 2 = nI p) {lo hi c : Nat} (hlo : lo ≤ 100) (hhi : hi ≤ 100) (hc : c < 256) {K : ZM → Option (Int32 × ZM)} {L : ZM → Option (Int32 × ZM)}
    (hL : L mem = Option.bind (fX5_readNumber (nI lo) (nI hi) mem) (fun r3 => if r3.1 = 0 then (some ((0 : Int32), r3.2)) else (Option.bind (fX5_readSign (nI c) r3.2) (fun r4 => if r4.1 = 0 then (some ((0 : Int32), r4.2)) else K r4.2)))) :
    Sum.elim (fun e => ∃ m', L mem = some (0, m') ∧ m' 3 2 = nI e.2 ∧ m' 3 3 = nI e.1 ∧ FrP mem m') (fun q => ∃ m', L mem = K m' ∧ m' 3 2 = nI q.2 ∧ q.2 ≤ n ∧ m' 3 4 = nI q.1 ∧ (∀ b, 22 ≤ b → b ≤ 26 → m' b = mem b) ∧ m' 3 3 = mem 3 3 ∧ FrP mem m') (pNS B n lo hi c p) := by
  have hN := c_number T hp h2 hlo hhi
  unfold pNS
  cases hn : pNum B n lo hi p with
  | inl e =>
    rw [hn] at hN
    obtain ⟨m', e1, e2, e3, e4⟩ := hN
    exact ⟨m', by rw [hL, e1, e_bd]; rfl, e2, e3, e4⟩
  | inr q =>
    rw [hn] at hN
    obtain ⟨m1, e1, ⟨a1, a2, a3, a4⟩, a5, a6⟩ := hN
    have hS := c_sign (T.fr a6) a2 a1 hc
    show Sum.elim _ _ (Sum.elim (fun e => .inl e) (fun r => .inr (q.1, r)) (pSign B n c q.2))
    cases hs : pSign B n c q.2 with
    | inl e =>
      rw [hs] at hS
      obtain ⟨m2, e2, b1, b2, b3⟩ := hS
      exact ⟨m2, by rw [hL, e1, e_bd]; show (if (1 : Int32) = 0 then _ else _) = _; rw [if_neg (by decide), e2, e_bd]; rfl, b1, b2, a6.tr b3⟩
    | inr r =>
      rw [hs] at hS
      obtain ⟨m2, e2, ⟨b1, b2, b3, b4⟩, b5, b6⟩ := hS
      refine ⟨m2, ?_, b1, b2, by rw [b3]; exact a3, fun b x y => by rw [b4 b x y, a4 b x y], b5.trans a5, a6.tr b6⟩
      rw [hL, e1, e_bd]
      show (if (1 : Int32) = 0 then _ else _) = _
      rw [if_neg (by decide), e2, e_bd]
      show (if (1 : Int32) = 0 then _ else _) = _
      rw [if_neg (by decide)]
theorem c_idx : ∀ b, b < 256 → zidx (((nI b).toUInt32 % 65536).toInt32) + 1 = nI (kindN b) := by decide +kernel
theorem kind_le (b : Nat) : kindN b ≤ 5 := by unfold kindN; split; omega; split; omega; split; omega; split; omega; split <;> omega
theorem c_lay {g : HS} {k s w : Nat} {m : ZM} (H : Hc m 22 g) (hN : hsN g < 8) : ∃ m', fX3_layThing 22 (nI k) (nI s) (nI w) m = some m' ∧ Hc m' 22 (addT g k s w) ∧ m' 22 9 = m 22 9 ∧ m' 3 = m 3 ∧ (∀ c, c < 22 ∨ 26 < c → m' c = m c) := by
  unfold fX3_layThing
  have h0 := H.1
  rw [h0, show (8 : Int32) = nI 8 from rfl, if_neg (by rw [e_le0 (by omega) (by omega)]; omega)]
  simp (disch := omega) only [e_gz, e_cl, e_let, e_stn, h0, nI_1]
  refine ⟨_, rfl, ⟨by rw [e_st]; rfl, fun t ht => ?_, ?_, ?_, ?_, ?_⟩, ?_, ?_, fun c hc => ?_⟩
  · have ht' : t < hsN g + 1 := ht
    by_cases e : t = hsN g
    · subst e
      show _ = nI (if hsN g = hsN g then k else hsK g (hsN g)) ∧ _ = nI (if hsN g = hsN g then s else hsS g (hsN g)) ∧ _ = nI (if hsN g = hsN g then w else hsW g (hsN g)) ∧ _ = nI (if hsN g = hsN g then hsN g else hsP g (hsN g))
      simp (disch := omega) only [e_stn, e_st, if_true, and_self]
    · obtain ⟨a1, a2, a3, a4⟩ := H.2.1 t (by omega)
      show _ = nI (if t = hsN g then k else hsK g t) ∧ _ = nI (if t = hsN g then s else hsS g t) ∧ _ = nI (if t = hsN g then w else hsW g t) ∧ _ = nI (if t = hsN g then hsN g else hsP g t)
      rw [if_neg e, if_neg e, if_neg e, if_neg e]
      simp (disch := omega) only [e_stn, e_stk]
      exact ⟨a1, a2, a3, a4⟩
  · simp (disch := omega) only [e_stn, e_stk]; exact H.2.2.1
  · simp (disch := omega) only [e_stn, e_stk]; exact H.2.2.2.1
  · simp (disch := omega) only [e_stn, e_stk]; exact H.2.2.2.2.1
  · simp (disch := omega) only [e_stn, e_stk]; exact H.2.2.2.2.2
  · simp (disch := omega) only [e_stn, e_stk]
  · simp (disch := omega) only [e_stn]
  · simp (disch := omega) only [e_stn]
theorem c_thing {g : HS} (T : TB mem B n) (hp : p ≤ n) (h2 : mem 3 2 = nI p) (H : Hc mem 22 g) (hN : hsN g ≤ 8) (h9 : mem 22 9 = 0) : CS mem (fX5_readThing 22) (Sum.elim (fun e => .inl e) (fun q => .inr (fun m' => m' 3 2 = nI q.2 ∧ q.2 ≤ n ∧ Hc m' 22 q.1 ∧ m' 22 9 = 0)) (pThing B n g p)) := by
  obtain ⟨t1, t2, t3, t4⟩ := id T
  have hrun : fX5_readThing 22 mem = fX5_readThing_j32 22 (nI (pKind B n p)) mem := by
    unfold fX5_readThing pKind
    rw [t2, h2]
    by_cases h : n ≤ p
    · rw [if_pos (by rw [e_le0 (by omega) (by omega)]; exact h), if_neg (by omega)]; rfl
    · obtain ⟨b1, b2, b3⟩ := t4 p (by omega)
      rw [if_neg (by rw [e_le0 (by omega) (by omega)]; exact h), e_gz (by omega) (by decide), e_cl (by omega), b2, c_idx _ b1, if_pos (by omega)]
  have hk5 : pKind B n p ≤ 5 := by unfold pKind; split; exact kind_le _; omega
  have hf : ∀ f : Nat, CS mem (fun m => some (0, zst m 3 3 (nI f))) (.inl (f, p)) := fun f => ⟨zst mem 3 3 (nI f), rfl, by rw [e_stk (by decide)]; exact h2, by rw [e_st], FrP.s3 _ _ (by decide)⟩
  unfold pThing
  by_cases hk : pKind B n p = 0
  · rw [if_pos hk]
    obtain ⟨m', e1, e2, e3, e4⟩ := hf 1
    refine ⟨m', ?_, e2, e3, e4⟩
    rw [hrun, hk]
    unfold fX5_readThing_j32
    rw [e_let, if_pos (show nI 0 = (0 : Int32) from rfl), c_fail]
    exact e1
  rw [if_neg hk]
  have hk0 : ¬ nI (pKind B n p) = 0 := by rw [l0, e_eq0 (by omega) (by omega)]; exact hk
  by_cases h8 : 8 ≤ hsN g
  · rw [if_pos h8]
    obtain ⟨m', e1, e2, e3, e4⟩ := hf 3
    refine ⟨m', ?_, e2, e3, e4⟩
    rw [hrun]
    unfold fX5_readThing_j32
    rw [e_let, if_neg hk0, H.1, show (8 : Int32) = nI 8 from rfl, if_neg (by rw [e_lt0 (by omega) (by omega)]; omega), c_fail]
    exact e1
  rw [if_neg h8]
  have hpn : p < n := by
    unfold pKind at hk
    by_cases h : p < n
    · exact h
    · rw [if_neg h] at hk; exact absurd rfl hk
  have T1 : TB (zst mem 3 2 (nI (p + 1))) B n := T.fr (FrP.s3 _ _ (by decide))
  -- what comes behind the letter
  have hrun2 : fX5_readThing 22 mem = Option.bind (fX5_readNumber (nI 1) (nI 30) (zst mem 3 2 (nI (p + 1)))) (fun r3 => if r3.1 = 0 then (some ((0 : Int32), r3.2)) else (Option.bind (fX5_readSign (nI 44) r3.2) (fun r4 => if r4.1 = 0 then (some ((0 : Int32), r4.2)) else (zlet (r4.2 3 4) (fun v5 => Option.bind (fX5_readNumber (nI 0) (nI 20) r4.2) (fun r6 => if r6.1 = 0 then (some ((0 : Int32), r6.2)) else (Option.bind (fX5_readSign (nI 59) r6.2) (fun r7 => if r7.1 = 0 then (some ((0 : Int32), r7.2)) else (Option.bind (fX3_layThing 22 (nI (pKind B n p)) v5 (r7.2 3 4) r7.2) (fun r8 => some ((1 : Int32), r8))))))))))) := by
    rw [hrun]
    unfold fX5_readThing_j32
    rw [e_let, if_neg hk0, H.1, show (8 : Int32) = nI 8 from rfl, if_pos (by rw [e_lt0 (by omega) (by omega)]; omega), h2, nI_1, e_let]
    rfl
  have A := c_ns (L := fun _ => fX5_readThing 22 mem) (mem := zst mem 3 2 (nI (p + 1))) (p := p + 1) T1 (by omega) (by rw [e_st]) (lo := 1) (hi := 30) (c := 44) (by decide) (by decide) (by decide) (K := fun r4 => zlet (r4 3 4) (fun v5 => Option.bind (fX5_readNumber (nI 0) (nI 20) r4) (fun r6 => if r6.1 = 0 then (some ((0 : Int32), r6.2)) else (Option.bind (fX5_readSign (nI 59) r6.2) (fun r7 => if r7.1 = 0 then (some ((0 : Int32), r7.2)) else (Option.bind (fX3_layThing 22 (nI (pKind B n p)) v5 (r7.2 3 4) r7.2) (fun r8 => some ((1 : Int32), r8)))))))) hrun2
  have F0 : FrP mem (zst mem 3 2 (nI (p + 1))) := FrP.s3 _ _ (by decide)
  cases ha : pNS B n 1 30 44 (p + 1) with
  | inl e =>
    rw [ha] at A
    obtain ⟨m', e1, e2, e3, e4⟩ := A
    exact ⟨m', e1, e2, e3, F0.tr e4⟩
  | inr a =>
    rw [ha] at A
    obtain ⟨m1, e1, a1, a2, a3, a4, a5, a6⟩ := A
    have e1' : fX5_readThing 22 mem = _ := e1
    have A2 := c_ns (L := fun _ => fX5_readThing 22 mem) (mem := m1) (p := a.2) (T1.fr a6) a2 a1 (lo := 0) (hi := 20) (c := 59) (by decide) (by decide) (by decide) (K := fun r7 => Option.bind (fX3_layThing 22 (nI (pKind B n p)) (m1 3 4) (r7 3 4) r7) (fun r8 => some ((1 : Int32), r8))) (by rw [e1', e_let])
    show CS mem (fX5_readThing 22) (Sum.elim _ _ (Sum.elim (fun e => .inl e) (fun b => .inr (addT g (pKind B n p) a.1 b.1, b.2)) (pNS B n 0 20 59 a.2)))
    cases hb : pNS B n 0 20 59 a.2 with
    | inl e =>
      rw [hb] at A2
      obtain ⟨m', e1, e2, e3, e4⟩ := A2
      exact ⟨m', e1, e2, e3, (F0.tr a6).tr e4⟩
    | inr b =>
      rw [hb] at A2
      obtain ⟨m2, e2, b1, b2, b3, b4, b5, b6⟩ := A2
      have hc22 : ∀ c, 22 ≤ c → c ≤ 26 → m2 c = mem c := fun c x y => by rw [b4 c x y, a4 c x y, e_stn (by omega)]
      have H2 : Hc m2 22 g := H.kept (fun j _ => by rw [hc22 22 (by omega) (by omega)]) (fun c x y => hc22 c (by omega) (by omega))
      obtain ⟨m3, e3, d1, d2, d3, d4⟩ := c_lay (k := pKind B n p) (s := a.1) (w := b.1) H2 (by omega)
      refine ⟨m3, ?_, ⟨by rw [d3]; exact b1, b2, d1, by rw [d2, hc22 22 (by omega) (by omega)]; exact h9⟩, by rw [d3, b5, a5, e_stk (by decide)], ((F0.tr a6).tr b6).tr ⟨fun c x y => d4 c y, by rw [d3]⟩⟩
      have e2' : fX5_readThing 22 mem = _ := e2
      rw [e2', a3, b3, e3, e_bd]
theorem add_N (g : HS) (k s w : Nat) : hsN (addT g k s w) = hsN g + 1 := rfl
theorem thing_N {g : HS} {q : HS × Nat} (h : pThing B n g p = .inr q) : hsN q.1 = hsN g + 1 ∧ hsN g < 8 := by
  unfold pThing at h
  split at h
  · cases h
  · split at h
    · cases h
    · cases ha : pNS B n 1 30 44 (p + 1) with
      | inl e => rw [ha] at h; cases h
      | inr a =>
        rw [ha] at h
        have h' : Sum.elim (fun e => .inl e) (fun b => .inr (addT g (pKind B n p) a.1 b.1, b.2)) (pNS B n 0 20 59 a.2) = (Sum.inr q : (Nat × Nat) ⊕ (HS × Nat)) := h
        cases hb : pNS B n 0 20 59 a.2 with
        | inl e => rw [hb] at h'; cases h'
        | inr b =>
          rw [hb] at h'
          have := Sum.inr.inj h'
          rw [← this]
          exact ⟨rfl, by omega⟩
theorem c_rest : ∀ (f : Nat) (g : HS) (p : Nat) (m : ZM) (N : Nat), f + hsN g = 9 → hsN g ≤ 8 → f < N → TB m B n → p ≤ n → m 3 2 = nI p → Hc m 22 g → m 22 9 = 0 →
    Sum.elim (fun e => ∃ m', ziter (fun s => fX5_readInto_b44 22 s.1 s.2) N (nI (hsN g), m) = some (Sum.inr (0, m')) ∧ m' 3 2 = nI e.2 ∧ m' 3 3 = nI e.1 ∧ FrP m m') (fun q => ∃ m', ziter (fun s => fX5_readInto_b44 22 s.1 s.2) N (nI (hsN g), m) = some (Sum.inr (1, m')) ∧ Hc m' 22 q ∧ m' 22 9 = 0 ∧ m' 3 3 = m 3 3 ∧ FrP m m') (pRest B n f g p) := by
  intro f
  induction f with
  | zero =>
    intro g p m N hf h8 hN T hp h2 H h9
    exact absurd hf (by omega)
  | succ f ih =>
    intro g p m N hf hgN hN T hp h2 H h9
    have t2 := T.2.1
    have hn90 := T.1
    obtain ⟨N, rfl⟩ : ∃ M, N = M + 1 := ⟨N - 1, by omega⟩
    unfold pRest ziter
    have hC := c_thing T hp h2 H hgN h9
    by_cases hs : hsN g ≠ 0 ∧ p = n
    · rw [if_pos hs]
      refine ⟨m, ?_, H, h9, rfl, FrP.rf _⟩
      show Option.bind (fX5_readInto_b44 22 (nI (hsN g)) m) _ = _
      unfold fX5_readInto_b44
      rw [show (8 : Int32) = nI 8 from rfl, if_neg (by rw [e_lt0 (by omega) (by omega)]; omega), l0, if_neg (by rw [e_le0 (by omega) (by omega)]; omega), h2, t2, hs.2, if_pos rfl, e_bd]
      rfl
    · rw [if_neg hs]
      have hb : fX5_readInto_b44 22 (nI (hsN g)) m = fX5_readInto_j67 22 (nI (hsN g)) m := by
        unfold fX5_readInto_b44
        rw [show (8 : Int32) = nI 8 from rfl, if_neg (by rw [e_lt0 (by omega) (by omega)]; omega), l0]
        by_cases h0 : hsN g = 0
        · rw [if_pos (by rw [e_le0 (by omega) (by omega)]; omega)]
        · rw [if_neg (by rw [e_le0 (by omega) (by omega)]; omega), h2, t2, if_neg (by rw [e_eq0 (by omega) (by omega)]; intro e; exact hs ⟨h0, e⟩)]
      cases ht : pThing B n g p with
      | inl e =>
        rw [ht] at hC
        obtain ⟨m', e1, e2, e3, e4⟩ := hC
        refine ⟨m', ?_, e2, e3, e4⟩
        show Option.bind (fX5_readInto_b44 22 (nI (hsN g)) m) _ = _
        rw [hb]
        unfold fX5_readInto_j67
        rw [e1]; rfl
      | inr q =>
        rw [ht] at hC
        obtain ⟨m1, e1, ⟨a1, a2, a3, a4⟩, a5, a6⟩ := hC
        obtain ⟨hqN, hg8⟩ := thing_N ht
        have hstep : Option.bind (fX5_readInto_b44 22 (nI (hsN g)) m) (fun t => Sum.elim (fun s' => ziter (fun s => fX5_readInto_b44 22 s.1 s.2) N s') (fun r => some r) t) = ziter (fun s => fX5_readInto_b44 22 s.1 s.2) N (nI (hsN q.1), m1) := by
          rw [hb]
          unfold fX5_readInto_j67
          rw [e1, e_bd, hqN]
          show Option.bind (if (1 : Int32) = 0 then _ else _) _ = _
          rw [if_neg (by decide), e_let, nI_1, e_bd]
          rfl
        have I := ih q.1 q.2 m1 N (by omega) (by omega) (by omega) (T.fr a6) a2 a1 a3 a4
        show Sum.elim _ _ (pRest B n f q.1 q.2)
        cases hr : pRest B n f q.1 q.2 with
        | inl e =>
          rw [hr] at I
          obtain ⟨m', i1, i2, i3, i4⟩ := I
          exact ⟨m', by rw [← i1]; exact hstep, i2, i3, a6.tr i4⟩
        | inr g' =>
          rw [hr] at I
          obtain ⟨m', i1, i2, i3, i4, i5⟩ := I
          exact ⟨m', by rw [← i1]; exact hstep, i2, i3, i4.trans a5, a6.tr i5⟩
end CT
