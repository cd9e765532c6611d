section MH2
variable {mem : ZM} {B : Nat → Nat} {n : Nat}
theorem m_readHeap (T : TBM mem B n) : Sum.elim (fun e => ∃ m', fX7_readHeap mem = some (0, m') ∧ m' 58 13 = nI e.2 ∧ m' 58 14 = nI e.1 ∧ FrM mem m') (fun g => ∃ m', fX7_readHeap mem = some (1, m') ∧ Hr (m' 65) g ∧ m' 65 1 = 0 ∧ FrM mem m') (pAll B n) := by
  have key : ∃ r, fX7_readHeap_l7 (nI 0, zst mem 58 10 0) = some r ∧ ((∀ j, j < 38 → r.2 65 j = 0) ∧ (∀ c, c ≠ 65 → r.2 c = zst mem 58 10 0 c)) := by
    unfold fX7_readHeap_l7
    refine zi_inv (fun i s => s.1 = nI i ∧ (∀ j, j < i → s.2 65 j = 0) ∧ (∀ c, c ≠ 65 → s.2 c = zst mem 58 10 0 c)) _ 38 ?_ ?_ 2000 0 _ (Nat.zero_le _) (by omega) ⟨rfl, fun j hj => absurd hj (Nat.not_lt_zero j), fun _ _ => rfl⟩
    · intro i s hi hI
      obtain ⟨i1, i2, i4⟩ := hI
      refine Or.inl ⟨(nI (i + 1), zst s.2 65 i 0), ?_, rfl, fun j hj => ?_, fun c hc => ?_⟩
      · show fX7_readHeap_b7 s.1 s.2 = _
        unfold fX7_readHeap_b7
        rw [i1, show (38 : Int32) = nI 38 from rfl, if_neg (by rw [e_le0 (by omega) (by omega)]; omega), e_gz (by omega) (by omega), e_cl (by omega), e_let, e_let, nI_1]
      · show zst s.2 65 i 0 65 j = _
        rw [e_sta, if_pos rfl]
        by_cases e : j = i
        · rw [if_pos e]
        · rw [if_neg e]; exact i2 j (by omega)
      · show zst s.2 65 i 0 c = _
        rw [e_stn hc]; exact i4 c hc
    · intro s hI
      obtain ⟨i1, i2, i4⟩ := hI
      refine ⟨s, ?_, i2, i4⟩
      show fX7_readHeap_b7 s.1 s.2 = _
      unfold fX7_readHeap_b7
      rw [i1, show (38 : Int32) = nI 38 from rfl, if_pos (by rw [e_le0 (by omega) (by omega)]; exact Nat.le_refl _), ← i1]
  obtain ⟨r, e, g1, g2⟩ := key
  have F1 : FrM mem r.2 := ⟨fun c c1 c2 => by rw [g2 c c2, e_stn c1], fun k hk => by rw [g2 58 (by decide), e_stk (by omega)]⟩
  obtain ⟨m1, e1, K1, F2⟩ := m_next (T.frM F1) (p := 0) (Nat.zero_le n) (by rw [g2 58 (by decide), e_st]; rfl)
  have T1 := (T.frM F1).frM F2.m
  have S := m_takes T1 K1 (c := 98) (by decide) (by decide) (by decide)
  have hrun : fX7_readHeap mem = Option.bind (fX7_takes (nI 98) m1) (fun r7 => if r7.1 = 0 then (some ((0 : Int32), r7.2)) else (Option.bind (fX7_takesNumber (nI 0) (nI 1) (nI 2) (nI 59) r7.2) (fun r8 => if r8.1 = 0 then (some ((0 : Int32), r8.2)) else (Option.bind (ziter (fun s => fX7_readHeap_b55 s.1 s.2) 2000 (1, r8.2)) (fun r10 => zgd (zbl r10.1) (some (r10.1, r10.2))))))) := by
    unfold fX7_readHeap
    rw [e_let, e_let]
    have e' : fX7_readHeap_l7 (0, zst mem 58 10 0) = some r := e
    rw [e', e_bd, e1, e_bd]
    rfl
  unfold pAll
  cases hs : pSign B n 98 0 with
  | inl e =>
    rw [hs] at S
    obtain ⟨m', s1, s2, s3, s4⟩ := S
    exact ⟨m', by rw [hrun, s1, e_bd]; rfl, s2, s3, (F1.tr F2.m).tr s4.m⟩
  | inr p =>
    rw [hs] at S
    obtain ⟨m2, s1, s2, s4⟩ := S
    have A := m_takesNum (T1.frM s4.m) s2 (lo := 0) (hi := 1) (a := 2) (c := 59) (by decide) (by decide) (by decide) (by decide) (by decide) (by decide)
    have hrun2 : fX7_readHeap mem = Option.bind (fX7_takesNumber (nI 0) (nI 1) (nI 2) (nI 59) m2) (fun r8 => if r8.1 = 0 then (some ((0 : Int32), r8.2)) else (Option.bind (ziter (fun s => fX7_readHeap_b55 s.1 s.2) 2000 (1, r8.2)) (fun r10 => zgd (zbl r10.1) (some (r10.1, r10.2))))) := by
      rw [hrun, s1, e_bd]
      show (if (1 : Int32) = 0 then _ else _) = _
      rw [if_neg (by decide)]
    show Sum.elim _ _ (Sum.elim (fun e => .inl e) (fun a => pRest B n 9 (noH a.1) a.2) (pNS B n 0 1 59 p))
    cases ha : pNS B n 0 1 59 p with
    | inl e =>
      rw [ha] at A
      obtain ⟨m', u1, u2, u3, u4⟩ := A
      exact ⟨m', by rw [hrun2, u1, e_bd]; rfl, u2, u3, ((F1.tr F2.m).tr s4.m).tr u4⟩
    | inr a =>
      rw [ha] at A
      obtain ⟨m3, u1, u2, u3, u4⟩ := A
      have h65 : m3 65 = upd (r.2 65) 2 (nI a.1) := by rw [u3, s4.1 65 (by decide), F2.1 65 (by decide)]
      have H3 : Hr (m3 65) (noH a.1) := by
        rw [h65]
        refine ⟨by rw [u_n (by decide), g1 0 (by decide)]; rfl, fun t ht => absurd ht (Nat.not_lt_zero t), by rw [u_n (by decide), g1 4 (by decide)]; rfl, by rw [u_n (by decide), g1 5 (by decide)]; rfl, by rw [u_s]; rfl, by rw [u_n (by decide), g1 3 (by decide)]; rfl⟩
      have Fall := ((F1.tr F2.m).tr s4.m).tr u4
      have I := m_rest (B := B) (n := n) 9 (noH a.1) a.2 m3 2000 rfl (by show 0 ≤ 8; omega) (by omega) (T.frM Fall) u2 H3 (by rw [h65, u_n (by decide), g1 1 (by decide)])
      have hrun3 : fX7_readHeap mem = Option.bind (ziter (fun s => fX7_readHeap_b55 s.1 s.2) 2000 (1, m3)) (fun r10 => zgd (zbl r10.1) (some (r10.1, r10.2))) := by
        rw [hrun2, u1, e_bd]
        show (if (1 : Int32) = 0 then _ else _) = _
        rw [if_neg (by decide)]
      show Sum.elim _ _ (pRest B n 9 (noH a.1) a.2)
      cases hr : pRest B n 9 (noH a.1) a.2 with
      | inl e =>
        rw [hr] at I
        obtain ⟨m', i1, i2, i3, i4⟩ := I
        exact ⟨m', by rw [hrun3, i1, e_bd]; rfl, i2, i3, Fall.tr i4⟩
      | inr g =>
        rw [hr] at I
        obtain ⟨m', i1, i2, i3, i4⟩ := I
        exact ⟨m', by rw [hrun3, i1, e_bd]; rfl, i2, i3, Fall.tr i4⟩
/-- what is read is a heap -/
theorem num_bd {lo hi p : Nat} {q : Nat × Nat} (h : pNum B n lo hi p = .inr q) : lo ≤ q.1 ∧ q.1 ≤ hi := by
  unfold pNum at h
  split at h
  · cases h
  · split at h
    · rename_i hr
      have := Sum.inr.inj h
      rw [← this]; exact hr
    · cases h
theorem ns_bd {lo hi c p : Nat} {q : Nat × Nat} (h : pNS B n lo hi c p = .inr q) : lo ≤ q.1 ∧ q.1 ≤ hi := by
  unfold pNS at h
  cases hn : pNum B n lo hi p with
  | inl e => rw [hn] at h; cases h
  | inr a =>
    rw [hn] at h
    have h' : Sum.elim (fun e => .inl e) (fun r => .inr (a.1, r)) (pSign B n c a.2) = (Sum.inr q : (Nat × Nat) ⊕ (Nat × Nat)) := h
    cases hs : pSign B n c a.2 with
    | inl e => rw [hs] at h'; cases h'
    | inr r =>
      rw [hs] at h'
      have := Sum.inr.inj h'
      rw [← this]
      exact num_bd (q := a) hn
def okR (g : HS) : Prop := hsN g ≤ 8 ∧ (∀ t, t < hsN g → (1 ≤ hsK g t ∧ hsK g t ≤ 5) ∧ hsS g t ≤ 30 ∧ hsW g t ≤ 20 ∧ hsP g t = t) ∧ hsL g = 0 ∧ hsO g = 0 ∧ hsV g ≤ 1 ∧ hsM g = 0
theorem okR.ok {g : HS} (h : okR g) : okH g := by
  obtain ⟨h1, h2, h3, h4, h5, h6⟩ := h
  refine ⟨h1, fun t ht => ?_, fun t u ht hu e => ?_, by rw [h3]; exact Nat.two_pow_pos _, by rw [h4]; exact Nat.two_pow_pos _, h5, by rw [h6]; omega, fun t ht hl => ?_⟩
  · obtain ⟨a1, a2, a3, a4⟩ := h2 t ht
    exact ⟨a1, a2, a3, by rw [a4]; exact ht⟩
  · rw [(h2 t ht).2.2.2, (h2 u hu).2.2.2] at e; exact e
  · rw [h3, tb0] at hl; cases hl
theorem okR.add {g : HS} (h : okR g) (hN : hsN g < 8) {k s w : Nat} (hk : 1 ≤ k ∧ k ≤ 5) (hs : s ≤ 30) (hw : w ≤ 20) : okR (addT g k s w) := by
  obtain ⟨h1, h2, h3, h4, h5, h6⟩ := h
  refine ⟨by show hsN g + 1 ≤ 8; omega, fun t ht => ?_, h3, h4, h5, h6⟩
  have ht' : t < hsN g + 1 := ht
  show (1 ≤ (if t = hsN g then k else hsK g t) ∧ (if t = hsN g then k else hsK g t) ≤ 5) ∧ (if t = hsN g then s else hsS g t) ≤ 30 ∧ (if t = hsN g then w else hsW g t) ≤ 20 ∧ (if t = hsN g then hsN g else hsP g t) = t
  by_cases e : t = hsN g
  · rw [if_pos e, if_pos e, if_pos e, if_pos e]; exact ⟨hk, hs, hw, e.symm⟩
  · rw [if_neg e, if_neg e, if_neg e, if_neg e]; exact h2 t (by omega)
theorem thing_ok {g : HS} {p : Nat} {q : HS × Nat} (h : okR g) (hq : pThing B n g p = .inr q) : okR q.1 := by
  unfold pThing at hq
  have hk5 : pKind B n p ≤ 5 := by unfold pKind; split; exact kind_le _; omega
  by_cases hk : pKind B n p = 0
  · rw [if_pos hk] at hq; cases hq
  rw [if_neg hk] at hq
  by_cases h8 : 8 ≤ hsN g
  · rw [if_pos h8] at hq; cases hq
  rw [if_neg h8] at hq
  cases ha : pNS B n 1 30 44 (p + 1) with
  | inl e => rw [ha] at hq; cases hq
  | inr a =>
    rw [ha] at hq
    have h' : Sum.elim (fun e => .inl e) (fun b => .inr (addT g (pKind B n p) a.1 b.1, b.2)) (pNS B n 0 20 59 a.2) = (Sum.inr q : (Nat × Nat) ⊕ (HS × Nat)) := hq
    cases hb : pNS B n 0 20 59 a.2 with
    | inl e => rw [hb] at h'; cases h'
    | inr b =>
      rw [hb] at h'
      have := Sum.inr.inj h'
      rw [← this]
      exact h.add (by omega) ⟨by omega, hk5⟩ (ns_bd ha).2 (ns_bd hb).2
theorem rest_ok : ∀ (f : Nat) (g : HS) (p : Nat) (q : HS), okR g → pRest B n f g p = .inr q → okR q ∧ hsN q ≠ 0 := by
  intro f
  induction f with
  | zero => intro g p q _ h; cases h
  | succ f ih =>
    intro g p q hg h
    unfold pRest at h
    by_cases hs : hsN g ≠ 0 ∧ p = n
    · rw [if_pos hs] at h
      have := Sum.inr.inj h
      rw [← this]
      exact ⟨hg, hs.1⟩
    · rw [if_neg hs] at h
      cases ht : pThing B n g p with
      | inl e => rw [ht] at h; cases h
      | inr a =>
        rw [ht] at h
        exact ih a.1 a.2 q (thing_ok hg ht) h
theorem all_ok {q : HS} (h : pAll B n = .inr q) : okR q ∧ hsN q ≠ 0 := by
  unfold pAll at h
  cases hs : pSign B n 98 0 with
  | inl e => rw [hs] at h; cases h
  | inr p =>
    rw [hs] at h
    have h' : Sum.elim (fun e => .inl e) (fun a => pRest B n 9 (noH a.1) a.2) (pNS B n 0 1 59 p) = (Sum.inr q : (Nat × Nat) ⊕ HS) := h
    cases ha : pNS B n 0 1 59 p with
    | inl e => rw [ha] at h'; cases h'
    | inr a =>
      rw [ha] at h'
      exact rest_ok 9 (noH a.1) a.2 q ⟨by show 0 ≤ 8; omega, fun t ht => absurd ht (Nat.not_lt_zero t), rfl, rfl, (ns_bd ha).2, rfl⟩ h'
theorem m_take65 (m : ZM) : ∃ r, fX7_heap_l32 (nI 0, m) = some r ∧ ((∀ j, j < 38 → r.2 62 j = m 65 j) ∧ (∀ c, c ≠ 62 → r.2 c = m c)) := by
  unfold fX7_heap_l32
  refine zi_inv (fun i s => s.1 = nI i ∧ (∀ j, j < i → s.2 62 j = m 65 j) ∧ (∀ c, c ≠ 62 → s.2 c = m c)) _ 38 ?_ ?_ 2000 0 _ (Nat.zero_le _) (by omega) ⟨rfl, fun j hj => absurd hj (Nat.not_lt_zero j), fun _ _ => rfl⟩
  · intro i s hi hI
    obtain ⟨i1, i2, i4⟩ := hI
    refine Or.inl ⟨(nI (i + 1), zst s.2 62 i (m 65 i)), ?_, rfl, fun j hj => ?_, fun c hc => ?_⟩
    · show fX7_heap_b32 s.1 s.2 = _
      unfold fX7_heap_b32
      rw [i1, show (38 : Int32) = nI 38 from rfl, if_neg (by rw [e_le0 (by omega) (by omega)]; omega), e_gz (by omega) (by omega), e_gz (by omega) (by omega), e_cl (by omega), e_let, e_let, nI_1, i4 65 (by decide)]
    · show zst s.2 62 i _ 62 j = _
      rw [e_sta, if_pos rfl]
      by_cases e : j = i
      · rw [if_pos e, e]
      · rw [if_neg e]; exact i2 j (by omega)
    · show zst s.2 62 i _ c = _
      rw [e_stn hc]; exact i4 c hc
  · intro s hI
    obtain ⟨i1, i2, i4⟩ := hI
    refine ⟨s, ?_, i2, i4⟩
    show fX7_heap_b32 s.1 s.2 = _
    unfold fX7_heap_b32
    rw [i1, show (38 : Int32) = nI 38 from rfl, if_pos (by rw [e_le0 (by omega) (by omega)]; exact Nat.le_refl _), ← i1]
theorem o_heap (R : Rel mem) : Op fX6_heap fX7_heap mem Rel := by
  obtain ⟨h, r1, r2, r3, r4, r5, r6⟩ := id R
  obtain ⟨n, t1, t2, t3, t4, t5⟩ := r5
  -- the bytes
  have hB : ∃ B : Nat → Nat, ∀ j, j < n → B j < 256 ∧ mem 4 j = nI (B j) ∧ mem 64 j = nI (B j) := by
    refine ⟨fun j => (mem 4 j).toNatClampNeg, fun j hj => ?_⟩
    obtain ⟨b, b1, b2, b3⟩ := t4 j hj
    show (mem 4 j).toNatClampNeg < 256 ∧ mem 4 j = nI ((mem 4 j).toNatClampNeg) ∧ mem 64 j = nI ((mem 4 j).toNatClampNeg)
    rw [b2, e_cl (by omega)]
    exact ⟨b1, rfl, b3⟩
  obtain ⟨B, hB⟩ := hB
  have T : TB mem B n := ⟨t1, t2, t3, hB⟩
  have hC := c_readInto T
  have tr0 : ∀ m : ZM, m 3 1 = 0 → m 58 8 = 0 → m 3 3 = m 58 9 → TR m := fun m a b c => ⟨0, by omega, a, b, fun j hj => absurd hj (Nat.not_lt_zero j), c⟩
  cases hp : pAll B n with
  | inl e =>
    rw [hp] at hC
    obtain ⟨m1, e1, a1, a2, a3⟩ := hC
    have F1 : ∀ c, c ≠ 3 → (c < 22 ∨ 26 < c) → (zst m1 3 1 0) c = mem c := fun c x y => by rw [e_stn x, a3.1 c x y]
    have e58 : (zst m1 3 1 0) 58 = mem 58 := F1 58 (by decide) (by omega)
    have T2 : TBM (zst m1 3 1 0) B n := ⟨t1, trivial, by rw [e58]; exact t3, fun j hj => ⟨(hB j hj).1, trivial, by rw [F1 64 (by decide) (by omega)]; exact (hB j hj).2.2⟩⟩
    have hM := m_readHeap T2
    rw [hp] at hM
    obtain ⟨m2, e2, b1, b2, b3⟩ := hM
    have hall : ∀ c, c ≠ 3 → (c < 22 ∨ 26 < c) → c ≠ 58 → c ≠ 65 → (zst (zst m2 58 8 0) 58 9 (m2 58 14)) c = mem c := fun c x y z w => by rw [e_stn z, e_stn z, b3.1 c z w, F1 c x y]
    have h58 : ∀ k, k ≠ 8 → k ≠ 9 → (k < 10 ∨ 14 < k) → (zst (zst m2 58 8 0) 58 9 (m2 58 14)) 58 k = mem 58 k := fun k x y z => by rw [e_stk y, e_stk x, b3.2 k z, e58]
    refine ⟨-1000100 - nI e.2, zst m1 3 1 0, zst (zst m2 58 8 0) 58 9 (m2 58 14), ?_, ?_, h, r1.same (fun c hc => hall c (by omega) (by omega) (by omega) (by omega)) (fun k _ => by rw [hall 62 (by omega) (by omega) (by omega) (by omega)]) (fun k hk => h58 k (by omega) (by omega) (by omega)), r2.same (fun c hc => hall c (by omega) (by omega) (by omega) (by omega)), ?_, r4.same (fun q => q) (fun c hc => hall c (by omega) (by omega) (by omega) (by omega)), tr0 _ ?_ ?_ ?_, r6.same (fun c hc => hall c (by omega) (by omega) (by omega) (by omega)) (h58 24 (by decide) (by decide) (by omega))⟩
    · unfold fX6_heap
      rw [e1, e_bd, e_let, e_let, e_let]
      show (if (0 : Int32) = 0 then some ((-1000100 : Int32) - m1 3 2, zst m1 3 1 0) else _) = _
      rw [if_pos rfl, a1]
    · unfold fX7_heap
      rw [e2, e_bd, e_let, e_let]
      show (if (0 : Int32) = 0 then _ else _) = _
      rw [if_pos rfl, e_let, e_stk (by decide), e_stk (by decide), e_stk (by decide)]
      show some ((-1000100 : Int32) - m2 58 13, _) = _
      rw [b1]
    · unfold RF
      rw [hall 0 (by decide) (by omega) (by decide) (by decide), h58 3 (by decide) (by decide) (by omega)]; exact r3
    · rw [e_stn (by decide), e_stn (by decide), b3.1 3 (by decide) (by decide), e_st]
    · rw [e_stk (by decide), e_st]
    · rw [e_st, b2, e_stn (by decide), e_stn (by decide), b3.1 3 (by decide) (by decide), e_stk (by decide), a2]
  | inr g =>
    rw [hp] at hC
    obtain ⟨m1, e1, a1, a2, a3, a4⟩ := hC
    obtain ⟨okg, hg0⟩ := all_ok hp
    have ok := okg.ok
    have H1 : Hc (zst m1 3 1 0) 22 g := a1.kept (fun k _ => by rw [e_stn (by decide)]) (fun c x y => e_stn (by omega))
    obtain ⟨m2, e2, H2, u2, f2⟩ := c_takeFrom (b := 17) (q := 22) H1 ok.1 (by omega)
    have F1 : ∀ c, c ≠ 3 → c ≠ 5 → (c < 17 ∨ 26 < c) → (zst m2 5 0 0) c = mem c := fun c x y z => by rw [e_stn y, f2 c (by omega), e_stn x, a4.1 c x (by omega)]
    have e58 : (zst m2 5 0 0) 58 = mem 58 := F1 58 (by decide) (by decide) (by omega)
    have T2 : TBM (zst m2 5 0 0) B n := ⟨t1, trivial, by rw [e58]; exact t3, fun j hj => ⟨(hB j hj).1, trivial, by rw [F1 64 (by decide) (by decide) (by omega)]; exact (hB j hj).2.2⟩⟩
    have hM := m_readHeap T2
    rw [hp] at hM
    obtain ⟨m3, e3, b1, b2, b3⟩ := hM
    obtain ⟨q, e4, c1, c2⟩ := m_take65 (zst m3 58 8 0)
    have q62 : ∀ j, j < 38 → q.2 62 j = m3 65 j := fun j hj => by rw [c1 j hj, e_stn (by decide)]
    have hall : ∀ c, c ≠ 3 → c ≠ 5 → (c < 17 ∨ 26 < c) → c ≠ 58 → c ≠ 65 → c ≠ 62 → (zst (zst q.2 58 4 1) 58 19 0) c = mem c := fun c x y z w v u => by rw [e_stn w, e_stn w, c2 c u, e_stn w, b3.1 c w v, F1 c x y z]
    have h58 : ∀ k, k ≠ 8 → k ≠ 4 → k ≠ 19 → (k < 10 ∨ 14 < k) → (zst (zst q.2 58 4 1) 58 19 0) 58 k = mem 58 k := fun k x y z w => by rw [e_stk z, e_stk y, c2 58 (by decide), e_stk x, b3.2 k w, e58]
    have h17 : ∀ c, c ≠ 58 → c ≠ 65 → c ≠ 62 → c ≠ 5 → (zst (zst q.2 58 4 1) 58 19 0) c = m2 c := fun c w v u y => by rw [e_stn w, e_stn w, c2 c u, e_stn w, b3.1 c w v, e_stn y]
    have h5 : (zst (zst q.2 58 4 1) 58 19 0) 5 = (zst m2 5 0 0) 5 := by rw [e_stn (by decide), e_stn (by decide), c2 5 (by decide), e_stn (by decide), b3.1 5 (by decide) (by decide)]
    have h62 : (zst (zst q.2 58 4 1) 58 19 0) 62 = q.2 62 := by rw [e_stn (by decide), e_stn (by decide)]
    have hHr : Hr (q.2 62) g := Hr.kept b1 ok.1 (fun j hj _ => q62 j hj)
    obtain ⟨k0, G0, T0, ag, ⟨nx, n1, n2, n3, -⟩, am⟩ := r1.2.2
    refine ⟨nI (hsN g), zst m2 5 0 0, zst (zst q.2 58 4 1) 58 19 0, ?_, ?_, g, ⟨⟨ok, H2.kept (fun i _ => by rw [h17 17 (by omega) (by omega) (by omega) (by omega)]) (fun c x y => h17 c (by omega) (by omega) (by omega) (by omega)), by rw [h62]; exact hHr, ?_⟩, ?_, 0, G0, T0, ⟨by omega, fun i hi => absurd hi (Nat.not_lt_zero i)⟩, ⟨nx, n1, ?_, ?_, fun i hi => absurd hi (Nat.not_lt_zero i)⟩, ⟨by rw [e_st]; rfl, fun i hi => absurd hi (Nat.not_lt_zero i)⟩⟩, r2.same (fun c hc => hall c (by omega) (by omega) (by omega) (by omega) (by omega) (by omega)), ?_, r4.same (fun _ => hg0) (fun c hc => hall c (by omega) (by omega) (by omega) (by omega) (by omega) (by omega)), tr0 _ ?_ ?_ ?_, r6.same (fun c hc => hall c (by omega) (by omega) (by omega) (by omega) (by omega) (by omega)) (h58 24 (by decide) (by decide) (by decide) (by omega))⟩
    · unfold fX6_heap fX0_forget
      rw [e1, e_bd, e_let, e_let, e_let]
      show (if (1 : Int32) = 0 then _ else Option.bind (fX3_takeFrom 17 22 (zst m1 3 1 0)) _) = _
      rw [if_neg (by decide), e2, e_bd, e_let, e_bd, e_stn (by decide), H2.1]
    · unfold fX7_heap
      rw [e3, e_bd, e_let, e_let]
      show (if (1 : Int32) = 0 then _ else _) = _
      rw [if_neg (by decide), e_let]
      have e4' : fX7_heap_l32 (0, zst m3 58 8 0) = some q := e4
      rw [e4', e_bd, e_let, e_let, e_gd' e_z0, e_t0, h62, hHr.1]
    · rw [e_stk (by decide), e_st, decide_eq_true hg0]; rfl
    · rw [h17 17 (by decide) (by decide) (by decide) (by decide), u2, e_stn (by decide), a2, h62, q62 1 (by omega), b2]
    · rw [h5, e_st]; rfl
    · rw [h5, e_stk (by decide), f2 5 (by omega), e_stn (by decide), a4.1 5 (by decide) (by omega)]; exact n3
    · unfold RF
      rw [hall 0 (by decide) (by decide) (by omega) (by decide) (by decide) (by decide), h58 3 (by decide) (by decide) (by decide) (by omega)]; exact r3
    · rw [h17 3 (by decide) (by decide) (by decide) (by decide), f2 3 (by omega), e_st]
    · rw [e_stk (by decide), e_stk (by decide), c2 58 (by decide), e_st]
    · rw [h17 3 (by decide) (by decide) (by decide) (by decide), f2 3 (by omega), e_stk (by decide), a3, h58 9 (by decide) (by decide) (by decide) (by omega)]; exact t5
end MH2
