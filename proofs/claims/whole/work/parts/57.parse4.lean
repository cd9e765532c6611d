section MT
variable {mem : ZM} {B : Nat → Nat} {n p : Nat}
theorem m_flt (m : ZM) (v : Int32) : Option.bind (fX7_faults v m) (fun r1 => zgd (zbl r1.1) (some (r1.1, r1.2))) = some (0, zst m 58 14 v) := by
  unfold fX7_faults
  rfl
theorem bI_n1 (b : Bool) : ¬ bI b = 2 ∧ ¬ bI b = 3 := by cases b <;> decide
theorem ln_n (hp : p ≤ n) (h : ¬ p < n) : ln B n p = 0 := by
  unfold ln
  rw [dg_no (by omega), if_pos rfl]
theorem m_takes (T : TBM mem B n) (K : Tok B n mem p) {c : Nat} (hc : c < 256) (hs : sg c = true) (hd : c < 48 ∨ 57 < c) : Sum.elim (fun e => ∃ m', fX7_takes (nI c) mem = some (0, m') ∧ m' 58 13 = nI e.2 ∧ m' 58 14 = nI e.1 ∧ FrN mem m') (fun q => ∃ m', fX7_takes (nI c) mem = some (1, m') ∧ Tok B n m' q ∧ FrN mem m') (pSign B n c p) := by
  obtain ⟨k1, k2, k3, k4⟩ := id K
  have hf : ¬ (mem 58 11 = 1 ∧ mem 58 12 = nI c) → ∃ m', fX7_takes (nI c) mem = some (0, m') ∧ m' 58 13 = nI p ∧ m' 58 14 = nI 1 ∧ FrN mem m' := by
    intro hne
    refine ⟨zst mem 58 14 1, ?_, by rw [e_stk (by decide)]; exact k1, by rw [e_st]; rfl, FrN.s _ _ (by omega)⟩
    unfold fX7_takes fX7_takes_j16
    rw [m_flt]
    by_cases h1 : mem 58 11 = 1
    · rw [if_pos h1, if_neg (fun e => hne ⟨h1, e⟩)]
    · rw [if_neg h1]
  unfold pSign
  by_cases h : p < n ∧ B p = c
  · rw [if_pos h]
    have hl : ln B n p = 0 := by
      unfold ln
      have : dg B n p = false := by
        cases hdg : dg B n p
        · rfl
        · have := dg_iff.mp hdg; omega
      rw [this, if_pos rfl]
    obtain ⟨a1, a2, a3⟩ := (k4 h.1).1 hl
    rw [h.2] at a1 a3
    rw [hs] at a3
    obtain ⟨m', e, K', F⟩ := m_next T (p := p + 1) (by omega) a2
    refine ⟨m', ?_, K', F⟩
    unfold fX7_takes
    rw [a3, if_pos (show bI true = 1 from rfl), a1, if_pos rfl, e, e_bd]
  · rw [if_neg h]
    apply hf
    intro ⟨e1, e2⟩
    by_cases hp : p < n
    · obtain ⟨b1, b2, b3⟩ := k4 hp
      have h3 := ln_3le B n p
      have : ln B n p = 0 ∨ (ln B n p = 1 ∨ ln B n p = 2) ∨ ln B n p = 3 := by omega
      rcases this with hl | hl | hl
      · have a := (b1 hl).1
        obtain ⟨t1, t2⟩ := T.2.2.2 p hp
        rw [e2, nI_eq (by omega) (by omega)] at a
        exact h ⟨hp, a.symm⟩
      · rw [(b2 hl).1] at e1; exact absurd e1 (by decide)
      · rw [b3 hl] at e1; exact absurd e1 (by decide)
    · rw [k3 (by omega)] at e1; exact absurd e1 (by decide)
theorem m_takesNum (T : TBM mem B n) (K : Tok B n mem p) {lo hi a c : Nat} (hlo : lo ≤ 100) (hhi : hi ≤ 100) (ha : a < 38) (hc : c < 256) (hs : sg c = true) (hd : c < 48 ∨ 57 < c) : Sum.elim (fun e => ∃ m', fX7_takesNumber (nI lo) (nI hi) (nI a) (nI c) mem = some (0, m') ∧ m' 58 13 = nI e.2 ∧ m' 58 14 = nI e.1 ∧ FrM mem m') (fun q => ∃ m', fX7_takesNumber (nI lo) (nI hi) (nI a) (nI c) mem = some (1, m') ∧ Tok B n m' q.2 ∧ m' 65 = upd (mem 65) a (nI q.1) ∧ FrM mem m') (pNS B n lo hi c p) := by
  obtain ⟨k1, k2, k3, k4⟩ := id K
  have h3 := ln_3le B n p
  unfold pNS pNum
  by_cases h0 : ln B n p = 0 ∨ ln B n p = 3
  · rw [if_pos h0]
    have hne : ¬ mem 58 11 = 2 := by
      by_cases hp : p < n
      · rcases h0 with hl | hl
        · rw [((k4 hp).1 hl).2.2]; exact (bI_n1 _).1
        · rw [(k4 hp).2.2 hl]; decide
      · rw [k3 (by omega)]; decide
    refine ⟨zst mem 58 14 1, ?_, by rw [e_stk (by decide)]; exact k1, by rw [e_st]; rfl, (FrN.s _ _ (by omega)).m⟩
    unfold fX7_takesNumber fX7_takesNumber_j23 fX7_takesNumber_j37
    rw [if_neg hne, if_neg hne, m_flt]
  · rw [if_neg h0]
    have hl : ln B n p = 1 ∨ ln B n p = 2 := by omega
    have hp : p < n := by
      by_cases h : p < n
      · exact h
      · exact absurd (ln_n (B := B) k2 h) (by omega)
    have hn90 := T.1
    obtain ⟨a1, a2, a3⟩ := (k4 hp).2.1 hl
    have h99 := nv_lt (ln_dg B n p) (show ln B n p ≤ 2 by omega)
    have hm : fX7_in ((nI (nv B p (ln B n p))).toInt64) (nI lo).toInt64 (nI hi).toInt64 = some (bI (decide (lo ≤ nv B p (ln B n p)) && decide (nv B p (ln B n p) ≤ hi))) := by
      rw [nI_l (n := lo) (by omega), nI_l (n := hi) (by omega)]
      exact m_digit (by omega) lo hi (by omega) (by omega)
    by_cases hr : lo ≤ nv B p (ln B n p) ∧ nv B p (ln B n p) ≤ hi
    · rw [if_pos hr]
      have F1 : FrM mem (zst mem 65 a (nI (nv B p (ln B n p)))) := FrM.s65 _ _ _
      have hle := ln_le B n p k2
      obtain ⟨m1, e1, K1, F2⟩ := m_next (T.frM F1) (p := p + ln B n p) (by omega) (by rw [e_stn (by decide)]; exact a3)
      have S := m_takes ((T.frM F1).frM F2.m) K1 hc hs hd
      have hrun : fX7_takesNumber (nI lo) (nI hi) (nI a) (nI c) mem = Option.bind (fX7_takes (nI c) m1) (fun r5 => zgd (zbl r5.1) (some (r5.1, r5.2))) := by
        unfold fX7_takesNumber
        rw [a1, if_pos rfl, a2, hm, e_bd, decide_eq_true hr.1, decide_eq_true hr.2, if_neg (by decide), e_gz ha (by decide), e_cl (by omega), e_let, e1, e_bd]
      show Sum.elim _ _ (Sum.elim (fun e => .inl e) (fun r => .inr (nv B p (ln B n p), r)) (pSign B n c (p + ln B n p)))
      cases hp2 : pSign B n c (p + ln B n p) with
      | inl e =>
        rw [hp2] at S
        obtain ⟨m', s1, s2, s3, s4⟩ := S
        exact ⟨m', by rw [hrun, s1, e_bd]; rfl, s2, s3, (F1.tr F2.m).tr s4.m⟩
      | inr q =>
        rw [hp2] at S
        obtain ⟨m', s1, s2, s4⟩ := S
        exact ⟨m', by rw [hrun, s1, e_bd]; rfl, s2, by rw [s4.1 65 (by decide), F2.1 65 (by decide), e_row], (F1.tr F2.m).tr s4.m⟩
    · rw [if_neg hr]
      refine ⟨zst mem 58 14 2, ?_, by rw [e_stk (by decide)]; exact k1, by rw [e_st]; rfl, (FrN.s _ _ (by omega)).m⟩
      have hb : (decide (lo ≤ nv B p (ln B n p)) && decide (nv B p (ln B n p) ≤ hi)) = false := by
        cases h : (decide (lo ≤ nv B p (ln B n p)) && decide (nv B p (ln B n p) ≤ hi))
        · rfl
        · rw [Bool.and_eq_true, decide_eq_true_eq, decide_eq_true_eq] at h; exact absurd h hr
      unfold fX7_takesNumber fX7_takesNumber_j23 fX7_takesNumber_j37
      rw [a1, if_pos rfl, a2, hm, e_bd, hb, if_pos (show bI false = 0 from rfl), if_pos rfl, m_flt]
theorem m_kind : ∀ b, b < 256 → fX7_kindBy (nI b) = some (nI (kindN b)) := by decide +kernel
theorem kind_sg : ∀ b, b < 256 → sg b = false → kindN b = 0 := by decide +kernel
theorem kind_dg : ∀ b, b < 58 → kindN b = 0 := by decide +kernel
theorem hr_add {f : Nat → Int32} {g : HS} {k s w : Nat} (H : Hr f g) (hN : hsN g < 8) {f' : Nat → Int32} (e0 : f' 0 = nI (hsN g + 1)) (e1 : f' (6 + hsN g) = nI k) (e2 : f' (14 + hsN g) = nI s) (e3 : f' (22 + hsN g) = nI w) (e4 : f' (30 + hsN g) = nI (hsN g)) (e : ∀ j, j ≠ 0 → j ≠ 6 + hsN g → j ≠ 14 + hsN g → j ≠ 22 + hsN g → j ≠ 30 + hsN g → f' j = f j) : Hr f' (addT g k s w) := by
  refine ⟨e0, fun t ht => ?_, ?_, ?_, ?_, ?_⟩
  · have ht' : t < hsN g + 1 := ht
    by_cases h : t = hsN g
    · subst h
      show _ = nI (if hsN g = hsN g then k else hsK g (hsN g)) ∧ _ = nI (if hsN g = hsN g then s else hsS g (hsN g)) ∧ _ = nI (if hsN g = hsN g then w else hsW g (hsN g)) ∧ _ = nI (if hsN g = hsN g then hsN g else hsP g (hsN g))
      rw [if_pos rfl, if_pos rfl, if_pos rfl, if_pos rfl]
      exact ⟨e1, e2, e3, e4⟩
    · obtain ⟨a1, a2, a3, a4⟩ := H.2.1 t (by omega)
      show _ = nI (if t = hsN g then k else hsK g t) ∧ _ = nI (if t = hsN g then s else hsS g t) ∧ _ = nI (if t = hsN g then w else hsW g t) ∧ _ = nI (if t = hsN g then hsN g else hsP g t)
      rw [if_neg h, if_neg h, if_neg h, if_neg h]
      rw [e _ (by omega) (by omega) (by omega) (by omega) (by omega), e _ (by omega) (by omega) (by omega) (by omega) (by omega), e _ (by omega) (by omega) (by omega) (by omega) (by omega), e _ (by omega) (by omega) (by omega) (by omega) (by omega)]
      exact ⟨a1, a2, a3, a4⟩
  · rw [e _ (by omega) (by omega) (by omega) (by omega) (by omega)]; exact H.2.2.1
  · rw [e _ (by omega) (by omega) (by omega) (by omega) (by omega)]; exact H.2.2.2.1
  · rw [e _ (by omega) (by omega) (by omega) (by omega) (by omega)]; exact H.2.2.2.2.1
  · rw [e _ (by omega) (by omega) (by omega) (by omega) (by omega)]; exact H.2.2.2.2.2
theorem m_thing {g : HS} (T : TBM mem B n) (K : Tok B n mem p) (H : Hr (mem 65) g) (hN : hsN g ≤ 8) (h1 : mem 65 1 = 0) : Sum.elim (fun e => ∃ m', fX7_readThing mem = some (0, m') ∧ m' 58 13 = nI e.2 ∧ m' 58 14 = nI e.1 ∧ FrM mem m') (fun q => ∃ m', fX7_readThing mem = some (1, m') ∧ Tok B n m' q.2 ∧ Hr (m' 65) q.1 ∧ m' 65 1 = 0 ∧ FrM mem m') (pThing B n g p) := by
  obtain ⟨k1, k2, k3, k4⟩ := id K
  have h3 := ln_3le B n p
  have hn90 := T.1
  have hrun : fX7_readThing mem = fX7_readThing_j26 (nI (hsN g)) (nI (pKind B n p)) mem ∧ (pKind B n p ≠ 0 → p < n ∧ mem 58 10 = nI (p + 1)) := by
    unfold fX7_readThing pKind
    rw [e_gd' e_z0, e_t0, e_let, H.1]
    by_cases hp : p < n
    · rw [if_pos hp]
      obtain ⟨t1, t2⟩ := T.2.2.2 p hp
      obtain ⟨b1, b2, b3⟩ := k4 hp
      have : ln B n p = 0 ∨ (ln B n p = 1 ∨ ln B n p = 2) ∨ ln B n p = 3 := by omega
      rcases this with hl | hl | hl
      · obtain ⟨c1, c2, c3⟩ := b1 hl
        rw [c3]
        cases hsg : sg (B p)
        · rw [if_neg (by decide), kind_sg _ t1 hsg]
          exact ⟨rfl, fun h => absurd rfl h⟩
        · rw [if_pos (show bI true = 1 from rfl), c1, m_kind _ t1, e_bd]
          exact ⟨rfl, fun _ => ⟨hp, c2⟩⟩
      · have hdg := dg_iff.mp (ln_dg B n p 0 (by omega))
        rw [Nat.add_zero] at hdg
        rw [(b2 hl).1, if_neg (by decide), kind_dg _ (by omega)]
        exact ⟨rfl, fun h => absurd rfl h⟩
      · have hdg := dg_iff.mp (ln_dg B n p 0 (by omega))
        rw [Nat.add_zero] at hdg
        rw [b3 hl, if_neg (by decide), kind_dg _ (by omega)]
        exact ⟨rfl, fun h => absurd rfl h⟩
    · rw [if_neg hp, k3 (by omega), if_neg (by decide)]
      exact ⟨rfl, fun h => absurd rfl h⟩
  obtain ⟨hrun, hnext⟩ := hrun
  have hk5 : pKind B n p ≤ 5 := by unfold pKind; split; exact kind_le _; omega
  have hf : ∀ f : Nat, ∃ m', some ((0 : Int32), zst mem 58 14 (nI f)) = some (0, m') ∧ m' 58 13 = nI p ∧ m' 58 14 = nI f ∧ FrM mem m' := fun f => ⟨zst mem 58 14 (nI f), rfl, by rw [e_stk (by decide)]; exact k1, by rw [e_st], (FrN.s _ _ (by omega)).m⟩
  unfold pThing
  by_cases hk : pKind B n p = 0
  · rw [if_pos hk]
    obtain ⟨m', e1, e2, e3, e4⟩ := hf 1
    refine ⟨m', ?_, e2, e3, e4⟩
    rw [hrun, hk]
    unfold fX7_readThing_j26 fX7_readThing_j37 fX7_readThing_j47
    rw [e_let, if_pos (show nI 0 = (0 : Int32) from rfl), if_pos (show nI 0 = (0 : Int32) from rfl), m_flt]
    exact e1
  rw [if_neg hk]
  have hk0 : ¬ nI (pKind B n p) = 0 := by rw [l0, e_eq0 (by omega) (by omega)]; exact hk
  by_cases h8 : 8 ≤ hsN g
  · rw [if_pos h8]
    obtain ⟨m', e1, e2, e3, e4⟩ := hf 3
    refine ⟨m', ?_, e2, e3, e4⟩
    rw [hrun]
    unfold fX7_readThing_j26 fX7_readThing_j37 fX7_readThing_j47
    rw [e_let, if_neg hk0, show hsN g = 8 by omega, if_pos (show nI 8 = (8 : Int32) from rfl), if_neg hk0, m_flt]
    exact e1
  rw [if_neg h8]
  obtain ⟨hpn, h10⟩ := hnext hk
  obtain ⟨m1, e1, K1, F1⟩ := m_next T (p := p + 1) (by omega) h10
  have h65 : m1 65 = mem 65 := F1.1 65 (by decide)
  have h0 : m1 65 0 = nI (hsN g) := by rw [h65]; exact H.1
  -- the row being read, with the thing's kind and place
  have M3 : FrM mem (zst (zst (zst m1 65 (6 + hsN g) (nI (pKind B n p))) 65 (30 + hsN g) (nI (hsN g))) 65 0 (nI (hsN g + 1))) := F1.m.tr (((FrM.s65 _ _ _).tr (FrM.s65 _ _ _)).tr (FrM.s65 _ _ _))
  have K3 : Tok B n (zst (zst (zst m1 65 (6 + hsN g) (nI (pKind B n p))) 65 (30 + hsN g) (nI (hsN g))) 65 0 (nI (hsN g + 1))) (p + 1) := by
    unfold Tok
    rw [e_stn (by decide), e_stn (by decide), e_stn (by decide)]
    exact K1
  have hrun2 : fX7_readThing mem = Option.bind (fX7_takesNumber (nI 1) (nI 30) (nI (14 + hsN g)) (nI 44) (zst (zst (zst m1 65 (6 + hsN g) (nI (pKind B n p))) 65 (30 + hsN g) (nI (hsN g))) 65 0 (nI (hsN g + 1)))) (fun r8 => if r8.1 = 0 then (some ((0 : Int32), r8.2)) else (Option.bind (fX7_takesNumber (nI 0) (nI 20) (nI (22 + hsN g)) (nI 59) r8.2) (fun r9 => if r9.1 = 0 then (some ((0 : Int32), r9.2)) else (some ((1 : Int32), r9.2))))) := by
    rw [hrun]
    unfold fX7_readThing_j26
    rw [e_let, if_neg hk0, if_neg (by rw [show (8 : Int32) = nI 8 from rfl, e_eq0 (by omega) (by omega)]; omega), e1, e_bd, l6, nI_add, e_gz (by omega) (by decide), e_cl (by omega), e_let, l30, nI_add, e_gz (by omega) (by decide), e_cl (by omega), e_let, e_gd' e_z0, e_gd' e_z0, e_t0, e_stk (by omega), e_stk (by omega), h0, nI_1, e_let, l14, nI_add, l22, nI_add]
    rfl
  have A := m_takesNum (T.frM M3) K3 (lo := 1) (hi := 30) (a := 14 + hsN g) (c := 44) (by decide) (by decide) (by omega) (by decide) (by decide) (by decide)
  cases ha : pNS B n 1 30 44 (p + 1) with
  | inl e =>
    rw [ha] at A
    obtain ⟨m', s1, s2, s3, s4⟩ := A
    exact ⟨m', by rw [hrun2, s1, e_bd]; rfl, s2, s3, M3.tr s4⟩
  | inr a =>
    rw [ha] at A
    obtain ⟨m4, s1, s2, s3, s4⟩ := A
    have A2 := m_takesNum ((T.frM M3).frM s4) s2 (lo := 0) (hi := 20) (a := 22 + hsN g) (c := 59) (by decide) (by decide) (by omega) (by decide) (by decide) (by decide)
    show Sum.elim _ _ (Sum.elim (fun e => .inl e) (fun b => .inr (addT g (pKind B n p) a.1 b.1, b.2)) (pNS B n 0 20 59 a.2))
    have hrun3 : fX7_readThing mem = Option.bind (fX7_takesNumber (nI 0) (nI 20) (nI (22 + hsN g)) (nI 59) m4) (fun r9 => if r9.1 = 0 then (some ((0 : Int32), r9.2)) else (some ((1 : Int32), r9.2))) := by
      rw [hrun2, s1, e_bd]
      show (if (1 : Int32) = 0 then _ else _) = _
      rw [if_neg (by decide)]
    cases hb : pNS B n 0 20 59 a.2 with
    | inl e =>
      rw [hb] at A2
      obtain ⟨m', u1, u2, u3, u4⟩ := A2
      exact ⟨m', by rw [hrun3, u1, e_bd]; rfl, u2, u3, (M3.tr s4).tr u4⟩
    | inr b =>
      rw [hb] at A2
      obtain ⟨m5, u1, u2, u3, u4⟩ := A2
      have e5 : m5 65 = upd (upd (upd (upd (upd (mem 65) (6 + hsN g) (nI (pKind B n p))) (30 + hsN g) (nI (hsN g))) 0 (nI (hsN g + 1))) (14 + hsN g) (nI a.1)) (22 + hsN g) (nI b.1) := by
        rw [u3, s3, e_row, e_row, e_row, h65]
      refine ⟨m5, by rw [hrun3, u1, e_bd]; rfl, u2, ?_, ?_, (M3.tr s4).tr u4⟩
      · rw [e5]
        refine hr_add H (by omega) ?_ ?_ ?_ ?_ ?_ (fun j j0 j1 j2 j3 j4 => ?_)
        · rw [u_n (by omega), u_n (by omega), u_s]
        · rw [u_n (by omega), u_n (by omega), u_n (by omega), u_n (by omega), u_s]
        · rw [u_n (by omega), u_s]
        · rw [u_s]
        · rw [u_n (by omega), u_n (by omega), u_n (by omega), u_s]
        · rw [u_n (by omega), u_n (by omega), u_n (by omega), u_n (by omega), u_n (by omega)]
      · rw [e5, u_n (by omega), u_n (by omega), u_n (by omega), u_n (by omega), u_n (by omega)]; exact h1
theorem tok_3 (K : Tok B n mem p) : mem 58 11 = 3 ↔ p = n := by
  obtain ⟨k1, k2, k3, k4⟩ := K
  constructor
  · intro h
    by_cases hp : p < n
    · obtain ⟨b1, b2, b3⟩ := k4 hp
      have h3 := ln_3le B n p
      have : ln B n p = 0 ∨ (ln B n p = 1 ∨ ln B n p = 2) ∨ ln B n p = 3 := by omega
      rcases this with hl | hl | hl
      · rw [(b1 hl).2.2] at h; exact absurd h (bI_n1 _).2
      · rw [(b2 hl).1] at h; exact absurd h (by decide)
      · rw [b3 hl] at h; exact absurd h (by decide)
    · omega
  · exact k3
theorem m_rest : ∀ (f : Nat) (g : HS) (p : Nat) (m : ZM) (N : Nat), f + hsN g = 9 → hsN g ≤ 8 → f + 1 < N → TBM m B n → Tok B n m p → Hr (m 65) g → m 65 1 = 0 →
    Sum.elim (fun e => ∃ m', ziter (fun s => fX7_readHeap_b55 s.1 s.2) N (1, m) = some (0, m') ∧ m' 58 13 = nI e.2 ∧ m' 58 14 = nI e.1 ∧ FrM m m') (fun q => ∃ m', ziter (fun s => fX7_readHeap_b55 s.1 s.2) N (1, m) = some (1, m') ∧ Hr (m' 65) q ∧ m' 65 1 = 0 ∧ FrM m m') (pRest B n f g p) := by
  intro f
  induction f with
  | zero =>
    intro g p m N hf h8 hN T K H h1
    exact absurd hf (by omega)
  | succ f ih =>
    intro g p m N hf h8 hN T K H h1
    obtain ⟨N, rfl⟩ : ∃ M, N = M + 1 := ⟨N - 1, by omega⟩
    obtain ⟨N, rfl⟩ : ∃ M, N = M + 1 := ⟨N - 1, by omega⟩
    have h3 := tok_3 K
    have hC := m_thing T K H h8 h1
    have hz : (m 65 0 = 0) ↔ hsN g = 0 := by rw [H.1, l0, e_eq0 (by omega) (by omega)]
    show Sum.elim (fun e => ∃ m', Option.bind (fX7_readHeap_b55 1 m) (fun t => Sum.elim (fun s' => ziter (fun s => fX7_readHeap_b55 s.1 s.2) (N + 1) s') (fun r => some r) t) = some (0, m') ∧ _) (fun q => ∃ m', Option.bind (fX7_readHeap_b55 1 m) (fun t => Sum.elim (fun s' => ziter (fun s => fX7_readHeap_b55 s.1 s.2) (N + 1) s') (fun r => some r) t) = some (1, m') ∧ _) (pRest B n (f + 1) g p)
    unfold pRest
    by_cases hs : hsN g ≠ 0 ∧ p = n
    · rw [if_pos hs]
      refine ⟨m, ?_, H, h1, fun _ _ _ => rfl, fun _ _ => rfl⟩
      unfold fX7_readHeap_b55
      rw [if_neg (by decide), if_pos (h3.mpr hs.2), e_gd' e_z0, e_t0, if_neg (fun e => hs.1 (hz.mp e)), e_bd]
      rfl
    · rw [if_neg hs]
      have hb : fX7_readHeap_b55 1 m = fX7_readHeap_j76 m := by
        unfold fX7_readHeap_b55
        rw [if_neg (by decide)]
        by_cases hp : p = n
        · have h0 : hsN g = 0 := by
            rcases Nat.eq_zero_or_pos (hsN g) with e | e
            · exact e
            · exact absurd ⟨by omega, hp⟩ hs
          rw [if_pos (h3.mpr hp), e_gd' e_z0, e_t0, if_pos (hz.mpr h0)]
        · rw [if_neg (fun e => hp (h3.mp e))]
      rw [hb]
      unfold fX7_readHeap_j76
      cases ht : pThing B n g p with
      | inl e =>
        rw [ht] at hC
        obtain ⟨m', e1, e2, e3, e4⟩ := hC
        refine ⟨m', ?_, e2, e3, e4⟩
        rw [e1, e_bd, e_let, e_bd]
        show ziter (fun s => fX7_readHeap_b55 s.1 s.2) (N + 1) (0, m') = _
        unfold ziter
        show Option.bind (fX7_readHeap_b55 0 m') _ = _
        unfold fX7_readHeap_b55
        rw [if_pos rfl, e_bd]
        rfl
      | inr q =>
        rw [ht] at hC
        obtain ⟨m1, e1, a1, a2, a3, a4⟩ := hC
        obtain ⟨hqN, hg8⟩ := thing_N ht
        have I := ih q.1 q.2 m1 (N + 1) (by omega) (by omega) (by omega) (T.frM a4) a1 a2 a3
        rw [e1, e_bd, e_let, e_bd]
        show Sum.elim (fun e => ∃ m', ziter (fun s => fX7_readHeap_b55 s.1 s.2) (N + 1) (1, m1) = some (0, m') ∧ _) (fun q => ∃ m', ziter (fun s => fX7_readHeap_b55 s.1 s.2) (N + 1) (1, m1) = some (1, m') ∧ _) (pRest B n f q.1 q.2)
        cases hr : pRest B n f q.1 q.2 with
        | inl e =>
          rw [hr] at I
          obtain ⟨m', i1, i2, i3, i4⟩ := I
          exact ⟨m', i1, i2, i3, a4.tr i4⟩
        | inr g' =>
          rw [hr] at I
          obtain ⟨m', i1, i2, i3, i4⟩ := I
          exact ⟨m', i1, i2, i3, a4.tr i4⟩
end MT
