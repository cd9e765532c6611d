/-! how a text is read: by its bytes B, of which there are n -/
def dg (B : Nat → Nat) (n p : Nat) : Bool := decide (p < n) && decide (48 ≤ B p) && decide (B p ≤ 57)
def ln (B : Nat → Nat) (n p : Nat) : Nat := if dg B n p = false then 0 else if dg B n (p + 1) = false then 1 else if dg B n (p + 2) = false then 2 else 3
def nv (B : Nat → Nat) (p i : Nat) : Nat := if i = 0 then 0 else if i = 1 then B p - 48 else 10 * (B p - 48) + (B (p + 1) - 48)
def pSign (B : Nat → Nat) (n c p : Nat) : (Nat × Nat) ⊕ Nat := if p < n ∧ B p = c then .inr (p + 1) else .inl (1, p)
def pNum (B : Nat → Nat) (n lo hi p : Nat) : (Nat × Nat) ⊕ (Nat × Nat) := if ln B n p = 0 ∨ ln B n p = 3 then .inl (1, p) else if lo ≤ nv B p (ln B n p) ∧ nv B p (ln B n p) ≤ hi then .inr (nv B p (ln B n p), p + ln B n p) else .inl (2, p)
def kindN (b : Nat) : Nat := if b = 115 then 1 else if b = 103 then 2 else if b = 108 then 3 else if b = 100 then 4 else if b = 105 then 5 else 0
/-- number, then sign -/
def pNS (B : Nat → Nat) (n lo hi c p : Nat) : (Nat × Nat) ⊕ (Nat × Nat) := Sum.elim (fun e => .inl e) (fun q => Sum.elim (fun e => .inl e) (fun r => .inr (q.1, r)) (pSign B n c q.2)) (pNum B n lo hi p)
def addT (g : HS) (k s w : Nat) : HS := (hsN g + 1, (fun u => if u = hsN g then k else hsK g u), (fun u => if u = hsN g then s else hsS g u), (fun u => if u = hsN g then w else hsW g u), (fun u => if u = hsN g then hsN g else hsP g u), hsL g, hsO g, hsV g, hsM g)
def pKind (B : Nat → Nat) (n p : Nat) : Nat := if p < n then kindN (B p) else 0
def pThing (B : Nat → Nat) (n : Nat) (g : HS) (p : Nat) : (Nat × Nat) ⊕ (HS × Nat) := if pKind B n p = 0 then .inl (1, p) else if 8 ≤ hsN g then .inl (3, p) else
  Sum.elim (fun e => .inl e) (fun a => Sum.elim (fun e => .inl e) (fun b => .inr (addT g (pKind B n p) a.1 b.1, b.2)) (pNS B n 0 20 59 a.2)) (pNS B n 1 30 44 (p + 1))
def pRest (B : Nat → Nat) (n : Nat) : Nat → HS → Nat → (Nat × Nat) ⊕ HS
  | 0, _, p => .inl (1, p)
  | f + 1, g, p => if hsN g ≠ 0 ∧ p = n then .inr g else Sum.elim (fun e => .inl e) (fun a => pRest B n f a.1 a.2) (pThing B n g p)
def noH (v : Nat) : HS := (0, fun _ => 0, fun _ => 0, fun _ => 0, fun _ => 0, 0, 0, v, 0)
def pAll (B : Nat → Nat) (n : Nat) : (Nat × Nat) ⊕ HS := Sum.elim (fun e => .inl e) (fun p => Sum.elim (fun e => .inl e) (fun a => pRest B n 9 (noH a.1) a.2) (pNS B n 0 1 59 p)) (pSign B n 98 0)
theorem dg_iff {B : Nat → Nat} {n p : Nat} : dg B n p = true ↔ p < n ∧ 48 ≤ B p ∧ B p ≤ 57 := by
  unfold dg
  simp only [Bool.and_eq_true, decide_eq_true_eq, and_assoc]
theorem dg_no {B : Nat → Nat} {n p : Nat} (hp : n ≤ p) : dg B n p = false := by
  cases h : dg B n p
  · rfl
  · have := dg_iff.mp h; omega
theorem ln_of {B : Nat → Nat} {n p i : Nat} (h1 : ∀ j, j < i → dg B n (p + j) = true) (h2 : dg B n (p + i) = false) : ln B n p = if i ≤ 2 then i else 3 := by
  unfold ln
  by_cases i0 : i = 0
  · subst i0
    rw [show p + 0 = p from rfl] at h2
    rw [if_pos h2]; rfl
  have d0 : dg B n p = true := h1 0 (by omega)
  rw [d0, if_neg (by decide)]
  by_cases i1 : i = 1
  · subst i1
    rw [if_pos h2]; rfl
  rw [h1 1 (by omega), if_neg (by decide)]
  by_cases i2 : i = 2
  · subst i2
    rw [if_pos h2]; rfl
  rw [h1 2 (by omega), if_neg (by decide), if_neg (by omega)]
theorem ln_3 {B : Nat → Nat} {n p : Nat} (h1 : ∀ j, j < 3 → dg B n (p + j) = true) : ln B n p = 3 := by
  unfold ln
  rw [show dg B n p = true from h1 0 (by omega), h1 1 (by omega), h1 2 (by omega)]
  rfl
theorem ln_le (B : Nat → Nat) (n p : Nat) : p ≤ n → p + ln B n p ≤ n ∨ ln B n p = 0 := by
  intro hp
  unfold ln
  cases h0 : dg B n p
  · right; rfl
  · have a0 := dg_iff.mp h0
    rw [if_neg (by decide)]
    cases h1 : dg B n (p + 1)
    · left; rw [if_pos rfl]; omega
    · have a1 := dg_iff.mp h1
      rw [if_neg (by decide)]
      cases h2 : dg B n (p + 2)
      · left; rw [if_pos rfl]; omega
      · have a2 := dg_iff.mp h2
        left; rw [if_neg (by decide)]; omega
/-- bytes on both tapes -/
def TB (mem : ZM) (B : Nat → Nat) (n : Nat) : Prop := n ≤ 90 ∧ mem 3 1 = nI n ∧ mem 58 8 = nI n ∧ ∀ j, j < n → B j < 256 ∧ mem 4 j = nI (B j) ∧ mem 64 j = nI (B j)
section CP
variable {mem : ZM} {B : Nat → Nat} {n p : Nat}
def FrP (m m' : ZM) : Prop := (∀ c, c ≠ 3 → (c < 22 ∨ 26 < c) → m' c = m c) ∧ (m' 3 1 = m 3 1)
theorem FrP.rf (m : ZM) : FrP m m := ⟨fun _ _ _ => rfl, rfl⟩
theorem FrP.tr {a b c : ZM} (h : FrP a b) (g : FrP b c) : FrP a c := ⟨fun d h1 h2 => (g.1 d h1 h2).trans (h.1 d h1 h2), g.2.trans h.2⟩
theorem TB.fr {m : ZM} (T : TB mem B n) (F : FrP mem m) : TB m B n :=
  ⟨T.1, by rw [F.2]; exact T.2.1, by rw [F.1 58 (by decide) (by omega)]; exact T.2.2.1, fun j hj => by rw [F.1 4 (by decide) (by omega), F.1 64 (by decide) (by omega)]; exact T.2.2.2 j hj⟩
theorem FrP.s3 (m : ZM) {k : Nat} (v : Int32) (hk : k ≠ 1) : FrP m (zst m 3 k v) := ⟨fun c h1 _ => e_stn h1, e_stk (fun e => hk e.symm)⟩
/-- what the class does at p: fails with a fault at a place, or goes on -/
def CS (m : ZM) (F : ZM → Option (Int32 × ZM)) (res : (Nat × Nat) ⊕ (ZM → Prop)) : Prop := Sum.elim (fun e => ∃ m', F m = some (0, m') ∧ m' 3 2 = nI e.2 ∧ m' 3 3 = nI e.1 ∧ FrP m m') (fun P => ∃ m', F m = some (1, m') ∧ P m' ∧ m' 3 3 = m 3 3 ∧ FrP m m') res
theorem c_fail (m : ZM) (v : Int32) : Option.bind (fX5_failWith v m) (fun r1 => zgd (zbl r1.1) (some (r1.1, r1.2))) = some (0, zst m 3 3 v) := by
  unfold fX5_failWith
  rfl
theorem c_sign (T : TB mem B n) (hp : p ≤ n) (h2 : mem 3 2 = nI p) {c : Nat} (hc : c < 256) : CS mem (fX5_readSign (nI c)) (Sum.elim (fun e => .inl e) (fun q => .inr (fun m' => m' 3 2 = nI q ∧ q ≤ n ∧ m' 3 4 = mem 3 4 ∧ ∀ b, 22 ≤ b → b ≤ 26 → m' b = mem b)) (pSign B n c p)) := by
  obtain ⟨t1, t2, t3, t4⟩ := T
  unfold fX5_readSign fX5_readSign_j24 pSign
  have hf : CS mem (fun m => some (0, zst m 3 3 1)) (.inl (1, p)) := ⟨zst mem 3 3 1, rfl, by rw [e_stk (by decide)]; exact h2, by rw [e_st]; rfl, FrP.s3 _ _ (by decide)⟩
  by_cases h : n ≤ p
  · rw [if_neg (by omega)]
    obtain ⟨m', e1, e2, e3, e4⟩ := hf
    refine ⟨m', ?_, e2, e3, e4⟩
    show (if mem 3 1 ≤ mem 3 2 then _ else _) = _
    rw [t2, h2, if_pos (by rw [e_le0 (by omega) (by omega)]; exact h), c_fail]
    exact e1
  · obtain ⟨b1, b2, b3⟩ := t4 p (by omega)
    by_cases hb : B p = c
    · rw [if_pos ⟨by omega, hb⟩]
      refine ⟨zst mem 3 2 (nI (p + 1)), ?_, ⟨by rw [e_st], by omega, by rw [e_stk (by decide)], fun b x y => e_stn (by omega)⟩, by rw [e_stk (by decide)], FrP.s3 _ _ (by decide)⟩
      show (if mem 3 1 ≤ mem 3 2 then _ else _) = _
      rw [t2, h2, if_neg (by rw [e_le0 (by omega) (by omega)]; exact h), e_gz (by omega) (by decide), e_cl (by omega), b2, hb, if_pos rfl, e_let, nI_1]
    · rw [if_neg (fun q => hb q.2)]
      obtain ⟨m', e1, e2, e3, e4⟩ := hf
      refine ⟨m', ?_, e2, e3, e4⟩
      show (if mem 3 1 ≤ mem 3 2 then _ else _) = _
      rw [t2, h2, if_neg (by rw [e_le0 (by omega) (by omega)]; exact h), e_gz (by omega) (by decide), e_cl (by omega), b2, if_neg (by rw [e_eq0 (by omega) (by omega)]; exact hb), c_fail]
      exact e1
theorem c_digit {b : Nat} (hb : b < 256) : fX6_isWithin (nI b) 48 57 = some (bI (decide (48 ≤ b) && decide (b ≤ 57))) := by
  rw [c_isWithin]
  have e1 : Int32.toInt 48 = 48 := rfl
  have e2 : Int32.toInt 57 = 57 := rfl
  unfold wit
  rw [e1, e2, nI_toInt (by omega)]
  congr 3
  · by_cases h : 48 ≤ b
    · rw [decide_eq_true h, decide_eq_true (by omega)]
    · rw [decide_eq_false h, decide_eq_false (by omega)]
  · by_cases h : b ≤ 57
    · rw [decide_eq_true h, decide_eq_true (by omega)]
    · rw [decide_eq_false h, decide_eq_false (by omega)]
theorem nv_int {b v : Nat} (hb : 48 ≤ b) : ((10 : Int32) * nI v + nI b) - 48 = nI (10 * v + (b - 48)) := by
  rw [show (10 : Int32) = nI 10 from rfl, pk_mul, nI_add, show (48 : Int32) = nI 48 from rfl, pk_sub (by omega)]
  congr 1; omega
theorem c_numLoop (T : TB mem B n) (hp : p ≤ n) (h2 : mem 3 2 = nI p) (x y : Int32) : ∃ v, fX5_readNumber_l8 x y mem (nI p, nI 0) = some (nI (p + ln B n p), v) ∧ (ln B n p ≤ 2 → v = nI (nv B p (ln B n p))) := by
  obtain ⟨t1, t2, t3, t4⟩ := T
  have key : ∃ r, fX5_readNumber_l8 x y mem (nI p, nI 0) = some r ∧ (r.1 = nI (p + ln B n p) ∧ (ln B n p ≤ 2 → r.2 = nI (nv B p (ln B n p)))) := by
    unfold fX5_readNumber_l8
    refine zi_inv (fun i s => s.1 = nI (p + i) ∧ (i ≤ 2 → s.2 = nI (nv B p i)) ∧ (∀ j, j < i → dg B n (p + j) = true)) _ 3 ?_ ?_ 2000 0 _ (Nat.zero_le _) (by omega) ⟨rfl, fun _ => rfl, fun j hj => absurd hj (Nat.not_lt_zero j)⟩
    · intro i s hi hI
      obtain ⟨i1, i2, i3⟩ := hI
      show (∃ s', fX5_readNumber_b8 x y mem s.1 s.2 = _ ∧ _) ∨ (∃ r, fX5_readNumber_b8 x y mem s.1 s.2 = _ ∧ _)
      have hstop : dg B n (p + i) = false → (s.1 = nI (p + ln B n p) ∧ (ln B n p ≤ 2 → s.2 = nI (nv B p (ln B n p)))) := by
        intro hd
        have hl := ln_of i3 hd
        rw [if_pos (by omega)] at hl
        rw [hl]
        exact ⟨i1, fun _ => i2 (by omega)⟩
      unfold fX5_readNumber_b8
      rw [t2, h2, i1]
      by_cases hn : n ≤ p + i
      · rw [if_pos (by rw [e_le0 (by omega) (by omega)]; exact hn), ← i1]
        exact Or.inr ⟨_, rfl, hstop (dg_no hn)⟩
      · obtain ⟨b1, b2, b3⟩ := t4 (p + i) (by omega)
        rw [if_neg (by rw [e_le0 (by omega) (by omega)]; exact hn), l3, nI_add, if_neg (by rw [e_le0 (by omega) (by omega)]; omega), e_gz (by omega) (by decide), e_cl (by omega), b2, c_digit b1, e_bd, e_gz (by omega) (by decide)]
        have hdd : dg B n (p + i) = (decide (48 ≤ B (p + i)) && decide (B (p + i) ≤ 57)) := by
          unfold dg
          rw [decide_eq_true (show p + i < n by omega), Bool.true_and]
        cases hd : (decide (48 ≤ B (p + i)) && decide (B (p + i) ≤ 57))
        · rw [if_pos (show bI false = 0 from rfl), ← i1]
          exact Or.inr ⟨_, rfl, hstop (by rw [hdd]; exact hd)⟩
        · rw [hd] at hdd
          have hdi := dg_iff.mp hdd
          rw [if_neg (show ¬ bI true = 0 by decide), e_let, e_let, nI_1]
          refine Or.inl ⟨_, rfl, rfl, fun hi2 => ?_, fun j hj => ?_⟩
          · show ((10 : Int32) * s.2 + nI (B (p + i))) - 48 = _
            rw [i2 (by omega), nv_int hdi.2.1]
            congr 1
            have : i = 0 ∨ i = 1 := by omega
            rcases this with rfl | rfl
            · show 10 * 0 + (B (p + 0) - 48) = B p - 48
              rw [Nat.add_zero]; omega
            · rfl
          · by_cases e : j = i
            · subst e; exact hdd
            · exact i3 j (by omega)
    · intro s hI
      obtain ⟨i1, i2, i3⟩ := hI
      have hl := ln_3 i3
      have h3n := dg_iff.mp (i3 2 (by omega))
      refine ⟨s, ?_, by rw [hl]; exact i1, fun h => by omega⟩
      show fX5_readNumber_b8 x y mem s.1 s.2 = _
      unfold fX5_readNumber_b8
      rw [t2, h2, i1]
      by_cases hn : n ≤ p + 3
      · rw [if_pos (by rw [e_le0 (by omega) (by omega)]; exact hn), ← i1]
      · rw [if_neg (by rw [e_le0 (by omega) (by omega)]; exact hn), l3, nI_add, if_pos (by rw [e_le0 (by omega) (by omega)]; exact Nat.le_refl _), ← i1]
  obtain ⟨r, e, g1, g2⟩ := key
  refine ⟨r.2, ?_, g2⟩
  rw [e, ← g1]
theorem nv_lt {i : Nat} (h1 : ∀ j, j < i → dg B n (p + j) = true) (hi : i ≤ 2) : nv B p i ≤ 99 := by
  unfold nv
  have : i = 0 ∨ i = 1 ∨ i = 2 := by omega
  rcases this with rfl | rfl | rfl
  · rw [if_pos rfl]; omega
  · rw [if_neg (by omega), if_pos rfl]
    have := dg_iff.mp (h1 0 (by omega))
    rw [Nat.add_zero] at this; omega
  · rw [if_neg (by omega), if_neg (by omega)]
    have a := dg_iff.mp (h1 0 (by omega))
    have b := dg_iff.mp (h1 1 (by omega))
    rw [Nat.add_zero] at a; omega
theorem ln_dg (B : Nat → Nat) (n p : Nat) : ∀ j, j < ln B n p → dg B n (p + j) = true := by
  intro j hj
  unfold ln at hj
  cases h0 : dg B n p
  · rw [h0, if_pos rfl] at hj; omega
  · rw [h0, if_neg (by decide)] at hj
    cases h1 : dg B n (p + 1)
    · rw [h1, if_pos rfl] at hj
      have : j = 0 := by omega
      subst this; exact h0
    · rw [h1, if_neg (by decide)] at hj
      cases h2 : dg B n (p + 2)
      · rw [h2, if_pos rfl] at hj
        have : j = 0 ∨ j = 1 := by omega
        rcases this with rfl | rfl
        · exact h0
        · exact h1
      · rw [h2, if_neg (by decide)] at hj
        have : j = 0 ∨ j = 1 ∨ j = 2 := by omega
        rcases this with rfl | rfl | rfl
        · exact h0
        · exact h1
        · exact h2
theorem ln_3le (B : Nat → Nat) (n p : Nat) : ln B n p ≤ 3 := by unfold ln; split; omega; split; omega; split <;> omega
theorem c_number (T : TB mem B n) (hp : p ≤ n) (h2 : mem 3 2 = nI p) {lo hi : Nat} (hlo : lo ≤ 100) (hhi : hi ≤ 100) : CS mem (fX5_readNumber (nI lo) (nI hi)) (Sum.elim (fun e => .inl e) (fun q => .inr (fun m' => m' 3 2 = nI q.2 ∧ q.2 ≤ n ∧ m' 3 4 = nI q.1 ∧ ∀ b, 22 ≤ b → b ≤ 26 → m' b = mem b)) (pNum B n lo hi p)) := by
  obtain ⟨v, e, hv⟩ := c_numLoop T hp h2 (nI lo) (nI hi)
  have h3 := ln_3le B n p
  have hle := ln_le B n p hp
  have hn90 := T.1
  have hrun : fX5_readNumber (nI lo) (nI hi) mem = fX5_readNumber_j65 (nI lo) (nI hi) (nI (p + ln B n p)) v mem := by
    unfold fX5_readNumber
    rw [e_let, e_let, h2, l0, e, e_bd]
  have hf : ∀ f : Nat, CS mem (fun m => some (0, zst m 3 3 (nI f))) (.inl (f, p)) := fun f => ⟨zst mem 3 3 (nI f), rfl, by rw [e_stk (by decide)]; exact h2, by rw [e_st], FrP.s3 _ _ (by decide)⟩
  have h99 : ln B n p ≤ 2 → nv B p (ln B n p) ≤ 99 := fun h => nv_lt (ln_dg B n p) h
  unfold pNum
  by_cases h0 : ln B n p = 0 ∨ ln B n p = 3
  · rw [if_pos h0]
    obtain ⟨m', e1, e2, e3, e4⟩ := hf 1
    refine ⟨m', ?_, e2, e3, e4⟩
    rw [hrun]
    unfold fX5_readNumber_j65 fX5_readNumber_j83
    rw [h2]
    rcases h0 with h0 | h0
    · rw [h0, if_pos (show nI (p + 0) = nI p from rfl), c_fail]; exact e1
    · rw [h0, if_neg (by rw [e_eq0 (by omega) (by omega)]; omega), l3, nI_add, if_pos rfl, c_fail]; exact e1
  · rw [if_neg h0]
    have hl2 : ln B n p ≤ 2 := by omega
    have hvv := hv hl2
    have h99' := h99 hl2
    have hw : wit v (nI lo).toInt (nI hi).toInt = decide (lo ≤ nv B p (ln B n p) ∧ nv B p (ln B n p) ≤ hi) := by
      unfold wit
      rw [hvv, nI_toInt (by omega), nI_toInt (by omega), nI_toInt (by omega)]
      by_cases a : lo ≤ nv B p (ln B n p)
      · by_cases b : nv B p (ln B n p) ≤ hi
        · rw [decide_eq_true (show (lo : Int) ≤ _ by omega), decide_eq_true (show _ ≤ (hi : Int) by omega), decide_eq_true ⟨a, b⟩]; rfl
        · rw [decide_eq_false (show ¬ _ ≤ (hi : Int) by omega), Bool.and_false, decide_eq_false (fun q => b q.2)]
      · rw [decide_eq_false (show ¬ (lo : Int) ≤ _ by omega), Bool.false_and, decide_eq_false (fun q => a q.1)]
    have hj : fX5_readNumber_j65 (nI lo) (nI hi) (nI (p + ln B n p)) v mem = (if bI (decide (lo ≤ nv B p (ln B n p) ∧ nv B p (ln B n p) ≤ hi)) = 0 then (Option.bind (fX5_failWith (2 : Int32) mem) (fun r11 => zgd (zbl r11.1) (some (r11.1, r11.2)))) else (zlet (zst mem 3 4 v) (fun m9 => zlet (zst m9 3 2 (nI (p + ln B n p))) (fun m10 => some ((1 : Int32), m10))))) := by
      unfold fX5_readNumber_j65
      rw [h2, if_neg (by rw [e_eq0 (by omega) (by omega)]; omega), l3, nI_add, if_neg (by rw [e_eq0 (by omega) (by omega)]; omega), c_isWithin, hw, e_bd]
    by_cases hr : lo ≤ nv B p (ln B n p) ∧ nv B p (ln B n p) ≤ hi
    · rw [if_pos hr]
      refine ⟨zst (zst mem 3 4 v) 3 2 (nI (p + ln B n p)), ?_, ⟨by rw [e_st], by show p + ln B n p ≤ n; omega, by rw [e_stk (by decide), e_st]; exact hvv, fun b x y => by rw [e_stn (by omega), e_stn (by omega)]⟩, by rw [e_stk (by decide), e_stk (by decide)], (FrP.s3 _ _ (by decide)).tr (FrP.s3 _ _ (by decide))⟩
      rw [hrun, hj, decide_eq_true hr, if_neg (by decide), e_let, e_let]
    · rw [if_neg hr]
      obtain ⟨m', e1, e2, e3, e4⟩ := hf 2
      refine ⟨m', ?_, e2, e3, e4⟩
      rw [hrun, hj, decide_eq_false hr, if_pos (show bI false = 0 from rfl), c_fail]; exact e1
end CP
