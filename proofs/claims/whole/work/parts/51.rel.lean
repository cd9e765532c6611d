/-! all that both have alike -/
def IR (mem : ZM) (h : HS) : Prop := ∀ j, j < 2 → ∃ g, okH g ∧ Hc mem (27 + 5 * j) g ∧ mem 69 j = bI (decide (hsN g ≠ 0)) ∧ (hsN g ≠ 0 → hsN h ≠ 0 ∧ Hr (fun x => mem 70 (38 * j + x)) g ∧ mem (27 + 5 * j) 9 = mem 70 (38 * j + 1))
def TR (mem : ZM) : Prop := ∃ n, n ≤ 90 ∧ mem 3 1 = nI n ∧ mem 58 8 = nI n ∧ (∀ j, j < n → ∃ b, b < 256 ∧ mem 4 j = nI b ∧ mem 64 j = nI b) ∧ mem 3 3 = mem 58 9
def QR (mem : ZM) : Prop := ∃ k, k ≤ 16 ∧ mem 15 1 = nI k ∧ mem 58 24 = nI k ∧ ∀ j, j < k → mem 16 j = mem 71 j
def Rel (mem : ZM) : Prop := ∃ h, HA mem h ∧ RR mem ∧ RF mem ∧ IR mem h ∧ TR mem ∧ QR mem
theorem IR.same {mem m : ZM} {h h' : HS} (I : IR mem h) (hN : hsN h ≠ 0 → hsN h' ≠ 0) (e : ∀ c, (27 ≤ c ∧ c ≤ 36) ∨ c = 69 ∨ c = 70 → m c = mem c) : IR m h' := by
  intro j hj
  obtain ⟨g, g1, g2, g3, g4⟩ := I j hj
  refine ⟨g, g1, g2.kept (fun k _ => by rw [e _ (by omega)]) (fun c a b => e c (by omega)), by rw [e 69 (by omega)]; exact g3, fun h0 => ?_⟩
  obtain ⟨b1, b2, b3⟩ := g4 h0
  rw [e 70 (by omega), e (27 + 5 * j) (by omega)]
  exact ⟨hN b1, b2, b3⟩
theorem TR.same {mem m : ZM} (T : TR mem) (e : ∀ c, c = 3 ∨ c = 4 ∨ c = 64 → m c = mem c) (e8 : m 58 8 = mem 58 8) (e9 : m 58 9 = mem 58 9) : TR m := by
  obtain ⟨n, t1, t2, t3, t4, t5⟩ := T
  exact ⟨n, t1, by rw [e 3 (by omega)]; exact t2, by rw [e8]; exact t3, fun j hj => by rw [e 4 (by omega), e 64 (by omega)]; exact t4 j hj, by rw [e 3 (by omega), e9]; exact t5⟩
theorem QR.same {mem m : ZM} (T : QR mem) (e : ∀ c, c = 15 ∨ c = 16 ∨ c = 71 → m c = mem c) (e8 : m 58 24 = mem 58 24) : QR m := by
  obtain ⟨n, t1, t2, t3, t4⟩ := T
  exact ⟨n, t1, by rw [e 15 (by omega)]; exact t2, by rw [e8]; exact t3, fun j hj => by rw [e 16 (by omega), e 71 (by omega)]; exact t4 j hj⟩
theorem RH.same {mem m : ZM} {h : HS} (R : RH mem h) (e : ∀ c, 17 ≤ c → c ≤ 21 → m c = mem c) (e62 : ∀ k, k < 38 → m 62 k = mem 62 k) (e58 : m 58 4 = mem 58 4) : RH m h :=
  ⟨R.1, R.2.1.kept (fun k _ => by rw [e 17 (by omega) (by omega)]) (fun c a b => e c (by omega) (by omega)), Hr.kept R.2.2.1 R.1.1 (fun k hk _ => e62 k hk), by rw [e58]; exact R.2.2.2⟩
theorem AR.same {mem m : ZM} {h : HS} (A : AR mem h) (e : ∀ c, 5 ≤ c → c ≤ 13 → m c = mem c) (e1 : m 58 19 = mem 58 19) (e2 : m 67 = mem 67) : AR m h := by
  obtain ⟨k, G, T, a1, a2, a3⟩ := A
  exact ⟨k, G, T, a1, a2.same e, a3.same e1 e2⟩
theorem HA.same {mem m : ZM} {h : HS} (A : HA mem h) (e : ∀ c, (5 ≤ c ∧ c ≤ 13) ∨ (17 ≤ c ∧ c ≤ 21) ∨ c = 67 → m c = mem c) (e62 : ∀ k, k < 38 → m 62 k = mem 62 k) (e58 : ∀ k, k = 4 ∨ k = 19 → m 58 k = mem 58 k) : HA m h :=
  ⟨A.1.same (fun c a b => e c (by omega)) e62 (e58 4 (by omega)), by rw [e 17 (by omega), e62 1 (by omega)]; exact A.2.1, A.2.2.same (fun c a b => e c (by omega)) (e58 19 (by omega)) (e 67 (by omega))⟩
theorem Rel.keep {mem m : ZM} (R : Rel mem) (k : Keep mem m) : Rel m := by
  obtain ⟨h, r1, r2, r3, r4, r5, r6⟩ := R
  exact ⟨h, r1.same (fun c hc => k.1 c (by omega)) k.2.2 (fun j hj => k.2.1 j (by omega)), r2.same (fun c hc => k.1 c (by omega)), by unfold RF; rw [k.1 0 (by omega), k.2.1 3 (by decide)]; exact r3, r4.same (fun q => q) (fun c hc => k.1 c (by omega)), r5.same (fun c hc => k.1 c (by omega)) (k.2.1 8 (by decide)) (k.2.1 9 (by decide)), r6.same (fun c hc => k.1 c (by omega)) (k.2.1 24 (by decide))⟩
theorem Rel.keepF {mem m : ZM} (R : Rel mem) (q : RF m ∧ KeepF mem m) : Rel m := by
  obtain ⟨h, r1, r2, r3, r4, r5, r6⟩ := R
  obtain ⟨q, k⟩ := q
  exact ⟨h, r1.same (fun c hc => k.1 c (by omega) (by omega)) k.2.2 (fun j hj => k.2.1 j (by omega) (by omega)), r2.same (fun c hc => k.1 c (by omega) (by omega)), q, r4.same (fun q => q) (fun c hc => k.1 c (by omega) (by omega)), r5.same (fun c hc => k.1 c (by omega) (by omega)) (k.2.1 8 (by decide) (by decide)) (k.2.1 9 (by decide) (by decide)), r6.same (fun c hc => k.1 c (by omega) (by omega)) (k.2.1 24 (by decide) (by decide))⟩
theorem Rel.rows {mem m : ZM} (R : Rel mem) (q : RP mem m) : Rel m := by
  obtain ⟨h, r1, r2, r3, r4, r5, r6⟩ := R
  obtain ⟨q1, q2, k, k2⟩ := q
  have e62 : m 62 = mem 62 := k 62 (by omega) (by omega) (by omega)
  exact ⟨h, r1.same (fun c hc => k c (by omega) (by omega) (by omega)) (fun j _ => by rw [e62]) (fun j hj => k2 j (by omega)), q1, q2, r4.same (fun q => q) (fun c hc => k c (by omega) (by omega) (by omega)), r5.same (fun c hc => k c (by omega) (by omega) (by omega)) (k2 8 (by decide)) (k2 9 (by decide)), r6.same (fun c hc => k c (by omega) (by omega) (by omega)) (k2 24 (by decide))⟩
theorem Rel.acts {mem m : ZM} (R : Rel mem) (q : PA mem m) : Rel m := by
  obtain ⟨h, r1, r2, r3, r4, r5, r6⟩ := R
  obtain ⟨⟨h', q⟩, k, k2⟩ := q
  have hN : hsN h ≠ 0 → hsN h' ≠ 0 := by
    intro hn
    have e1 := q.1.2.2.2
    rw [k2 4 (by decide) (by decide), r1.1.2.2.2, decide_eq_true hn] at e1
    intro e0
    rw [decide_eq_false (by omega)] at e1
    exact absurd e1 (by decide)
  exact ⟨h', q, r2.same (fun c hc => k c (by omega) (by omega) (by omega) (by omega) (by omega) (by omega)), by unfold RF; rw [k 0 (by omega) (by omega) (by omega) (by omega) (by omega) (by omega), k2 3 (by decide) (by decide)]; exact r3, r4.same hN (fun c hc => k c (by omega) (by omega) (by omega) (by omega) (by omega) (by omega)), r5.same (fun c hc => k c (by omega) (by omega) (by omega) (by omega) (by omega) (by omega)) (k2 8 (by decide) (by decide)) (k2 9 (by decide) (by decide)), r6.same (fun c hc => k c (by omega) (by omega) (by omega) (by omega) (by omega) (by omega)) (k2 24 (by decide) (by decide))⟩
/-! each thing has its place -/
theorem no_inj : ∀ (n : Nat) (f : Nat → Nat), (∀ t, t < n + 1 → f t < n) → (∀ t u, t < n + 1 → u < n + 1 → f t = f u → t = u) → False
  | 0, f, h1, _ => absurd (h1 0 (by omega)) (by omega)
  | n + 1, f, h1, h2 => by
    refine no_inj n (fun t => if f t < f (n + 1) then f t else f t - 1) (fun t ht => ?_) (fun t u ht hu e => ?_)
    · have a := h1 t (by omega)
      have b := h1 (n + 1) (by omega)
      have c : f t ≠ f (n + 1) := fun e => by have := h2 t (n + 1) (by omega) (by omega) e; omega
      show (if f t < f (n + 1) then f t else f t - 1) < n
      split <;> omega
    · have a : f t ≠ f (n + 1) := fun e => by have := h2 t (n + 1) (by omega) (by omega) e; omega
      have b : f u ≠ f (n + 1) := fun e => by have := h2 u (n + 1) (by omega) (by omega) e; omega
      have e' : (if f t < f (n + 1) then f t else f t - 1) = (if f u < f (n + 1) then f u else f u - 1) := e
      apply h2 t u (by omega) (by omega)
      split at e' <;> split at e' <;> omega
theorem surj {n : Nat} {f : Nat → Nat} (h1 : ∀ t, t < n → f t < n) (h2 : ∀ t u, t < n → u < n → f t = f u → t = u) {w : Nat} (hw : w < n) : ∃ t, t < n ∧ f t = w := by
  apply Classical.byContradiction
  intro hne
  have hn : ∀ t, t < n → f t ≠ w := fun t ht e => hne ⟨t, ht, e⟩
  obtain ⟨k, rfl⟩ : ∃ k, n = k + 1 := ⟨n - 1, by omega⟩
  refine no_inj k (fun t => if f t < w then f t else f t - 1) (fun t ht => ?_) (fun t u ht hu e => ?_)
  · have a := h1 t ht
    have b := hn t ht
    show (if f t < w then f t else f t - 1) < k
    split <;> omega
  · have a := hn t ht
    have b := hn u hu
    have e' : (if f t < w then f t else f t - 1) = (if f u < w then f u else f u - 1) := e
    apply h2 t u ht hu
    split at e' <;> split at e' <;> omega
/-! calls that only read -/
def Op0 (F G : ZM → Option Int32) (mem : ZM) : Prop := ∃ r, F mem = some r ∧ G mem = some r
section RD
variable {mem : ZM} {h : HS}
theorem o_thing (R : RH mem h) (a1 a2 : Int32) : Op0 (fX6_thing a1 a2) (fX7_thing a1 a2) mem := by
  obtain ⟨ok, H, Hm, -⟩ := R
  have hn := ok.1
  cases z1 : zin a1 (hsN h)
  · exact ⟨-1000001, by simp [fX6_thing, c_hasThing H ok, z1, bI], by simp [fX7_thing, m_isThing Hm hn, z1, bI]⟩
  obtain ⟨t, rfl, ht⟩ := zin_of (by omega) z1
  have h8 := ok.t8 ht
  obtain ⟨k1, k2, k3, k4⟩ := H.2.1 t ht
  obtain ⟨r1, r2, r3, r4⟩ := Hm.2.1 t ht
  have hs := (ok.2.1 t ht).2.1
  have q1 : ¬ bI true = 0 := by decide
  unfold Op0 fX6_thing fX7_thing
  rw [c_hasThing H ok, m_isThing Hm hn, z1, e_bd, e_bd, if_neg q1, if_neg q1]
  by_cases w0 : a2 = 0
  · rw [if_pos w0, if_pos w0]
    simp (disch := omega) only [l14, nI_add, e_gz, e_cl, k2, r2]
    exact ⟨_, rfl, rfl⟩
  rw [if_neg w0, if_neg w0]
  by_cases w1 : a2 = 1
  · rw [if_pos w1, if_pos w1]
    simp (disch := omega) only [l22, nI_add, e_gz, e_cl, k3, r3]
    exact ⟨_, rfl, rfl⟩
  rw [if_neg w1, if_neg w1]
  by_cases w2 : a2 = 2
  · rw [if_pos w2, if_pos w2]
    simp (disch := omega) only [l30, nI_add, e_gz, e_cl, k4, r4]
    exact ⟨_, rfl, rfl⟩
  rw [if_neg w2, if_neg w2]
  by_cases w3 : a2 = 3
  · rw [if_pos w3, if_pos w3, c_isLit H ok ht, e_gd' (show zin (4 : Int32) 38 = true by decide), show (4 : Int32).toNatClampNeg = 4 by decide, Hm.2.2.1, m_has ok.L h8]
    cases (hsL h).testBit t
    · exact ⟨0, rfl, rfl⟩
    · exact ⟨1, rfl, rfl⟩
  rw [if_neg w3, if_neg w3]
  by_cases w4 : a2 = 4
  · rw [if_pos w4, if_pos w4, c_isOut H ok ht, e_gd' (show zin (5 : Int32) 38 = true by decide), show (5 : Int32).toNatClampNeg = 5 by decide, Hm.2.2.2.1, m_has ok.O h8]
    cases (hsO h).testBit t
    · exact ⟨0, rfl, rfl⟩
    · exact ⟨1, rfl, rfl⟩
  rw [if_neg w4, if_neg w4]
  by_cases w5 : a2 = 5
  · rw [if_pos w5, if_pos w5, c_heatOf H ok ht, m_heatOf Hm ok ht]
    exact ⟨_, rfl, rfl⟩
  rw [if_neg w5, if_neg w5]
  by_cases w6 : a2 = 6
  · rw [if_pos w6, if_pos w6, c_isAsh H ok ht, e_bd]
    have e14 : (14 : Int32) + nI t = nI (14 + t) := by rw [l14, nI_add]
    rw [e14, e_gz (by omega) (by omega), e_cl (by omega), r2]
    by_cases h0 : hsS h t = 0
    · rw [h0]; exact ⟨1, rfl, rfl⟩
    · have hz : ¬ nI (hsS h t) = 0 := by rw [l0, e_eq0 (by omega) (by omega)]; exact h0
      rw [decide_eq_false h0, if_pos (show bI false = 0 from rfl), if_neg hz]
      exact ⟨0, rfl, rfl⟩
  rw [if_neg w6, if_neg w6]
  exact ⟨_, rfl, rfl⟩
theorem o_place (R : RH mem h) (a1 : Int32) : Op0 (fX6_place a1) (fX7_place a1) mem := by
  obtain ⟨ok, H, Hm, -⟩ := R
  have hn := ok.1
  have cb : ∀ i, i < hsN h → fX6_place_b2 a1 mem (nI i) = if nI (hsP h i) = a1 then some (Sum.inr (Sum.inr (nI i))) else some (Sum.inl (nI (i + 1))) := by
    intro i hi
    unfold fX6_place_b2
    have k4 := (H.2.1 i hi).2.2.2
    rw [H.1, if_neg (nI_le_f hn hi), e_gz (by omega) (by omega), e_cl (by omega), k4, e_let, nI_1]
  have ce : fX6_place_b2 a1 mem (nI (hsN h)) = some (Sum.inr (Sum.inl (nI (hsN h)))) := by
    unfold fX6_place_b2
    rw [H.1, if_pos (by rw [e_le0 (by omega) (by omega)]; exact Nat.le_refl _)]
  have q1 : ¬ bI true = 0 := by decide
  cases z1 : zin a1 (hsN h)
  · refine ⟨-1000001, ?_, by simp [fX7_place, m_isThing Hm hn, z1, bI]⟩
    have hx : ∀ t, t < hsN h → nI (hsP h t) ≠ a1 := by
      intro t ht e
      have hp := (ok.2.1 t ht).2.2.2
      rw [← e, e_zint hp (by omega)] at z1
      cases z1
    unfold fX6_place fX6_place_l2
    rw [e_let, l0, zi_seq (body := fun s => fX6_place_b2 a1 mem s) (fun i => nI i) (Sum.inl (nI (hsN h))) (hsN h) 2000 0 (Nat.zero_le _) (by omega) (fun i _ hi => by rw [cb i hi, if_neg (hx i hi)]) ce, e_bd]
    rfl
  · obtain ⟨w, rfl, hw⟩ := zin_of (by omega) z1
    obtain ⟨t, ht, rfl⟩ := surj (fun t ht => (ok.2.1 t ht).2.2.2) ok.2.2.1 hw
    have hne : ∀ i, i < t → ¬ nI (hsP h i) = nI (hsP h t) := by
      intro i hi e
      have h1 := (ok.2.1 i (by omega)).2.2.2
      have h2 := (ok.2.1 t ht).2.2.2
      rw [e_eq0 (by omega) (by omega)] at e
      have := ok.2.2.1 i t (by omega) ht e
      omega
    refine ⟨nI t, ?_, ?_⟩
    · unfold fX6_place fX6_place_l2
      rw [e_let, l0, zi_seq (body := fun s => fX6_place_b2 (nI (hsP h t)) mem s) (fun i => nI i) (Sum.inr (nI t)) t 2000 0 (Nat.zero_le _) (by omega) (fun i _ hi => by rw [cb i (by omega), if_neg (hne i hi)]) (by rw [cb t ht, if_pos rfl]), e_bd]
      rfl
    · unfold fX7_place
      rw [m_isThing Hm hn, z1, e_bd, if_neg q1, m_th_yes Hm ok ht, e_bd]
theorem o_kind (R : RH mem h) (a1 : Int32) : Op0 (fX6_kind a1) (fX7_kind a1) mem := by
  obtain ⟨ok, H, Hm, -⟩ := R
  have hn := ok.1
  cases z1 : zin a1 (hsN h)
  · exact ⟨-1000001, by simp [fX6_kind, c_hasThing H ok, z1, bI], by simp [fX7_kind, m_isThing Hm hn, z1, bI]⟩
  obtain ⟨t, rfl, ht⟩ := zin_of (by omega) z1
  have h8 := ok.t8 ht
  have k1 := (H.2.1 t ht).1
  have r1 := (Hm.2.1 t ht).1
  have q1 : ¬ bI true = 0 := by decide
  refine ⟨nI (hsK h t), ?_, ?_⟩
  · unfold fX6_kind
    rw [c_hasThing H ok, z1, e_bd, if_neg q1, e_gz (by omega) (by omega), e_cl (by omega), k1]
  · unfold fX7_kind
    rw [m_isThing Hm hn, z1, e_bd, if_neg q1, l6, nI_add, e_gz (by omega) (by omega), e_cl (by omega), r1]
theorem o_trace (Q : QR mem) (a1 : Int32) : Op0 (fX6_trace a1) (fX7_trace a1) mem := by
  obtain ⟨k, hk, q1, q2, q3⟩ := Q
  have hb : wit a1 0 (nI k - 1).toInt = zin a1 k := by
    rw [← zin_wit a1 (show k < 2147483648 by omega)]
    by_cases h0 : k = 0
    · subst h0; rfl
    · rw [nI_m1 (by omega), nI_toInt (by omega)]
      congr 1; omega
  unfold Op0 fX6_trace fX7_trace
  rw [q1, q2, c_isWithin, m_in, ti0, tj0, Int32.toInt_toInt64, hb, e_bd, e_bd]
  cases z1 : zin a1 k
  · exact ⟨_, rfl, rfl⟩
  · obtain ⟨t, rfl, ht⟩ := zin_of (by omega) z1
    rw [if_neg (by decide), if_neg (by decide), e_gz (by omega) (by omega), e_gz (by omega) (by omega), e_cl (by omega), q3 t ht]
    exact ⟨_, rfl, rfl⟩
theorem o_status (F : RF mem) : Op0 fX6_status fX7_status mem := ⟨mem 0 8, rfl, by unfold fX7_status; rw [F]⟩
theorem o_fault (T : TR mem) : Op0 fX6_fault fX7_fault mem := by
  obtain ⟨n, -, -, -, -, t⟩ := T
  exact ⟨mem 3 3, rfl, by unfold fX7_fault; rw [t]⟩
theorem e_tt1 : (1 : Int32).toNatClampNeg = 1 := by decide
theorem e_tt2 : (2 : Int32).toNatClampNeg = 2 := by decide
theorem e_t3 : (3 : Int32).toNatClampNeg = 3 := by decide
theorem e_t4 : (4 : Int32).toNatClampNeg = 4 := by decide
theorem e_t5 : (5 : Int32).toNatClampNeg = 5 := by decide
theorem e_z0 : zin (0 : Int32) 38 = true := by decide
theorem e_z1 : zin (1 : Int32) 38 = true := by decide
theorem e_z2 : zin (2 : Int32) 38 = true := by decide
theorem e_z3 : zin (3 : Int32) 38 = true := by decide
theorem e_z4 : zin (4 : Int32) 38 = true := by decide
theorem e_z5 : zin (5 : Int32) 38 = true := by decide
def rcS (mem : ZM) : Nat → Nat
  | 0 => 0
  | i + 1 => rcS mem i + (if mem 60 i < 0 then 0 else 1)
theorem c_rowsThere (R : RR mem) : fX6_rowsThere mem = some (nI (rcS mem 8)) := by
  have key : fX6_rowsThere_l4 mem (nI 0, nI 0) = some (nI (rcS mem 8), nI 8) := by
    unfold fX6_rowsThere_l4
    refine zi_seq (fun i => (nI (rcS mem i), nI i)) _ 8 2000 0 (Nat.zero_le _) (by omega) (fun i _ hi => ?_) ?_
    · show fX6_rowsThere_b4 mem (nI (rcS mem i)) (nI i) = _
      unfold fX6_rowsThere_b4 fX6_rowsThere_j25
      rw [show (8 : Int32) = nI 8 from rfl, if_neg (by rw [e_le0 (by omega) (by omega)]; omega), e_gz (by omega) (by omega), e_cl (by omega), c_missing (R i hi), e_bd, e_let, e_let, e_let, nI_1, nI_1]
      show _ = some (Sum.inl (nI (rcS mem i + (if mem 60 i < 0 then 0 else 1)), nI (i + 1)))
      by_cases hm : mem 60 i < 0
      · rw [decide_eq_true hm, if_neg (show ¬ bI true = 0 by decide), if_pos hm]; rfl
      · rw [decide_eq_false hm, if_pos (show bI false = 0 from rfl), if_neg hm]
    · show fX6_rowsThere_b4 mem (nI (rcS mem 8)) (nI 8) = _
      unfold fX6_rowsThere_b4
      rw [show (8 : Int32) = nI 8 from rfl, if_pos (by rw [e_le0 (by omega) (by omega)]; exact Nat.le_refl _)]
  unfold fX6_rowsThere
  rw [e_let, e_let, l0, key, e_bd]
theorem m_countRows (a1 : Int32) : fX7_count_l4 a1 mem (0, 0) = some (nI (rcS mem 8), nI 8) := by
  unfold fX7_count_l4
  refine zi_seq (fun i => (nI (rcS mem i), nI i)) _ 8 2000 0 (Nat.zero_le _) (by omega) (fun i _ hi => ?_) ?_
  · show fX7_count_b4 a1 mem (nI (rcS mem i)) (nI i) = _
    unfold fX7_count_b4 fX7_count_j25
    rw [show (8 : Int32) = nI 8 from rfl, if_neg (by rw [e_le0 (by omega) (by omega)]; omega), e_gz (by omega) (by omega), e_cl (by omega), e_let, e_let, e_let, e_let, nI_1]
    show _ = some (Sum.inl (nI (rcS mem i + (if mem 60 i < 0 then 0 else 1)), nI (i + 1)))
    by_cases hm : mem 60 i < 0
    · rw [if_pos hm, if_pos hm, l0, nI_add]
    · rw [if_neg hm, if_neg hm, nI_1]
  · show fX7_count_b4 a1 mem (nI (rcS mem 8)) (nI 8) = _
    unfold fX7_count_b4
    rw [show (8 : Int32) = nI 8 from rfl, if_pos (by rw [e_le0 (by omega) (by omega)]; exact Nat.le_refl _)]
theorem o_count (R : Rel mem) (a1 : Int32) : Op0 (fX6_count a1) (fX7_count a1) mem := by
  obtain ⟨h, ⟨⟨ok, H, Hm, -⟩, hh, k, G, T, -, ⟨nx, -, q1, -, -⟩, ⟨q2, -⟩⟩, r2, -, -, ⟨n, -, t1, t2, -, -⟩, -⟩ := R
  unfold Op0 fX6_count fX7_count
  rw [e_let, e_let, m_countRows, e_bd]
  by_cases w0 : a1 = 0
  · rw [if_pos w0, if_pos w0, c_rowsThere r2, e_bd]; exact ⟨_, rfl, rfl⟩
  rw [if_neg w0, if_neg w0]
  by_cases w1 : a1 = 1
  · rw [if_pos w1, if_pos w1, e_gd' e_z0, e_t0, H.1, Hm.1]; exact ⟨_, rfl, rfl⟩
  rw [if_neg w1, if_neg w1]
  by_cases w2 : a1 = 2
  · rw [if_pos w2, if_pos w2, e_gd' e_z1, e_tt1, hh]; exact ⟨_, rfl, rfl⟩
  rw [if_neg w2, if_neg w2]
  by_cases w3 : a1 = 3
  · rw [if_pos w3, if_pos w3, e_gd' e_z2, e_tt2, H.2.2.2.2.1, Hm.2.2.2.2.1]; exact ⟨_, rfl, rfl⟩
  rw [if_neg w3, if_neg w3]
  by_cases w4 : a1 = 4
  · rw [if_pos w4, if_pos w4, e_gd' e_z4, e_t4, H.2.2.1, Hm.2.2.1]; exact ⟨_, rfl, rfl⟩
  rw [if_neg w4, if_neg w4]
  by_cases w5 : a1 = 5
  · rw [if_pos w5, if_pos w5, e_gd' e_z5, e_t5, H.2.2.2.1, Hm.2.2.2.1]; exact ⟨_, rfl, rfl⟩
  rw [if_neg w5, if_neg w5]
  by_cases w6 : a1 = 6
  · rw [if_pos w6, if_pos w6, c_ashes H ok, m_ashes Hm ok]; exact ⟨_, rfl, rfl⟩
  rw [if_neg w6, if_neg w6]
  by_cases w7 : a1 = 7
  · rw [if_pos w7, if_pos w7, e_gd' e_z3, e_t3, H.2.2.2.2.2, Hm.2.2.2.2.2]; exact ⟨_, rfl, rfl⟩
  rw [if_neg w7, if_neg w7]
  by_cases w8 : a1 = 8
  · rw [if_pos w8, if_pos w8, q1, q2]; exact ⟨_, rfl, rfl⟩
  rw [if_neg w8, if_neg w8]
  by_cases w9 : a1 = 9
  · rw [if_pos w9, if_pos w9, t1, t2]; exact ⟨_, rfl, rfl⟩
  rw [if_neg w9, if_neg w9]
  exact ⟨_, rfl, rfl⟩
end RD
