/-! the acts that are kept: newest first -/
def CA (mem : ZM) (p : Nat) (g : HS) (T : Int32) : Prop := (∀ t, t < hsN g → mem 6 (8 * p + t) = nI (hsS g t) ∧ mem 7 (8 * p + t) = nI (hsW g t) ∧ mem 8 (8 * p + t) = nI (hsP g t)) ∧ mem 9 p = nI (hsL g) ∧ mem 10 p = nI (hsO g) ∧ mem 11 p = nI (hsV g) ∧ mem 12 p = nI (hsM g) ∧ mem 13 p = T
def MA (mem : ZM) (r : Nat) (g : HS) (T : Int32) : Prop := Hr (fun x => mem 67 (38 * r + x)) g ∧ mem 67 (38 * r + 1) = T
def AC (mem : ZM) (k : Nat) (G : Nat → HS) (T : Nat → Int32) : Prop := ∃ nx, nx < 24 ∧ mem 5 0 = nI k ∧ mem 5 1 = nI nx ∧ ∀ i, i < k → CA mem ((nx + 23 - i) % 24) (G i) (T i)
def AM (mem : ZM) (k : Nat) (G : Nat → HS) (T : Nat → Int32) : Prop := mem 58 19 = nI k ∧ ∀ i, i < k → MA mem (k - 1 - i) (G i) (T i)
def AG (h : HS) (k : Nat) (G : Nat → HS) : Prop := k ≤ 24 ∧ ∀ i, i < k → okH (G i) ∧ hsN (G i) = hsN h ∧ ∀ t, t < hsN h → hsK (G i) t = hsK h t
def AR (mem : ZM) (h : HS) : Prop := ∃ k G T, AG h k G ∧ AC mem k G T ∧ AM mem k G T
def pG {α : Type} (g : α) (G : Nat → α) : Nat → α := fun i => if i = 0 then g else G (i - 1)
theorem CA.same {mem m : ZM} {p : Nat} {g : HS} {T : Int32} (h : CA mem p g T) (e : ∀ c, 6 ≤ c → c ≤ 13 → m c = mem c) : CA m p g T := by
  unfold CA
  rw [e 6 (by omega) (by omega), e 7 (by omega) (by omega), e 8 (by omega) (by omega), e 9 (by omega) (by omega), e 10 (by omega) (by omega), e 11 (by omega) (by omega), e 12 (by omega) (by omega), e 13 (by omega) (by omega)]
  exact h
theorem AC.same {mem m : ZM} {k : Nat} {G : Nat → HS} {T : Nat → Int32} (h : AC mem k G T) (e : ∀ c, 5 ≤ c → c ≤ 13 → m c = mem c) : AC m k G T := by
  obtain ⟨nx, h1, h2, h3, h4⟩ := h
  exact ⟨nx, h1, by rw [e 5 (by omega) (by omega)]; exact h2, by rw [e 5 (by omega) (by omega)]; exact h3, fun i hi => (h4 i hi).same (fun c hc hc2 => e c (by omega) hc2)⟩
theorem AM.same {mem m : ZM} {k : Nat} {G : Nat → HS} {T : Nat → Int32} (h : AM mem k G T) (e1 : m 58 19 = mem 58 19) (e2 : m 67 = mem 67) : AM m k G T := by
  refine ⟨by rw [e1]; exact h.1, fun i hi => ?_⟩
  unfold MA
  rw [e2]
  exact h.2 i hi
theorem k_g : ∀ n, n < 24 → zcpg 0 (nI n * 8) 8 8 192 = true := by decide +kernel
theorem k_g' : ∀ n, n < 24 → zcpg (nI n * 8) 0 8 192 8 = true := by decide +kernel
theorem k_t : ∀ n, n < 24 → (nI n * 8).toNatClampNeg = 8 * n := by decide +kernel
theorem k_n : ∀ n, n < 24 → (nI n + 1) - (nI n + 1) / 24 * 24 = nI ((n + 1) % 24) := by decide +kernel
theorem k_b : ∀ n, n < 24 → ((nI n + 24) - 1) - ((nI n + 24) - 1) / 24 * 24 = nI ((n + 23) % 24) := by decide +kernel
theorem k_m : ∀ k, k < 25 → (if nI k + 1 < 24 then nI k + 1 else (24 : Int32)) = nI (min 24 (k + 1)) := by decide +kernel
section AC
variable {mem : ZM} {h : HS} {k : Nat} {G : Nat → HS} {T : Nat → Int32}
theorem c_keep (H : Hc mem 17 h) (hn : hsN h ≤ 8) (hG : AG h k G) (A : AC mem k G T) : ∃ m', fX0_keep 17 mem = some m' ∧ AC m' (min 24 (k + 1)) (pG h G) (pG (mem 17 9) T) ∧ (∀ c, c < 5 ∨ 13 < c → m' c = mem c) := by
  obtain ⟨nx, h1, h2, h3, h4⟩ := A
  have hk := hG.1
  unfold fX0_keep
  simp (disch := omega) only [e_let, e_cpn, e_stn, e_stk, e_st, h2, h3, k_g nx h1, k_t nx h1, e_t0, e_t8, e_gd, e_gz, e_cl, k_n nx h1, k_m k (by omega)]
  refine ⟨_, rfl, ⟨(nx + 1) % 24, by omega, ?_, ?_, fun i hi => ?_⟩, fun c hc => ?_⟩
  · simp (disch := omega) only [e_st]
  · simp (disch := omega) only [e_stk, e_st]
  · by_cases hi0 : i = 0
    · subst hi0
      have hp : ((nx + 1) % 24 + 23 - 0) % 24 = nx := by omega
      rw [hp]
      show CA _ nx h (mem 17 9)
      refine ⟨fun t ht => ?_, ?_, ?_, ?_, ?_, ?_⟩
      · obtain ⟨a1, a2, a3, a4⟩ := H.2.1 t ht
        refine ⟨?_, ?_, ?_⟩
        · simp (disch := omega) only [e_stn, e_cpn, e_cp]
          rw [pk_cpy_in (by omega) (by omega), show 0 + (8 * nx + t - 8 * nx) = t by omega]
          exact a2
        · simp (disch := omega) only [e_stn, e_cpn, e_cp]
          rw [pk_cpy_in (by omega) (by omega), show 0 + (8 * nx + t - 8 * nx) = t by omega]
          exact a3
        · simp (disch := omega) only [e_stn, e_cpn, e_cp]
          rw [pk_cpy_in (by omega) (by omega), show 0 + (8 * nx + t - 8 * nx) = t by omega]
          exact a4
      · simp (disch := omega) only [e_stn, e_cpn, e_st]; exact H.2.2.1
      · simp (disch := omega) only [e_stn, e_cpn, e_st]; exact H.2.2.2.1
      · simp (disch := omega) only [e_stn, e_cpn, e_st]; exact H.2.2.2.2.1
      · simp (disch := omega) only [e_stn, e_cpn, e_st]; exact H.2.2.2.2.2
      · simp (disch := omega) only [e_stn, e_cpn, e_st]
    · have hik : i - 1 < k := by omega
      have hp : ((nx + 1) % 24 + 23 - i) % 24 = (nx + 23 - (i - 1)) % 24 := by omega
      have hne : (nx + 23 - (i - 1)) % 24 ≠ nx := by omega
      have hlt : (nx + 23 - (i - 1)) % 24 < 24 := by omega
      have hg : pG h G i = G (i - 1) := by unfold pG; rw [if_neg hi0]
      have hT : pG (mem 17 9) T i = T (i - 1) := by unfold pG; rw [if_neg hi0]
      rw [hp, hg, hT]
      obtain ⟨b1, b2, b3, b4, b5, b6⟩ := h4 (i - 1) hik
      have hN8 : hsN (G (i - 1)) ≤ 8 := (hG.2 (i - 1) hik).1.1
      generalize (nx + 23 - (i - 1)) % 24 = p at hne hlt b1 b2 b3 b4 b5 b6 ⊢
      generalize hgi : G (i - 1) = g at hN8 b1 b2 b3 b4 b5 b6 ⊢
      have hout : ∀ t, t < 8 → 8 * p + t < 8 * nx ∨ 8 * nx + 8 ≤ 8 * p + t := fun t ht => by omega
      refine ⟨fun t ht => ?_, ?_, ?_, ?_, ?_, ?_⟩
      · obtain ⟨a1, a2, a3⟩ := b1 t ht
        have ho := hout t (by omega)
        refine ⟨?_, ?_, ?_⟩
        · simp (disch := omega) only [e_stn, e_cpn, e_cp]
          rw [pk_cpy_out ho]
          exact a1
        · simp (disch := omega) only [e_stn, e_cpn, e_cp]
          rw [pk_cpy_out ho]
          exact a2
        · simp (disch := omega) only [e_stn, e_cpn, e_cp]
          rw [pk_cpy_out ho]
          exact a3
      · simp (disch := omega) only [e_stn, e_cpn, e_stk]; exact b2
      · simp (disch := omega) only [e_stn, e_cpn, e_stk]; exact b3
      · simp (disch := omega) only [e_stn, e_cpn, e_stk]; exact b4
      · simp (disch := omega) only [e_stn, e_cpn, e_stk]; exact b5
      · simp (disch := omega) only [e_stn, e_cpn, e_stk]; exact b6
  · simp (disch := omega) only [e_stn, e_cpn]
theorem c_takeBack (H : Hc mem 17 h) (hn : hsN h ≤ 8) (hG : AG h k G) (A : AC mem k G T) (h0 : 0 < k) : ∃ m', fX0_takeBack 17 mem = some m' ∧ Hc m' 17 (G 0) ∧ m' 17 9 = T 0 ∧ m' 5 0 = nI (k - 1) ∧ AC m' (k - 1) (fun i => G (i + 1)) (fun i => T (i + 1)) ∧ (∀ c, c ≠ 5 → (c < 17 ∨ 21 < c) → m' c = mem c) := by
  obtain ⟨nx, h1, h2, h3, h4⟩ := A
  have hk := hG.1
  obtain ⟨ok0, hN, hK⟩ := hG.2 0 h0
  have hk0 : ¬ nI k = 0 := by rw [l0, e_eq0 (by omega) (by omega)]; omega
  unfold fX0_takeBack
  rw [h2, if_neg hk0]
  simp (disch := omega) only [e_let, e_cpn, e_stn, e_stk, e_st, h2, h3, k_b nx h1, nI_m1 h0, k_g' ((nx + 23) % 24) (by omega), k_t ((nx + 23) % 24) (by omega), e_t0, e_t8, e_gd, e_gz, e_cl]
  obtain ⟨b1, b2, b3, b4, b5, b6⟩ := h4 0 h0
  rw [show (nx + 23 - 0) % 24 = (nx + 23) % 24 from rfl] at b1 b2 b3 b4 b5 b6
  refine ⟨_, rfl, ⟨?_, fun t ht => ?_, ?_, ?_, ?_, ?_⟩, ?_, ?_, ⟨(nx + 23) % 24, by omega, ?_, ?_, fun i hi => ?_⟩, fun c hc hc2 => ?_⟩
  · simp (disch := omega) only [e_stn, e_stk, e_cpn]; rw [hN]; exact H.1
  · have ht' : t < hsN h := by rw [← hN]; exact ht
    obtain ⟨a1, a2, a3⟩ := b1 t ht
    refine ⟨?_, ?_, ?_, ?_⟩
    · simp (disch := omega) only [e_stn, e_stk, e_cpn]; rw [hK t ht']; exact (H.2.1 t ht').1
    · simp (disch := omega) only [e_stn, e_stk, e_cpn, e_cp]
      rw [pk_cpy_in (by omega) (by omega), Nat.sub_zero]; exact a1
    · simp (disch := omega) only [e_stn, e_stk, e_cpn, e_cp]
      rw [pk_cpy_in (by omega) (by omega), Nat.sub_zero]; exact a2
    · simp (disch := omega) only [e_stn, e_stk, e_cpn, e_cp]
      rw [pk_cpy_in (by omega) (by omega), Nat.sub_zero]; exact a3
  · simp (disch := omega) only [e_stn, e_stk, e_st, e_cpn]; exact b2
  · simp (disch := omega) only [e_stn, e_stk, e_st, e_cpn]; exact b3
  · simp (disch := omega) only [e_stn, e_stk, e_st, e_cpn]; exact b4
  · simp (disch := omega) only [e_stn, e_stk, e_st, e_cpn]; exact b5
  · simp (disch := omega) only [e_stn, e_stk, e_st, e_cpn]; exact b6
  · simp (disch := omega) only [e_stn, e_stk, e_st, e_cpn]
  · simp (disch := omega) only [e_stn, e_stk, e_st, e_cpn]
  · simp (disch := omega) only [e_stn, e_stk, e_st, e_cpn]
  · have hp : ((nx + 23) % 24 + 23 - i) % 24 = (nx + 23 - (i + 1)) % 24 := by omega
    rw [hp]
    refine (h4 (i + 1) (by omega)).same (fun c c1 c2 => ?_)
    simp (disch := omega) only [e_stn, e_cpn]
  · simp (disch := omega) only [e_stn, e_cpn]
end AC
