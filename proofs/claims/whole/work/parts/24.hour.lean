/-! writes into a heap's cells -/
def setK (h : HS) (t v : Nat) : HS := (hsN h, fun u => if u = t then v else hsK h u, hsS h, hsW h, hsP h, hsL h, hsO h, hsV h, hsM h)
def setS (h : HS) (t v : Nat) : HS := (hsN h, hsK h, fun u => if u = t then v else hsS h u, hsW h, hsP h, hsL h, hsO h, hsV h, hsM h)
def setW (h : HS) (t v : Nat) : HS := (hsN h, hsK h, hsS h, fun u => if u = t then v else hsW h u, hsP h, hsL h, hsO h, hsV h, hsM h)
def setP (h : HS) (t v : Nat) : HS := (hsN h, hsK h, hsS h, hsW h, fun u => if u = t then v else hsP h u, hsL h, hsO h, hsV h, hsM h)
def setL (h : HS) (v : Nat) : HS := (hsN h, hsK h, hsS h, hsW h, hsP h, v, hsO h, hsV h, hsM h)
def setO (h : HS) (v : Nat) : HS := (hsN h, hsK h, hsS h, hsW h, hsP h, hsL h, v, hsV h, hsM h)
def setV (h : HS) (v : Nat) : HS := (hsN h, hsK h, hsS h, hsW h, hsP h, hsL h, hsO h, v, hsM h)
def setM (h : HS) (v : Nat) : HS := (hsN h, hsK h, hsS h, hsW h, hsP h, hsL h, hsO h, hsV h, v)
/-- the same heap, as far as it goes -/
def eqH (h g : HS) : Prop := hsN h = hsN g ∧ (∀ t, t < hsN h → hsK h t = hsK g t ∧ hsS h t = hsS g t ∧ hsW h t = hsW g t ∧ hsP h t = hsP g t) ∧ hsL h = hsL g ∧ hsO h = hsO g ∧ hsV h = hsV g ∧ hsM h = hsM g
theorem Hc.ext {mem : ZM} {b : Nat} {h g : HS} (H : Hc mem b h) (e : eqH h g) : Hc mem b g := by
  obtain ⟨e0, e1, e2, e3, e4, e5⟩ := e
  refine ⟨by rw [← e0]; exact H.1, fun t ht => ?_, by rw [← e2]; exact H.2.2.1, by rw [← e3]; exact H.2.2.2.1, by rw [← e4]; exact H.2.2.2.2.1, by rw [← e5]; exact H.2.2.2.2.2⟩
  have ht' : t < hsN h := by rw [e0]; exact ht
  obtain ⟨a1, a2, a3, a4⟩ := H.2.1 t ht'
  obtain ⟨c1, c2, c3, c4⟩ := e1 t ht'
  exact ⟨by rw [← c1]; exact a1, by rw [← c2]; exact a2, by rw [← c3]; exact a3, by rw [← c4]; exact a4⟩
def FrB (b : Nat) (mem mem' : ZM) : Prop := ∀ c, c < b ∨ b + 4 < c → mem' c = mem c
theorem FrB.rf (b : Nat) (mem : ZM) : FrB b mem mem := fun _ _ => rfl
theorem FrB.tr {b : Nat} {m1 m2 m3 : ZM} (h1 : FrB b m1 m2) (h2 : FrB b m2 m3) : FrB b m1 m3 := fun c hc => (h2 c hc).trans (h1 c hc)
theorem FrB.st {b k : Nat} {mem : ZM} (c : Nat) {v : Int32} (hc : b ≤ c ∧ c ≤ b + 4) : FrB b mem (zst mem c k v) := fun d hd => e_stn (by omega)
section HCW
variable {mem : ZM} {b t v : Nat} {h : HS}
theorem Hc.kept {mem' : ZM} (H : Hc mem b h) (h0 : ∀ k, k ≠ 9 → mem' b k = mem b k) (h1 : ∀ c, b < c → c ≤ b + 4 → mem' c = mem c) : Hc mem' b h :=
  ⟨by rw [h0 0 (by decide)]; exact H.1, fun t ht => by rw [h1 (b + 1) (by omega) (by omega), h1 (b + 2) (by omega) (by omega), h1 (b + 3) (by omega) (by omega), h1 (b + 4) (by omega) (by omega)]; exact H.2.1 t ht,
    by rw [h0 5 (by decide)]; exact H.2.2.1, by rw [h0 6 (by decide)]; exact H.2.2.2.1, by rw [h0 7 (by decide)]; exact H.2.2.2.2.1, by rw [h0 8 (by decide)]; exact H.2.2.2.2.2⟩
theorem Hc.fr {mem' : ZM} {d : Nat} (H : Hc mem b h) (hf : FrB d mem mem') (hd : b + 4 < d ∨ d + 4 < b) : Hc mem' b h :=
  H.kept (fun k _ => by rw [hf b (by omega)]) (fun c h1 h2 => hf c (by omega))
theorem Hc.st9 {x : Int32} (H : Hc mem b h) : Hc (zst mem b 9 x) b h := H.kept (fun k hk => e_stk hk) (fun c h1 h2 => e_stn (by omega))
theorem Hc.stS (H : Hc mem b h) : Hc (zst mem (b + 2) t (nI v)) b (setS h t v) := by
  refine ⟨by rw [e_stn (by omega)]; exact H.1, fun u hu => ?_, by rw [e_stn (by omega)]; exact H.2.2.1, by rw [e_stn (by omega)]; exact H.2.2.2.1, by rw [e_stn (by omega)]; exact H.2.2.2.2.1, by rw [e_stn (by omega)]; exact H.2.2.2.2.2⟩
  obtain ⟨a1, a2, a3, a4⟩ := H.2.1 u hu
  refine ⟨by rw [e_stn (by omega)]; exact a1, ?_, by rw [e_stn (by omega)]; exact a3, by rw [e_stn (by omega)]; exact a4⟩
  show _ = nI (if u = t then v else hsS h u)
  rw [e_sta, if_pos rfl]
  by_cases e : u = t
  · rw [if_pos e, if_pos e]
  · rw [if_neg e, if_neg e]; exact a2
theorem Hc.stW (H : Hc mem b h) : Hc (zst mem (b + 3) t (nI v)) b (setW h t v) := by
  refine ⟨by rw [e_stn (by omega)]; exact H.1, fun u hu => ?_, by rw [e_stn (by omega)]; exact H.2.2.1, by rw [e_stn (by omega)]; exact H.2.2.2.1, by rw [e_stn (by omega)]; exact H.2.2.2.2.1, by rw [e_stn (by omega)]; exact H.2.2.2.2.2⟩
  obtain ⟨a1, a2, a3, a4⟩ := H.2.1 u hu
  refine ⟨by rw [e_stn (by omega)]; exact a1, by rw [e_stn (by omega)]; exact a2, ?_, by rw [e_stn (by omega)]; exact a4⟩
  show _ = nI (if u = t then v else hsW h u)
  rw [e_sta, if_pos rfl]
  by_cases e : u = t
  · rw [if_pos e, if_pos e]
  · rw [if_neg e, if_neg e]; exact a3
theorem Hc.stK (H : Hc mem b h) : Hc (zst mem (b + 1) t (nI v)) b (setK h t v) := by
  refine ⟨by rw [e_stn (by omega)]; exact H.1, fun u hu => ?_, by rw [e_stn (by omega)]; exact H.2.2.1, by rw [e_stn (by omega)]; exact H.2.2.2.1, by rw [e_stn (by omega)]; exact H.2.2.2.2.1, by rw [e_stn (by omega)]; exact H.2.2.2.2.2⟩
  obtain ⟨a1, a2, a3, a4⟩ := H.2.1 u hu
  refine ⟨?_, by rw [e_stn (by omega)]; exact a2, by rw [e_stn (by omega)]; exact a3, by rw [e_stn (by omega)]; exact a4⟩
  show _ = nI (if u = t then v else hsK h u)
  rw [e_sta, if_pos rfl]
  by_cases e : u = t
  · rw [if_pos e, if_pos e]
  · rw [if_neg e, if_neg e]; exact a1
theorem Hc.stP (H : Hc mem b h) : Hc (zst mem (b + 4) t (nI v)) b (setP h t v) := by
  refine ⟨by rw [e_stn (by omega)]; exact H.1, fun u hu => ?_, by rw [e_stn (by omega)]; exact H.2.2.1, by rw [e_stn (by omega)]; exact H.2.2.2.1, by rw [e_stn (by omega)]; exact H.2.2.2.2.1, by rw [e_stn (by omega)]; exact H.2.2.2.2.2⟩
  obtain ⟨a1, a2, a3, a4⟩ := H.2.1 u hu
  refine ⟨by rw [e_stn (by omega)]; exact a1, by rw [e_stn (by omega)]; exact a2, by rw [e_stn (by omega)]; exact a3, ?_⟩
  show _ = nI (if u = t then v else hsP h u)
  rw [e_sta, if_pos rfl]
  by_cases e : u = t
  · rw [if_pos e, if_pos e]
  · rw [if_neg e, if_neg e]; exact a4
theorem Hc.stL (H : Hc mem b h) : Hc (zst mem b 5 (nI v)) b (setL h v) :=
  ⟨by rw [e_stk (by decide)]; exact H.1, fun t ht => by rw [e_stn (by omega), e_stn (by omega), e_stn (by omega), e_stn (by omega)]; exact H.2.1 t ht, by rw [e_st]; rfl, by rw [e_stk (by decide)]; exact H.2.2.2.1, by rw [e_stk (by decide)]; exact H.2.2.2.2.1, by rw [e_stk (by decide)]; exact H.2.2.2.2.2⟩
theorem Hc.stO (H : Hc mem b h) : Hc (zst mem b 6 (nI v)) b (setO h v) :=
  ⟨by rw [e_stk (by decide)]; exact H.1, fun t ht => by rw [e_stn (by omega), e_stn (by omega), e_stn (by omega), e_stn (by omega)]; exact H.2.1 t ht, by rw [e_stk (by decide)]; exact H.2.2.1, by rw [e_st]; rfl, by rw [e_stk (by decide)]; exact H.2.2.2.2.1, by rw [e_stk (by decide)]; exact H.2.2.2.2.2⟩
theorem Hc.stV (H : Hc mem b h) : Hc (zst mem b 7 (nI v)) b (setV h v) :=
  ⟨by rw [e_stk (by decide)]; exact H.1, fun t ht => by rw [e_stn (by omega), e_stn (by omega), e_stn (by omega), e_stn (by omega)]; exact H.2.1 t ht, by rw [e_stk (by decide)]; exact H.2.2.1, by rw [e_stk (by decide)]; exact H.2.2.2.1, by rw [e_st]; rfl, by rw [e_stk (by decide)]; exact H.2.2.2.2.2⟩
theorem Hc.stM (H : Hc mem b h) : Hc (zst mem b 8 (nI v)) b (setM h v) :=
  ⟨by rw [e_stk (by decide)]; exact H.1, fun t ht => by rw [e_stn (by omega), e_stn (by omega), e_stn (by omega), e_stn (by omega)]; exact H.2.1 t ht, by rw [e_stk (by decide)]; exact H.2.2.1, by rw [e_stk (by decide)]; exact H.2.2.2.1, by rw [e_stk (by decide)]; exact H.2.2.2.2.1, by rw [e_st]; rfl⟩
end HCW
/-! an hour -/
def burnsN (k : Nat) : Nat := if k = 1 then 2 else if k = 2 then 1 else if k = 3 then 4 else 0
def smokesN (k : Nat) : Nat := if k = 1 then 1 else if k = 2 then 3 else 0
def nS (h : HS) (t : Nat) : Nat := if (hsL h).testBit t = true then hsS h t - burnsN (hsK h t) else hsS h t
def nL (h : HS) (t : Nat) : Bool := if (hsL h).testBit t = true then decide (nS h t ≠ 0) else (decide (2 ≤ heatS h t) && mlS h t)
def nW (h : HS) (t : Nat) : Nat := hsW h t - heatS h t
def smS (h : HS) : Nat → Nat
  | 0 => 0
  | i + 1 => smS h i + (if (hsL h).testBit i = true then smokesN (hsK h i) else 0)
/-- the first i things have had their hour -/
def mixS (i : Nat) (h : HS) : HS := (hsN h, hsK h, fun t => if t < i then nS h t else hsS h t, fun t => if t < i then nW h t else hsW h t, hsP h, mkb (fun t => if t < i then nL h t else (hsL h).testBit t) (hsN h), hsO h, hsV h, min 99999 (hsM h + smS h i))
def hourS (h : HS) : HS := mixS (hsN h) h
theorem mix_ok {h : HS} (ok : okH h) (i : Nat) : okH (mixS i h) := by
  obtain ⟨o1, o2, o3, o4, o5, o6, o7, o8⟩ := ok
  refine ⟨o1, fun t ht => ?_, o3, mkb_lt _ _, o5, o6, by show min 99999 _ ≤ 99999; omega, fun t ht hl => ?_⟩
  · obtain ⟨a1, a2, a3, a4⟩ := o2 t ht
    refine ⟨a1, ?_, ?_, a4⟩
    · show (if t < i then nS h t else hsS h t) ≤ 30
      unfold nS
      split
      · split <;> omega
      · exact a2
    · show (if t < i then nW h t else hsW h t) ≤ 20
      unfold nW
      split <;> omega
  · have hl' : (decide (t < hsN h) && (if t < i then nL h t else (hsL h).testBit t)) = true := (mkb_tb (fun t => if t < i then nL h t else (hsL h).testBit t) (hsN h) t).symm.trans hl
    have hlt : decide (t < hsN h) = true := decide_eq_true ht
    rw [hlt, Bool.true_and] at hl'
    show hsK h t ≤ 3 ∧ 0 < (if t < i then nS h t else hsS h t) ∧ (hsO h).testBit t = false
    by_cases hti : t < i
    · rw [if_pos hti] at hl' ⊢
      unfold nL at hl'
      by_cases hL : (hsL h).testBit t = true
      · rw [if_pos hL] at hl'
        have := of_decide_eq_true hl'
        obtain ⟨b1, b2, b3⟩ := o8 t ht hL
        exact ⟨b1, by omega, b3⟩
      · rw [if_neg hL] at hl'
        unfold nS
        rw [if_neg hL]
        unfold mlS cbS at hl'
        simp only [Bool.and_eq_true, decide_eq_true_eq, Bool.not_eq_true'] at hl'
        exact ⟨hl'.2.1.1.1.1, by omega, hl'.2.1.1.2⟩
    · rw [if_neg hti] at hl' ⊢
      exact o8 t ht hl'
theorem hour_ok {h : HS} (ok : okH h) : okH (hourS h) := mix_ok ok _
