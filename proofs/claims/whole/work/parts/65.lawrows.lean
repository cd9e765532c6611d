/-! the law's own frame -/
def zSc (E : ZE) (Γ : ZG) (b L : Nat) (xs : Nat → Int32) : Prop := va_X b L xs (gS Γ) (gS Γ).heap ∧ b < (gS Γ).heap.size ∧ ¬ zA E b ∧ L ≤ 384
abbrev zLoc (E : ZE) (b i : Nat) : List (Nat × Value) := [(3, .int (nI i)), (2, .ref (E.2.1 58)), (1, .ref (E.2.1 0)), (0, .ref b)]
section ZL
variable {l : Launch} {E : ZE} {Γ : ZG} {nL dd pc : Nat} {stk : List Value} {mem : ZM} {own : String} {cc : ByteArray} {b L i : Nat} {xs : Nat → Int32}
theorem z_arg {n : Int} (k : Nat) (C : zC E Γ own cc nL dd) (S : zSc E Γ b L xs) (hi : i + 6 ≤ L) (hk : k ≤ 5) (d1 : decode cc pc = .ok (.aload_n 0, 1)) (d2 : decode cc (pc + 1) = .ok (.iload_n 3, 1)) (d3 : decode cc (pc + 1 + 1) = .ok (.iconst n, 1)) (hn : Int32.ofInt n = nI k) (d4 : decode cc (pc + 1 + 1 + 1) = .ok (.iadd, 1)) (d5 : decode cc (pc + 1 + 1 + 1 + 1) = .ok (.iaload, 1))
    (kk : zG l E Γ nL (pc + 1 + 1 + 1 + 1 + 1) (zLoc E b i) (.int (xs (i + k)) :: stk) mem) : zG l E Γ nL pc (zLoc E b i) stk mem := by
  refine z_aload_n C d1 rfl (j := 3) rfl ?_
  refine z_iload_n C d2 rfl (j := 0) rfl ?_
  refine z_iconst C d3 hn ?_
  refine z_iadd C d4 ?_
  intro H locs ls hP hS hl
  obtain ⟨s1, s2, s3, s4⟩ := S
  have e : nI i + nI k = nI (i + k) := nI_add i k
  rw [e]
  refine va_sld C.1 C.2.1 s1 s2 s3 hS (vp_in_nI (show i + k < L by omega) (by omega)) d5 ?_
  rw [show (nI (i + k)).toNatClampNeg = i + k from nI_clamp (by omega)]
  exact kk H locs ls hP hS hl
theorem z_len (C : zC E Γ own cc nL dd) (S : zSc E Γ b L xs) {loc : List (Nat × Value)} (d : decode cc pc = .ok (.arraylength, 1)) (kk : zG l E Γ nL (pc + 1) loc (.int (nI L) :: stk) mem) : zG l E Γ nL pc loc (.ref b :: stk) mem :=
  fun H locs ls hP hS hl => va_slen C.1 C.2.1 S.1 S.2.1 S.2.2.1 hS d (kk H locs ls hP hS hl)
theorem zb_eq {x y : Int32} {off : Int} {loc : List (Nat × Value)} (tgt : Nat) (C : zC E Γ own cc nL dd) (d : decode cc pc = .ok (.if_icmp .eq off, 3)) (ht : (pc : Int) + off = (tgt : Int)) (h : x = y) (kt : zG l E Γ nL tgt loc stk mem) : zG l E Γ nL pc loc (.int y :: .int x :: stk) mem :=
  fun H locs ls hP hS hl => lv_icmp_eq C.1 C.2.1 d ht (fun _ => kt H locs ls hP hS hl) (fun hc => absurd h hc)
end ZL
