/-! the beginning, and the law's loop -/
def F60 : Nat → Int32 := (upd (upd (upd (upd (upd (upd (upd (upd (fun _ => 0) (0 : Int32).toNatClampNeg (-1)) (1 : Int32).toNatClampNeg (-1)) (2 : Int32).toNatClampNeg (-1)) (3 : Int32).toNatClampNeg (-1)) (4 : Int32).toNatClampNeg (-1)) (5 : Int32).toNatClampNeg (-1)) (6 : Int32).toNatClampNeg (-1)) (7 : Int32).toNatClampNeg (-1))
def mem0 : ZM := fun c => if c = 60 then F60 else if zks.getD c 99 = 4 then (fun k => if k = 0 then -1 else 0) else (fun _ => 0)
theorem m0_z {c : Nat} (h1 : c ≠ 60) (h2 : zks.getD c 99 ≠ 4) (k : Nat) : mem0 c k = 0 := by
  unfold mem0
  rw [if_neg h1, if_neg h2]
theorem okN (v : Nat) (hv : v ≤ 1) : okH (noH v) := ⟨by show 0 ≤ 8; omega, fun t ht => absurd ht (Nat.not_lt_zero t), fun t u ht => absurd ht (Nat.not_lt_zero t), by show 0 < 2 ^ 0; decide, by show 0 < 2 ^ 0; decide, hv, by show 0 ≤ 99999; omega, fun t ht => absurd ht (Nat.not_lt_zero t)⟩
theorem Rel0 : Rel mem0 := by
  have hz : ∀ c k, (c ≠ 60 ∧ zks.getD c 99 ≠ 4) → mem0 c k = 0 := fun c k h => m0_z h.1 h.2 k
  have hHc : ∀ b, b = 17 ∨ b = 27 ∨ b = 32 → Hc mem0 b (noH 0) := by
    intro b hb
    have h1 : ∀ k, mem0 b k = 0 := fun k => hz b k (by rcases hb with rfl | rfl | rfl <;> decide)
    exact ⟨h1 0, fun t ht => absurd ht (Nat.not_lt_zero t), h1 5, h1 6, h1 7, h1 8⟩
  have z : ∀ c k, c = 0 ∨ c = 3 ∨ c = 5 ∨ c = 15 ∨ c = 17 ∨ c = 58 ∨ c = 62 ∨ c = 69 → mem0 c k = 0 := fun c k h => hz c k (by rcases h with rfl | rfl | rfl | rfl | rfl | rfl | rfl | rfl <;> decide)
  refine ⟨noH 0, ⟨⟨okN 0 (by decide), hHc 17 (by omega), ⟨z 62 0 (by omega), fun t ht => absurd ht (Nat.not_lt_zero t), z 62 4 (by omega), z 62 5 (by omega), z 62 2 (by omega), z 62 3 (by omega)⟩, z 58 4 (by omega)⟩, by rw [z 17 9 (by omega), z 62 1 (by omega)], 0, fun _ => noH 0, fun _ => 0, ⟨by omega, fun i hi => absurd hi (Nat.not_lt_zero i)⟩, ⟨0, by decide, z 5 0 (by omega), z 5 1 (by omega), fun i hi => absurd hi (Nat.not_lt_zero i)⟩, ⟨z 58 19 (by omega), fun i hi => absurd hi (Nat.not_lt_zero i)⟩⟩, ?_, ?_, ?_, ?_, ?_⟩
  · intro r hr
    left
    have h8 : ∀ r, r < 8 → mem0 (42 + 2 * r) 0 = -1 ∧ mem0 60 r = -1 := by decide +kernel
    exact h8 r hr
  · unfold RF
    rw [z 0 8 (by omega), z 58 3 (by omega)]
  · intro j hj
    refine ⟨noH 0, okN 0 (by decide), hHc _ (by omega), z 69 j (by omega), fun h => absurd rfl h⟩
  · exact ⟨0, by omega, z 3 1 (by omega), z 58 8 (by omega), fun j hj => absurd hj (Nat.not_lt_zero j), by rw [z 3 3 (by omega), z 58 9 (by omega)]⟩
  · exact ⟨0, by omega, z 15 1 (by omega), z 58 24 (by omega), fun j hj => absurd hj (Nat.not_lt_zero j)⟩
abbrev lwG (p : Program) (e : Env) (s : State) (m : MethodId) (below : List Frame) (meth : Method) (c : Code) (b kc ks : Nat) : ZG := (p, e, room_1, s, m, #[Value.ref b], below, meth, c, lw_Z below #[Value.ref b] s, kc, ks)
section LW
variable {p : Program} {e : Env} {s : State} {m : MethodId} {below : List Frame} {meth : Method} {c : Code} {l : Launch} {E : ZE} {b L kc ks : Nat} {xs : Nat → Int32}
/-- the end -/
theorem law_ret {loc : List (Nat × Value)} {mem : ZM} (C : zC E (lwG p e s m below meth c b kc ks) RL cL_law 4 16) (hr : meth.sig.returnType = ret) (hlocks : meth.locks = false) (hA : ∀ q, zA E q → s.heap.size ≤ q) (hk : kc ≤ 600000 ∧ ks ≤ 7302250) : zG l E (lwG p e s m below meth c b kc ks) 4 1232 loc [] mem := by
  refine z_iconst (v := 1) C dL_law_1232 zc1 ?_
  intro H locs ls hP hS hl
  refine va_forget (fun q hq => hA _ (hS.2.2 q hq)) ?_
  refine W.widen (k := 600000) (n := 7302250) hk.1 hk.2 ?_
  exact lw_ret C.1 C.2.1 hr hlocks dL_law_1233
theorem sw_lt (x : Int32) : ∃ n, n < 64 ∧ x &&& 63 = nI n := by
  refine ⟨(x.toBitVec.toNat % 64), Nat.mod_lt _ (by decide), ?_⟩
  apply Int32.toBitVec_inj.mp
  apply BitVec.eq_of_toNat_eq
  show (x.toBitVec &&& 63#32).toNat = (BitVec.ofNat 32 (x.toBitVec.toNat % 64)).toNat
  rw [BitVec.toNat_and, show (63#32).toNat = 2 ^ 6 - 1 from rfl, Nat.and_two_pow_sub_one_eq_mod, BitVec.toNat_ofNat]
  omega
theorem law_loop (C : zC E (lwG p e s m below meth c b kc ks) RL cL_law 4 16) (S : zSc E (lwG p e s m below meth c b kc ks) b L xs) (hr : meth.sig.returnType = ret) (hlocks : meth.locks = false) (hA : ∀ q, zA E q → s.heap.size ≤ q) (hk : kc ≤ 600000 ∧ ks ≤ 7302250) :
    ∀ (n i : Nat) (mem : ZM), L < i + n → i ≤ 400 → Rel mem → zG l E (lwG p e s m below meth c b kc ks) 4 18 (zLoc E b i) [] mem := by
  have hL := S.2.2.2
  intro n
  induction n with
  | zero =>
    intro i mem h hi R
    refine z_iload_n C dL_law_18 rfl (j := 0) rfl ?_
    refine z_aload_n C dL_law_19 rfl (j := 3) rfl ?_
    refine z_len C S dL_law_20 ?_
    refine z_bipush (v := 6) C dL_law_21 (by decide +kernel) ?_
    refine z_isub C dL_law_23 ?_
    refine zb_gt 1232 C dL_law_24 (by decide) (fun _ => law_ret C hr hlocks hA hk) (fun hc => absurd ?_ hc)
    rw [show (6 : Int32) = nI 6 from rfl, e_lt, pk_sub_toInt (by omega) (by omega), nI_toInt (by omega)]
    omega
  | succ n ih =>
    intro i mem h hi R
    refine z_iload_n C dL_law_18 rfl (j := 0) rfl ?_
    refine z_aload_n C dL_law_19 rfl (j := 3) rfl ?_
    refine z_len C S dL_law_20 ?_
    refine z_bipush (v := 6) C dL_law_21 (by decide +kernel) ?_
    refine z_isub C dL_law_23 ?_
    refine zb_gt 1232 C dL_law_24 (by decide) (fun _ => law_ret C hr hlocks hA hk) (fun hc => ?_)
    have h6 : i + 6 ≤ L := by
      rw [show (6 : Int32) = nI 6 from rfl, e_lt, pk_sub_toInt (by omega) (by omega), nI_toInt (by omega)] at hc
      omega
    have next : ∀ mm : ZM, Rel mm → zG l E (lwG p e s m below meth c b kc ks) 4 1226 (zLoc E b i) [] mm := by
      intro mm Rm
      refine zj_iinc (v := nI (i + 6)) [(2, .ref (E.2.1 58)), (1, .ref (E.2.1 0)), (0, .ref b)] C dL_law_1226 (cst := 6) (by decide +kernel) (by rw [show (6 : Int32) = nI 6 from rfl, nI_add]) (j := 0) rfl (by decide) rfl ?_
      refine z_goto 18 C dL_law_1229 (by decide) ?_
      exact ih (i + 6) mm (by omega) (by omega) Rm
    refine z_aload_n C dL_law_27 rfl (j := 3) rfl ?_
    refine z_iload_n C dL_law_28 rfl (j := 0) rfl ?_
    intro H locs ls hP hS hl
    refine va_sld C.1 C.2.1 S.1 S.2.1 S.2.2.1 hS (vp_in_nI (show i < L by omega) (by omega)) dL_law_29 ?_
    refine (show zG l E (lwG p e s m below meth c b kc ks) 4 30 (zLoc E b i) [.int (xs (nI i).toNatClampNeg)] mem from ?_) H locs ls hP hS hl
    refine z_bipush (v := 63) C dL_law_30 (by decide +kernel) ?_
    refine z_iand C dL_law_32 ?_
    obtain ⟨k, hk64, ek⟩ := sw_lt (xs (nI i).toNatClampNeg)
    rw [ek]
    by_cases h34 : k < 34
    · rcases (show k = 0 ∨ k = 1 ∨ k = 2 ∨ k = 3 ∨ k = 4 ∨ k = 5 ∨ k = 6 ∨ k = 7 ∨ k = 8 ∨ k = 9 ∨ k = 10 ∨ k = 11 ∨ k = 12 ∨ k = 13 ∨ k = 14 ∨ k = 15 ∨ k = 16 ∨ k = 17 ∨ k = 18 ∨ k = 19 ∨ k = 20 ∨ k = 21 ∨ k = 22 ∨ k = 23 ∨ k = 24 ∨ k = 25 ∨ k = 26 ∨ k = 27 ∨ k = 28 ∨ k = 29 ∨ k = 30 ∨ k = 31 ∨ k = 32 ∨ k = 33 by omega) with rfl | rfl | rfl | rfl | rfl | rfl | rfl | rfl | rfl | rfl | rfl | rfl | rfl | rfl | rfl | rfl | rfl | rfl | rfl | rfl | rfl | rfl | rfl | rfl | rfl | rfl | rfl | rfl | rfl | rfl | rfl | rfl | rfl | rfl
      · exact z_swIn 184 C dL_law_33 (nI 0) rfl (by decide +kernel) (by decide +kernel) (off := 151) (by decide +kernel) (by decide) (law_c0 C S h6 R next)
      · exact z_swIn 227 C dL_law_33 (nI 1) rfl (by decide +kernel) (by decide +kernel) (off := 194) (by decide +kernel) (by decide) (law_c1 C S h6 R next)
      · exact z_swIn 270 C dL_law_33 (nI 2) rfl (by decide +kernel) (by decide +kernel) (off := 237) (by decide +kernel) (by decide) (law_c2 C S h6 R next)
      · exact z_swIn 333 C dL_law_33 (nI 3) rfl (by decide +kernel) (by decide +kernel) (off := 300) (by decide +kernel) (by decide) (law_c3 C S h6 R next)
      · exact z_swIn 356 C dL_law_33 (nI 4) rfl (by decide +kernel) (by decide +kernel) (off := 323) (by decide +kernel) (by decide) (law_c4 C S h6 R next)
      · exact z_swIn 379 C dL_law_33 (nI 5) rfl (by decide +kernel) (by decide +kernel) (off := 346) (by decide +kernel) (by decide) (law_c5 C S h6 R next)
      · exact z_swIn 392 C dL_law_33 (nI 6) rfl (by decide +kernel) (by decide +kernel) (off := 359) (by decide +kernel) (by decide) (law_c6 C S h6 R next)
      · exact z_swIn 405 C dL_law_33 (nI 7) rfl (by decide +kernel) (by decide +kernel) (off := 372) (by decide +kernel) (by decide) (law_c7 C S h6 R next)
      · exact z_swIn 428 C dL_law_33 (nI 8) rfl (by decide +kernel) (by decide +kernel) (off := 395) (by decide +kernel) (by decide) (law_c8 C S h6 R next)
      · exact z_swIn 451 C dL_law_33 (nI 9) rfl (by decide +kernel) (by decide +kernel) (off := 418) (by decide +kernel) (by decide) (law_c9 C S h6 R next)
      · exact z_swIn 484 C dL_law_33 (nI 10) rfl (by decide +kernel) (by decide +kernel) (off := 451) (by decide +kernel) (by decide) (law_c10 C S h6 R next)
      · exact z_swIn 517 C dL_law_33 (nI 11) rfl (by decide +kernel) (by decide +kernel) (off := 484) (by decide +kernel) (by decide) (law_c11 C S h6 R next)
      · exact z_swIn 550 C dL_law_33 (nI 12) rfl (by decide +kernel) (by decide +kernel) (off := 517) (by decide +kernel) (by decide) (law_c12 C S h6 R next)
      · exact z_swIn 563 C dL_law_33 (nI 13) rfl (by decide +kernel) (by decide +kernel) (off := 530) (by decide +kernel) (by decide) (law_c13 C S h6 R next)
      · exact z_swIn 576 C dL_law_33 (nI 14) rfl (by decide +kernel) (by decide +kernel) (off := 543) (by decide +kernel) (by decide) (law_c14 C S h6 R next)
      · exact z_swIn 609 C dL_law_33 (nI 15) rfl (by decide +kernel) (by decide +kernel) (off := 576) (by decide +kernel) (by decide) (law_c15 C S h6 R next)
      · exact z_swIn 632 C dL_law_33 (nI 16) rfl (by decide +kernel) (by decide +kernel) (off := 599) (by decide +kernel) (by decide) (law_c16 C S h6 R next)
      · exact z_swIn 675 C dL_law_33 (nI 17) rfl (by decide +kernel) (by decide +kernel) (off := 642) (by decide +kernel) (by decide) (law_c17 C S h6 R next)
      · exact z_swIn 708 C dL_law_33 (nI 18) rfl (by decide +kernel) (by decide +kernel) (off := 675) (by decide +kernel) (by decide) (law_c18 C S h6 R next)
      · exact z_swIn 741 C dL_law_33 (nI 19) rfl (by decide +kernel) (by decide +kernel) (off := 708) (by decide +kernel) (by decide) (law_c19 C S h6 R next)
      · exact z_swIn 764 C dL_law_33 (nI 20) rfl (by decide +kernel) (by decide +kernel) (off := 731) (by decide +kernel) (by decide) (law_c20 C S h6 R next)
      · exact z_swIn 807 C dL_law_33 (nI 21) rfl (by decide +kernel) (by decide +kernel) (off := 774) (by decide +kernel) (by decide) (law_c21 C S h6 R next)
      · exact z_swIn 840 C dL_law_33 (nI 22) rfl (by decide +kernel) (by decide +kernel) (off := 807) (by decide +kernel) (by decide) (law_c22 C S h6 R next)
      · exact z_swIn 873 C dL_law_33 (nI 23) rfl (by decide +kernel) (by decide +kernel) (off := 840) (by decide +kernel) (by decide) (law_c23 C S h6 R next)
      · exact z_swIn 936 C dL_law_33 (nI 24) rfl (by decide +kernel) (by decide +kernel) (off := 903) (by decide +kernel) (by decide) (law_c24 C S h6 R next)
      · exact z_swIn 989 C dL_law_33 (nI 25) rfl (by decide +kernel) (by decide +kernel) (off := 956) (by decide +kernel) (by decide) (law_c25 C S h6 R next)
      · exact z_swIn 1032 C dL_law_33 (nI 26) rfl (by decide +kernel) (by decide +kernel) (off := 999) (by decide +kernel) (by decide) (law_c26 C S h6 R next)
      · exact z_swIn 1055 C dL_law_33 (nI 27) rfl (by decide +kernel) (by decide +kernel) (off := 1022) (by decide +kernel) (by decide) (law_c27 C S h6 R next)
      · exact z_swIn 1078 C dL_law_33 (nI 28) rfl (by decide +kernel) (by decide +kernel) (off := 1045) (by decide +kernel) (by decide) (law_c28 C S h6 R next)
      · exact z_swIn 1101 C dL_law_33 (nI 29) rfl (by decide +kernel) (by decide +kernel) (off := 1068) (by decide +kernel) (by decide) (law_c29 C S h6 R next)
      · exact z_swIn 1134 C dL_law_33 (nI 30) rfl (by decide +kernel) (by decide +kernel) (off := 1101) (by decide +kernel) (by decide) (law_c30 C S h6 R next)
      · exact z_swIn 1167 C dL_law_33 (nI 31) rfl (by decide +kernel) (by decide +kernel) (off := 1134) (by decide +kernel) (by decide) (law_c31 C S h6 R next)
      · exact z_swIn 1190 C dL_law_33 (nI 32) rfl (by decide +kernel) (by decide +kernel) (off := 1157) (by decide +kernel) (by decide) (law_c32 C S h6 R next)
      · exact z_swIn 1213 C dL_law_33 (nI 33) rfl (by decide +kernel) (by decide +kernel) (off := 1180) (by decide +kernel) (by decide) (law_c33 C S h6 R next)
    · refine z_swOut 1226 C dL_law_33 (Or.inr ?_) (by decide) (next mem R)
      rw [nI_toInt (by omega)]
      omega
end LW
