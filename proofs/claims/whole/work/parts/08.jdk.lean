/-! the library's indexOf, on the one text that is asked -/
section ZJ
variable {l : Launch} {E : ZE} {Γ : ZG} {own : String} {cc : ByteArray} {nL dd pc : Nat} {loc : List (Nat × Value)} {stk : List Value} {mem : ZM} {index : Nat}
theorem zb_ieq {x : Int32} {off : Int} (tgt : Nat) (C : zC E Γ own cc nL dd) (d : decode cc pc = .ok (.ifCond .eq off, 3)) (ht : (pc : Int) + off = (tgt : Int)) (kt : x = 0 → zG l E Γ nL tgt loc stk mem) (kf : ¬ x = 0 → zG l E Γ nL (pc + 3) loc stk mem) : zG l E Γ nL pc loc (.int x :: stk) mem :=
  fun H locs ls hP hS hl => lv_if_eq C.1 C.2.1 d ht (fun hc => kt hc H locs ls hP hS hl) (fun hc => kf hc H locs ls hP hS hl)
theorem zb_ine {x : Int32} {off : Int} (tgt : Nat) (C : zC E Γ own cc nL dd) (d : decode cc pc = .ok (.ifCond .ne off, 3)) (ht : (pc : Int) + off = (tgt : Int)) (kt : ¬ x = 0 → zG l E Γ nL tgt loc stk mem) (kf : x = 0 → zG l E Γ nL (pc + 3) loc stk mem) : zG l E Γ nL pc loc (.int x :: stk) mem :=
  fun H locs ls hP hS hl => lv_if_ne C.1 C.2.1 d ht (fun hc => kt hc H locs ls hP hS hl) (fun hc => kf hc H locs ls hP hS hl)
theorem zb_ilt {x : Int32} {off : Int} (tgt : Nat) (C : zC E Γ own cc nL dd) (d : decode cc pc = .ok (.ifCond .lt off, 3)) (ht : (pc : Int) + off = (tgt : Int)) (kt : x < 0 → zG l E Γ nL tgt loc stk mem) (kf : ¬ x < 0 → zG l E Γ nL (pc + 3) loc stk mem) : zG l E Γ nL pc loc (.int x :: stk) mem :=
  fun H locs ls hP hS hl => lv_if_lt C.1 C.2.1 d ht (fun hc => kt hc H locs ls hP hS hl) (fun hc => kf hc H locs ls hP hS hl)
theorem zb_ne {x y : Int32} {off : Int} (tgt : Nat) (C : zC E Γ own cc nL dd) (d : decode cc pc = .ok (.if_icmp .ne off, 3)) (ht : (pc : Int) + off = (tgt : Int)) (kt : ¬ x = y → zG l E Γ nL tgt loc stk mem) (kf : x = y → zG l E Γ nL (pc + 3) loc stk mem) : zG l E Γ nL pc loc (.int y :: .int x :: stk) mem :=
  fun H locs ls hP hS hl => lv_icmp_ne C.1 C.2.1 d ht (fun hc => kt hc H locs ls hP hS hl) (fun hc => kf hc H locs ls hP hS hl)
theorem zb_lt {x y : Int32} {off : Int} (tgt : Nat) (C : zC E Γ own cc nL dd) (d : decode cc pc = .ok (.if_icmp .lt off, 3)) (ht : (pc : Int) + off = (tgt : Int)) (kt : x < y → zG l E Γ nL tgt loc stk mem) (kf : ¬ x < y → zG l E Γ nL (pc + 3) loc stk mem) : zG l E Γ nL pc loc (.int y :: .int x :: stk) mem :=
  fun H locs ls hP hS hl => lv_icmp_lt C.1 C.2.1 d ht (fun hc => kt hc H locs ls hP hS hl) (fun hc => kf hc H locs ls hP hS hl)
theorem zb_ge {x y : Int32} {off : Int} (tgt : Nat) (C : zC E Γ own cc nL dd) (d : decode cc pc = .ok (.if_icmp .ge off, 3)) (ht : (pc : Int) + off = (tgt : Int)) (kt : y ≤ x → zG l E Γ nL tgt loc stk mem) (kf : ¬ y ≤ x → zG l E Γ nL (pc + 3) loc stk mem) : zG l E Γ nL pc loc (.int y :: .int x :: stk) mem :=
  fun H locs ls hP hS hl => lv_icmp_ge C.1 C.2.1 d ht (fun hc => kt hc H locs ls hP hS hl) (fun hc => kf hc H locs ls hP hS hl)
theorem zb_gt {x y : Int32} {off : Int} (tgt : Nat) (C : zC E Γ own cc nL dd) (d : decode cc pc = .ok (.if_icmp .gt off, 3)) (ht : (pc : Int) + off = (tgt : Int)) (kt : y < x → zG l E Γ nL tgt loc stk mem) (kf : ¬ y < x → zG l E Γ nL (pc + 3) loc stk mem) : zG l E Γ nL pc loc (.int y :: .int x :: stk) mem :=
  fun H locs ls hP hS hl => lv_icmp_gt C.1 C.2.1 d ht (fun hc => kt hc H locs ls hP hS hl) (fun hc => kf hc H locs ls hP hS hl)
theorem zj_istore_n {k : Fin 4} {i : Nat} {x : Int32} (loc' : List (Nat × Value)) (C : zC E Γ own cc nL dd) (d : decode cc pc = .ok (.istore_n k, 1)) (hi : (k : Nat) = i) (hn : i < nL) (hf : loc.filter (fun q => !(q.1 == i) && !(q.1 + 1 == i && q.2.category == 2)) = loc') (kk : zG l E Γ nL (pc + 1) ((i, .int x) :: loc') stk mem) : zG l E Γ nL pc loc (.int x :: stk) mem :=
  fun H locs ls hP hS hl => lv_istore_n C.1 C.2.1 d hi hl hn (congrArg (List.cons (i, Value.int x)) hf) (fun ls' hl' => kk H locs ls' hP hS hl')
theorem zj_istore {i : Nat} {x : Int32} (loc' : List (Nat × Value)) (C : zC E Γ own cc nL dd) (d : decode cc pc = .ok (.istore i, 2)) (hn : i < nL) (hf : loc.filter (fun q => !(q.1 == i) && !(q.1 + 1 == i && q.2.category == 2)) = loc') (kk : zG l E Γ nL (pc + 2) ((i, .int x) :: loc') stk mem) : zG l E Γ nL pc loc (.int x :: stk) mem :=
  fun H locs ls hP hS hl => lv_istore C.1 C.2.1 d hl hn (congrArg (List.cons (i, Value.int x)) hf) (fun ls' hl' => kk H locs ls' hP hS hl')
theorem zj_iinc {i j : Nat} {n : Int} {x cst v : Int32} (loc' : List (Nat × Value)) (C : zC E Γ own cc nL dd) (d : decode cc pc = .ok (.iinc i n, 3)) (hc : Int32.ofInt n = cst) (hv : x + cst = v) (hj : loc[j]? = some (i, .int x)) (hn : i < nL) (hf : loc.filter (fun q => !(q.1 == i) && !(q.1 + 1 == i && q.2.category == 2)) = loc') (kk : zG l E Γ nL (pc + 3) ((i, .int v) :: loc') stk mem) : zG l E Γ nL pc loc stk mem := by
  subst hv
  exact fun H locs ls hP hS hl => lv_iinc (v := x + cst) C.1 C.2.1 d hl hj (congrArg (fun z => x + z) hc) hn (congrArg (List.cons (i, Value.int (x + cst))) hf) (fun ls' hl' => kk H locs ls' hP hS hl')
/-- the text -/
theorem zj_S (C : zC E Γ own cc nL dd) : vk_S 1 [5] [[115, 103, 108, 100, 105]] (fun _ => E.2.2 15) (fun _ => E.2.2 16) (zA E) (gS Γ) (gS Γ).heap := C.2.2.2.2.2.2.2.1.2.2.2.2.2.1.2.1
theorem zj_Z (C : zC E Γ own cc nL dd) : va_Z "java/lang/String" "COMPACT_STRINGS" "Z" (.int 1) (zA E) (gS Γ) (gS Γ).heap := C.2.2.2.2.2.2.2.1.2.2.2.2.2.1.2.2
theorem zj_T (C : zC E Γ own cc nL dd) : va_T .byte (E.2.2 16) 5 (fun j => .int (([115, 103, 108, 100, 105] : List Int32).getD j 0)) (zA E) (gS Γ) (gS Γ).heap := ((zj_S C).1 0 (by decide)).2.2.2
theorem zj_value (C : zC E Γ RJ0 cc nL dd) (d : decode cc pc = .ok (.getfield 9, 3)) (kk : zG l E Γ nL (pc + 3) loc (.ref (E.2.2 16) :: stk) mem) : zG l E Γ nL pc loc (.ref (E.2.2 15) :: stk) mem :=
  fun H locs ls hP hS hl => vk_getf C.1 C.2.1 ((zj_S C).1 0 (by decide)).2.2.1 hS C.2.2.2.1 (C.2.2.2.2.1 _ zw267) (fun _ h9 => h9) d (kk H locs ls hP hS hl)
theorem zj_coder (C : zC E Γ RJ0 cc nL dd) (d : decode cc pc = .ok (.getfield 15, 3)) (kk : zG l E Γ nL (pc + 3) loc (.int 0 :: stk) mem) : zG l E Γ nL pc loc (.ref (E.2.2 15) :: stk) mem :=
  fun H locs ls hP hS hl => vk_getf C.1 C.2.1 ((zj_S C).1 0 (by decide)).2.1 hS C.2.2.2.1 (C.2.2.2.2.1 _ zw273) (fun _ h9 => h9) d (kk H locs ls hP hS hl)
theorem zj_compact (C : zC E Γ RJ0 cc nL dd) (d : decode cc pc = .ok (.getstatic 38, 3)) (kk : zG l E Γ nL (pc + 3) loc (.int 1 :: stk) mem) : zG l E Γ nL pc loc stk mem :=
  fun H locs ls hP hS hl => va_gets C.1 C.2.1 (zj_Z C) hS C.2.2.2.1 (C.2.2.2.2.1 _ zw272) (fun _ h9 => h9) d (kk H locs ls hP hS hl)
theorem zj_len (C : zC E Γ own cc nL dd) (d : decode cc pc = .ok (.arraylength, 1)) (kk : zG l E Γ nL (pc + 1) loc (.int 5 :: stk) mem) : zG l E Γ nL pc loc (.ref (E.2.2 16) :: stk) mem :=
  fun H locs ls hP hS hl => va_tlen C.1 C.2.1 (zj_T C) hS (v := 5) rfl d (kk H locs ls hP hS hl)
theorem zj_byte {i v : Int32} (C : zC E Γ own cc nL dd) (d : decode cc pc = .ok (.baload, 1)) (hi : vp_in i 5) (hv : ([115, 103, 108, 100, 105] : List Int32).getD i.toNatClampNeg 0 = v) (kk : zG l E Γ nL (pc + 1) loc (.int v :: stk) mem) : zG l E Γ nL pc loc (.int i :: .ref (E.2.2 16) :: stk) mem :=
  fun H locs ls hP hS hl => va_tb C.1 C.2.1 (zj_T C) hS hi (congrArg Value.int hv) d (kk H locs ls hP hS hl)
theorem zj_ret {v : Int32} {ty : FieldType} (C : zC E Γ own cc nL dd) (d : decode cc pc = .ok (.ireturn, 1)) (hb : narrow ty (.int v) = .int v) (q : zRq E Γ (some ty) (some (.int v)) mem) : zG l E Γ nL pc loc [.int v] mem := by
  intro H locs ls hP hS hl
  obtain ⟨q1, q2, q3, q4, q5⟩ := q
  rw [q3, q4, q5]
  exact W.zret C.1 C.2.1 q1 hb (fun t ht hW => ⟨rfl, by rw [ht]; exact hP, hS.F ht⟩) hS.2.2 d q2
/-- a method of the text -/
theorem zj_call {n maxL d' : Nat} {y : MethodName} {bytes : ByteArray} {ret : Option FieldType} {v : Value} {mem' : ZM} (As rest : List Value) (C : zC E Γ own cc nL dd) (d : decode cc pc = .ok (.invokevirtual index, 3)) (hcl : y.cls = RJ0) (cw : zCW own index y bytes maxL ret n) (hin : Cond.instanceMethod y ∈ wsL_law) (hse : Cond.selects y.cls y y ∈ wsL_law)
    (hd : (d' + 1 ≤ dd ∧ 8 + (maxL + 11) + 40 * d' ≤ 40 * dd) ∧ As.length = n ∧ (rest.map fun v => v.category).sum ≤ 8) (hst : stk = As.reverse ++ .ref (E.2.2 15) :: rest) (M : zMet l E y bytes maxL ret d' (.ref (E.2.2 15) :: As) mem (some v) mem')
    (kk : zG l E Γ nL (pc + 3) loc (v :: rest) mem') : zG l E Γ nL pc loc stk mem := by
  intro H locs ls hP hS hl
  obtain ⟨w1, w2, w3, w4⟩ := cw
  have hts := C.2.2.2.2.1
  refine z_back hS (va_runV (As := As) (rest := rest) (n := n) (Ts := wsL_law) ⟨C.1, C.2.1, C.2.2.1, C.2.2.2.1, hts⟩ M
    ⟨callB_of n hts (z_good w3) rfl rfl rfl (hts _ w2) (hts _ w1) w4 ⟨Nat.le_trans hd.1.1 C.2.2.2.2.2.2.2.2.1, Nat.le_trans hd.1.2 C.2.2.2.2.2.2.2.2.2.1⟩, hts _ hin, hts _ hse⟩
    ⟨z_blind E _ mem, by rw [hcl]; exact vk_recv (i := 0) (zj_S C) (by decide) hS, fun U hU hW => ⟨rfl, z_pre C hP hS hU hW⟩⟩ rfl hd.2.1 hl.1 hst (lv_room hd.2.2) d
    ⟨C.2.2.2.2.2.2.2.2.2.2.1, C.2.2.2.2.2.2.2.2.2.2.2⟩) (fun H1 locs1 hP1 hS1 => kk H1 locs1 ls hP1 hS1 hl)
end ZJ
section ZJM
variable {l : Launch} {E : ZE} {mem : ZM}
theorem sJ_coder : zMet l E yJ0_coder_7d493 cJ0_coder_7d493 1 (some .byte) 0 [.ref (E.2.2 15)] mem (some (.int 0)) mem := by
  refine z_enter (by decide) (Nat.le_of_ble_eq_true rfl) (fun Γ C Rq => ?_)
  have C : zC E Γ RJ0 cJ0_coder_7d493 1 0 := C
  show zG l E Γ 1 0 [(0, .ref (E.2.2 15))] [] mem
  refine zj_compact C dJ0_coder_7d493_0 ?_
  refine zb_ieq 13 C dJ0_coder_7d493_3 (by decide) (fun h => absurd h (by decide)) (fun _ => ?_)
  refine z_aload_n C dJ0_coder_7d493_6 rfl (j := 0) rfl ?_
  refine zj_coder C dJ0_coder_7d493_7 ?_
  refine z_goto 14 C dJ0_coder_7d493_10 (by decide) ?_
  exact zj_ret C dJ0_coder_7d493_14 (by decide +kernel) Rq
theorem sJ_isLatin1 : zMet l E yJ0_isLatin1_aae02 cJ0_isLatin1_aae02 1 (some .boolean) 0 [.ref (E.2.2 15)] mem (some (.int 1)) mem := by
  refine z_enter (by decide) (Nat.le_of_ble_eq_true rfl) (fun Γ C Rq => ?_)
  have C : zC E Γ RJ0 cJ0_isLatin1_aae02 1 0 := C
  show zG l E Γ 1 0 [(0, .ref (E.2.2 15))] [] mem
  refine zj_compact C dJ0_isLatin1_aae02_0 ?_
  refine zb_ieq 17 C dJ0_isLatin1_aae02_3 (by decide) (fun h => absurd h (by decide)) (fun _ => ?_)
  refine z_aload_n C dJ0_isLatin1_aae02_6 rfl (j := 0) rfl ?_
  refine zj_coder C dJ0_isLatin1_aae02_7 ?_
  refine zb_ine 17 C dJ0_isLatin1_aae02_10 (by decide) (fun h => absurd rfl h) (fun _ => ?_)
  refine z_iconst (v := 1) C dJ0_isLatin1_aae02_13 zc1 ?_
  refine z_goto 18 C dJ0_isLatin1_aae02_14 (by decide) ?_
  exact z_zret C dJ0_isLatin1_aae02_18 zbl1 Rq
theorem zk_J0_335 : zCW RJ0 335 yJ0_coder_7d493 cJ0_coder_7d493 1 (some .byte) 0 := ⟨zw278, zw261, zw281, by decide +kernel⟩
theorem zk_J0_505 : zCW RJ0 505 yJ0_length_8abf5 cJ0_length_8abf5 1 (some .int) 0 := ⟨zw274, zw261, zw277, by decide +kernel⟩
theorem zk_J0_492 : zCW RJ0 492 yJ0_isLatin1_aae02 cJ0_isLatin1_aae02 1 (some .boolean) 0 := ⟨zw268, zw261, zw271, by decide +kernel⟩
theorem zk_J0_633 : zCW RJ0 633 yJ0_indexOf_7cf53 cJ0_indexOf_7cf53 3 (some .int) 2 := ⟨zw263, zw261, zw266, by decide +kernel⟩
theorem zk_J0_637 : zCW RJ0 637 yJ1_indexOf_4cfef cJ1_indexOf_4cfef 4 (some .int) 4 := ⟨zw282, zw284, zw285, by decide +kernel⟩
theorem zk_J1_88 : zCW RJ1 88 yJ1_canEncode_9a6ad cJ1_canEncode_9a6ad 1 (some .boolean) 1 := ⟨zw293, zw284, zw295, by decide +kernel⟩
theorem zk_J1_95 : zCW RJ1 95 yJ1_indexOfChar_4cfef cJ1_indexOfChar_4cfef 6 (some .int) 4 := ⟨zw296, zw284, zw298, by decide +kernel⟩
theorem sJ_length : zMet l E yJ0_length_8abf5 cJ0_length_8abf5 1 (some .int) 1 [.ref (E.2.2 15)] mem (some (.int 5)) mem := by
  refine z_enter (by decide) (Nat.le_of_ble_eq_true rfl) (fun Γ C Rq => ?_)
  have C : zC E Γ RJ0 cJ0_length_8abf5 1 1 := C
  show zG l E Γ 1 0 [(0, .ref (E.2.2 15))] [] mem
  refine z_aload_n C dJ0_length_8abf5_0 rfl (j := 0) rfl ?_
  refine zj_value C dJ0_length_8abf5_1 ?_
  refine zj_len C dJ0_length_8abf5_4 ?_
  refine z_aload_n C dJ0_length_8abf5_5 rfl (j := 0) rfl ?_
  refine zj_call [] [.int 5] C dJ0_length_8abf5_6 rfl zk_J0_335 zw279 zw280 ⟨⟨by decide, by decide⟩, rfl, Nat.le_of_ble_eq_true rfl⟩ rfl sJ_coder ?_
  refine z_ishr C dJ0_length_8abf5_9 ?_
  exact z_iret C dJ0_length_8abf5_10 Rq
theorem sJ_canEncode (v : Int32) : zMet l E yJ1_canEncode_9a6ad cJ1_canEncode_9a6ad 1 (some .boolean) 0 [.int v] mem (some (.int (if v < 0 then 0 else if 255 < v then 0 else 1))) mem := by
  refine z_enter (by decide) (Nat.le_of_ble_eq_true rfl) (fun Γ C Rq => ?_)
  have C : zC E Γ RJ1 cJ1_canEncode_9a6ad 1 0 := C
  show zG l E Γ 1 0 [(0, .int v)] [] mem
  refine z_iload_n C dJ1_canEncode_9a6ad_0 rfl (j := 0) rfl ?_
  refine zb_ilt 15 C dJ1_canEncode_9a6ad_1 (by decide) (fun h => ?_) (fun h => ?_)
  · rw [if_pos h] at Rq
    refine z_iconst (v := 0) C dJ1_canEncode_9a6ad_15 zc0 ?_
    exact z_zret C dJ1_canEncode_9a6ad_16 zbl0 Rq
  · rw [if_neg h] at Rq
    refine z_iload_n C dJ1_canEncode_9a6ad_4 rfl (j := 0) rfl ?_
    refine z_sipush (v := 255) C dJ1_canEncode_9a6ad_5 (by decide +kernel) ?_
    refine zb_gt 15 C dJ1_canEncode_9a6ad_8 (by decide) (fun h => ?_) (fun h => ?_)
    · rw [if_pos h] at Rq
      refine z_iconst (v := 0) C dJ1_canEncode_9a6ad_15 zc0 ?_
      exact z_zret C dJ1_canEncode_9a6ad_16 zbl0 Rq
    · rw [if_neg h] at Rq
      refine z_iconst (v := 1) C dJ1_canEncode_9a6ad_11 zc1 ?_
      refine z_goto 16 C dJ1_canEncode_9a6ad_12 (by decide) ?_
      exact z_zret C dJ1_canEncode_9a6ad_16 zbl1 Rq
/-- where a byte stands, from place i on -/
def jx (c : Int32) : Nat → Nat → Int32
  | 0, _ => -1
  | k + 1, i => if ([115, 103, 108, 100, 105] : List Int32).getD i 0 = c then Int32.ofNat i else jx c k (i + 1)
theorem jx_loop {Γ : ZG} {c v : Int32} (C : zC E Γ RJ1 cJ1_indexOfChar_4cfef 6 0) : ∀ (k i : Nat), k + i = 5 → zRq E Γ (some .int) (some (.int (jx c k i))) mem → zG l E Γ 6 7 [(5, .int (Int32.ofNat i)), (4, .int c), (0, .ref (E.2.2 16)), (1, .int v), (2, .int 0), (3, .int 5)] [] mem := by
  intro k
  induction k with
  | zero =>
    intro i hi Rq
    have : i = 5 := by omega
    subst this
    refine z_iload C dJ1_indexOfChar_4cfef_7 (j := 0) rfl ?_
    refine z_iload_n C dJ1_indexOfChar_4cfef_9 rfl (j := 5) rfl ?_
    refine zb_ge 31 C dJ1_indexOfChar_4cfef_10 (by decide) (fun _ => ?_) (fun h => absurd (by decide) h)
    refine z_iconst (v := -1) C dJ1_indexOfChar_4cfef_31 zcm1 ?_
    exact z_iret C dJ1_indexOfChar_4cfef_32 Rq
  | succ k ih =>
    intro i hi Rq
    have h5 : i < 5 := by omega
    have hlt : ¬ (5 : Int32) ≤ Int32.ofNat i := by
      have : ∀ i, i < 5 → ¬ (5 : Int32) ≤ Int32.ofNat i := by decide
      exact this i h5
    have hcl : (Int32.ofNat i).toNatClampNeg = i := by
      have : ∀ i, i < 5 → (Int32.ofNat i).toNatClampNeg = i := by decide
      exact this i h5
    have h1 : Int32.ofNat i + 1 = Int32.ofNat (i + 1) := by
      have : ∀ i, i < 5 → Int32.ofNat i + 1 = Int32.ofNat (i + 1) := by decide
      exact this i h5
    have hin : vp_in (Int32.ofNat i) 5 := by
      have : ∀ i, i < 5 → zin (Int32.ofNat i) 5 = true := by decide
      exact zin_in (this i h5)
    refine z_iload C dJ1_indexOfChar_4cfef_7 (j := 0) rfl ?_
    refine z_iload_n C dJ1_indexOfChar_4cfef_9 rfl (j := 5) rfl ?_
    refine zb_ge 31 C dJ1_indexOfChar_4cfef_10 (by decide) (fun h => absurd h hlt) (fun _ => ?_)
    refine z_aload_n C dJ1_indexOfChar_4cfef_13 rfl (j := 2) rfl ?_
    refine z_iload C dJ1_indexOfChar_4cfef_14 (j := 0) rfl ?_
    refine zj_byte C dJ1_indexOfChar_4cfef_16 hin (congrArg (fun q => ([115, 103, 108, 100, 105] : List Int32).getD q 0) hcl) ?_
    refine z_iload C dJ1_indexOfChar_4cfef_17 (j := 1) rfl ?_
    refine zb_ne 25 C dJ1_indexOfChar_4cfef_19 (by decide) (fun h => ?_) (fun h => ?_)
    · have Rq' : zRq E Γ (some .int) (some (.int (jx c k (i + 1)))) mem := by
        have e : jx c (k + 1) i = jx c k (i + 1) := if_neg h
        rw [e] at Rq; exact Rq
      refine zj_iinc [(4, .int c), (0, .ref (E.2.2 16)), (1, .int v), (2, .int 0), (3, .int 5)] C dJ1_indexOfChar_4cfef_25 zc1 h1 (j := 0) rfl (by decide) rfl ?_
      refine z_goto 7 C dJ1_indexOfChar_4cfef_28 (by decide) ?_
      exact ih (i + 1) (by omega) Rq'
    · have e : jx c (k + 1) i = Int32.ofNat i := if_pos h
      rw [e] at Rq
      refine z_iload C dJ1_indexOfChar_4cfef_22 (j := 0) rfl ?_
      exact z_iret C dJ1_indexOfChar_4cfef_24 Rq
theorem sJ_indexOfChar (v : Int32) : zMet l E yJ1_indexOfChar_4cfef cJ1_indexOfChar_4cfef 6 (some .int) 0 [.ref (E.2.2 16), .int v, .int 0, .int 5] mem (some (.int (jx v.toInt8.toInt32 5 0))) mem := by
  refine z_enter (by decide) (Nat.le_of_ble_eq_true rfl) (fun Γ C Rq => ?_)
  have C : zC E Γ RJ1 cJ1_indexOfChar_4cfef 6 0 := C
  show zG l E Γ 6 0 [(0, .ref (E.2.2 16)), (1, .int v), (2, .int 0), (3, .int 5)] [] mem
  refine z_iload_n C dJ1_indexOfChar_4cfef_0 rfl (j := 1) rfl ?_
  refine z_i2b C dJ1_indexOfChar_4cfef_1 ?_
  refine zj_istore [(0, .ref (E.2.2 16)), (1, .int v), (2, .int 0), (3, .int 5)] C dJ1_indexOfChar_4cfef_2 (by decide) rfl ?_
  refine z_iload_n C dJ1_indexOfChar_4cfef_4 rfl (j := 3) rfl ?_
  refine zj_istore [(4, .int v.toInt8.toInt32), (0, .ref (E.2.2 16)), (1, .int v), (2, .int 0), (3, .int 5)] C dJ1_indexOfChar_4cfef_5 (by decide) rfl ?_
  exact jx_loop C 5 0 rfl Rq
theorem jx_enc {v : Int32} (h1 : ¬ v < 0) (h2 : ¬ 255 < v) : jx v.toInt8.toInt32 5 0 = zidx v := by
  have hall : ∀ n, n < 256 → jx (nI n).toInt8.toInt32 5 0 = zidx (nI n) := by decide +kernel
  obtain ⟨n, hn, rfl⟩ := nI_of h1
  have : n < 256 := by
    apply Classical.byContradiction
    intro hc
    apply h2
    rw [show (255 : Int32) = nI 255 from rfl, nI_ltI (by decide) hn]
    omega
  exact hall n this
theorem jx_no {v : Int32} (h : v < 0 ∨ 255 < v) : zidx v = -1 := by
  have g : ∀ w : Int32, ¬ (w < 0 ∨ 255 < w) → v ≠ w := fun w hw e => hw (e ▸ h)
  unfold zidx
  rw [if_neg (g 115 (by decide)), if_neg (g 103 (by decide)), if_neg (g 108 (by decide)), if_neg (g 100 (by decide)), if_neg (g 105 (by decide))]
theorem sJ_indexOf1 (v : Int32) : zMet l E yJ1_indexOf_4cfef cJ1_indexOf_4cfef 4 (some .int) 1 [.ref (E.2.2 16), .int v, .int 0, .int 5] mem (some (.int (zidx v))) mem := by
  refine z_enter (by decide) (Nat.le_of_ble_eq_true rfl) (fun Γ C Rq => ?_)
  have C : zC E Γ RJ1 cJ1_indexOf_4cfef 4 1 := C
  show zG l E Γ 4 0 [(0, .ref (E.2.2 16)), (1, .int v), (2, .int 0), (3, .int 5)] [] mem
  refine z_iload_n C dJ1_indexOf_4cfef_0 rfl (j := 1) rfl ?_
  refine z_callSi [.int v] [] C dJ1_indexOf_4cfef_1 zk_J1_88 zw294 ⟨⟨by decide, by decide⟩, rfl, Nat.le_of_ble_eq_true rfl⟩ rfl (sJ_canEncode v) ?_
  refine zb_ine 9 C dJ1_indexOf_4cfef_4 (by decide) (fun h => ?_) (fun h => ?_)
  · have h1 : ¬ v < 0 := fun e => h (if_pos e)
    have h2 : ¬ 255 < v := fun e => h (by rw [if_neg h1, if_pos e])
    refine z_iload_n C dJ1_indexOf_4cfef_9 rfl (j := 2) rfl ?_
    refine z_iconst (v := 0) C dJ1_indexOf_4cfef_10 zc0 ?_
    refine z_mmax C dJ1_indexOf_4cfef_11 zw286 zw287 zw288 zw289 ⟨by decide, Nat.le_of_ble_eq_true rfl⟩ ?_
    refine zj_istore_n [(0, .ref (E.2.2 16)), (1, .int v), (3, .int 5)] C dJ1_indexOf_4cfef_14 rfl (by decide) rfl ?_
    refine z_iload_n C dJ1_indexOf_4cfef_15 rfl (j := 3) rfl ?_
    refine z_aload_n C dJ1_indexOf_4cfef_16 rfl (j := 1) rfl ?_
    refine zj_len C dJ1_indexOf_4cfef_17 ?_
    refine z_mmin C dJ1_indexOf_4cfef_18 zw290 zw291 zw288 zw292 ⟨by decide, Nat.le_of_ble_eq_true rfl⟩ ?_
    refine zj_istore_n [(2, .int (if (0 : Int32) < 0 then 0 else 0)), (0, .ref (E.2.2 16)), (1, .int v)] C dJ1_indexOf_4cfef_21 rfl (by decide) rfl ?_
    refine z_iload_n C dJ1_indexOf_4cfef_22 rfl (j := 1) rfl ?_
    refine z_iload_n C dJ1_indexOf_4cfef_23 rfl (j := 0) rfl ?_
    refine zb_lt 29 C dJ1_indexOf_4cfef_24 (by decide) (fun _ => ?_) (fun h => absurd (by decide) h)
    refine z_aload_n C dJ1_indexOf_4cfef_29 rfl (j := 2) rfl ?_
    refine z_iload_n C dJ1_indexOf_4cfef_30 rfl (j := 3) rfl ?_
    refine z_iload_n C dJ1_indexOf_4cfef_31 rfl (j := 1) rfl ?_
    refine z_iload_n C dJ1_indexOf_4cfef_32 rfl (j := 0) rfl ?_
    refine z_callSi [.ref (E.2.2 16), .int v, .int 0, .int 5] [] C dJ1_indexOf_4cfef_33 zk_J1_95 zw297 ⟨⟨by decide, by decide⟩, rfl, Nat.le_of_ble_eq_true rfl⟩ rfl (sJ_indexOfChar v) ?_
    rw [jx_enc h1 h2]
    exact z_iret C dJ1_indexOf_4cfef_36 Rq
  · have hno : v < 0 ∨ 255 < v := by
      by_cases h1 : v < 0
      · exact Or.inl h1
      · by_cases h2 : 255 < v
        · exact Or.inr h2
        · rw [if_neg h1, if_neg h2] at h; exact absurd h (by decide)
    rw [jx_no hno] at Rq
    refine z_iconst (v := -1) C dJ1_indexOf_4cfef_7 zcm1 ?_
    exact z_iret C dJ1_indexOf_4cfef_8 Rq
theorem sJ_indexOf2 (v : Int32) : zMet l E yJ0_indexOf_7cf53 cJ0_indexOf_7cf53 3 (some .int) 3 [.ref (E.2.2 15), .int v, .int 0] mem (some (.int (zidx v))) mem := by
  refine z_enter (by decide) (Nat.le_of_ble_eq_true rfl) (fun Γ C Rq => ?_)
  have C : zC E Γ RJ0 cJ0_indexOf_7cf53 3 3 := C
  show zG l E Γ 3 0 [(0, .ref (E.2.2 15)), (1, .int v), (2, .int 0)] [] mem
  refine z_aload_n C dJ0_indexOf_7cf53_0 rfl (j := 0) rfl ?_
  refine zj_call [] [] C dJ0_indexOf_7cf53_1 rfl zk_J0_492 zw269 zw270 ⟨⟨by decide, by decide⟩, rfl, Nat.le_of_ble_eq_true rfl⟩ rfl sJ_isLatin1 ?_
  refine zb_ieq 23 C dJ0_indexOf_7cf53_4 (by decide) (fun h => absurd h (by decide)) (fun _ => ?_)
  refine z_aload_n C dJ0_indexOf_7cf53_7 rfl (j := 0) rfl ?_
  refine zj_value C dJ0_indexOf_7cf53_8 ?_
  refine z_iload_n C dJ0_indexOf_7cf53_11 rfl (j := 1) rfl ?_
  refine z_iload_n C dJ0_indexOf_7cf53_12 rfl (j := 2) rfl ?_
  refine z_aload_n C dJ0_indexOf_7cf53_13 rfl (j := 0) rfl ?_
  refine zj_call [] [.int 0, .int v, .ref (E.2.2 16)] C dJ0_indexOf_7cf53_14 rfl zk_J0_505 zw275 zw276 ⟨⟨by decide, by decide⟩, rfl, Nat.le_of_ble_eq_true rfl⟩ rfl sJ_length ?_
  refine z_callSi [.ref (E.2.2 16), .int v, .int 0, .int 5] [] C dJ0_indexOf_7cf53_17 zk_J0_637 zw283 ⟨⟨by decide, by decide⟩, rfl, Nat.le_of_ble_eq_true rfl⟩ rfl (sJ_indexOf1 v) ?_
  refine z_goto 36 C dJ0_indexOf_7cf53_20 (by decide) ?_
  exact z_iret C dJ0_indexOf_7cf53_36 Rq
theorem sJ_indexOf (v : Int32) : zMet l E yJ0_indexOf_0f7a4 cJ0_indexOf_0f7a4 2 (some .int) 5 [.ref (E.2.2 15), .int v] mem (some (.int (zidx v))) mem := by
  refine z_enter (by decide) (Nat.le_of_ble_eq_true rfl) (fun Γ C Rq => ?_)
  have C : zC E Γ RJ0 cJ0_indexOf_0f7a4 2 5 := C
  show zG l E Γ 2 0 [(0, .ref (E.2.2 15)), (1, .int v)] [] mem
  refine z_aload_n C dJ0_indexOf_0f7a4_0 rfl (j := 0) rfl ?_
  refine z_iload_n C dJ0_indexOf_0f7a4_1 rfl (j := 1) rfl ?_
  refine z_iconst (v := 0) C dJ0_indexOf_0f7a4_2 zc0 ?_
  refine zj_call [.int v, .int 0] [] C dJ0_indexOf_0f7a4_3 rfl zk_J0_633 zw264 zw265 ⟨⟨by decide, by decide⟩, rfl, Nat.le_of_ble_eq_true rfl⟩ rfl (sJ_indexOf2 v) ?_
  exact z_iret C dJ0_indexOf_0f7a4_6 Rq
end ZJM
theorem z_sidx {l : Launch} {E : ZE} {Γ : ZG} {own : String} {cc : ByteArray} {nL dd pc : Nat} {loc : List (Nat × Value)} {mem : ZM} {index : Nat} {v : Int32} {rest : List Value} (C : zC E Γ own cc nL dd) (d : decode cc pc = .ok (.invokevirtual index, 3)) (hw : Cond.methodLink own index yJ0_indexOf_0f7a4 ∈ wsL_law) (hd : 8 ≤ dd ∧ (rest.map fun v => v.category).sum ≤ 8) (kk : zG l E Γ nL (pc + 3) loc (.int (zidx v) :: rest) mem) : zG l E Γ nL pc loc (.int v :: .ref (E.2.2 15) :: rest) mem :=
  zj_call (n := 1) [.int v] rest C d rfl ⟨hw, zw261, zw262, by decide +kernel⟩ zw259 zw260 ⟨⟨by omega, by omega⟩, rfl, hd.2⟩ rfl (sJ_indexOf v) kk
