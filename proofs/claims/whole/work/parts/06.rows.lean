section ZROWS
variable {l : Launch} {E : ZE} {Γ : ZG} {own : String} {cc : ByteArray} {nL dd pc : Nat} {loc : List (Nat × Value)} {stk : List Value} {mem : ZM}
variable {α : Type} {t : α}
theorem z_iconst {n : Int} {v : Int32} (C : zC E Γ own cc nL dd) (d : decode cc pc = .ok (.iconst n, 1)) (hv : Int32.ofInt n = v) (kk : zG l E Γ nL (pc + 1) loc (.int v :: stk) mem) : zG l E Γ nL pc loc (stk) mem :=
  fun H locs ls hP hS hl => lv_iconst C.1 C.2.1 d hv (kk H locs ls hP hS hl)
theorem z_bipush {n : Int} {v : Int32} (C : zC E Γ own cc nL dd) (d : decode cc pc = .ok (.bipush n, 2)) (hv : (Int8.ofInt n).toInt32 = v) (kk : zG l E Γ nL (pc + 2) loc (.int v :: stk) mem) : zG l E Γ nL pc loc (stk) mem :=
  fun H locs ls hP hS hl => lv_bipush C.1 C.2.1 d hv (kk H locs ls hP hS hl)
theorem z_sipush {n : Int} {v : Int32} (C : zC E Γ own cc nL dd) (d : decode cc pc = .ok (.sipush n, 3)) (hv : (Int16.ofInt n).toInt32 = v) (kk : zG l E Γ nL (pc + 3) loc (.int v :: stk) mem) : zG l E Γ nL pc loc (stk) mem :=
  fun H locs ls hP hS hl => lv_sipush C.1 C.2.1 d hv (kk H locs ls hP hS hl)
theorem z_lconst {n : Fin 2} {v : Int64} (C : zC E Γ own cc nL dd) (d : decode cc pc = .ok (.lconst n, 1)) (hv : Int64.ofNat (n : Nat) = v) (kk : zG l E Γ nL (pc + 1) loc (.long v :: stk) mem) : zG l E Γ nL pc loc (stk) mem :=
  fun H locs ls hP hS hl => lv_lconst C.1 C.2.1 d hv (kk H locs ls hP hS hl)
theorem z_ldc {index : Nat} {v : Int32} (C : zC E Γ own cc nL dd) (d : decode cc pc = .ok (.ldc index, 2)) (hw : Cond.constant own index v ∈ wsL_law) (kk : zG l E Γ nL (pc + 2) loc (.int v :: stk) mem) : zG l E Γ nL pc loc (stk) mem :=
  fun H locs ls hP hS hl => lv_ldc C.1 C.2.1 C.2.2.2.1 (C.2.2.2.2.1 _ hw) d (kk H locs ls hP hS hl)
theorem z_ldcw {index : Nat} {v : Int32} (C : zC E Γ own cc nL dd) (d : decode cc pc = .ok (.ldc_w index, 3)) (hw : Cond.constant own index v ∈ wsL_law) (kk : zG l E Γ nL (pc + 3) loc (.int v :: stk) mem) : zG l E Γ nL pc loc (stk) mem :=
  fun H locs ls hP hS hl => lv_ldcw C.1 C.2.1 C.2.2.2.1 (C.2.2.2.2.1 _ hw) d (kk H locs ls hP hS hl)
theorem z_ldc2 {index : Nat} {v : Int64} (C : zC E Γ own cc nL dd) (d : decode cc pc = .ok (.ldc2_w index, 3)) (hw : Cond.constantLong own index v ∈ wsL_law) (kk : zG l E Γ nL (pc + 3) loc (.long v :: stk) mem) : zG l E Γ nL pc loc (stk) mem :=
  fun H locs ls hP hS hl => lv_ldc2 C.1 C.2.1 C.2.2.2.1 (C.2.2.2.2.1 _ hw) d (kk H locs ls hP hS hl)
theorem z_iload_n {k : Fin 4} {i j : Nat} {x : Int32} (C : zC E Γ own cc nL dd) (d : decode cc pc = .ok (.iload_n k, 1)) (hi : (k : Nat) = i) (hj : loc[j]? = some (i, .int x)) (kk : zG l E Γ nL (pc + 1) loc (.int x :: stk) mem) : zG l E Γ nL pc loc (stk) mem :=
  fun H locs ls hP hS hl => lv_iload_n C.1 C.2.1 d hi (lv_at hl j hj) (kk H locs ls hP hS hl)
theorem z_iload {i j : Nat} {x : Int32} (C : zC E Γ own cc nL dd) (d : decode cc pc = .ok (.iload i, 2)) (hj : loc[j]? = some (i, .int x)) (kk : zG l E Γ nL (pc + 2) loc (.int x :: stk) mem) : zG l E Γ nL pc loc (stk) mem :=
  fun H locs ls hP hS hl => lv_iload C.1 C.2.1 d (lv_at hl j hj) (kk H locs ls hP hS hl)
theorem z_lload_n {k : Fin 4} {i j : Nat} {x : Int64} (C : zC E Γ own cc nL dd) (d : decode cc pc = .ok (.lload_n k, 1)) (hi : (k : Nat) = i) (hj : loc[j]? = some (i, .long x)) (kk : zG l E Γ nL (pc + 1) loc (.long x :: stk) mem) : zG l E Γ nL pc loc (stk) mem :=
  fun H locs ls hP hS hl => lv_lload_n C.1 C.2.1 d hi (lv_at hl j hj) (kk H locs ls hP hS hl)
theorem z_lload {i j : Nat} {x : Int64} (C : zC E Γ own cc nL dd) (d : decode cc pc = .ok (.lload i, 2)) (hj : loc[j]? = some (i, .long x)) (kk : zG l E Γ nL (pc + 2) loc (.long x :: stk) mem) : zG l E Γ nL pc loc (stk) mem :=
  fun H locs ls hP hS hl => lv_lload C.1 C.2.1 d (lv_at hl j hj) (kk H locs ls hP hS hl)
theorem z_aload_n {k : Fin 4} {i j : Nat} {x : Nat} (C : zC E Γ own cc nL dd) (d : decode cc pc = .ok (.aload_n k, 1)) (hi : (k : Nat) = i) (hj : loc[j]? = some (i, .ref x)) (kk : zG l E Γ nL (pc + 1) loc (.ref x :: stk) mem) : zG l E Γ nL pc loc (stk) mem :=
  fun H locs ls hP hS hl => lv_aload_n C.1 C.2.1 d hi (lv_at hl j hj) (kk H locs ls hP hS hl)
theorem z_aload {i j : Nat} {x : Nat} (C : zC E Γ own cc nL dd) (d : decode cc pc = .ok (.aload i, 2)) (hj : loc[j]? = some (i, .ref x)) (kk : zG l E Γ nL (pc + 2) loc (.ref x :: stk) mem) : zG l E Γ nL pc loc (stk) mem :=
  fun H locs ls hP hS hl => lv_aload C.1 C.2.1 d (lv_at hl j hj) (kk H locs ls hP hS hl)
theorem z_istore_n {K : Int32 → Option α} {k : Fin 4} {i : Nat} {x : Int32} (loc' : List (Nat × Value)) (C : zC E Γ own cc nL dd) (d : decode cc pc = .ok (.istore_n k, 1)) (h : zlet x K = some t) (hi : (k : Nat) = i) (hn : i < nL) (hf : loc.filter (fun q => !(q.1 == i) && !(q.1 + 1 == i && q.2.category == 2)) = loc') (kk : ∀ v : Int32, K v = some t → zG l E Γ nL (pc + 1) ((i, .int v) :: loc') stk mem) : zG l E Γ nL pc loc (.int x :: stk) mem :=
  fun H locs ls hP hS hl => lv_istore_n C.1 C.2.1 d hi hl hn (congrArg (List.cons (i, Value.int x)) hf) (fun ls' hl' => kk x h H locs ls' hP hS hl')
theorem z_istore {K : Int32 → Option α} {i : Nat} {x : Int32} (loc' : List (Nat × Value)) (C : zC E Γ own cc nL dd) (d : decode cc pc = .ok (.istore i, 2)) (h : zlet x K = some t) (hn : i < nL) (hf : loc.filter (fun q => !(q.1 == i) && !(q.1 + 1 == i && q.2.category == 2)) = loc') (kk : ∀ v : Int32, K v = some t → zG l E Γ nL (pc + 2) ((i, .int v) :: loc') stk mem) : zG l E Γ nL pc loc (.int x :: stk) mem :=
  fun H locs ls hP hS hl => lv_istore C.1 C.2.1 d hl hn (congrArg (List.cons (i, Value.int x)) hf) (fun ls' hl' => kk x h H locs ls' hP hS hl')
theorem z_lstore_n {K : Int64 → Option α} {k : Fin 4} {i : Nat} {x : Int64} (loc' : List (Nat × Value)) (C : zC E Γ own cc nL dd) (d : decode cc pc = .ok (.lstore_n k, 1)) (h : zlet x K = some t) (hi : (k : Nat) = i) (hn : i + 1 < nL) (hf : loc.filter (fun q => !(q.1 == i) && (!(q.1 == i + 1) && !(q.1 + 1 == i && q.2.category == 2))) = loc') (kk : ∀ v : Int64, K v = some t → zG l E Γ nL (pc + 1) ((i, .long v) :: loc') stk mem) : zG l E Γ nL pc loc (.long x :: stk) mem :=
  fun H locs ls hP hS hl => lv_lstore_n C.1 C.2.1 d hi hl hn (congrArg (List.cons (i, Value.long x)) hf) (fun ls' hl' => kk x h H locs ls' hP hS hl')
theorem z_lstore {K : Int64 → Option α} {i : Nat} {x : Int64} (loc' : List (Nat × Value)) (C : zC E Γ own cc nL dd) (d : decode cc pc = .ok (.lstore i, 2)) (h : zlet x K = some t) (hn : i + 1 < nL) (hf : loc.filter (fun q => !(q.1 == i) && (!(q.1 == i + 1) && !(q.1 + 1 == i && q.2.category == 2))) = loc') (kk : ∀ v : Int64, K v = some t → zG l E Γ nL (pc + 2) ((i, .long v) :: loc') stk mem) : zG l E Γ nL pc loc (.long x :: stk) mem :=
  fun H locs ls hP hS hl => lv_lstore C.1 C.2.1 d hl hn (congrArg (List.cons (i, Value.long x)) hf) (fun ls' hl' => kk x h H locs ls' hP hS hl')
theorem z_astore_n {k : Fin 4} {i : Nat} {x : Nat} (loc' : List (Nat × Value)) (C : zC E Γ own cc nL dd) (d : decode cc pc = .ok (.astore_n k, 1)) (hi : (k : Nat) = i) (hn : i < nL) (hf : loc.filter (fun q => !(q.1 == i) && !(q.1 + 1 == i && q.2.category == 2)) = loc') (kk : zG l E Γ nL (pc + 1) ((i, .ref x) :: loc') stk mem) : zG l E Γ nL pc loc (.ref x :: stk) mem :=
  fun H locs ls hP hS hl => lv_astore_n C.1 C.2.1 d hi hl hn (congrArg (List.cons (i, Value.ref x)) hf) (fun ls' hl' => kk H locs ls' hP hS hl')
theorem z_astore {i : Nat} {x : Nat} (loc' : List (Nat × Value)) (C : zC E Γ own cc nL dd) (d : decode cc pc = .ok (.astore i, 2)) (hn : i < nL) (hf : loc.filter (fun q => !(q.1 == i) && !(q.1 + 1 == i && q.2.category == 2)) = loc') (kk : zG l E Γ nL (pc + 2) ((i, .ref x) :: loc') stk mem) : zG l E Γ nL pc loc (.ref x :: stk) mem :=
  fun H locs ls hP hS hl => lv_astore C.1 C.2.1 d hl hn (congrArg (List.cons (i, Value.ref x)) hf) (fun ls' hl' => kk H locs ls' hP hS hl')
theorem z_iinc {K : Int32 → Option α} {i j : Nat} {n : Int} {x cst : Int32} (loc' : List (Nat × Value)) (C : zC E Γ own cc nL dd) (d : decode cc pc = .ok (.iinc i n, 3)) (hc : Int32.ofInt n = cst) (h : zlet (x + cst) K = some t) (hj : loc[j]? = some (i, .int x)) (hn : i < nL) (hf : loc.filter (fun q => !(q.1 == i) && !(q.1 + 1 == i && q.2.category == 2)) = loc') (kk : ∀ v : Int32, K v = some t → zG l E Γ nL (pc + 3) ((i, .int v) :: loc') stk mem) : zG l E Γ nL pc loc stk mem :=
  fun H locs ls hP hS hl => lv_iinc (v := x + cst) C.1 C.2.1 d hl hj (congrArg (fun z => x + z) hc) hn (congrArg (List.cons (i, Value.int (x + cst))) hf) (fun ls' hl' => kk (x + cst) h H locs ls' hP hS hl')
theorem z_iadd {x y : Int32} (C : zC E Γ own cc nL dd) (d : decode cc pc = .ok (.iadd, 1)) (kk : zG l E Γ nL (pc + 1) loc (.int (x + y) :: stk) mem) : zG l E Γ nL pc loc (.int y :: .int x :: stk) mem :=
  fun H locs ls hP hS hl => lv_iadd C.1 C.2.1 d (kk H locs ls hP hS hl)
theorem z_isub {x y : Int32} (C : zC E Γ own cc nL dd) (d : decode cc pc = .ok (.isub, 1)) (kk : zG l E Γ nL (pc + 1) loc (.int (x - y) :: stk) mem) : zG l E Γ nL pc loc (.int y :: .int x :: stk) mem :=
  fun H locs ls hP hS hl => lv_isub C.1 C.2.1 d (kk H locs ls hP hS hl)
theorem z_imul {x y : Int32} (C : zC E Γ own cc nL dd) (d : decode cc pc = .ok (.imul, 1)) (kk : zG l E Γ nL (pc + 1) loc (.int (x * y) :: stk) mem) : zG l E Γ nL pc loc (.int y :: .int x :: stk) mem :=
  fun H locs ls hP hS hl => lv_imul C.1 C.2.1 d (kk H locs ls hP hS hl)
theorem z_iand {x y : Int32} (C : zC E Γ own cc nL dd) (d : decode cc pc = .ok (.iand, 1)) (kk : zG l E Γ nL (pc + 1) loc (.int (x &&& y) :: stk) mem) : zG l E Γ nL pc loc (.int y :: .int x :: stk) mem :=
  fun H locs ls hP hS hl => lv_iand C.1 C.2.1 d (kk H locs ls hP hS hl)
theorem z_ior {x y : Int32} (C : zC E Γ own cc nL dd) (d : decode cc pc = .ok (.ior, 1)) (kk : zG l E Γ nL (pc + 1) loc (.int (x ||| y) :: stk) mem) : zG l E Γ nL pc loc (.int y :: .int x :: stk) mem :=
  fun H locs ls hP hS hl => lv_ior C.1 C.2.1 d (kk H locs ls hP hS hl)
theorem z_ixor {x y : Int32} (C : zC E Γ own cc nL dd) (d : decode cc pc = .ok (.ixor, 1)) (kk : zG l E Γ nL (pc + 1) loc (.int (x ^^^ y) :: stk) mem) : zG l E Γ nL pc loc (.int y :: .int x :: stk) mem :=
  fun H locs ls hP hS hl => lv_ixor C.1 C.2.1 d (kk H locs ls hP hS hl)
theorem z_ishl {x y : Int32} (C : zC E Γ own cc nL dd) (d : decode cc pc = .ok (.ishl, 1)) (kk : zG l E Γ nL (pc + 1) loc (.int (x <<< (y &&& 31)) :: stk) mem) : zG l E Γ nL pc loc (.int y :: .int x :: stk) mem :=
  fun H locs ls hP hS hl => lv_ishl C.1 C.2.1 d (kk H locs ls hP hS hl)
theorem z_ishr {x y : Int32} (C : zC E Γ own cc nL dd) (d : decode cc pc = .ok (.ishr, 1)) (kk : zG l E Γ nL (pc + 1) loc (.int (x >>> (y &&& 31)) :: stk) mem) : zG l E Γ nL pc loc (.int y :: .int x :: stk) mem :=
  fun H locs ls hP hS hl => lv_ishr C.1 C.2.1 d (kk H locs ls hP hS hl)
theorem z_iushr {x y : Int32} (C : zC E Γ own cc nL dd) (d : decode cc pc = .ok (.iushr, 1)) (kk : zG l E Γ nL (pc + 1) loc (.int (x.toUInt32 >>> (y.toUInt32 &&& Int32.toUInt32 31)).toInt32 :: stk) mem) : zG l E Γ nL pc loc (.int y :: .int x :: stk) mem :=
  fun H locs ls hP hS hl => lv_iushr C.1 C.2.1 d rfl (kk H locs ls hP hS hl)
theorem z_ladd {x y : Int64} (C : zC E Γ own cc nL dd) (d : decode cc pc = .ok (.ladd, 1)) (kk : zG l E Γ nL (pc + 1) loc (.long (x + y) :: stk) mem) : zG l E Γ nL pc loc (.long y :: .long x :: stk) mem :=
  fun H locs ls hP hS hl => lv_ladd C.1 C.2.1 d (kk H locs ls hP hS hl)
theorem z_lsub {x y : Int64} (C : zC E Γ own cc nL dd) (d : decode cc pc = .ok (.lsub, 1)) (kk : zG l E Γ nL (pc + 1) loc (.long (x - y) :: stk) mem) : zG l E Γ nL pc loc (.long y :: .long x :: stk) mem :=
  fun H locs ls hP hS hl => lv_lsub C.1 C.2.1 d (kk H locs ls hP hS hl)
theorem z_lmul {x y : Int64} (C : zC E Γ own cc nL dd) (d : decode cc pc = .ok (.lmul, 1)) (kk : zG l E Γ nL (pc + 1) loc (.long (x * y) :: stk) mem) : zG l E Γ nL pc loc (.long y :: .long x :: stk) mem :=
  fun H locs ls hP hS hl => lv_lmul C.1 C.2.1 d (kk H locs ls hP hS hl)
theorem z_ineg {x : Int32} (C : zC E Γ own cc nL dd) (d : decode cc pc = .ok (.ineg, 1)) (kk : zG l E Γ nL (pc + 1) loc (.int (-x) :: stk) mem) : zG l E Γ nL pc loc (.int x :: stk) mem :=
  fun H locs ls hP hS hl => lv_ineg C.1 C.2.1 d (kk H locs ls hP hS hl)
theorem z_idiv0 {x y : Int32} (C : zC E Γ own cc nL dd) (d : decode cc pc = .ok (.idiv, 1)) (hne : ¬ y = 0) (kk : zG l E Γ nL (pc + 1) loc (.int (x / y) :: stk) mem) : zG l E Γ nL pc loc (.int y :: .int x :: stk) mem :=
  fun H locs ls hP hS hl => lv_idiv C.1 C.2.1 d hne (kk H locs ls hP hS hl)
theorem z_idiv {K : Option α} {x y : Int32} (C : zC E Γ own cc nL dd) (d : decode cc pc = .ok (.idiv, 1)) (h : zgd (decide (¬ y = 0)) K = some t) (kk : K = some t → zG l E Γ nL (pc + 1) loc (.int (x / y) :: stk) mem) : zG l E Γ nL pc loc (.int y :: .int x :: stk) mem :=
  fun H locs ls hP hS hl => lv_idiv C.1 C.2.1 d (of_decide_eq_true (zgd_some h).1) (kk (zgd_some h).2 H locs ls hP hS hl)
theorem z_irem0 {x y : Int32} (C : zC E Γ own cc nL dd) (d : decode cc pc = .ok (.irem, 1)) (hne : ¬ y = 0) (kk : zG l E Γ nL (pc + 1) loc (.int (x - x / y * y) :: stk) mem) : zG l E Γ nL pc loc (.int y :: .int x :: stk) mem :=
  fun H locs ls hP hS hl => lv_irem C.1 C.2.1 d hne (kk H locs ls hP hS hl)
theorem z_irem {K : Option α} {x y : Int32} (C : zC E Γ own cc nL dd) (d : decode cc pc = .ok (.irem, 1)) (h : zgd (decide (¬ y = 0)) K = some t) (kk : K = some t → zG l E Γ nL (pc + 1) loc (.int (x - x / y * y) :: stk) mem) : zG l E Γ nL pc loc (.int y :: .int x :: stk) mem :=
  fun H locs ls hP hS hl => lv_irem C.1 C.2.1 d (of_decide_eq_true (zgd_some h).1) (kk (zgd_some h).2 H locs ls hP hS hl)
theorem z_lrem0 {x y : Int64} (C : zC E Γ own cc nL dd) (d : decode cc pc = .ok (.lrem, 1)) (hne : ¬ y = 0) (kk : zG l E Γ nL (pc + 1) loc (.long (x - x / y * y) :: stk) mem) : zG l E Γ nL pc loc (.long y :: .long x :: stk) mem :=
  fun H locs ls hP hS hl => lv_lrem C.1 C.2.1 d hne (kk H locs ls hP hS hl)
theorem z_lrem {K : Option α} {x y : Int64} (C : zC E Γ own cc nL dd) (d : decode cc pc = .ok (.lrem, 1)) (h : zgd (decide (¬ y = 0)) K = some t) (kk : K = some t → zG l E Γ nL (pc + 1) loc (.long (x - x / y * y) :: stk) mem) : zG l E Γ nL pc loc (.long y :: .long x :: stk) mem :=
  fun H locs ls hP hS hl => lv_lrem C.1 C.2.1 d (of_decide_eq_true (zgd_some h).1) (kk (zgd_some h).2 H locs ls hP hS hl)
theorem z_i2l {x : Int32} (C : zC E Γ own cc nL dd) (d : decode cc pc = .ok (.i2l, 1)) (kk : zG l E Γ nL (pc + 1) loc (.long x.toInt64 :: stk) mem) : zG l E Γ nL pc loc (.int x :: stk) mem :=
  fun H locs ls hP hS hl => lv_i2l C.1 C.2.1 d rfl (kk H locs ls hP hS hl)
theorem z_l2i {x : Int64} (C : zC E Γ own cc nL dd) (d : decode cc pc = .ok (.l2i, 1)) (kk : zG l E Γ nL (pc + 1) loc (.int x.toInt32 :: stk) mem) : zG l E Γ nL pc loc (.long x :: stk) mem :=
  fun H locs ls hP hS hl => lv_l2i C.1 C.2.1 d rfl (kk H locs ls hP hS hl)
theorem z_i2b {x : Int32} (C : zC E Γ own cc nL dd) (d : decode cc pc = .ok (.i2b, 1)) (kk : zG l E Γ nL (pc + 1) loc (.int x.toInt8.toInt32 :: stk) mem) : zG l E Γ nL pc loc (.int x :: stk) mem :=
  fun H locs ls hP hS hl => lv_i2b C.1 C.2.1 d rfl (kk H locs ls hP hS hl)
theorem z_i2s {x : Int32} (C : zC E Γ own cc nL dd) (d : decode cc pc = .ok (.i2s, 1)) (kk : zG l E Γ nL (pc + 1) loc (.int x.toInt16.toInt32 :: stk) mem) : zG l E Γ nL pc loc (.int x :: stk) mem :=
  fun H locs ls hP hS hl => lv_i2s C.1 C.2.1 d rfl (kk H locs ls hP hS hl)
theorem z_i2c {x : Int32} (C : zC E Γ own cc nL dd) (d : decode cc pc = .ok (.i2c, 1)) (kk : zG l E Γ nL (pc + 1) loc (.int (x.toUInt32 % 65536).toInt32 :: stk) mem) : zG l E Γ nL pc loc (.int x :: stk) mem :=
  fun H locs ls hP hS hl => lv_i2c C.1 C.2.1 d rfl (kk H locs ls hP hS hl)
theorem z_lcmp {x y : Int64} (C : zC E Γ own cc nL dd) (d : decode cc pc = .ok (.lcmp, 1)) (kk : zG l E Γ nL (pc + 1) loc (.int (lg_cmp x y) :: stk) mem) : zG l E Γ nL pc loc (.long y :: .long x :: stk) mem :=
  fun H locs ls hP hS hl => W.lcmp C.1 C.2.1 d (kk H locs ls hP hS hl)
theorem z_dup {v : Value} (C : zC E Γ own cc nL dd) (d : decode cc pc = .ok (.dup, 1)) (hv : v.category = 1) (kk : zG l E Γ nL (pc + 1) loc (v :: v :: stk) mem) : zG l E Γ nL pc loc (v :: stk) mem :=
  fun H locs ls hP hS hl => lv_dup C.1 C.2.1 d hv (kk H locs ls hP hS hl)
theorem z_dup2 {va vb : Value} (C : zC E Γ own cc nL dd) (d : decode cc pc = .ok (.dup2, 1)) (ha : va.category = 1) (hb : vb.category = 1) (kk : zG l E Γ nL (pc + 1) loc (va :: vb :: va :: vb :: stk) mem) : zG l E Γ nL pc loc (va :: vb :: stk) mem :=
  fun H locs ls hP hS hl => lv_dup2_11 C.1 C.2.1 d ha hb (kk H locs ls hP hS hl)
theorem z_pop {v : Value} (C : zC E Γ own cc nL dd) (d : decode cc pc = .ok (.pop, 1)) (hv : v.category = 1) (kk : zG l E Γ nL (pc + 1) loc (stk) mem) : zG l E Γ nL pc loc (v :: stk) mem :=
  fun H locs ls hP hS hl => lv_pop C.1 C.2.1 d hv (kk H locs ls hP hS hl)
theorem z_goto {off : Int} (tgt : Nat) (C : zC E Γ own cc nL dd) (d : decode cc pc = .ok (.goto off, 3)) (ht : (pc : Int) + off = (tgt : Int)) (kk : zG l E Γ nL tgt loc stk mem) : zG l E Γ nL pc loc stk mem :=
  fun H locs ls hP hS hl => lv_goto C.1 C.2.1 d ht (kk H locs ls hP hS hl)
theorem z_if_eq {A B : Option α} {x : Int32} {off : Int} (tgt : Nat) (C : zC E Γ own cc nL dd) (d : decode cc pc = .ok (.ifCond .eq off, 3)) (ht : (pc : Int) + off = (tgt : Int)) (h : (if x = 0 then A else B) = some t) (kt : A = some t → zG l E Γ nL tgt loc stk mem) (kf : B = some t → zG l E Γ nL (pc + 3) loc stk mem) : zG l E Γ nL pc loc (.int x :: stk) mem :=
  fun H locs ls hP hS hl => lv_if_eq C.1 C.2.1 d ht (fun hc => kt (by rw [if_pos hc] at h; exact h) H locs ls hP hS hl) (fun hc => kf (by rw [if_neg hc] at h; exact h) H locs ls hP hS hl)
theorem z_if_ne {A B : Option α} {x : Int32} {off : Int} (tgt : Nat) (C : zC E Γ own cc nL dd) (d : decode cc pc = .ok (.ifCond .ne off, 3)) (ht : (pc : Int) + off = (tgt : Int)) (h : (if x = 0 then A else B) = some t) (kt : B = some t → zG l E Γ nL tgt loc stk mem) (kf : A = some t → zG l E Γ nL (pc + 3) loc stk mem) : zG l E Γ nL pc loc (.int x :: stk) mem :=
  fun H locs ls hP hS hl => lv_if_ne C.1 C.2.1 d ht (fun hc => kt (by rw [if_neg hc] at h; exact h) H locs ls hP hS hl) (fun hc => kf (by rw [if_pos hc] at h; exact h) H locs ls hP hS hl)
theorem z_if_lt {A B : Option α} {x : Int32} {off : Int} (tgt : Nat) (C : zC E Γ own cc nL dd) (d : decode cc pc = .ok (.ifCond .lt off, 3)) (ht : (pc : Int) + off = (tgt : Int)) (h : (if x < 0 then A else B) = some t) (kt : A = some t → zG l E Γ nL tgt loc stk mem) (kf : B = some t → zG l E Γ nL (pc + 3) loc stk mem) : zG l E Γ nL pc loc (.int x :: stk) mem :=
  fun H locs ls hP hS hl => lv_if_lt C.1 C.2.1 d ht (fun hc => kt (by rw [if_pos hc] at h; exact h) H locs ls hP hS hl) (fun hc => kf (by rw [if_neg hc] at h; exact h) H locs ls hP hS hl)
theorem z_if_ge {A B : Option α} {x : Int32} {off : Int} (tgt : Nat) (C : zC E Γ own cc nL dd) (d : decode cc pc = .ok (.ifCond .ge off, 3)) (ht : (pc : Int) + off = (tgt : Int)) (h : (if 0 ≤ x then A else B) = some t) (kt : A = some t → zG l E Γ nL tgt loc stk mem) (kf : B = some t → zG l E Γ nL (pc + 3) loc stk mem) : zG l E Γ nL pc loc (.int x :: stk) mem :=
  fun H locs ls hP hS hl => lv_if_ge C.1 C.2.1 d ht (fun hc => kt (by rw [if_pos hc] at h; exact h) H locs ls hP hS hl) (fun hc => kf (by rw [if_neg hc] at h; exact h) H locs ls hP hS hl)
theorem z_if_gt {A B : Option α} {x : Int32} {off : Int} (tgt : Nat) (C : zC E Γ own cc nL dd) (d : decode cc pc = .ok (.ifCond .gt off, 3)) (ht : (pc : Int) + off = (tgt : Int)) (h : (if 0 < x then A else B) = some t) (kt : A = some t → zG l E Γ nL tgt loc stk mem) (kf : B = some t → zG l E Γ nL (pc + 3) loc stk mem) : zG l E Γ nL pc loc (.int x :: stk) mem :=
  fun H locs ls hP hS hl => lv_if_gt C.1 C.2.1 d ht (fun hc => kt (by rw [if_pos hc] at h; exact h) H locs ls hP hS hl) (fun hc => kf (by rw [if_neg hc] at h; exact h) H locs ls hP hS hl)
theorem z_if_le {A B : Option α} {x : Int32} {off : Int} (tgt : Nat) (C : zC E Γ own cc nL dd) (d : decode cc pc = .ok (.ifCond .le off, 3)) (ht : (pc : Int) + off = (tgt : Int)) (h : (if x ≤ 0 then A else B) = some t) (kt : A = some t → zG l E Γ nL tgt loc stk mem) (kf : B = some t → zG l E Γ nL (pc + 3) loc stk mem) : zG l E Γ nL pc loc (.int x :: stk) mem :=
  fun H locs ls hP hS hl => lv_if_le C.1 C.2.1 d ht (fun hc => kt (by rw [if_pos hc] at h; exact h) H locs ls hP hS hl) (fun hc => kf (by rw [if_neg hc] at h; exact h) H locs ls hP hS hl)
theorem z_icmp_eq {A B : Option α} {x y : Int32} {off : Int} (tgt : Nat) (C : zC E Γ own cc nL dd) (d : decode cc pc = .ok (.if_icmp .eq off, 3)) (ht : (pc : Int) + off = (tgt : Int)) (h : (if x = y then A else B) = some t) (kt : A = some t → zG l E Γ nL tgt loc stk mem) (kf : B = some t → zG l E Γ nL (pc + 3) loc stk mem) : zG l E Γ nL pc loc (.int y :: .int x :: stk) mem :=
  fun H locs ls hP hS hl => lv_icmp_eq C.1 C.2.1 d ht (fun hc => kt (by rw [if_pos hc] at h; exact h) H locs ls hP hS hl) (fun hc => kf (by rw [if_neg hc] at h; exact h) H locs ls hP hS hl)
theorem z_icmp_ne {A B : Option α} {x y : Int32} {off : Int} (tgt : Nat) (C : zC E Γ own cc nL dd) (d : decode cc pc = .ok (.if_icmp .ne off, 3)) (ht : (pc : Int) + off = (tgt : Int)) (h : (if x = y then A else B) = some t) (kt : B = some t → zG l E Γ nL tgt loc stk mem) (kf : A = some t → zG l E Γ nL (pc + 3) loc stk mem) : zG l E Γ nL pc loc (.int y :: .int x :: stk) mem :=
  fun H locs ls hP hS hl => lv_icmp_ne C.1 C.2.1 d ht (fun hc => kt (by rw [if_neg hc] at h; exact h) H locs ls hP hS hl) (fun hc => kf (by rw [if_pos hc] at h; exact h) H locs ls hP hS hl)
theorem z_icmp_lt {A B : Option α} {x y : Int32} {off : Int} (tgt : Nat) (C : zC E Γ own cc nL dd) (d : decode cc pc = .ok (.if_icmp .lt off, 3)) (ht : (pc : Int) + off = (tgt : Int)) (h : (if x < y then A else B) = some t) (kt : A = some t → zG l E Γ nL tgt loc stk mem) (kf : B = some t → zG l E Γ nL (pc + 3) loc stk mem) : zG l E Γ nL pc loc (.int y :: .int x :: stk) mem :=
  fun H locs ls hP hS hl => lv_icmp_lt C.1 C.2.1 d ht (fun hc => kt (by rw [if_pos hc] at h; exact h) H locs ls hP hS hl) (fun hc => kf (by rw [if_neg hc] at h; exact h) H locs ls hP hS hl)
theorem z_icmp_ge {A B : Option α} {x y : Int32} {off : Int} (tgt : Nat) (C : zC E Γ own cc nL dd) (d : decode cc pc = .ok (.if_icmp .ge off, 3)) (ht : (pc : Int) + off = (tgt : Int)) (h : (if y ≤ x then A else B) = some t) (kt : A = some t → zG l E Γ nL tgt loc stk mem) (kf : B = some t → zG l E Γ nL (pc + 3) loc stk mem) : zG l E Γ nL pc loc (.int y :: .int x :: stk) mem :=
  fun H locs ls hP hS hl => lv_icmp_ge C.1 C.2.1 d ht (fun hc => kt (by rw [if_pos hc] at h; exact h) H locs ls hP hS hl) (fun hc => kf (by rw [if_neg hc] at h; exact h) H locs ls hP hS hl)
theorem z_icmp_gt {A B : Option α} {x y : Int32} {off : Int} (tgt : Nat) (C : zC E Γ own cc nL dd) (d : decode cc pc = .ok (.if_icmp .gt off, 3)) (ht : (pc : Int) + off = (tgt : Int)) (h : (if y < x then A else B) = some t) (kt : A = some t → zG l E Γ nL tgt loc stk mem) (kf : B = some t → zG l E Γ nL (pc + 3) loc stk mem) : zG l E Γ nL pc loc (.int y :: .int x :: stk) mem :=
  fun H locs ls hP hS hl => lv_icmp_gt C.1 C.2.1 d ht (fun hc => kt (by rw [if_pos hc] at h; exact h) H locs ls hP hS hl) (fun hc => kf (by rw [if_neg hc] at h; exact h) H locs ls hP hS hl)
theorem z_icmp_le {A B : Option α} {x y : Int32} {off : Int} (tgt : Nat) (C : zC E Γ own cc nL dd) (d : decode cc pc = .ok (.if_icmp .le off, 3)) (ht : (pc : Int) + off = (tgt : Int)) (h : (if x ≤ y then A else B) = some t) (kt : A = some t → zG l E Γ nL tgt loc stk mem) (kf : B = some t → zG l E Γ nL (pc + 3) loc stk mem) : zG l E Γ nL pc loc (.int y :: .int x :: stk) mem :=
  fun H locs ls hP hS hl => lv_icmp_le C.1 C.2.1 d ht (fun hc => kt (by rw [if_pos hc] at h; exact h) H locs ls hP hS hl) (fun hc => kf (by rw [if_neg hc] at h; exact h) H locs ls hP hS hl)
theorem z_swIn {dflt lo hi : Int} {offs : Array Int} {len : Nat} {x : Int32} {off : Int} (tgt : Nat) (C : zC E Γ own cc nL dd) (d : decode cc pc = .ok (.tableswitch dflt lo hi offs, len)) (v : Int32) (hx : x = v) (h1 : ¬ v.toInt < lo) (h2 : ¬ hi < v.toInt) (ho : offs[(v.toInt - lo).toNat]? = some off) (ht : (pc : Int) + off = (tgt : Int)) (kk : zG l E Γ nL tgt loc stk mem) : zG l E Γ nL pc loc (.int x :: stk) mem := by
  subst hx
  exact fun H locs ls hP hS hl => lv_tableIn C.1 C.2.1 d h1 h2 ho ht (kk H locs ls hP hS hl)
theorem z_swOut {dflt lo hi : Int} {offs : Array Int} {len : Nat} {x : Int32} (tgt : Nat) (C : zC E Γ own cc nL dd) (d : decode cc pc = .ok (.tableswitch dflt lo hi offs, len)) (ho : x.toInt < lo ∨ hi < x.toInt) (ht : (pc : Int) + dflt = (tgt : Int)) (kk : zG l E Γ nL tgt loc stk mem) : zG l E Γ nL pc loc (.int x :: stk) mem :=
  fun H locs ls hP hS hl => lv_tableOut C.1 C.2.1 d ho ht (kk H locs ls hP hS hl)
theorem z_pick {loc' : List (Nat × Value)} (ks : List Nat) (hk : lv_pick loc ks = loc') (kk : zG l E Γ nL pc loc' stk mem) : zG l E Γ nL pc loc stk mem :=
  fun H locs ls hP hS hl => kk H locs ls hP hS (lv_sub hl ks hk)
/-! fields -/
theorem z_getf {c ci : Nat} {fs : List Value} {Cn ref nm ds : String} {T : u_T} {N index : Nat} {v : Value} (C : zC E Γ own cc nL dd) (d : decode cc pc = .ok (.getfield index, 3)) (hc : c < zNC) (he : zent E (mem c) c = .inr (ci, fs)) (hcl : vwCl[ci]? = some (Cn, T, N)) (hin : ∀ w ∈ u_ws Cn T N, w ∈ wsL_law) (k : Nat) (hk : k < N) (hT : ((T k).1, (T k).2.1, (T k).2.2.1) = (ref, nm, ds)) (hw : Cond.fieldLink own index ref nm ds ∈ wsL_law) (hv : fs[k]? = some v) (kk : zG l E Γ nL (pc + 3) loc (v :: stk) mem) : zG l E Γ nL pc loc (.ref (E.2.1 c) :: stk) mem := by
  cases hT
  exact fun H locs ls hP hS hl => va_get (D := E.1) (ci := ci) (v := v) (C := Cn) (T := T) (N := N) C.1 C.2.1 C.2.2.2.2.1 hin C.2.2.2.1 C.2.2.2.2.2.1 hP c (by rw [zws_get hc, he]) hcl k hk (C.2.2.2.2.1 _ hw) (fun _ h9 => h9) hv d (kk H locs ls hP hS hl)
theorem z_putf {K : ZM → Option α} {c ci : Nat} {fs : List Value} {Cn ref nm ds : String} {T : u_T} {N index : Nat} {x : Int32} {ty : FieldType} {ty0 : Nat → FieldType} (C : zC E Γ own cc nL dd) (d : decode cc pc = .ok (.putfield index, 3)) (hc : c < zNC) (he : zent E (mem c) c = .inr (ci, fs)) (hcl : vwCl[ci]? = some (Cn, T, N)) (hin : ∀ w ∈ u_ws Cn T N, w ∈ wsL_law) (hty : ∀ k, k < N → parseFieldDescriptor (T k).2.2.1 = some (ty0 k)) (hnm : ∀ a, a < N → ∀ b, b < N → a ≠ b → (T a).2.1 ≠ (T b).2.1) (k : Nat) (hk : k < N) (hT : T k = (ref, nm, ds, false)) (hw : Cond.fieldLink own index ref nm ds ∈ wsL_law) (hd : parseFieldDescriptor ds = some ty) (hn : narrow ty (.int x) = .int x) (hfit : fits ty (.int x) = true) (hl0 : k < fs.length) (hs : zent E (upd (mem c) k x) c = .inr (ci, fs.set k (.int x))) (h : zlet (zst mem c k x) K = some t) (kk : ∀ mem' : ZM, K mem' = some t → zG l E Γ nL (pc + 3) loc stk mem') : zG l E Γ nL pc loc (.int x :: .ref (E.2.1 c) :: stk) mem := by
  have e1 : (T k).1 = ref := by rw [hT]
  have e2 : (T k).2.1 = nm := by rw [hT]
  have e3 : (T k).2.2.1 = ds := by rw [hT]
  have e4 : (T k).2.2.2 = false := by rw [hT]
  subst e1; subst e2; subst e3
  intro H locs ls hP hS hl
  refine va_put (D := E.1) (ci := ci) (v := .int x) (ty := ty) (C := Cn) (T := T) (N := N) C.1 C.2.1 C.2.2.2.2.1 hin ty0 hty hnm C.2.2.2.1 C.2.2.2.2.2.1 hP (zws_D C.2.2.2.2.2.2.1) hS c (by rw [zws_get hc, he]) hcl k hk (C.2.2.2.2.1 _ hw) (fun _ h9 => h9) e4 hd hn hfit hl0 d (fun H1 locs1 hP1 hD1 hS1 => ?_)
  rw [zws_set hc (upd (mem c) k x) hs] at hP1
  exact kk _ h H1 locs1 ls hP1 hS1 hl
/-! arrays of the world -/
def zAr (E : ZE) (c n : Nat) : Prop := c < zNC ∧ ∀ f : Nat → Int32, zent E f c = .inl (E.2.2 0, n, .inl f)
def zArZ (E : ZE) (c n : Nat) : Prop := c < zNC ∧ ∀ f : Nat → Int32, zent E f c = .inl (E.2.2 1, n, .inl f)
theorem z_iald {K : Option α} {c n : Nat} {i : Int32} (C : zC E Γ own cc nL dd) (d : decode cc pc = .ok (.iaload, 1)) (ha : zAr E c n) (h : zgd (zin i n) K = some t) (kk : K = some t → zG l E Γ nL (pc + 1) loc (.int (mem c i.toNatClampNeg) :: stk) mem) : zG l E Γ nL pc loc (.int i :: .ref (E.2.1 c) :: stk) mem :=
  fun H locs ls hP hS hl => va_iald C.1 C.2.1 C.2.2.2.2.2.1 hP c 0 (by rw [zws_get ha.1, ha.2]) rfl (zin_in (zgd_some h).1) d (kk (zgd_some h).2 H locs ls hP hS hl)
theorem z_zald {K : Option α} {c n : Nat} {i : Int32} (C : zC E Γ own cc nL dd) (d : decode cc pc = .ok (.baload, 1)) (ha : zArZ E c n) (h : zgd (zin i n) K = some t) (kk : K = some t → zG l E Γ nL (pc + 1) loc (.int (mem c i.toNatClampNeg) :: stk) mem) : zG l E Γ nL pc loc (.int i :: .ref (E.2.1 c) :: stk) mem :=
  fun H locs ls hP hS hl => va_zald C.1 C.2.1 C.2.2.2.2.2.1 hP c 1 (by rw [zws_get ha.1, ha.2]) rfl (zin_in (zgd_some h).1) d (kk (zgd_some h).2 H locs ls hP hS hl)
theorem z_iast {K : ZM → Option α} {c n : Nat} {i x : Int32} (C : zC E Γ own cc nL dd) (d : decode cc pc = .ok (.iastore, 1)) (ha : zAr E c n) (h : zgd (zin i n) (zlet (zst mem c i.toNatClampNeg x) K) = some t) (kk : ∀ mem' : ZM, K mem' = some t → zG l E Γ nL (pc + 1) loc stk mem') : zG l E Γ nL pc loc (.int x :: .int i :: .ref (E.2.1 c) :: stk) mem := by
  intro H locs ls hP hS hl
  refine va_iast C.1 C.2.1 C.2.2.2.2.2.1 hP (zws_D C.2.2.2.2.2.2.1) hS c 0 (by rw [zws_get ha.1, ha.2]) rfl (zin_in (zgd_some h).1) d (fun H1 locs1 hP1 hD1 hS1 => ?_)
  rw [zws_set ha.1 (upd (mem c) i.toNatClampNeg x) (ha.2 _)] at hP1
  exact kk _ (zgd_some h).2 H1 locs1 ls hP1 hS1 hl
theorem z_zast1 {K : ZM → Option α} {c n : Nat} {i : Int32} (C : zC E Γ own cc nL dd) (d : decode cc pc = .ok (.bastore, 1)) (ha : zArZ E c n) (h : zgd (zin i n) (zlet (zst mem c i.toNatClampNeg 1) K) = some t) (kk : ∀ mem' : ZM, K mem' = some t → zG l E Γ nL (pc + 1) loc stk mem') : zG l E Γ nL pc loc (.int 1 :: .int i :: .ref (E.2.1 c) :: stk) mem := by
  intro H locs ls hP hS hl
  refine va_zast C.1 C.2.1 C.2.2.2.2.2.1 hP (zws_D C.2.2.2.2.2.2.1) hS c 1 (by rw [zws_get ha.1, ha.2]) rfl (zin_in (zgd_some h).1) d (fun H1 locs1 hP1 hD1 hS1 => ?_)
  rw [show vp_nar .boolean 1 = 1 from by decide +kernel, zws_set ha.1 (upd (mem c) i.toNatClampNeg 1) (ha.2 _)] at hP1
  exact kk _ (zgd_some h).2 H1 locs1 ls hP1 hS1 hl
/-- a heap's cell, a row's cell -/
def zH (b : Nat) : Prop := b = 17 ∨ b = 22 ∨ b = 27 ∨ b = 32 ∨ b = 37
def zRw (b : Nat) : Prop := b = 42 ∨ b = 44 ∨ b = 46 ∨ b = 48 ∨ b = 50 ∨ b = 52 ∨ b = 54 ∨ b = 56
theorem zin_lt {i : Int32} {n : Nat} (h : zin i n = true) : i.toNatClampNeg < n := by
  unfold zin at h
  rw [Bool.and_eq_true, decide_eq_true_eq, decide_eq_true_eq] at h
  exact h.2
theorem zH_im {i : Int32} (h : zin i 2 = true) : zH (27 + 5 * i.toNatClampNeg) := by
  have h1 := zin_lt h
  unfold zH
  omega
theorem zRw_row {i : Int32} (h : zin i 8 = true) : zRw (42 + 2 * i.toNatClampNeg) := by
  have h1 := zin_lt h
  unfold zRw
  omega
theorem zH_lt {b : Nat} (h : zH b) : b < zNC := by unfold zH at h; unfold zNC; omega
theorem zRw_lt {b : Nat} (h : zRw b) : b < zNC := by unfold zRw at h; unfold zNC; omega
theorem zH_ent {b : Nat} {f : Nat → Int32} (h : zH b) : zent E f b = .inr (3, [.int (f 0), .ref (E.2.1 (b + 1)), .ref (E.2.1 (b + 2)), .ref (E.2.1 (b + 3)), .ref (E.2.1 (b + 4)), .int (f 5), .int (f 6), .int (f 7), .int (f 8), .int (f 9)]) := by
  rcases h with rfl | rfl | rfl | rfl | rfl <;> rfl
theorem zRw_ent {b : Nat} {f : Nat → Int32} (h : zRw b) : zent E f b = .inr (4, [.int (f 0), .int (f 1), .ref (E.2.1 (b + 1))]) := by
  rcases h with rfl | rfl | rfl | rfl | rfl | rfl | rfl | rfl <;> rfl
theorem zH_ar1 {b : Nat} (h : zH b) : zAr E (b + 1) 8 := by rcases h with rfl | rfl | rfl | rfl | rfl <;> exact ⟨by decide, fun _ => rfl⟩
theorem zH_ar2 {b : Nat} (h : zH b) : zAr E (b + 2) 8 := by rcases h with rfl | rfl | rfl | rfl | rfl <;> exact ⟨by decide, fun _ => rfl⟩
theorem zH_ar3 {b : Nat} (h : zH b) : zAr E (b + 3) 8 := by rcases h with rfl | rfl | rfl | rfl | rfl <;> exact ⟨by decide, fun _ => rfl⟩
theorem zH_ar4 {b : Nat} (h : zH b) : zAr E (b + 4) 8 := by rcases h with rfl | rfl | rfl | rfl | rfl <;> exact ⟨by decide, fun _ => rfl⟩
theorem zRw_ar {b : Nat} (h : zRw b) : zAr E (b + 1) 40 := by rcases h with rfl | rfl | rfl | rfl | rfl | rfl | rfl | rfl <;> exact ⟨by decide, fun _ => rfl⟩
theorem z_aldR {K : Option α} {i : Int32} (C : zC E Γ own cc nL dd) (d : decode cc pc = .ok (.aaload, 1)) (h : zgd (zin i 8) K = some t) (kk : zRw (42 + 2 * i.toNatClampNeg) → K = some t → zG l E Γ nL (pc + 1) loc (.ref (E.2.1 (42 + 2 * i.toNatClampNeg)) :: stk) mem) : zG l E Γ nL pc loc (.int i :: .ref (E.2.1 1) :: stk) mem :=
  fun H locs ls hP hS hl => va_aldq (C := "BonfireHeaps$Row") (f := fun i => some (E.2.1 (42 + 2 * i))) C.1 C.2.1 C.2.2.2.2.2.1 hP 1 3 (by rw [zws_get (by decide)]; rfl) rfl (zin_in (zgd_some h).1) d (kk (zRw_row (zgd_some h).1) (zgd_some h).2 H locs ls hP hS hl)
theorem z_aldH {K : Option α} {i : Int32} (C : zC E Γ own cc nL dd) (d : decode cc pc = .ok (.aaload, 1)) (h : zgd (zin i 2) K = some t) (kk : zH (27 + 5 * i.toNatClampNeg) → K = some t → zG l E Γ nL (pc + 1) loc (.ref (E.2.1 (27 + 5 * i.toNatClampNeg)) :: stk) mem) : zG l E Γ nL pc loc (.int i :: .ref (E.2.1 2) :: stk) mem :=
  fun H locs ls hP hS hl => va_aldq (C := "BonfireHeaps$Heap") (f := fun i => some (E.2.1 (27 + 5 * i))) C.1 C.2.1 C.2.2.2.2.2.1 hP 2 2 (by rw [zws_get (by decide)]; rfl) rfl (zin_in (zgd_some h).1) d (kk (zH_im (zgd_some h).1) (zgd_some h).2 H locs ls hP hS hl)
/-! constant arrays -/
theorem z_gets {index r : Nat} {Cn nm : String} (C : zC E Γ own cc nL dd) (d : decode cc pc = .ok (.getstatic index, 3)) (hZ : va_Z Cn nm "[I" (.ref r) (zA E) (gS Γ) (gS Γ).heap) (hw : Cond.fieldLink own index Cn nm "[I" ∈ wsL_law) (kk : zG l E Γ nL (pc + 3) loc (.ref r :: stk) mem) : zG l E Γ nL pc loc stk mem :=
  fun H locs ls hP hS hl => va_gets C.1 C.2.1 hZ hS C.2.2.2.1 (C.2.2.2.2.1 _ hw) (fun _ h9 => h9) d (kk H locs ls hP hS hl)
theorem z_getsN {index r : Nat} {Cn nm host : String} (C : zC E Γ own cc nL dd) (d : decode cc pc = .ok (.getstatic index, 3)) (hZ : va_Z Cn nm "[I" (.ref r) (zA E) (gS Γ) (gS Γ).heap) (hw : va_Nw (.fieldLinkNest own index Cn nm "[I" host) (gS Γ)) (kk : zG l E Γ nL (pc + 3) loc (.ref r :: stk) mem) : zG l E Γ nL pc loc stk mem :=
  fun H locs ls hP hS hl => va_getsN C.1 C.2.1 hZ hS C.2.2.2.1 (va_Nw.use rfl hw) (fun _ h9 => h9) d (kk H locs ls hP hS hl)
theorem z_tald {K : Option α} {r n : Nat} {tb : List Int32} {i : Int32} (C : zC E Γ own cc nL dd) (d : decode cc pc = .ok (.iaload, 1)) (hT : va_T .int r n (fun j => .int (tb.getD j 0)) (zA E) (gS Γ) (gS Γ).heap) (h : zgd (zin i n) K = some t) (kk : K = some t → zG l E Γ nL (pc + 1) loc (.int (tb.getD i.toNatClampNeg 0) :: stk) mem) : zG l E Γ nL pc loc (.int i :: .ref r :: stk) mem :=
  fun H locs ls hP hS hl => va_ti C.1 C.2.1 hT hS (zin_in (zgd_some h).1) rfl d (kk (zgd_some h).2 H locs ls hP hS hl)
theorem z_tlen {r n : Nat} {f : Nat → Value} {v : Int32} (C : zC E Γ own cc nL dd) (d : decode cc pc = .ok (.arraylength, 1)) (hT : va_T .int r n f (zA E) (gS Γ) (gS Γ).heap) (hv : Int32.ofNat n = v) (kk : zG l E Γ nL (pc + 1) loc (.int v :: stk) mem) : zG l E Γ nL pc loc (.ref r :: stk) mem :=
  fun H locs ls hP hS hl => va_tlen C.1 C.2.1 hT hS hv d (kk H locs ls hP hS hl)
/-! returns -/
theorem z_iret {v : Int32} (C : zC E Γ own cc nL dd) (d : decode cc pc = .ok (.ireturn, 1)) (q : zRq E Γ (some .int) (some (.int v)) mem) : zG l E Γ nL pc loc [.int v] mem := by
  intro H locs ls hP hS hl
  obtain ⟨q1, q2, q3, q4, q5⟩ := q
  rw [q3, q4, q5]
  exact W.iret C.1 C.2.1 q1 (fun t ht hW => ⟨rfl, by rw [ht]; exact hP, hS.F ht⟩) hS.2.2 d q2
theorem z_zret {v : Int32} (C : zC E Γ own cc nL dd) (d : decode cc pc = .ok (.ireturn, 1)) (hb : zbl v = true) (q : zRq E Γ (some .boolean) (some (.int v)) mem) : zG l E Γ nL pc loc [.int v] mem := by
  intro H locs ls hP hS hl
  obtain ⟨q1, q2, q3, q4, q5⟩ := q
  rw [q3, q4, q5]
  exact W.zret C.1 C.2.1 q1 (zbl_n hb) (fun t ht hW => ⟨rfl, by rw [ht]; exact hP, hS.F ht⟩) hS.2.2 d q2
theorem z_vret (C : zC E Γ own cc nL dd) (d : decode cc pc = .ok (.return_, 1)) (q : zRq E Γ none none mem) : zG l E Γ nL pc loc [] mem := by
  intro H locs ls hP hS hl
  obtain ⟨q1, q2, q3, q4, q5⟩ := q
  rw [q3, q4, q5]
  exact W.vret C.1 C.2.1 q1 (fun t ht hW => ⟨rfl, by rw [ht]; exact hP, hS.F ht⟩) hS.2.2 d q2
theorem z_aret {r : Nat} {Cn : String} (C : zC E Γ own cc nL dd) (d : decode cc pc = .ok (.areturn, 1)) (q : zRq E Γ (some (.object Cn)) (some (.ref r)) mem) : zG l E Γ nL pc loc [.ref r] mem := by
  intro H locs ls hP hS hl
  obtain ⟨q1, q2, q3, q4, q5⟩ := q
  rw [q3, q4, q5]
  exact W.aret C.1 C.2.1 q1 (Or.inl ⟨_, rfl⟩) (Or.inr ⟨_, rfl⟩) (fun t ht hW => ⟨rfl, by rw [ht]; exact hP, hS.F ht⟩) hS.2.2 d q2
/-! calls -/
theorem z_good {y : MethodName} {bytes : ByteArray} {maxL : Nat} {ret : Option FieldType} (h : Cond.code y bytes maxL ret ∈ wsL_law) : GoodIn wsL_law (Cond.code y bytes maxL ret :: wsL_law) := fun w hw => by
  have hm : w ∈ wsL_law := by
    rcases List.mem_cons.mp hw with e | e
    · rw [e]; exact h
    · exact e
  exact ⟨hm, good_of_word (List.all_eq_true.mp zgood w hm)⟩
/-- the words of a call -/
def zCW (own : String) (index : Nat) (y : MethodName) (bytes : ByteArray) (maxL : Nat) (ret : Option FieldType) (n : Nat) : Prop :=
  Cond.methodLink own index y ∈ wsL_law ∧ Cond.initialized y.cls ∈ wsL_law ∧ Cond.code y bytes maxL ret ∈ wsL_law ∧ (y.cls ≠ "java/lang/invoke/MethodHandle" ∧ y.cls ≠ "java/lang/invoke/VarHandle" ∧ (parseMethodDescriptor y.desc).map (fun d => d.parameters.length) = some n)
theorem z_back {rv : Option Value} {mem' : ZM} {args' : Array Value} {rest : List Value} {H : Heap} {locs : List Loc} {ls : Array Slot} (hS : va_S (zA E) (gS Γ).heap H locs)
    (hr : va_Run (gP Γ) l (gE Γ) (gR Γ) (gS Γ) (gM Γ) (gA Γ) (gB Γ) (gMe Γ) (gC Γ) H locs (gkc Γ) (gks Γ) 0 0 (F0 (gM Γ) pc ls stk) rest (zQc E rv mem' args') (zA E))
    (kk : ∀ (H1 : Heap) (locs1 : List Loc), va_P E.1 vwCl (zws E mem') H1 → va_S (zA E) (gS Γ).heap H1 locs1 → W (gP Γ) l (gE Γ) (gR Γ) (gS Γ) (gM Γ) (gA Γ) (gB Γ) (gMe Γ) (gC Γ) H1 locs1 (gkc Γ) (gks Γ) (gQ Γ) (F0 (gM Γ) (pc + 3) ls (rv.toList ++ rest))) :
    W (gP Γ) l (gE Γ) (gR Γ) (gS Γ) (gM Γ) (gA Γ) (gB Γ) (gMe Γ) (gC Γ) H locs (gkc Γ) (gks Γ) (gQ Γ) (F0 (gM Γ) pc ls stk) := by
  intro T hT X
  obtain ⟨v, st₀, t, T', L, h0, X', hL, e1, e2, ⟨hv, hp, hz, hk⟩, st⟩ := hr T hT X
  cases hv
  rw [h0] at hz hk
  obtain ⟨t2, a1, b1⟩ := kk T'.heap (locs ++ L) (by rw [e1]; exact hp)
    ⟨Nat.le_trans hS.1 (by rw [e1]; exact hz), fun q h1 h2 => by rw [e1, hk q (Nat.lt_of_lt_of_le h1 hS.1) h2]; exact hS.2.1 q h1 h2, fun q hq => by
      rcases List.mem_append.mp hq with h | h
      · exact hS.2.2 q h
      · exact hL q h⟩ T' rfl X'
  exact ⟨t2, st t2 a1, b1⟩
theorem z_pre {U : State} {H : Heap} {locs : List Loc} (C : zC E Γ own cc nL dd) (hP : va_P E.1 vwCl (zws E mem) H) (hS : va_S (zA E) (gS Γ).heap H locs) (hU : U.heap = H) (hW : (gS Γ).WarmedH U.vm) : zW E mem U :=
  ⟨by rw [hU]; exact hP, va_K.moved hW.alike C.2.2.2.2.2.1, C.2.2.2.2.2.2.1, by rw [hU]; exact C.2.2.2.2.2.2.2.1.go hW hS.2.1⟩
theorem z_callV {c ci n index maxL d' : Nat} {y : MethodName} {bytes : ByteArray} {ret : Option FieldType} {fs : List Value} {T : u_T} {N : Nat} {rv : Option Value} {mem' : ZM} (As rest : List Value) (C : zC E Γ own cc nL dd) (d : decode cc pc = .ok (.invokevirtual index, 3)) (hc : c < zNC) (he : zent E (mem c) c = .inr (ci, fs)) (hcl : vwCl[ci]? = some (y.cls, T, N)) (cw : zCW own index y bytes maxL ret n) (hin : Cond.instanceMethod y ∈ wsL_law) (hse : Cond.selects y.cls y y ∈ wsL_law)
    (hd : (d' + 1 ≤ dd ∧ 8 + (maxL + 11) + 40 * d' ≤ 40 * dd) ∧ As.length = n ∧ (rest.map fun v => v.category).sum ≤ 8) (hst : stk = As.reverse ++ .ref (E.2.1 c) :: rest) (M : zMet l E y bytes maxL ret d' (.ref (E.2.1 c) :: As) mem rv mem')
    (kk : zG l E Γ nL (pc + 3) loc (rv.toList ++ rest) mem') : zG l E Γ nL pc loc stk mem := by
  intro H locs ls hP hS hl
  obtain ⟨w1, w2, w3, w4⟩ := cw
  have hts := C.2.2.2.2.1
  refine z_back hS (va_runV (As := As) (rest := rest) (n := n) (Ts := wsL_law) ⟨C.1, C.2.1, C.2.2.1, C.2.2.2.1, hts⟩ M
    ⟨callB_of n hts (z_good w3) rfl rfl rfl (hts _ w2) (hts _ w1) w4 ⟨Nat.le_trans hd.1.1 C.2.2.2.2.2.2.2.2.1, Nat.le_trans hd.1.2 C.2.2.2.2.2.2.2.2.2.1⟩, hts _ hin, hts _ hse⟩
    ⟨z_blind E _ mem, va_recv (q := (y.cls, T, N)) (q0 := c) (fs := fs) C.2.2.2.2.2.1 hP hcl (by rw [zws_get hc, he]), fun U hU hW => ⟨rfl, z_pre C hP hS hU hW⟩⟩ rfl hd.2.1 hl.1 hst (lv_room hd.2.2) d
    ⟨C.2.2.2.2.2.2.2.2.2.2.1, C.2.2.2.2.2.2.2.2.2.2.2⟩) (fun H1 locs1 hP1 hS1 => kk H1 locs1 ls hP1 hS1 hl)
theorem z_callS {n index maxL d' : Nat} {y : MethodName} {bytes : ByteArray} {ret : Option FieldType} {rv : Option Value} {mem' : ZM} (As rest : List Value) (C : zC E Γ own cc nL dd) (d : decode cc pc = .ok (.invokestatic index, 3)) (cw : zCW own index y bytes maxL ret n) (hsta : Cond.static y ∈ wsL_law)
    (hd : (d' + 1 ≤ dd ∧ 8 + (maxL + 11) + 40 * d' ≤ 40 * dd) ∧ As.length = n ∧ (rest.map fun v => v.category).sum ≤ 8) (hst : stk = As.reverse ++ rest) (M : zMet l E y bytes maxL ret d' As mem rv mem')
    (kk : zG l E Γ nL (pc + 3) loc (rv.toList ++ rest) mem') : zG l E Γ nL pc loc stk mem := by
  intro H locs ls hP hS hl
  obtain ⟨w1, w2, w3, w4⟩ := cw
  have hts := C.2.2.2.2.1
  refine z_back hS (va_runS (As := As) (rest := rest) (n := n) (Ts := wsL_law) ⟨C.1, C.2.1, C.2.2.1, C.2.2.2.1, hts⟩ M
    ⟨callB_of n hts (z_good w3) rfl rfl rfl (hts _ w2) (hts _ w1) w4 ⟨Nat.le_trans hd.1.1 C.2.2.2.2.2.2.2.2.1, Nat.le_trans hd.1.2 C.2.2.2.2.2.2.2.2.2.1⟩, hts _ hsta⟩
    ⟨z_blind E _ mem, fun U hU hW => ⟨rfl, z_pre C hP hS hU hW⟩⟩ rfl hd.2.1 hl.1 hst (lv_room hd.2.2) d
    ⟨C.2.2.2.2.2.2.2.2.2.2.1, C.2.2.2.2.2.2.2.2.2.2.2⟩) (fun H1 locs1 hP1 hS1 => kk H1 locs1 ls hP1 hS1 hl)
theorem z_callSN {n index maxL d' : Nat} {y : MethodName} {host : String} {bytes : ByteArray} {ret : Option FieldType} {rv : Option Value} {mem' : ZM} (As rest : List Value) (C : zC E Γ own cc nL dd) (d : decode cc pc = .ok (.invokestatic index, 3)) (hnl : va_Nw (.methodLinkNest own index y host) (gS Γ)) (w2 : Cond.initialized y.cls ∈ wsL_law) (w3 : Cond.code y bytes maxL ret ∈ wsL_law) (w4 : y.cls ≠ "java/lang/invoke/MethodHandle" ∧ y.cls ≠ "java/lang/invoke/VarHandle" ∧ (parseMethodDescriptor y.desc).map (fun d => d.parameters.length) = some n) (hsta : Cond.static y ∈ wsL_law)
    (hd : (d' + 1 ≤ dd ∧ 8 + (maxL + 11) + 40 * d' ≤ 40 * dd) ∧ As.length = n ∧ (rest.map fun v => v.category).sum ≤ 8) (hst : stk = As.reverse ++ rest) (M : zMet l E y bytes maxL ret d' As mem rv mem')
    (kk : zG l E Γ nL (pc + 3) loc (rv.toList ++ rest) mem') : zG l E Γ nL pc loc stk mem := by
  intro H locs ls hP hS hl
  have hts := C.2.2.2.2.1
  refine z_back hS (va_runSN (As := As) (rest := rest) (n := n) (host := host) (Ts := wsL_law) ⟨C.1, C.2.1, C.2.2.1, C.2.2.2.1, hts⟩ M
    ⟨va_cnB n hts (z_good w3) rfl rfl rfl hnl (hts _ w2) w4 ⟨Nat.le_trans hd.1.1 C.2.2.2.2.2.2.2.2.1, Nat.le_trans hd.1.2 C.2.2.2.2.2.2.2.2.2.1⟩, hts _ hsta, trivial⟩
    ⟨z_blind E _ mem, fun U hU hW => ⟨rfl, z_pre C hP hS hU hW⟩⟩ rfl hd.2.1 hl.1 hst (lv_room hd.2.2) d
    ⟨C.2.2.2.2.2.2.2.2.2.2.1, C.2.2.2.2.2.2.2.2.2.2.2⟩) (fun H1 locs1 hP1 hS1 => kk H1 locs1 ls hP1 hS1 hl)
theorem z_mmax {index : Nat} {x y : Int32} {rest : List Value} (C : zC E Γ own cc nL dd) (d : decode cc pc = .ok (.invokestatic index, 3)) (w1 : Cond.methodLink own index Lib.Math.max.name ∈ wsL_law) (w2 : Cond.static Lib.Math.max.name ∈ wsL_law) (w3 : Cond.initialized "java/lang/Math" ∈ wsL_law) (w4 : Cond.code Lib.Math.max.name Lib.Math.max.code 2 (some .int) ∈ wsL_law) (hd : 1 ≤ dd ∧ (rest.map fun v => v.category).sum + 13 ≤ 40 * dd) (kk : zG l E Γ nL (pc + 3) loc (.int (if x < y then y else x) :: rest) mem) : zG l E Γ nL pc loc (.int y :: .int x :: rest) mem :=
  fun H locs ls hP hS hl => va_mmax C.1 C.2.1 (C.2.2.1.trans hl.1.symm) C.2.2.2.1 (C.2.2.2.2.1 _ w1) (C.2.2.2.2.1 _ w2) (C.2.2.2.2.1 _ w3) (C.2.2.2.2.1 _ w4) (Nat.le_trans hd.1 C.2.2.2.2.2.2.2.2.1) (Nat.le_trans hd.2 C.2.2.2.2.2.2.2.2.2.1) C.2.2.2.2.2.2.2.2.2.2.1 C.2.2.2.2.2.2.2.2.2.2.2 d (kk H locs ls hP hS hl)
theorem z_mmin {index : Nat} {x y : Int32} {rest : List Value} (C : zC E Γ own cc nL dd) (d : decode cc pc = .ok (.invokestatic index, 3)) (w1 : Cond.methodLink own index Lib.Math.min.name ∈ wsL_law) (w2 : Cond.static Lib.Math.min.name ∈ wsL_law) (w3 : Cond.initialized "java/lang/Math" ∈ wsL_law) (w4 : Cond.code Lib.Math.min.name Lib.Math.min.code 2 (some .int) ∈ wsL_law) (hd : 1 ≤ dd ∧ (rest.map fun v => v.category).sum + 13 ≤ 40 * dd) (kk : zG l E Γ nL (pc + 3) loc (.int (if y < x then y else x) :: rest) mem) : zG l E Γ nL pc loc (.int y :: .int x :: rest) mem :=
  fun H locs ls hP hS hl => va_mmin C.1 C.2.1 (C.2.2.1.trans hl.1.symm) C.2.2.2.1 (C.2.2.2.2.1 _ w1) (C.2.2.2.2.1 _ w2) (C.2.2.2.2.1 _ w3) (C.2.2.2.2.1 _ w4) (Nat.le_trans hd.1 C.2.2.2.2.2.2.2.2.1) (Nat.le_trans hd.2 C.2.2.2.2.2.2.2.2.2.1) C.2.2.2.2.2.2.2.2.2.2.1 C.2.2.2.2.2.2.2.2.2.2.2 d (kk H locs ls hP hS hl)
def zcp (mem : ZM) (a i b j n : Nat) : ZM := zup mem b (va_cpy (mem a) (mem b) i j n)
def zcpg (i j n : Int32) (na nb : Nat) : Bool := decide (0 ≤ i) && decide (0 ≤ j) && decide (0 ≤ n) && decide (i.toNatClampNeg + n.toNatClampNeg ≤ na) && decide (j.toNatClampNeg + n.toNatClampNeg ≤ nb)
theorem z_acopy {K : ZM → Option α} {index a b na nb : Nat} {i j n : Int32} {rest : List Value} (C : zC E Γ own cc nL dd) (d : decode cc pc = .ok (.invokestatic index, 3)) (w1 : Cond.methodLink own index arraycopyName ∈ wsL_law) (w2 : Cond.native arraycopyName ∈ wsL_law) (w3 : Cond.static arraycopyName ∈ wsL_law) (w4 : Cond.initialized "java/lang/System" ∈ wsL_law) (ha : zAr E a na) (hb : zAr E b nb) (hd : 1 ≤ dd ∧ (rest.map fun v => v.category).sum + (nativeFrameWords "java/lang/System" "arraycopy" 5 + 11) ≤ 40 * dd) (h : zgd (zcpg i j n na nb) (zlet (zcp mem a i.toNatClampNeg b j.toNatClampNeg n.toNatClampNeg) K) = some t) (kk : ∀ mem' : ZM, K mem' = some t → zG l E Γ nL (pc + 3) loc rest mem') : zG l E Γ nL pc loc (.int n :: .int j :: .ref (E.2.1 b) :: .int i :: .ref (E.2.1 a) :: rest) mem := by
  intro H locs ls hP hS hl
  obtain ⟨g, h⟩ := zgd_some h
  unfold zcpg at g
  simp only [Bool.and_eq_true, decide_eq_true_eq] at g
  obtain ⟨⟨⟨⟨g1, g2⟩, g3⟩, g4⟩, g5⟩ := g
  refine va_copyi (ty := .int) C.1 C.2.1 (C.2.2.1.trans hl.1.symm) C.2.2.2.1 (C.2.2.2.2.1 _ w1) (C.2.2.2.2.1 _ w2) (C.2.2.2.2.1 _ w3) (C.2.2.2.2.1 _ w4) C.2.2.2.2.2.1 hP (zws_D C.2.2.2.2.2.2.1) hS a b 0 0 (by rw [zws_get ha.1, ha.2]) (by rw [zws_get hb.1, hb.2]) rfl rfl rfl (Int32.not_lt.mpr g1) (Int32.not_lt.mpr g2) (Int32.not_lt.mpr g3) g4 g5 (fun _ _ => rfl) (Nat.le_trans hd.1 C.2.2.2.2.2.2.2.2.1) (Nat.le_trans hd.2 C.2.2.2.2.2.2.2.2.2.1) d (fun H1 locs1 hP1 hD1 hS1 => ?_)
  rw [zws_set hb.1 (va_cpy (mem a) (mem b) i.toNatClampNeg j.toNatClampNeg n.toNatClampNeg) (hb.2 _)] at hP1
  exact kk _ h H1 locs1 ls hP1 hS1 hl
end ZROWS
