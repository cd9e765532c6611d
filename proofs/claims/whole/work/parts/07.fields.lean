section ZF
variable {l : Launch} {E : ZE} {Γ : ZG} {own : String} {cc : ByteArray} {nL dd pc : Nat} {loc : List (Nat × Value)} {stk : List Value} {mem : ZM} {α : Type} {t : α} {K : ZM → Option α} {index : Nat}
theorem zen_5 {f : Nat → Int32} : zent E f 5 = .inr (0, [.int (f 0), .int (f 1), .ref (E.2.1 6), .ref (E.2.1 7), .ref (E.2.1 8), .ref (E.2.1 9), .ref (E.2.1 10), .ref (E.2.1 11), .ref (E.2.1 12), .ref (E.2.1 13)]) := rfl
theorem zen_15 {f : Nat → Int32} : zent E f 15 = .inr (1, [.ref (E.2.1 16), .int (f 1), .int (f 2), .int (f 3), .int (f 4), .int (f 5)]) := rfl
theorem zen_14 {f : Nat → Int32} : zent E f 14 = .inr (2, [.ref (E.2.1 37)]) := rfl
theorem zen_3 {f : Nat → Int32} : zent E f 3 = .inr (5, [.ref (E.2.1 4), .int (f 1), .int (f 2), .int (f 3), .int (f 4)]) := rfl
theorem zen_0 {f : Nat → Int32} : zent E f 0 = .inr (6, [.ref (E.2.1 1), .ref (E.2.1 2), .ref (E.2.1 17), .ref (E.2.1 22), .ref (E.2.1 3), .ref (E.2.1 5), .ref (E.2.1 14), .ref (E.2.1 15), .int (f 8)]) := rfl
theorem zen_58 {f : Nat → Int32} : zent E f 58 = .inr (7, [.ref (E.2.1 59), .ref (E.2.1 60), .ref (E.2.1 61), .int (f 3), .int (f 4), .ref (E.2.1 62), .ref (E.2.1 63), .ref (E.2.1 64), .int (f 8), .int (f 9), .int (f 10), .int (f 11), .int (f 12), .int (f 13), .int (f 14), .ref (E.2.1 65), .ref (E.2.1 66), .int (f 17), .ref (E.2.1 67), .int (f 19), .ref (E.2.1 68), .ref (E.2.1 69), .ref (E.2.1 70), .ref (E.2.1 71), .int (f 24)]) := rfl
theorem zar4 : zAr E 4 90 := ⟨by decide, fun _ => rfl⟩
theorem zar6 : zAr E 6 192 := ⟨by decide, fun _ => rfl⟩
theorem zar7 : zAr E 7 192 := ⟨by decide, fun _ => rfl⟩
theorem zar8 : zAr E 8 192 := ⟨by decide, fun _ => rfl⟩
theorem zar9 : zAr E 9 24 := ⟨by decide, fun _ => rfl⟩
theorem zar10 : zAr E 10 24 := ⟨by decide, fun _ => rfl⟩
theorem zar11 : zAr E 11 24 := ⟨by decide, fun _ => rfl⟩
theorem zar12 : zAr E 12 24 := ⟨by decide, fun _ => rfl⟩
theorem zar13 : zAr E 13 24 := ⟨by decide, fun _ => rfl⟩
theorem zar16 : zAr E 16 16 := ⟨by decide, fun _ => rfl⟩
theorem zar59 : zAr E 59 8 := ⟨by decide, fun _ => rfl⟩
theorem zar60 : zAr E 60 8 := ⟨by decide, fun _ => rfl⟩
theorem zar61 : zAr E 61 320 := ⟨by decide, fun _ => rfl⟩
theorem zar62 : zAr E 62 38 := ⟨by decide, fun _ => rfl⟩
theorem zar63 : zAr E 63 40 := ⟨by decide, fun _ => rfl⟩
theorem zar64 : zAr E 64 90 := ⟨by decide, fun _ => rfl⟩
theorem zar65 : zAr E 65 38 := ⟨by decide, fun _ => rfl⟩
theorem zar66 : zAr E 66 8 := ⟨by decide, fun _ => rfl⟩
theorem zar67 : zAr E 67 912 := ⟨by decide, fun _ => rfl⟩
theorem zar68 : zAr E 68 38 := ⟨by decide, fun _ => rfl⟩
theorem zar70 : zAr E 70 76 := ⟨by decide, fun _ => rfl⟩
theorem zar71 : zAr E 71 16 := ⟨by decide, fun _ => rfl⟩
theorem zarZ69 : zArZ E 69 2 := ⟨by decide, fun _ => rfl⟩
theorem zH17 : zH 17 := Or.inl rfl
theorem zH22 : zH 22 := Or.inr (Or.inl rfl)
theorem zH37 : zH 37 := Or.inr (Or.inr (Or.inr (Or.inr rfl)))
theorem zbl0 : zbl 0 = true := by decide
theorem zbl1 : zbl 1 = true := by decide
theorem zne {x v : Int32} (h : ¬ x = v) : x.toInt ≠ v.toInt := fun e => h (Int32.toInt_inj.mp e)
theorem z_el {A B G : Type} {f : A → G} {g : B → G} {a : A} {x : G} (h : Sum.elim f g (Sum.inl a) = x) : f a = x := h
theorem z_er {A B G : Type} {f : A → G} {g : B → G} {a : B} {x : G} (h : Sum.elim f g (Sum.inr a) = x) : g a = x := h
theorem zg0_0 (C : zC E Γ own cc nL dd) (d : decode cc pc = .ok (.getfield index, 3)) (hw : Cond.fieldLink own index "BonfireHeaps$Acts" "kept" "I" ∈ wsL_law) (kk : zG l E Γ nL (pc + 3) loc (.int (mem 5 0) :: stk) mem) : zG l E Γ nL pc loc (.ref (E.2.1 5) :: stk) mem :=
  z_getf C d (by decide) zen_5 rfl inlX0 0 (by decide) rfl hw rfl kk
theorem zp0_0 {x : Int32} (C : zC E Γ own cc nL dd) (d : decode cc pc = .ok (.putfield index, 3)) (hw : Cond.fieldLink own index "BonfireHeaps$Acts" "kept" "I" ∈ wsL_law) (h : zlet (zst mem 5 0 x) K = some t) (kk : ∀ m : ZM, K m = some t → zG l E Γ nL (pc + 3) loc stk m) : zG l E Γ nL pc loc (.int x :: .ref (E.2.1 5) :: stk) mem :=
  z_putf (ty := .int) C d (by decide) zen_5 rfl inlX0 tyX0_ok nmX0 0 (by decide) rfl hw (by decide +kernel) rfl rfl (Nat.le_of_ble_eq_true rfl) rfl h kk
theorem zg0_1 (C : zC E Γ own cc nL dd) (d : decode cc pc = .ok (.getfield index, 3)) (hw : Cond.fieldLink own index "BonfireHeaps$Acts" "next" "I" ∈ wsL_law) (kk : zG l E Γ nL (pc + 3) loc (.int (mem 5 1) :: stk) mem) : zG l E Γ nL pc loc (.ref (E.2.1 5) :: stk) mem :=
  z_getf C d (by decide) zen_5 rfl inlX0 1 (by decide) rfl hw rfl kk
theorem zp0_1 {x : Int32} (C : zC E Γ own cc nL dd) (d : decode cc pc = .ok (.putfield index, 3)) (hw : Cond.fieldLink own index "BonfireHeaps$Acts" "next" "I" ∈ wsL_law) (h : zlet (zst mem 5 1 x) K = some t) (kk : ∀ m : ZM, K m = some t → zG l E Γ nL (pc + 3) loc stk m) : zG l E Γ nL pc loc (.int x :: .ref (E.2.1 5) :: stk) mem :=
  z_putf (ty := .int) C d (by decide) zen_5 rfl inlX0 tyX0_ok nmX0 1 (by decide) rfl hw (by decide +kernel) rfl rfl (Nat.le_of_ble_eq_true rfl) rfl h kk
theorem zg0_2 (C : zC E Γ own cc nL dd) (d : decode cc pc = .ok (.getfield index, 3)) (hw : Cond.fieldLink own index "BonfireHeaps$Acts" "stuff" "[I" ∈ wsL_law) (kk : zG l E Γ nL (pc + 3) loc (.ref (E.2.1 6) :: stk) mem) : zG l E Γ nL pc loc (.ref (E.2.1 5) :: stk) mem :=
  z_getf C d (by decide) zen_5 rfl inlX0 2 (by decide) rfl hw rfl kk
theorem zg0_3 (C : zC E Γ own cc nL dd) (d : decode cc pc = .ok (.getfield index, 3)) (hw : Cond.fieldLink own index "BonfireHeaps$Acts" "wet" "[I" ∈ wsL_law) (kk : zG l E Γ nL (pc + 3) loc (.ref (E.2.1 7) :: stk) mem) : zG l E Γ nL pc loc (.ref (E.2.1 5) :: stk) mem :=
  z_getf C d (by decide) zen_5 rfl inlX0 3 (by decide) rfl hw rfl kk
theorem zg0_4 (C : zC E Γ own cc nL dd) (d : decode cc pc = .ok (.getfield index, 3)) (hw : Cond.fieldLink own index "BonfireHeaps$Acts" "places" "[I" ∈ wsL_law) (kk : zG l E Γ nL (pc + 3) loc (.ref (E.2.1 8) :: stk) mem) : zG l E Γ nL pc loc (.ref (E.2.1 5) :: stk) mem :=
  z_getf C d (by decide) zen_5 rfl inlX0 4 (by decide) rfl hw rfl kk
theorem zg0_5 (C : zC E Γ own cc nL dd) (d : decode cc pc = .ok (.getfield index, 3)) (hw : Cond.fieldLink own index "BonfireHeaps$Acts" "lit" "[I" ∈ wsL_law) (kk : zG l E Γ nL (pc + 3) loc (.ref (E.2.1 9) :: stk) mem) : zG l E Γ nL pc loc (.ref (E.2.1 5) :: stk) mem :=
  z_getf C d (by decide) zen_5 rfl inlX0 5 (by decide) rfl hw rfl kk
theorem zg0_6 (C : zC E Γ own cc nL dd) (d : decode cc pc = .ok (.getfield index, 3)) (hw : Cond.fieldLink own index "BonfireHeaps$Acts" "out" "[I" ∈ wsL_law) (kk : zG l E Γ nL (pc + 3) loc (.ref (E.2.1 10) :: stk) mem) : zG l E Γ nL pc loc (.ref (E.2.1 5) :: stk) mem :=
  z_getf C d (by decide) zen_5 rfl inlX0 6 (by decide) rfl hw rfl kk
theorem zg0_7 (C : zC E Γ own cc nL dd) (d : decode cc pc = .ok (.getfield index, 3)) (hw : Cond.fieldLink own index "BonfireHeaps$Acts" "wind" "[I" ∈ wsL_law) (kk : zG l E Γ nL (pc + 3) loc (.ref (E.2.1 11) :: stk) mem) : zG l E Γ nL pc loc (.ref (E.2.1 5) :: stk) mem :=
  z_getf C d (by decide) zen_5 rfl inlX0 7 (by decide) rfl hw rfl kk
theorem zg0_8 (C : zC E Γ own cc nL dd) (d : decode cc pc = .ok (.getfield index, 3)) (hw : Cond.fieldLink own index "BonfireHeaps$Acts" "smoke" "[I" ∈ wsL_law) (kk : zG l E Γ nL (pc + 3) loc (.ref (E.2.1 12) :: stk) mem) : zG l E Γ nL pc loc (.ref (E.2.1 5) :: stk) mem :=
  z_getf C d (by decide) zen_5 rfl inlX0 8 (by decide) rfl hw rfl kk
theorem zg0_9 (C : zC E Γ own cc nL dd) (d : decode cc pc = .ok (.getfield index, 3)) (hw : Cond.fieldLink own index "BonfireHeaps$Acts" "hour" "[I" ∈ wsL_law) (kk : zG l E Γ nL (pc + 3) loc (.ref (E.2.1 13) :: stk) mem) : zG l E Γ nL pc loc (.ref (E.2.1 5) :: stk) mem :=
  z_getf C d (by decide) zen_5 rfl inlX0 9 (by decide) rfl hw rfl kk
theorem zg1_0 (C : zC E Γ own cc nL dd) (d : decode cc pc = .ok (.getfield index, 3)) (hw : Cond.fieldLink own index "BonfireHeaps$Asks" "bodies" "[I" ∈ wsL_law) (kk : zG l E Γ nL (pc + 3) loc (.ref (E.2.1 16) :: stk) mem) : zG l E Γ nL pc loc (.ref (E.2.1 15) :: stk) mem :=
  z_getf C d (by decide) zen_15 rfl inlX1 0 (by decide) rfl hw rfl kk
theorem zg1_1 (C : zC E Γ own cc nL dd) (d : decode cc pc = .ok (.getfield index, 3)) (hw : Cond.fieldLink own index "BonfireHeaps$Asks" "traced" "I" ∈ wsL_law) (kk : zG l E Γ nL (pc + 3) loc (.int (mem 15 1) :: stk) mem) : zG l E Γ nL pc loc (.ref (E.2.1 15) :: stk) mem :=
  z_getf C d (by decide) zen_15 rfl inlX1 1 (by decide) rfl hw rfl kk
theorem zp1_1 {x : Int32} (C : zC E Γ own cc nL dd) (d : decode cc pc = .ok (.putfield index, 3)) (hw : Cond.fieldLink own index "BonfireHeaps$Asks" "traced" "I" ∈ wsL_law) (h : zlet (zst mem 15 1 x) K = some t) (kk : ∀ m : ZM, K m = some t → zG l E Γ nL (pc + 3) loc stk m) : zG l E Γ nL pc loc (.int x :: .ref (E.2.1 15) :: stk) mem :=
  z_putf (ty := .int) C d (by decide) zen_15 rfl inlX1 tyX1_ok nmX1 1 (by decide) rfl hw (by decide +kernel) rfl rfl (Nat.le_of_ble_eq_true rfl) rfl h kk
theorem zg1_2 (C : zC E Γ own cc nL dd) (d : decode cc pc = .ok (.getfield index, 3)) (hw : Cond.fieldLink own index "BonfireHeaps$Asks" "number" "I" ∈ wsL_law) (kk : zG l E Γ nL (pc + 3) loc (.int (mem 15 2) :: stk) mem) : zG l E Γ nL pc loc (.ref (E.2.1 15) :: stk) mem :=
  z_getf C d (by decide) zen_15 rfl inlX1 2 (by decide) rfl hw rfl kk
theorem zp1_2 {x : Int32} (C : zC E Γ own cc nL dd) (d : decode cc pc = .ok (.putfield index, 3)) (hw : Cond.fieldLink own index "BonfireHeaps$Asks" "number" "I" ∈ wsL_law) (h : zlet (zst mem 15 2 x) K = some t) (kk : ∀ m : ZM, K m = some t → zG l E Γ nL (pc + 3) loc stk m) : zG l E Γ nL pc loc (.int x :: .ref (E.2.1 15) :: stk) mem :=
  z_putf (ty := .int) C d (by decide) zen_15 rfl inlX1 tyX1_ok nmX1 2 (by decide) rfl hw (by decide +kernel) rfl rfl (Nat.le_of_ble_eq_true rfl) rfl h kk
theorem zg1_3 (C : zC E Γ own cc nL dd) (d : decode cc pc = .ok (.getfield index, 3)) (hw : Cond.fieldLink own index "BonfireHeaps$Asks" "kind" "I" ∈ wsL_law) (kk : zG l E Γ nL (pc + 3) loc (.int (mem 15 3) :: stk) mem) : zG l E Γ nL pc loc (.ref (E.2.1 15) :: stk) mem :=
  z_getf C d (by decide) zen_15 rfl inlX1 3 (by decide) rfl hw rfl kk
theorem zp1_3 {x : Int32} (C : zC E Γ own cc nL dd) (d : decode cc pc = .ok (.putfield index, 3)) (hw : Cond.fieldLink own index "BonfireHeaps$Asks" "kind" "I" ∈ wsL_law) (h : zlet (zst mem 15 3 x) K = some t) (kk : ∀ m : ZM, K m = some t → zG l E Γ nL (pc + 3) loc stk m) : zG l E Γ nL pc loc (.int x :: .ref (E.2.1 15) :: stk) mem :=
  z_putf (ty := .int) C d (by decide) zen_15 rfl inlX1 tyX1_ok nmX1 3 (by decide) rfl hw (by decide +kernel) rfl rfl (Nat.le_of_ble_eq_true rfl) rfl h kk
theorem zg1_4 (C : zC E Γ own cc nL dd) (d : decode cc pc = .ok (.getfield index, 3)) (hw : Cond.fieldLink own index "BonfireHeaps$Asks" "stuff" "I" ∈ wsL_law) (kk : zG l E Γ nL (pc + 3) loc (.int (mem 15 4) :: stk) mem) : zG l E Γ nL pc loc (.ref (E.2.1 15) :: stk) mem :=
  z_getf C d (by decide) zen_15 rfl inlX1 4 (by decide) rfl hw rfl kk
theorem zp1_4 {x : Int32} (C : zC E Γ own cc nL dd) (d : decode cc pc = .ok (.putfield index, 3)) (hw : Cond.fieldLink own index "BonfireHeaps$Asks" "stuff" "I" ∈ wsL_law) (h : zlet (zst mem 15 4 x) K = some t) (kk : ∀ m : ZM, K m = some t → zG l E Γ nL (pc + 3) loc stk m) : zG l E Γ nL pc loc (.int x :: .ref (E.2.1 15) :: stk) mem :=
  z_putf (ty := .int) C d (by decide) zen_15 rfl inlX1 tyX1_ok nmX1 4 (by decide) rfl hw (by decide +kernel) rfl rfl (Nat.le_of_ble_eq_true rfl) rfl h kk
theorem zg1_5 (C : zC E Γ own cc nL dd) (d : decode cc pc = .ok (.getfield index, 3)) (hw : Cond.fieldLink own index "BonfireHeaps$Asks" "wet" "I" ∈ wsL_law) (kk : zG l E Γ nL (pc + 3) loc (.int (mem 15 5) :: stk) mem) : zG l E Γ nL pc loc (.ref (E.2.1 15) :: stk) mem :=
  z_getf C d (by decide) zen_15 rfl inlX1 5 (by decide) rfl hw rfl kk
theorem zp1_5 {x : Int32} (C : zC E Γ own cc nL dd) (d : decode cc pc = .ok (.putfield index, 3)) (hw : Cond.fieldLink own index "BonfireHeaps$Asks" "wet" "I" ∈ wsL_law) (h : zlet (zst mem 15 5 x) K = some t) (kk : ∀ m : ZM, K m = some t → zG l E Γ nL (pc + 3) loc stk m) : zG l E Γ nL pc loc (.int x :: .ref (E.2.1 15) :: stk) mem :=
  z_putf (ty := .int) C d (by decide) zen_15 rfl inlX1 tyX1_ok nmX1 5 (by decide) rfl hw (by decide +kernel) rfl rfl (Nat.le_of_ble_eq_true rfl) rfl h kk
theorem zg2_0 (C : zC E Γ own cc nL dd) (d : decode cc pc = .ok (.getfield index, 3)) (hw : Cond.fieldLink own index "BonfireHeaps$Foretold" "trial" "LBonfireHeaps$Heap;" ∈ wsL_law) (kk : zG l E Γ nL (pc + 3) loc (.ref (E.2.1 37) :: stk) mem) : zG l E Γ nL pc loc (.ref (E.2.1 14) :: stk) mem :=
  z_getf C d (by decide) zen_14 rfl inlX2 0 (by decide) rfl hw rfl kk
theorem zg3_0 {b : Nat} (C : zC E Γ own cc nL dd) (d : decode cc pc = .ok (.getfield index, 3)) (hb : zH b) (hw : Cond.fieldLink own index "BonfireHeaps$Heap" "things" "I" ∈ wsL_law) (kk : zG l E Γ nL (pc + 3) loc (.int (mem b 0) :: stk) mem) : zG l E Γ nL pc loc (.ref (E.2.1 b) :: stk) mem :=
  z_getf C d (zH_lt hb) (zH_ent hb) rfl inlX3 0 (by decide) rfl hw rfl kk
theorem zp3_0 {b : Nat} {x : Int32} (C : zC E Γ own cc nL dd) (d : decode cc pc = .ok (.putfield index, 3)) (hb : zH b) (hw : Cond.fieldLink own index "BonfireHeaps$Heap" "things" "I" ∈ wsL_law) (h : zlet (zst mem b 0 x) K = some t) (kk : ∀ m : ZM, K m = some t → zG l E Γ nL (pc + 3) loc stk m) : zG l E Γ nL pc loc (.int x :: .ref (E.2.1 b) :: stk) mem :=
  z_putf (ty := .int) C d (zH_lt hb) (zH_ent hb) rfl inlX3 tyX3_ok nmX3 0 (by decide) rfl hw (by decide +kernel) rfl rfl (Nat.le_of_ble_eq_true rfl) ((zH_ent hb).trans rfl) h kk
theorem zg3_1 {b : Nat} (C : zC E Γ own cc nL dd) (d : decode cc pc = .ok (.getfield index, 3)) (hb : zH b) (hw : Cond.fieldLink own index "BonfireHeaps$Heap" "kinds" "[I" ∈ wsL_law) (kk : zG l E Γ nL (pc + 3) loc (.ref (E.2.1 (b + 1)) :: stk) mem) : zG l E Γ nL pc loc (.ref (E.2.1 b) :: stk) mem :=
  z_getf C d (zH_lt hb) (zH_ent hb) rfl inlX3 1 (by decide) rfl hw rfl kk
theorem zg3_2 {b : Nat} (C : zC E Γ own cc nL dd) (d : decode cc pc = .ok (.getfield index, 3)) (hb : zH b) (hw : Cond.fieldLink own index "BonfireHeaps$Heap" "stuff" "[I" ∈ wsL_law) (kk : zG l E Γ nL (pc + 3) loc (.ref (E.2.1 (b + 2)) :: stk) mem) : zG l E Γ nL pc loc (.ref (E.2.1 b) :: stk) mem :=
  z_getf C d (zH_lt hb) (zH_ent hb) rfl inlX3 2 (by decide) rfl hw rfl kk
theorem zg3_3 {b : Nat} (C : zC E Γ own cc nL dd) (d : decode cc pc = .ok (.getfield index, 3)) (hb : zH b) (hw : Cond.fieldLink own index "BonfireHeaps$Heap" "wet" "[I" ∈ wsL_law) (kk : zG l E Γ nL (pc + 3) loc (.ref (E.2.1 (b + 3)) :: stk) mem) : zG l E Γ nL pc loc (.ref (E.2.1 b) :: stk) mem :=
  z_getf C d (zH_lt hb) (zH_ent hb) rfl inlX3 3 (by decide) rfl hw rfl kk
theorem zg3_4 {b : Nat} (C : zC E Γ own cc nL dd) (d : decode cc pc = .ok (.getfield index, 3)) (hb : zH b) (hw : Cond.fieldLink own index "BonfireHeaps$Heap" "places" "[I" ∈ wsL_law) (kk : zG l E Γ nL (pc + 3) loc (.ref (E.2.1 (b + 4)) :: stk) mem) : zG l E Γ nL pc loc (.ref (E.2.1 b) :: stk) mem :=
  z_getf C d (zH_lt hb) (zH_ent hb) rfl inlX3 4 (by decide) rfl hw rfl kk
theorem zg3_5 {b : Nat} (C : zC E Γ own cc nL dd) (d : decode cc pc = .ok (.getfield index, 3)) (hb : zH b) (hw : Cond.fieldLink own index "BonfireHeaps$Heap" "lit" "I" ∈ wsL_law) (kk : zG l E Γ nL (pc + 3) loc (.int (mem b 5) :: stk) mem) : zG l E Γ nL pc loc (.ref (E.2.1 b) :: stk) mem :=
  z_getf C d (zH_lt hb) (zH_ent hb) rfl inlX3 5 (by decide) rfl hw rfl kk
theorem zp3_5 {b : Nat} {x : Int32} (C : zC E Γ own cc nL dd) (d : decode cc pc = .ok (.putfield index, 3)) (hb : zH b) (hw : Cond.fieldLink own index "BonfireHeaps$Heap" "lit" "I" ∈ wsL_law) (h : zlet (zst mem b 5 x) K = some t) (kk : ∀ m : ZM, K m = some t → zG l E Γ nL (pc + 3) loc stk m) : zG l E Γ nL pc loc (.int x :: .ref (E.2.1 b) :: stk) mem :=
  z_putf (ty := .int) C d (zH_lt hb) (zH_ent hb) rfl inlX3 tyX3_ok nmX3 5 (by decide) rfl hw (by decide +kernel) rfl rfl (Nat.le_of_ble_eq_true rfl) ((zH_ent hb).trans rfl) h kk
theorem zg3_6 {b : Nat} (C : zC E Γ own cc nL dd) (d : decode cc pc = .ok (.getfield index, 3)) (hb : zH b) (hw : Cond.fieldLink own index "BonfireHeaps$Heap" "out" "I" ∈ wsL_law) (kk : zG l E Γ nL (pc + 3) loc (.int (mem b 6) :: stk) mem) : zG l E Γ nL pc loc (.ref (E.2.1 b) :: stk) mem :=
  z_getf C d (zH_lt hb) (zH_ent hb) rfl inlX3 6 (by decide) rfl hw rfl kk
theorem zp3_6 {b : Nat} {x : Int32} (C : zC E Γ own cc nL dd) (d : decode cc pc = .ok (.putfield index, 3)) (hb : zH b) (hw : Cond.fieldLink own index "BonfireHeaps$Heap" "out" "I" ∈ wsL_law) (h : zlet (zst mem b 6 x) K = some t) (kk : ∀ m : ZM, K m = some t → zG l E Γ nL (pc + 3) loc stk m) : zG l E Γ nL pc loc (.int x :: .ref (E.2.1 b) :: stk) mem :=
  z_putf (ty := .int) C d (zH_lt hb) (zH_ent hb) rfl inlX3 tyX3_ok nmX3 6 (by decide) rfl hw (by decide +kernel) rfl rfl (Nat.le_of_ble_eq_true rfl) ((zH_ent hb).trans rfl) h kk
theorem zg3_7 {b : Nat} (C : zC E Γ own cc nL dd) (d : decode cc pc = .ok (.getfield index, 3)) (hb : zH b) (hw : Cond.fieldLink own index "BonfireHeaps$Heap" "wind" "I" ∈ wsL_law) (kk : zG l E Γ nL (pc + 3) loc (.int (mem b 7) :: stk) mem) : zG l E Γ nL pc loc (.ref (E.2.1 b) :: stk) mem :=
  z_getf C d (zH_lt hb) (zH_ent hb) rfl inlX3 7 (by decide) rfl hw rfl kk
theorem zp3_7 {b : Nat} {x : Int32} (C : zC E Γ own cc nL dd) (d : decode cc pc = .ok (.putfield index, 3)) (hb : zH b) (hw : Cond.fieldLink own index "BonfireHeaps$Heap" "wind" "I" ∈ wsL_law) (h : zlet (zst mem b 7 x) K = some t) (kk : ∀ m : ZM, K m = some t → zG l E Γ nL (pc + 3) loc stk m) : zG l E Γ nL pc loc (.int x :: .ref (E.2.1 b) :: stk) mem :=
  z_putf (ty := .int) C d (zH_lt hb) (zH_ent hb) rfl inlX3 tyX3_ok nmX3 7 (by decide) rfl hw (by decide +kernel) rfl rfl (Nat.le_of_ble_eq_true rfl) ((zH_ent hb).trans rfl) h kk
theorem zg3_8 {b : Nat} (C : zC E Γ own cc nL dd) (d : decode cc pc = .ok (.getfield index, 3)) (hb : zH b) (hw : Cond.fieldLink own index "BonfireHeaps$Heap" "smoke" "I" ∈ wsL_law) (kk : zG l E Γ nL (pc + 3) loc (.int (mem b 8) :: stk) mem) : zG l E Γ nL pc loc (.ref (E.2.1 b) :: stk) mem :=
  z_getf C d (zH_lt hb) (zH_ent hb) rfl inlX3 8 (by decide) rfl hw rfl kk
theorem zp3_8 {b : Nat} {x : Int32} (C : zC E Γ own cc nL dd) (d : decode cc pc = .ok (.putfield index, 3)) (hb : zH b) (hw : Cond.fieldLink own index "BonfireHeaps$Heap" "smoke" "I" ∈ wsL_law) (h : zlet (zst mem b 8 x) K = some t) (kk : ∀ m : ZM, K m = some t → zG l E Γ nL (pc + 3) loc stk m) : zG l E Γ nL pc loc (.int x :: .ref (E.2.1 b) :: stk) mem :=
  z_putf (ty := .int) C d (zH_lt hb) (zH_ent hb) rfl inlX3 tyX3_ok nmX3 8 (by decide) rfl hw (by decide +kernel) rfl rfl (Nat.le_of_ble_eq_true rfl) ((zH_ent hb).trans rfl) h kk
theorem zg3_9 {b : Nat} (C : zC E Γ own cc nL dd) (d : decode cc pc = .ok (.getfield index, 3)) (hb : zH b) (hw : Cond.fieldLink own index "BonfireHeaps$Heap" "hour" "I" ∈ wsL_law) (kk : zG l E Γ nL (pc + 3) loc (.int (mem b 9) :: stk) mem) : zG l E Γ nL pc loc (.ref (E.2.1 b) :: stk) mem :=
  z_getf C d (zH_lt hb) (zH_ent hb) rfl inlX3 9 (by decide) rfl hw rfl kk
theorem zp3_9 {b : Nat} {x : Int32} (C : zC E Γ own cc nL dd) (d : decode cc pc = .ok (.putfield index, 3)) (hb : zH b) (hw : Cond.fieldLink own index "BonfireHeaps$Heap" "hour" "I" ∈ wsL_law) (h : zlet (zst mem b 9 x) K = some t) (kk : ∀ m : ZM, K m = some t → zG l E Γ nL (pc + 3) loc stk m) : zG l E Γ nL pc loc (.int x :: .ref (E.2.1 b) :: stk) mem :=
  z_putf (ty := .int) C d (zH_lt hb) (zH_ent hb) rfl inlX3 tyX3_ok nmX3 9 (by decide) rfl hw (by decide +kernel) rfl rfl (Nat.le_of_ble_eq_true rfl) ((zH_ent hb).trans rfl) h kk
theorem zg4_0 {b : Nat} (C : zC E Γ own cc nL dd) (d : decode cc pc = .ok (.getfield index, 3)) (hb : zRw b) (hw : Cond.fieldLink own index "BonfireHeaps$Row" "lane" "I" ∈ wsL_law) (kk : zG l E Γ nL (pc + 3) loc (.int (mem b 0) :: stk) mem) : zG l E Γ nL pc loc (.ref (E.2.1 b) :: stk) mem :=
  z_getf C d (zRw_lt hb) (zRw_ent hb) rfl inlX4 0 (by decide) rfl hw rfl kk
theorem zp4_0 {b : Nat} {x : Int32} (C : zC E Γ own cc nL dd) (d : decode cc pc = .ok (.putfield index, 3)) (hb : zRw b) (hw : Cond.fieldLink own index "BonfireHeaps$Row" "lane" "I" ∈ wsL_law) (h : zlet (zst mem b 0 x) K = some t) (kk : ∀ m : ZM, K m = some t → zG l E Γ nL (pc + 3) loc stk m) : zG l E Γ nL pc loc (.int x :: .ref (E.2.1 b) :: stk) mem :=
  z_putf (ty := .int) C d (zRw_lt hb) (zRw_ent hb) rfl inlX4 tyX4_ok nmX4 0 (by decide) rfl hw (by decide +kernel) rfl rfl (Nat.le_of_ble_eq_true rfl) ((zRw_ent hb).trans rfl) h kk
theorem zg4_1 {b : Nat} (C : zC E Γ own cc nL dd) (d : decode cc pc = .ok (.getfield index, 3)) (hb : zRw b) (hw : Cond.fieldLink own index "BonfireHeaps$Row" "size" "I" ∈ wsL_law) (kk : zG l E Γ nL (pc + 3) loc (.int (mem b 1) :: stk) mem) : zG l E Γ nL pc loc (.ref (E.2.1 b) :: stk) mem :=
  z_getf C d (zRw_lt hb) (zRw_ent hb) rfl inlX4 1 (by decide) rfl hw rfl kk
theorem zp4_1 {b : Nat} {x : Int32} (C : zC E Γ own cc nL dd) (d : decode cc pc = .ok (.putfield index, 3)) (hb : zRw b) (hw : Cond.fieldLink own index "BonfireHeaps$Row" "size" "I" ∈ wsL_law) (h : zlet (zst mem b 1 x) K = some t) (kk : ∀ m : ZM, K m = some t → zG l E Γ nL (pc + 3) loc stk m) : zG l E Γ nL pc loc (.int x :: .ref (E.2.1 b) :: stk) mem :=
  z_putf (ty := .int) C d (zRw_lt hb) (zRw_ent hb) rfl inlX4 tyX4_ok nmX4 1 (by decide) rfl hw (by decide +kernel) rfl rfl (Nat.le_of_ble_eq_true rfl) ((zRw_ent hb).trans rfl) h kk
theorem zg4_2 {b : Nat} (C : zC E Γ own cc nL dd) (d : decode cc pc = .ok (.getfield index, 3)) (hb : zRw b) (hw : Cond.fieldLink own index "BonfireHeaps$Row" "items" "[I" ∈ wsL_law) (kk : zG l E Γ nL (pc + 3) loc (.ref (E.2.1 (b + 1)) :: stk) mem) : zG l E Γ nL pc loc (.ref (E.2.1 b) :: stk) mem :=
  z_getf C d (zRw_lt hb) (zRw_ent hb) rfl inlX4 2 (by decide) rfl hw rfl kk
theorem zg5_0 (C : zC E Γ own cc nL dd) (d : decode cc pc = .ok (.getfield index, 3)) (hw : Cond.fieldLink own index "BonfireHeaps$Tape" "bytes" "[I" ∈ wsL_law) (kk : zG l E Γ nL (pc + 3) loc (.ref (E.2.1 4) :: stk) mem) : zG l E Γ nL pc loc (.ref (E.2.1 3) :: stk) mem :=
  z_getf C d (by decide) zen_3 rfl inlX5 0 (by decide) rfl hw rfl kk
theorem zg5_1 (C : zC E Γ own cc nL dd) (d : decode cc pc = .ok (.getfield index, 3)) (hw : Cond.fieldLink own index "BonfireHeaps$Tape" "size" "I" ∈ wsL_law) (kk : zG l E Γ nL (pc + 3) loc (.int (mem 3 1) :: stk) mem) : zG l E Γ nL pc loc (.ref (E.2.1 3) :: stk) mem :=
  z_getf C d (by decide) zen_3 rfl inlX5 1 (by decide) rfl hw rfl kk
theorem zp5_1 {x : Int32} (C : zC E Γ own cc nL dd) (d : decode cc pc = .ok (.putfield index, 3)) (hw : Cond.fieldLink own index "BonfireHeaps$Tape" "size" "I" ∈ wsL_law) (h : zlet (zst mem 3 1 x) K = some t) (kk : ∀ m : ZM, K m = some t → zG l E Γ nL (pc + 3) loc stk m) : zG l E Γ nL pc loc (.int x :: .ref (E.2.1 3) :: stk) mem :=
  z_putf (ty := .int) C d (by decide) zen_3 rfl inlX5 tyX5_ok nmX5 1 (by decide) rfl hw (by decide +kernel) rfl rfl (Nat.le_of_ble_eq_true rfl) rfl h kk
theorem zg5_2 (C : zC E Γ own cc nL dd) (d : decode cc pc = .ok (.getfield index, 3)) (hw : Cond.fieldLink own index "BonfireHeaps$Tape" "at" "I" ∈ wsL_law) (kk : zG l E Γ nL (pc + 3) loc (.int (mem 3 2) :: stk) mem) : zG l E Γ nL pc loc (.ref (E.2.1 3) :: stk) mem :=
  z_getf C d (by decide) zen_3 rfl inlX5 2 (by decide) rfl hw rfl kk
theorem zp5_2 {x : Int32} (C : zC E Γ own cc nL dd) (d : decode cc pc = .ok (.putfield index, 3)) (hw : Cond.fieldLink own index "BonfireHeaps$Tape" "at" "I" ∈ wsL_law) (h : zlet (zst mem 3 2 x) K = some t) (kk : ∀ m : ZM, K m = some t → zG l E Γ nL (pc + 3) loc stk m) : zG l E Γ nL pc loc (.int x :: .ref (E.2.1 3) :: stk) mem :=
  z_putf (ty := .int) C d (by decide) zen_3 rfl inlX5 tyX5_ok nmX5 2 (by decide) rfl hw (by decide +kernel) rfl rfl (Nat.le_of_ble_eq_true rfl) rfl h kk
theorem zg5_3 (C : zC E Γ own cc nL dd) (d : decode cc pc = .ok (.getfield index, 3)) (hw : Cond.fieldLink own index "BonfireHeaps$Tape" "latestFault" "I" ∈ wsL_law) (kk : zG l E Γ nL (pc + 3) loc (.int (mem 3 3) :: stk) mem) : zG l E Γ nL pc loc (.ref (E.2.1 3) :: stk) mem :=
  z_getf C d (by decide) zen_3 rfl inlX5 3 (by decide) rfl hw rfl kk
theorem zp5_3 {x : Int32} (C : zC E Γ own cc nL dd) (d : decode cc pc = .ok (.putfield index, 3)) (hw : Cond.fieldLink own index "BonfireHeaps$Tape" "latestFault" "I" ∈ wsL_law) (h : zlet (zst mem 3 3 x) K = some t) (kk : ∀ m : ZM, K m = some t → zG l E Γ nL (pc + 3) loc stk m) : zG l E Γ nL pc loc (.int x :: .ref (E.2.1 3) :: stk) mem :=
  z_putf (ty := .int) C d (by decide) zen_3 rfl inlX5 tyX5_ok nmX5 3 (by decide) rfl hw (by decide +kernel) rfl rfl (Nat.le_of_ble_eq_true rfl) rfl h kk
theorem zg5_4 (C : zC E Γ own cc nL dd) (d : decode cc pc = .ok (.getfield index, 3)) (hw : Cond.fieldLink own index "BonfireHeaps$Tape" "number" "I" ∈ wsL_law) (kk : zG l E Γ nL (pc + 3) loc (.int (mem 3 4) :: stk) mem) : zG l E Γ nL pc loc (.ref (E.2.1 3) :: stk) mem :=
  z_getf C d (by decide) zen_3 rfl inlX5 4 (by decide) rfl hw rfl kk
theorem zp5_4 {x : Int32} (C : zC E Γ own cc nL dd) (d : decode cc pc = .ok (.putfield index, 3)) (hw : Cond.fieldLink own index "BonfireHeaps$Tape" "number" "I" ∈ wsL_law) (h : zlet (zst mem 3 4 x) K = some t) (kk : ∀ m : ZM, K m = some t → zG l E Γ nL (pc + 3) loc stk m) : zG l E Γ nL pc loc (.int x :: .ref (E.2.1 3) :: stk) mem :=
  z_putf (ty := .int) C d (by decide) zen_3 rfl inlX5 tyX5_ok nmX5 4 (by decide) rfl hw (by decide +kernel) rfl rfl (Nat.le_of_ble_eq_true rfl) rfl h kk
theorem zg6_0 (C : zC E Γ own cc nL dd) (d : decode cc pc = .ok (.getfield index, 3)) (hw : Cond.fieldLink own index "BonfireHeaps" "rows" "[LBonfireHeaps$Row;" ∈ wsL_law) (kk : zG l E Γ nL (pc + 3) loc (.ref (E.2.1 1) :: stk) mem) : zG l E Γ nL pc loc (.ref (E.2.1 0) :: stk) mem :=
  z_getf C d (by decide) zen_0 rfl inlX6 0 (by decide) rfl hw rfl kk
theorem zg6_1 (C : zC E Γ own cc nL dd) (d : decode cc pc = .ok (.getfield index, 3)) (hw : Cond.fieldLink own index "BonfireHeaps" "images" "[LBonfireHeaps$Heap;" ∈ wsL_law) (kk : zG l E Γ nL (pc + 3) loc (.ref (E.2.1 2) :: stk) mem) : zG l E Γ nL pc loc (.ref (E.2.1 0) :: stk) mem :=
  z_getf C d (by decide) zen_0 rfl inlX6 1 (by decide) rfl hw rfl kk
theorem zg6_2 (C : zC E Γ own cc nL dd) (d : decode cc pc = .ok (.getfield index, 3)) (hw : Cond.fieldLink own index "BonfireHeaps" "now" "LBonfireHeaps$Heap;" ∈ wsL_law) (kk : zG l E Γ nL (pc + 3) loc (.ref (E.2.1 17) :: stk) mem) : zG l E Γ nL pc loc (.ref (E.2.1 0) :: stk) mem :=
  z_getf C d (by decide) zen_0 rfl inlX6 2 (by decide) rfl hw rfl kk
theorem zg6_3 (C : zC E Γ own cc nL dd) (d : decode cc pc = .ok (.getfield index, 3)) (hw : Cond.fieldLink own index "BonfireHeaps" "draft" "LBonfireHeaps$Heap;" ∈ wsL_law) (kk : zG l E Γ nL (pc + 3) loc (.ref (E.2.1 22) :: stk) mem) : zG l E Γ nL pc loc (.ref (E.2.1 0) :: stk) mem :=
  z_getf C d (by decide) zen_0 rfl inlX6 3 (by decide) rfl hw rfl kk
theorem zg6_4 (C : zC E Γ own cc nL dd) (d : decode cc pc = .ok (.getfield index, 3)) (hw : Cond.fieldLink own index "BonfireHeaps" "tape" "LBonfireHeaps$Tape;" ∈ wsL_law) (kk : zG l E Γ nL (pc + 3) loc (.ref (E.2.1 3) :: stk) mem) : zG l E Γ nL pc loc (.ref (E.2.1 0) :: stk) mem :=
  z_getf C d (by decide) zen_0 rfl inlX6 4 (by decide) rfl hw rfl kk
theorem zg6_5 (C : zC E Γ own cc nL dd) (d : decode cc pc = .ok (.getfield index, 3)) (hw : Cond.fieldLink own index "BonfireHeaps" "acts" "LBonfireHeaps$Acts;" ∈ wsL_law) (kk : zG l E Γ nL (pc + 3) loc (.ref (E.2.1 5) :: stk) mem) : zG l E Γ nL pc loc (.ref (E.2.1 0) :: stk) mem :=
  z_getf C d (by decide) zen_0 rfl inlX6 5 (by decide) rfl hw rfl kk
theorem zg6_6 (C : zC E Γ own cc nL dd) (d : decode cc pc = .ok (.getfield index, 3)) (hw : Cond.fieldLink own index "BonfireHeaps" "foretold" "LBonfireHeaps$Foretold;" ∈ wsL_law) (kk : zG l E Γ nL (pc + 3) loc (.ref (E.2.1 14) :: stk) mem) : zG l E Γ nL pc loc (.ref (E.2.1 0) :: stk) mem :=
  z_getf C d (by decide) zen_0 rfl inlX6 6 (by decide) rfl hw rfl kk
theorem zg6_7 (C : zC E Γ own cc nL dd) (d : decode cc pc = .ok (.getfield index, 3)) (hw : Cond.fieldLink own index "BonfireHeaps" "asks" "LBonfireHeaps$Asks;" ∈ wsL_law) (kk : zG l E Γ nL (pc + 3) loc (.ref (E.2.1 15) :: stk) mem) : zG l E Γ nL pc loc (.ref (E.2.1 0) :: stk) mem :=
  z_getf C d (by decide) zen_0 rfl inlX6 7 (by decide) rfl hw rfl kk
theorem zg6_8 (C : zC E Γ own cc nL dd) (d : decode cc pc = .ok (.getfield index, 3)) (hw : Cond.fieldLink own index "BonfireHeaps" "finding" "I" ∈ wsL_law) (kk : zG l E Γ nL (pc + 3) loc (.int (mem 0 8) :: stk) mem) : zG l E Γ nL pc loc (.ref (E.2.1 0) :: stk) mem :=
  z_getf C d (by decide) zen_0 rfl inlX6 8 (by decide) rfl hw rfl kk
theorem zp6_8 {x : Int32} (C : zC E Γ own cc nL dd) (d : decode cc pc = .ok (.putfield index, 3)) (hw : Cond.fieldLink own index "BonfireHeaps" "finding" "I" ∈ wsL_law) (h : zlet (zst mem 0 8 x) K = some t) (kk : ∀ m : ZM, K m = some t → zG l E Γ nL (pc + 3) loc stk m) : zG l E Γ nL pc loc (.int x :: .ref (E.2.1 0) :: stk) mem :=
  z_putf (ty := .int) C d (by decide) zen_0 rfl inlX6 tyX6_ok nmX6 8 (by decide) rfl hw (by decide +kernel) rfl rfl (Nat.le_of_ble_eq_true rfl) rfl h kk
theorem zg7_0 (C : zC E Γ own cc nL dd) (d : decode cc pc = .ok (.getfield index, 3)) (hw : Cond.fieldLink own index "BonfireHeapsModel" "lanes" "[I" ∈ wsL_law) (kk : zG l E Γ nL (pc + 3) loc (.ref (E.2.1 59) :: stk) mem) : zG l E Γ nL pc loc (.ref (E.2.1 58) :: stk) mem :=
  z_getf C d (by decide) zen_58 rfl inlX7 0 (by decide) rfl hw rfl kk
theorem zg7_1 (C : zC E Γ own cc nL dd) (d : decode cc pc = .ok (.getfield index, 3)) (hw : Cond.fieldLink own index "BonfireHeapsModel" "sizes" "[I" ∈ wsL_law) (kk : zG l E Γ nL (pc + 3) loc (.ref (E.2.1 60) :: stk) mem) : zG l E Γ nL pc loc (.ref (E.2.1 58) :: stk) mem :=
  z_getf C d (by decide) zen_58 rfl inlX7 1 (by decide) rfl hw rfl kk
theorem zg7_2 (C : zC E Γ own cc nL dd) (d : decode cc pc = .ok (.getfield index, 3)) (hw : Cond.fieldLink own index "BonfireHeapsModel" "items" "[I" ∈ wsL_law) (kk : zG l E Γ nL (pc + 3) loc (.ref (E.2.1 61) :: stk) mem) : zG l E Γ nL pc loc (.ref (E.2.1 58) :: stk) mem :=
  z_getf C d (by decide) zen_58 rfl inlX7 2 (by decide) rfl hw rfl kk
theorem zg7_3 (C : zC E Γ own cc nL dd) (d : decode cc pc = .ok (.getfield index, 3)) (hw : Cond.fieldLink own index "BonfireHeapsModel" "status" "I" ∈ wsL_law) (kk : zG l E Γ nL (pc + 3) loc (.int (mem 58 3) :: stk) mem) : zG l E Γ nL pc loc (.ref (E.2.1 58) :: stk) mem :=
  z_getf C d (by decide) zen_58 rfl inlX7 3 (by decide) rfl hw rfl kk
theorem zp7_3 {x : Int32} (C : zC E Γ own cc nL dd) (d : decode cc pc = .ok (.putfield index, 3)) (hw : Cond.fieldLink own index "BonfireHeapsModel" "status" "I" ∈ wsL_law) (h : zlet (zst mem 58 3 x) K = some t) (kk : ∀ m : ZM, K m = some t → zG l E Γ nL (pc + 3) loc stk m) : zG l E Γ nL pc loc (.int x :: .ref (E.2.1 58) :: stk) mem :=
  z_putf (ty := .int) C d (by decide) zen_58 rfl inlX7 tyX7_ok nmX7 3 (by decide) rfl hw (by decide +kernel) rfl rfl (Nat.le_of_ble_eq_true rfl) rfl h kk
theorem zg7_4 (C : zC E Γ own cc nL dd) (d : decode cc pc = .ok (.getfield index, 3)) (hw : Cond.fieldLink own index "BonfireHeapsModel" "isThere" "Z" ∈ wsL_law) (kk : zG l E Γ nL (pc + 3) loc (.int (mem 58 4) :: stk) mem) : zG l E Γ nL pc loc (.ref (E.2.1 58) :: stk) mem :=
  z_getf C d (by decide) zen_58 rfl inlX7 4 (by decide) rfl hw rfl kk
theorem zp7_4 (C : zC E Γ own cc nL dd) (d : decode cc pc = .ok (.putfield index, 3)) (hw : Cond.fieldLink own index "BonfireHeapsModel" "isThere" "Z" ∈ wsL_law) (h : zlet (zst mem 58 4 1) K = some t) (kk : ∀ m : ZM, K m = some t → zG l E Γ nL (pc + 3) loc stk m) : zG l E Γ nL pc loc (.int 1 :: .ref (E.2.1 58) :: stk) mem :=
  z_putf (ty := .boolean) C d (by decide) zen_58 rfl inlX7 tyX7_ok nmX7 4 (by decide) rfl hw (by decide +kernel) rfl rfl (Nat.le_of_ble_eq_true rfl) rfl h kk
theorem zg7_5 (C : zC E Γ own cc nL dd) (d : decode cc pc = .ok (.getfield index, 3)) (hw : Cond.fieldLink own index "BonfireHeapsModel" "st" "[I" ∈ wsL_law) (kk : zG l E Γ nL (pc + 3) loc (.ref (E.2.1 62) :: stk) mem) : zG l E Γ nL pc loc (.ref (E.2.1 58) :: stk) mem :=
  z_getf C d (by decide) zen_58 rfl inlX7 5 (by decide) rfl hw rfl kk
theorem zg7_6 (C : zC E Γ own cc nL dd) (d : decode cc pc = .ok (.getfield index, 3)) (hw : Cond.fieldLink own index "BonfireHeapsModel" "moved" "[I" ∈ wsL_law) (kk : zG l E Γ nL (pc + 3) loc (.ref (E.2.1 63) :: stk) mem) : zG l E Γ nL pc loc (.ref (E.2.1 58) :: stk) mem :=
  z_getf C d (by decide) zen_58 rfl inlX7 6 (by decide) rfl hw rfl kk
theorem zg7_7 (C : zC E Γ own cc nL dd) (d : decode cc pc = .ok (.getfield index, 3)) (hw : Cond.fieldLink own index "BonfireHeapsModel" "tape" "[I" ∈ wsL_law) (kk : zG l E Γ nL (pc + 3) loc (.ref (E.2.1 64) :: stk) mem) : zG l E Γ nL pc loc (.ref (E.2.1 58) :: stk) mem :=
  z_getf C d (by decide) zen_58 rfl inlX7 7 (by decide) rfl hw rfl kk
theorem zg7_8 (C : zC E Γ own cc nL dd) (d : decode cc pc = .ok (.getfield index, 3)) (hw : Cond.fieldLink own index "BonfireHeapsModel" "bytes" "I" ∈ wsL_law) (kk : zG l E Γ nL (pc + 3) loc (.int (mem 58 8) :: stk) mem) : zG l E Γ nL pc loc (.ref (E.2.1 58) :: stk) mem :=
  z_getf C d (by decide) zen_58 rfl inlX7 8 (by decide) rfl hw rfl kk
theorem zp7_8 {x : Int32} (C : zC E Γ own cc nL dd) (d : decode cc pc = .ok (.putfield index, 3)) (hw : Cond.fieldLink own index "BonfireHeapsModel" "bytes" "I" ∈ wsL_law) (h : zlet (zst mem 58 8 x) K = some t) (kk : ∀ m : ZM, K m = some t → zG l E Γ nL (pc + 3) loc stk m) : zG l E Γ nL pc loc (.int x :: .ref (E.2.1 58) :: stk) mem :=
  z_putf (ty := .int) C d (by decide) zen_58 rfl inlX7 tyX7_ok nmX7 8 (by decide) rfl hw (by decide +kernel) rfl rfl (Nat.le_of_ble_eq_true rfl) rfl h kk
theorem zg7_9 (C : zC E Γ own cc nL dd) (d : decode cc pc = .ok (.getfield index, 3)) (hw : Cond.fieldLink own index "BonfireHeapsModel" "latest" "I" ∈ wsL_law) (kk : zG l E Γ nL (pc + 3) loc (.int (mem 58 9) :: stk) mem) : zG l E Γ nL pc loc (.ref (E.2.1 58) :: stk) mem :=
  z_getf C d (by decide) zen_58 rfl inlX7 9 (by decide) rfl hw rfl kk
theorem zp7_9 {x : Int32} (C : zC E Γ own cc nL dd) (d : decode cc pc = .ok (.putfield index, 3)) (hw : Cond.fieldLink own index "BonfireHeapsModel" "latest" "I" ∈ wsL_law) (h : zlet (zst mem 58 9 x) K = some t) (kk : ∀ m : ZM, K m = some t → zG l E Γ nL (pc + 3) loc stk m) : zG l E Γ nL pc loc (.int x :: .ref (E.2.1 58) :: stk) mem :=
  z_putf (ty := .int) C d (by decide) zen_58 rfl inlX7 tyX7_ok nmX7 9 (by decide) rfl hw (by decide +kernel) rfl rfl (Nat.le_of_ble_eq_true rfl) rfl h kk
theorem zg7_10 (C : zC E Γ own cc nL dd) (d : decode cc pc = .ok (.getfield index, 3)) (hw : Cond.fieldLink own index "BonfireHeapsModel" "place" "I" ∈ wsL_law) (kk : zG l E Γ nL (pc + 3) loc (.int (mem 58 10) :: stk) mem) : zG l E Γ nL pc loc (.ref (E.2.1 58) :: stk) mem :=
  z_getf C d (by decide) zen_58 rfl inlX7 10 (by decide) rfl hw rfl kk
theorem zp7_10 {x : Int32} (C : zC E Γ own cc nL dd) (d : decode cc pc = .ok (.putfield index, 3)) (hw : Cond.fieldLink own index "BonfireHeapsModel" "place" "I" ∈ wsL_law) (h : zlet (zst mem 58 10 x) K = some t) (kk : ∀ m : ZM, K m = some t → zG l E Γ nL (pc + 3) loc stk m) : zG l E Γ nL pc loc (.int x :: .ref (E.2.1 58) :: stk) mem :=
  z_putf (ty := .int) C d (by decide) zen_58 rfl inlX7 tyX7_ok nmX7 10 (by decide) rfl hw (by decide +kernel) rfl rfl (Nat.le_of_ble_eq_true rfl) rfl h kk
theorem zg7_11 (C : zC E Γ own cc nL dd) (d : decode cc pc = .ok (.getfield index, 3)) (hw : Cond.fieldLink own index "BonfireHeapsModel" "token" "I" ∈ wsL_law) (kk : zG l E Γ nL (pc + 3) loc (.int (mem 58 11) :: stk) mem) : zG l E Γ nL pc loc (.ref (E.2.1 58) :: stk) mem :=
  z_getf C d (by decide) zen_58 rfl inlX7 11 (by decide) rfl hw rfl kk
theorem zp7_11 {x : Int32} (C : zC E Γ own cc nL dd) (d : decode cc pc = .ok (.putfield index, 3)) (hw : Cond.fieldLink own index "BonfireHeapsModel" "token" "I" ∈ wsL_law) (h : zlet (zst mem 58 11 x) K = some t) (kk : ∀ m : ZM, K m = some t → zG l E Γ nL (pc + 3) loc stk m) : zG l E Γ nL pc loc (.int x :: .ref (E.2.1 58) :: stk) mem :=
  z_putf (ty := .int) C d (by decide) zen_58 rfl inlX7 tyX7_ok nmX7 11 (by decide) rfl hw (by decide +kernel) rfl rfl (Nat.le_of_ble_eq_true rfl) rfl h kk
theorem zg7_12 (C : zC E Γ own cc nL dd) (d : decode cc pc = .ok (.getfield index, 3)) (hw : Cond.fieldLink own index "BonfireHeapsModel" "value" "I" ∈ wsL_law) (kk : zG l E Γ nL (pc + 3) loc (.int (mem 58 12) :: stk) mem) : zG l E Γ nL pc loc (.ref (E.2.1 58) :: stk) mem :=
  z_getf C d (by decide) zen_58 rfl inlX7 12 (by decide) rfl hw rfl kk
theorem zp7_12 {x : Int32} (C : zC E Γ own cc nL dd) (d : decode cc pc = .ok (.putfield index, 3)) (hw : Cond.fieldLink own index "BonfireHeapsModel" "value" "I" ∈ wsL_law) (h : zlet (zst mem 58 12 x) K = some t) (kk : ∀ m : ZM, K m = some t → zG l E Γ nL (pc + 3) loc stk m) : zG l E Γ nL pc loc (.int x :: .ref (E.2.1 58) :: stk) mem :=
  z_putf (ty := .int) C d (by decide) zen_58 rfl inlX7 tyX7_ok nmX7 12 (by decide) rfl hw (by decide +kernel) rfl rfl (Nat.le_of_ble_eq_true rfl) rfl h kk
theorem zg7_13 (C : zC E Γ own cc nL dd) (d : decode cc pc = .ok (.getfield index, 3)) (hw : Cond.fieldLink own index "BonfireHeapsModel" "begins" "I" ∈ wsL_law) (kk : zG l E Γ nL (pc + 3) loc (.int (mem 58 13) :: stk) mem) : zG l E Γ nL pc loc (.ref (E.2.1 58) :: stk) mem :=
  z_getf C d (by decide) zen_58 rfl inlX7 13 (by decide) rfl hw rfl kk
theorem zp7_13 {x : Int32} (C : zC E Γ own cc nL dd) (d : decode cc pc = .ok (.putfield index, 3)) (hw : Cond.fieldLink own index "BonfireHeapsModel" "begins" "I" ∈ wsL_law) (h : zlet (zst mem 58 13 x) K = some t) (kk : ∀ m : ZM, K m = some t → zG l E Γ nL (pc + 3) loc stk m) : zG l E Γ nL pc loc (.int x :: .ref (E.2.1 58) :: stk) mem :=
  z_putf (ty := .int) C d (by decide) zen_58 rfl inlX7 tyX7_ok nmX7 13 (by decide) rfl hw (by decide +kernel) rfl rfl (Nat.le_of_ble_eq_true rfl) rfl h kk
theorem zg7_14 (C : zC E Γ own cc nL dd) (d : decode cc pc = .ok (.getfield index, 3)) (hw : Cond.fieldLink own index "BonfireHeapsModel" "wrong" "I" ∈ wsL_law) (kk : zG l E Γ nL (pc + 3) loc (.int (mem 58 14) :: stk) mem) : zG l E Γ nL pc loc (.ref (E.2.1 58) :: stk) mem :=
  z_getf C d (by decide) zen_58 rfl inlX7 14 (by decide) rfl hw rfl kk
theorem zp7_14 {x : Int32} (C : zC E Γ own cc nL dd) (d : decode cc pc = .ok (.putfield index, 3)) (hw : Cond.fieldLink own index "BonfireHeapsModel" "wrong" "I" ∈ wsL_law) (h : zlet (zst mem 58 14 x) K = some t) (kk : ∀ m : ZM, K m = some t → zG l E Γ nL (pc + 3) loc stk m) : zG l E Γ nL pc loc (.int x :: .ref (E.2.1 58) :: stk) mem :=
  z_putf (ty := .int) C d (by decide) zen_58 rfl inlX7 tyX7_ok nmX7 14 (by decide) rfl hw (by decide +kernel) rfl rfl (Nat.le_of_ble_eq_true rfl) rfl h kk
theorem zg7_15 (C : zC E Γ own cc nL dd) (d : decode cc pc = .ok (.getfield index, 3)) (hw : Cond.fieldLink own index "BonfireHeapsModel" "read" "[I" ∈ wsL_law) (kk : zG l E Γ nL (pc + 3) loc (.ref (E.2.1 65) :: stk) mem) : zG l E Γ nL pc loc (.ref (E.2.1 58) :: stk) mem :=
  z_getf C d (by decide) zen_58 rfl inlX7 15 (by decide) rfl hw rfl kk
theorem zg7_16 (C : zC E Γ own cc nL dd) (d : decode cc pc = .ok (.getfield index, 3)) (hw : Cond.fieldLink own index "BonfireHeapsModel" "heats" "[I" ∈ wsL_law) (kk : zG l E Γ nL (pc + 3) loc (.ref (E.2.1 66) :: stk) mem) : zG l E Γ nL pc loc (.ref (E.2.1 58) :: stk) mem :=
  z_getf C d (by decide) zen_58 rfl inlX7 16 (by decide) rfl hw rfl kk
theorem zg7_17 (C : zC E Γ own cc nL dd) (d : decode cc pc = .ok (.getfield index, 3)) (hw : Cond.fieldLink own index "BonfireHeapsModel" "smoked" "I" ∈ wsL_law) (kk : zG l E Γ nL (pc + 3) loc (.int (mem 58 17) :: stk) mem) : zG l E Γ nL pc loc (.ref (E.2.1 58) :: stk) mem :=
  z_getf C d (by decide) zen_58 rfl inlX7 17 (by decide) rfl hw rfl kk
theorem zp7_17 {x : Int32} (C : zC E Γ own cc nL dd) (d : decode cc pc = .ok (.putfield index, 3)) (hw : Cond.fieldLink own index "BonfireHeapsModel" "smoked" "I" ∈ wsL_law) (h : zlet (zst mem 58 17 x) K = some t) (kk : ∀ m : ZM, K m = some t → zG l E Γ nL (pc + 3) loc stk m) : zG l E Γ nL pc loc (.int x :: .ref (E.2.1 58) :: stk) mem :=
  z_putf (ty := .int) C d (by decide) zen_58 rfl inlX7 tyX7_ok nmX7 17 (by decide) rfl hw (by decide +kernel) rfl rfl (Nat.le_of_ble_eq_true rfl) rfl h kk
theorem zg7_18 (C : zC E Γ own cc nL dd) (d : decode cc pc = .ok (.getfield index, 3)) (hw : Cond.fieldLink own index "BonfireHeapsModel" "acts" "[I" ∈ wsL_law) (kk : zG l E Γ nL (pc + 3) loc (.ref (E.2.1 67) :: stk) mem) : zG l E Γ nL pc loc (.ref (E.2.1 58) :: stk) mem :=
  z_getf C d (by decide) zen_58 rfl inlX7 18 (by decide) rfl hw rfl kk
theorem zg7_19 (C : zC E Γ own cc nL dd) (d : decode cc pc = .ok (.getfield index, 3)) (hw : Cond.fieldLink own index "BonfireHeapsModel" "actMany" "I" ∈ wsL_law) (kk : zG l E Γ nL (pc + 3) loc (.int (mem 58 19) :: stk) mem) : zG l E Γ nL pc loc (.ref (E.2.1 58) :: stk) mem :=
  z_getf C d (by decide) zen_58 rfl inlX7 19 (by decide) rfl hw rfl kk
theorem zp7_19 {x : Int32} (C : zC E Γ own cc nL dd) (d : decode cc pc = .ok (.putfield index, 3)) (hw : Cond.fieldLink own index "BonfireHeapsModel" "actMany" "I" ∈ wsL_law) (h : zlet (zst mem 58 19 x) K = some t) (kk : ∀ m : ZM, K m = some t → zG l E Γ nL (pc + 3) loc stk m) : zG l E Γ nL pc loc (.int x :: .ref (E.2.1 58) :: stk) mem :=
  z_putf (ty := .int) C d (by decide) zen_58 rfl inlX7 tyX7_ok nmX7 19 (by decide) rfl hw (by decide +kernel) rfl rfl (Nat.le_of_ble_eq_true rfl) rfl h kk
theorem zg7_20 (C : zC E Γ own cc nL dd) (d : decode cc pc = .ok (.getfield index, 3)) (hw : Cond.fieldLink own index "BonfireHeapsModel" "aside" "[I" ∈ wsL_law) (kk : zG l E Γ nL (pc + 3) loc (.ref (E.2.1 68) :: stk) mem) : zG l E Γ nL pc loc (.ref (E.2.1 58) :: stk) mem :=
  z_getf C d (by decide) zen_58 rfl inlX7 20 (by decide) rfl hw rfl kk
theorem zg7_21 (C : zC E Γ own cc nL dd) (d : decode cc pc = .ok (.getfield index, 3)) (hw : Cond.fieldLink own index "BonfireHeapsModel" "isKept" "[Z" ∈ wsL_law) (kk : zG l E Γ nL (pc + 3) loc (.ref (E.2.1 69) :: stk) mem) : zG l E Γ nL pc loc (.ref (E.2.1 58) :: stk) mem :=
  z_getf C d (by decide) zen_58 rfl inlX7 21 (by decide) rfl hw rfl kk
theorem zg7_22 (C : zC E Γ own cc nL dd) (d : decode cc pc = .ok (.getfield index, 3)) (hw : Cond.fieldLink own index "BonfireHeapsModel" "kept" "[I" ∈ wsL_law) (kk : zG l E Γ nL (pc + 3) loc (.ref (E.2.1 70) :: stk) mem) : zG l E Γ nL pc loc (.ref (E.2.1 58) :: stk) mem :=
  z_getf C d (by decide) zen_58 rfl inlX7 22 (by decide) rfl hw rfl kk
theorem zg7_23 (C : zC E Γ own cc nL dd) (d : decode cc pc = .ok (.getfield index, 3)) (hw : Cond.fieldLink own index "BonfireHeapsModel" "trace" "[I" ∈ wsL_law) (kk : zG l E Γ nL (pc + 3) loc (.ref (E.2.1 71) :: stk) mem) : zG l E Γ nL pc loc (.ref (E.2.1 58) :: stk) mem :=
  z_getf C d (by decide) zen_58 rfl inlX7 23 (by decide) rfl hw rfl kk
theorem zg7_24 (C : zC E Γ own cc nL dd) (d : decode cc pc = .ok (.getfield index, 3)) (hw : Cond.fieldLink own index "BonfireHeapsModel" "traced" "I" ∈ wsL_law) (kk : zG l E Γ nL (pc + 3) loc (.int (mem 58 24) :: stk) mem) : zG l E Γ nL pc loc (.ref (E.2.1 58) :: stk) mem :=
  z_getf C d (by decide) zen_58 rfl inlX7 24 (by decide) rfl hw rfl kk
theorem zp7_24 {x : Int32} (C : zC E Γ own cc nL dd) (d : decode cc pc = .ok (.putfield index, 3)) (hw : Cond.fieldLink own index "BonfireHeapsModel" "traced" "I" ∈ wsL_law) (h : zlet (zst mem 58 24 x) K = some t) (kk : ∀ m : ZM, K m = some t → zG l E Γ nL (pc + 3) loc stk m) : zG l E Γ nL pc loc (.int x :: .ref (E.2.1 58) :: stk) mem :=
  z_putf (ty := .int) C d (by decide) zen_58 rfl inlX7 tyX7_ok nmX7 24 (by decide) rfl hw (by decide +kernel) rfl rfl (Nat.le_of_ble_eq_true rfl) rfl h kk
theorem zb6 : (Int8.ofInt (6)).toInt32 = 6 := by decide +kernel
theorem zb7 : (Int8.ofInt (7)).toInt32 = 7 := by decide +kernel
theorem zb8 : (Int8.ofInt (8)).toInt32 = 8 := by decide +kernel
theorem zb9 : (Int8.ofInt (9)).toInt32 = 9 := by decide +kernel
theorem zb10 : (Int8.ofInt (10)).toInt32 = 10 := by decide +kernel
theorem zb11 : (Int8.ofInt (11)).toInt32 = 11 := by decide +kernel
theorem zb12 : (Int8.ofInt (12)).toInt32 = 12 := by decide +kernel
theorem zb13 : (Int8.ofInt (13)).toInt32 = 13 := by decide +kernel
theorem zb14 : (Int8.ofInt (14)).toInt32 = 14 := by decide +kernel
theorem zb16 : (Int8.ofInt (16)).toInt32 = 16 := by decide +kernel
theorem zb20 : (Int8.ofInt (20)).toInt32 = 20 := by decide +kernel
theorem zb21 : (Int8.ofInt (21)).toInt32 = 21 := by decide +kernel
theorem zb22 : (Int8.ofInt (22)).toInt32 = 22 := by decide +kernel
theorem zb23 : (Int8.ofInt (23)).toInt32 = 23 := by decide +kernel
theorem zb24 : (Int8.ofInt (24)).toInt32 = 24 := by decide +kernel
theorem zb30 : (Int8.ofInt (30)).toInt32 = 30 := by decide +kernel
theorem zb38 : (Int8.ofInt (38)).toInt32 = 38 := by decide +kernel
theorem zb40 : (Int8.ofInt (40)).toInt32 = 40 := by decide +kernel
theorem zb44 : (Int8.ofInt (44)).toInt32 = 44 := by decide +kernel
theorem zb48 : (Int8.ofInt (48)).toInt32 = 48 := by decide +kernel
theorem zb57 : (Int8.ofInt (57)).toInt32 = 57 := by decide +kernel
theorem zb59 : (Int8.ofInt (59)).toInt32 = 59 := by decide +kernel
theorem zb60 : (Int8.ofInt (60)).toInt32 = 60 := by decide +kernel
theorem zb63 : (Int8.ofInt (63)).toInt32 = 63 := by decide +kernel
theorem zb64 : (Int8.ofInt (64)).toInt32 = 64 := by decide +kernel
theorem zb90 : (Int8.ofInt (90)).toInt32 = 90 := by decide +kernel
theorem zb98 : (Int8.ofInt (98)).toInt32 = 98 := by decide +kernel
theorem zb99 : (Int8.ofInt (99)).toInt32 = 99 := by decide +kernel
theorem zb100 : (Int8.ofInt (100)).toInt32 = 100 := by decide +kernel
theorem zb103 : (Int8.ofInt (103)).toInt32 = 103 := by decide +kernel
theorem zb105 : (Int8.ofInt (105)).toInt32 = 105 := by decide +kernel
theorem zb108 : (Int8.ofInt (108)).toInt32 = 108 := by decide +kernel
theorem zb115 : (Int8.ofInt (115)).toInt32 = 115 := by decide +kernel
theorem zcm1 : Int32.ofInt (-1) = -1 := by decide +kernel
theorem zc0 : Int32.ofInt (0) = 0 := by decide +kernel
theorem zc1 : Int32.ofInt (1) = 1 := by decide +kernel
theorem zc2 : Int32.ofInt (2) = 2 := by decide +kernel
theorem zc3 : Int32.ofInt (3) = 3 := by decide +kernel
theorem zc4 : Int32.ofInt (4) = 4 := by decide +kernel
theorem zc5 : Int32.ofInt (5) = 5 := by decide +kernel
theorem zl0 : Int64.ofNat ((0 : Fin 2) : Nat) = 0 := by decide +kernel
theorem zl1 : Int64.ofNat ((1 : Fin 2) : Nat) = 1 := by decide +kernel
theorem zs200 : (Int16.ofInt (200)).toInt32 = 200 := by decide +kernel
theorem zs255 : (Int16.ofInt (255)).toInt32 = 255 := by decide +kernel
theorem zs874 : (Int16.ofInt (874)).toInt32 = 874 := by decide +kernel
theorem zs1000 : (Int16.ofInt (1000)).toInt32 = 1000 := by decide +kernel
theorem zs9999 : (Int16.ofInt (9999)).toInt32 = 9999 := by decide +kernel
theorem zk_X1_40 : zCW RX1 40 yX1_askSize cX1_askSize 2 (some .int) 1 := ⟨zw985, zw34, zw988, by decide +kernel⟩
theorem zk_X1_44 : zCW RX1 44 yX1_askMark cX1_askMark 2 (some .int) 1 := ⟨zw1032, zw34, zw1011, by decide +kernel⟩
theorem zk_X1_47 : zCW RX1 47 yX1_body11 cX1_body11 3 (some .int) 1 := ⟨zw989, zw34, zw1031, by decide +kernel⟩
theorem zk_X1_50 : zCW RX1 50 yX1_body12 cX1_body12 2 (some .int) 1 := ⟨zw992, zw34, zw1035, by decide +kernel⟩
theorem zk_X1_53 : zCW RX1 53 yX1_body13 cX1_body13 1 (some .int) 0 := ⟨zw995, zw34, zw998, by decide +kernel⟩
theorem zk_X1_57 : zCW RX1 57 yX1_body14 cX1_body14 1 (some .int) 0 := ⟨zw1007, zw34, zw1010, by decide +kernel⟩
theorem zk_X1_60 : zCW RX1 60 yX1_body10 cX1_body10 1 (some .int) 0 := ⟨zw1003, zw34, zw1006, by decide +kernel⟩
theorem zk_X1_63 : zCW RX1 63 yX1_body21 cX1_body21 1 (some .int) 0 := ⟨zw1012, zw34, zw1015, by decide +kernel⟩
theorem zk_X1_66 : zCW RX1 66 yX1_body22 cX1_body22 1 (some .int) 0 := ⟨zw1020, zw34, zw1023, by decide +kernel⟩
theorem zk_X1_69 : zCW RX1 69 yX1_body23 cX1_body23 3 (some .int) 1 := ⟨zw1024, zw34, zw1036, by decide +kernel⟩
theorem zk_X1_72 : zCW RX1 72 yX1_body24 cX1_body24 1 (some .int) 0 := ⟨zw1027, zw34, zw1030, by decide +kernel⟩
theorem zk_X1_75 : zCW RX1 75 yX1_body20 cX1_body20 1 (some .int) 0 := ⟨zw1016, zw34, zw1019, by decide +kernel⟩
theorem zk_X1_78 : zCW RX1 78 yX1_leaveTrace cX1_leaveTrace 2 none 1 := ⟨zw999, zw34, zw1002, by decide +kernel⟩
theorem zk_X2_109 : zCW RX2 109 yX2_tryDraw cX2_tryDraw 4 none 1 := ⟨zw914, zw30, zw917, by decide +kernel⟩
theorem zk_X2_113 : zCW RX2 113 yX3_isNone cX3_isNone 1 (some .boolean) 0 := ⟨zw922, zw17, zw423, by decide +kernel⟩
theorem zk_X2_119 : zCW RX2 119 yX3_mayBeLit cX3_mayBeLit 2 (some .boolean) 1 := ⟨zw923, zw17, zw490, by decide +kernel⟩
theorem zk_X2_122 : zCW RX2 122 yX3_lightByHand cX3_lightByHand 2 none 1 := ⟨zw924, zw17, zw552, by decide +kernel⟩
theorem zk_X2_127 : zCW RX2 127 yX3_isOut cX3_isOut 2 (some .boolean) 1 := ⟨zw925, zw17, zw458, by decide +kernel⟩
theorem zk_X2_134 : zCW RX2 134 yX3_turnWind cX3_turnWind 1 none 0 := ⟨zw926, zw17, zw629, by decide +kernel⟩
theorem zk_X2_137 : zCW RX2 137 yX3_isLit cX3_isLit 2 (some .boolean) 1 := ⟨zw727, zw17, zw450, by decide +kernel⟩
theorem zk_X2_147 : zCW RX2 147 yX3_quench cX3_quench 2 none 1 := ⟨zw859, zw17, zw486, by decide +kernel⟩
theorem zk_X2_18 : zCW RX2 18 yX3_takeFrom cX3_takeFrom 2 none 1 := ⟨zw678, zw17, zw354, by decide +kernel⟩
theorem zk_X2_22 : zCW RX2 22 yX2_tryHours cX2_tryHours 3 none 1 := ⟨zw679, zw30, zw682, by decide +kernel⟩
theorem zk_X2_26 : zCW RX2 26 yX2_tryUntilLit cX2_tryUntilLit 4 (some .int) 2 := ⟨zw722, zw30, zw725, by decide +kernel⟩
theorem zk_X2_30 : zCW RX2 30 yX3_isAsh cX3_isAsh 2 (some .boolean) 1 := ⟨zw732, zw17, zw482, by decide +kernel⟩
theorem zk_X2_34 : zCW RX2 34 yX3_passHour cX3_passHour 6 none 0 := ⟨zw684, zw17, zw441, by decide +kernel⟩
theorem zk_X2_42 : zCW RX2 42 yX3_allThings cX3_allThings 1 (some .int) 0 := ⟨zw755, zw17, zw758, by decide +kernel⟩
theorem zk_X2_46 : zCW RX2 46 yX3_ashes cX3_ashes 3 (some .int) 0 := ⟨zw759, zw17, zw762, by decide +kernel⟩
theorem zk_X2_52 : zCW RX2 52 yX3_burnables cX3_burnables 3 (some .int) 0 := ⟨zw781, zw17, zw784, by decide +kernel⟩
theorem zk_X2_55 : zCW RX2 55 yX3_lightables cX3_lightables 3 (some .int) 0 := ⟨zw785, zw17, zw788, by decide +kernel⟩
theorem zk_X2_58 : zCW RX2 58 yJ6_bitCount_0f7a4 cJ6_bitCount_0f7a4 1 (some .int) 1 := ⟨zw789, zw468, zw469, by decide +kernel⟩
theorem zk_X2_64 : zCW RX2 64 yX2_makesAsh cX2_makesAsh 5 (some .boolean) 4 := ⟨zw790, zw30, zw793, by decide +kernel⟩
theorem zk_X2_68 : zCW RX2 68 yX3_pourOn cX3_pourOn 3 none 2 := ⟨zw814, zw17, zw574, by decide +kernel⟩
theorem zk_X2_75 : zCW RX2 75 yX3_changePlaces cX3_changePlaces 4 none 2 := ⟨zw833, zw17, zw612, by decide +kernel⟩
theorem zk_X2_85 : zCW RX2 85 yX2_suppose cX2_suppose 4 none 3 := ⟨zw848, zw30, zw851, by decide +kernel⟩
theorem zk_X2_89 : zCW RX2 89 yX2_burnsAsTold cX2_burnsAsTold 6 (some .boolean) 4 := ⟨zw860, zw30, zw863, by decide +kernel⟩
theorem zk_X2_93 : zCW RX2 93 yX2_power cX2_power 4 (some .int) 2 := ⟨zw887, zw30, zw889, by decide +kernel⟩
theorem zk_X2_96 : zCW RX2 96 yX2_isAshWhenWetted cX2_isAshWhenWetted 6 (some .boolean) 4 := ⟨zw890, zw30, zw893, by decide +kernel⟩
theorem zk_X2_99 : zCW RX2 99 yX2_greatestDivisor cX2_greatestDivisor 6 (some .int) 2 := ⟨zw894, zw30, zw896, by decide +kernel⟩
theorem zk_X3_100 : zCW RX3 100 yX3_placesBeside cX3_placesBeside 1 (some .int) 1 := ⟨zw459, zw17, zw461, by decide +kernel⟩
theorem zk_X3_103 : zCW RX3 103 yJ6_bitCount_0f7a4 cJ6_bitCount_0f7a4 1 (some .int) 1 := ⟨zw466, zw468, zw469, by decide +kernel⟩
theorem zk_X3_52 : zCW RX3 52 yX3_isAsh cX3_isAsh 2 (some .boolean) 1 := ⟨zw479, zw17, zw482, by decide +kernel⟩
theorem zk_X3_56 : zCW RX3 56 yX3_isOut cX3_isOut 2 (some .boolean) 1 := ⟨zw455, zw17, zw458, by decide +kernel⟩
theorem zk_X3_59 : zCW RX3 59 yX3_canBurn cX3_canBurn 2 (some .boolean) 1 := ⟨zw491, zw17, zw494, by decide +kernel⟩
theorem zk_X3_62 : zCW RX3 62 yX3_isLit cX3_isLit 2 (some .boolean) 1 := ⟨zw447, zw17, zw450, by decide +kernel⟩
theorem zk_X3_65 : zCW RX3 65 yX3_mayBeLit cX3_mayBeLit 2 (some .boolean) 1 := ⟨zw487, zw17, zw490, by decide +kernel⟩
theorem zk_X3_74 : zCW RX3 74 yX3_quench cX3_quench 2 none 1 := ⟨zw483, zw17, zw486, by decide +kernel⟩
theorem zk_X3_78 : zCW RX3 78 yX3_placesLit cX3_placesLit 3 (some .int) 0 := ⟨zw443, zw17, zw446, by decide +kernel⟩
theorem zk_X3_82 : zCW RX3 82 yX3_placesOfHotIron cX3_placesOfHotIron 4 (some .int) 1 := ⟨zw451, zw17, zw454, by decide +kernel⟩
theorem zk_X3_86 : zCW RX3 86 yX3_heatAt cX3_heatAt 7 (some .int) 3 := ⟨zw462, zw17, zw465, by decide +kernel⟩
theorem zk_X3_90 : zCW RX3 90 yX3_burnDown cX3_burnDown 3 none 1 := ⟨zw473, zw17, zw476, by decide +kernel⟩
theorem zk_X5_28 : zCW RX5 28 yX5_readSign cX5_readSign 2 (some .boolean) 1 := ⟨zw237, zw22, zw240, by decide +kernel⟩
theorem zk_X5_32 : zCW RX5 32 yX5_readNumber cX5_readNumber 5 (some .boolean) 2 := ⟨zw245, zw22, zw248, by decide +kernel⟩
theorem zk_X5_36 : zCW RX5 36 yX3_begin cX3_begin 2 none 1 := ⟨zw249, zw17, zw252, by decide +kernel⟩
theorem zk_X5_42 : zCW RX5 42 yX5_readThing cX5_readThing 4 (some .boolean) 1 := ⟨zw253, zw22, zw256, by decide +kernel⟩
theorem zk_X5_54 : zCW RX5 54 yX5_failWith cX5_failWith 2 (some .boolean) 1 := ⟨zw241, zw22, zw244, by decide +kernel⟩
theorem zk_X5_60 : zCW RX5 60 yX3_layThing cX3_layThing 4 none 3 := ⟨zw347, zw17, zw350, by decide +kernel⟩
theorem zk_X6_106 : zCW RX6 106 yX4_lose cX4_lose 1 none 0 := ⟨zw201, zw38, zw204, by decide +kernel⟩
theorem zk_X6_109 : zCW RX6 109 yX5_takeByte cX5_takeByte 2 (some .boolean) 1 := ⟨zw215, zw22, zw218, by decide +kernel⟩
theorem zk_X6_114 : zCW RX6 114 yX5_readInto cX5_readInto 3 (some .boolean) 1 := ⟨zw233, zw22, zw236, by decide +kernel⟩
theorem zk_X6_122 : zCW RX6 122 yX3_takeFrom cX3_takeFrom 2 none 1 := ⟨zw351, zw17, zw354, by decide +kernel⟩
theorem zk_X6_126 : zCW RX6 126 yX0_forget cX0_forget 1 none 0 := ⟨zw356, zw26, zw359, by decide +kernel⟩
theorem zk_X6_135 : zCW RX6 135 yX3_isNone cX3_isNone 1 (some .boolean) 0 := ⟨zw420, zw17, zw423, by decide +kernel⟩
theorem zk_X6_142 : zCW RX6 142 yX0_keep cX0_keep 2 none 1 := ⟨zw424, zw26, zw427, by decide +kernel⟩
theorem zk_X6_145 : zCW RX6 145 yX3_passHour cX3_passHour 6 none 0 := ⟨zw438, zw17, zw441, by decide +kernel⟩
theorem zk_X6_151 : zCW RX6 151 yX3_hasThing cX3_hasThing 2 (some .boolean) 1 := ⟨zw544, zw17, zw547, by decide +kernel⟩
theorem zk_X6_154 : zCW RX6 154 yX3_mayBeLit cX3_mayBeLit 2 (some .boolean) 1 := ⟨zw548, zw17, zw490, by decide +kernel⟩
theorem zk_X6_157 : zCW RX6 157 yX3_lightByHand cX3_lightByHand 2 none 1 := ⟨zw549, zw17, zw552, by decide +kernel⟩
theorem zk_X6_161 : zCW RX6 161 yX3_isOut cX3_isOut 2 (some .boolean) 1 := ⟨zw570, zw17, zw458, by decide +kernel⟩
theorem zk_X6_164 : zCW RX6 164 yX3_pourOn cX3_pourOn 3 none 2 := ⟨zw571, zw17, zw574, by decide +kernel⟩
theorem zk_X6_170 : zCW RX6 170 yX6_isEither cX6_isEither 1 (some .boolean) 1 := ⟨zw589, zw2, zw591, by decide +kernel⟩
theorem zk_X6_173 : zCW RX6 173 yX3_rakeOut cX3_rakeOut 2 none 1 := ⟨zw592, zw17, zw595, by decide +kernel⟩
theorem zk_X6_176 : zCW RX6 176 yX3_layOn cX3_layOn 2 none 1 := ⟨zw596, zw17, zw599, by decide +kernel⟩
theorem zk_X6_182 : zCW RX6 182 yX3_changePlaces cX3_changePlaces 4 none 2 := ⟨zw609, zw17, zw612, by decide +kernel⟩
theorem zk_X6_188 : zCW RX6 188 yX3_turnWind cX3_turnWind 1 none 0 := ⟨zw626, zw17, zw629, by decide +kernel⟩
theorem zk_X6_197 : zCW RX6 197 yX0_takeBack cX0_takeBack 2 none 1 := ⟨zw639, zw26, zw642, by decide +kernel⟩
theorem zk_X6_203 : zCW RX6 203 yX3_isLit cX3_isLit 2 (some .boolean) 1 := ⟨zw652, zw17, zw450, by decide +kernel⟩
theorem zk_X6_206 : zCW RX6 206 yX3_heatOf cX3_heatOf 3 (some .int) 1 := ⟨zw653, zw17, zw656, by decide +kernel⟩
theorem zk_X6_209 : zCW RX6 209 yX3_isAsh cX3_isAsh 2 (some .boolean) 1 := ⟨zw657, zw17, zw482, by decide +kernel⟩
theorem zk_X6_212 : zCW RX6 212 yX6_isWithin cX6_isWithin 3 (some .boolean) 3 := ⟨zw120, zw2, zw122, by decide +kernel⟩
theorem zk_X6_216 : zCW RX6 216 yX2_hoursOn cX2_hoursOn 3 (some (.object "BonfireHeaps$Heap")) 2 := ⟨zw674, zw30, zw677, by decide +kernel⟩
theorem zk_X6_223 : zCW RX6 223 yX2_caughtBehind cX2_caughtBehind 3 (some .int) 2 := ⟨zw718, zw30, zw721, by decide +kernel⟩
theorem zk_X6_227 : zCW RX6 227 yX2_ashBehind cX2_ashBehind 4 (some .int) 2 := ⟨zw728, zw30, zw731, by decide +kernel⟩
theorem zk_X6_230 : zCW RX6 230 yX2_deadBehind cX2_deadBehind 3 (some .int) 1 := ⟨zw746, zw30, zw749, by decide +kernel⟩
theorem zk_X6_234 : zCW RX6 234 yX2_leftWhenDead cX2_leftWhenDead 2 (some .int) 1 := ⟨zw750, zw30, zw753, by decide +kernel⟩
theorem zk_X6_237 : zCW RX6 237 yX3_allThings cX3_allThings 1 (some .int) 0 := ⟨zw776, zw17, zw758, by decide +kernel⟩
theorem zk_X6_241 : zCW RX6 241 yX2_fewestToLight cX2_fewestToLight 9 (some .int) 3 := ⟨zw777, zw30, zw780, by decide +kernel⟩
theorem zk_X6_246 : zCW RX6 246 yJ6_bitCount_0f7a4 cJ6_bitCount_0f7a4 1 (some .int) 1 := ⟨zw794, zw468, zw469, by decide +kernel⟩
theorem zk_X6_251 : zCW RX6 251 yX2_leastWater cX2_leastWater 5 (some .int) 3 := ⟨zw810, zw30, zw813, by decide +kernel⟩
theorem zk_X6_254 : zCW RX6 254 yX2_bestLaying cX2_bestLaying 9 (some .int) 3 := ⟨zw828, zw30, zw831, by decide +kernel⟩
theorem zk_X6_258 : zCW RX6 258 yX2_whatFits cX2_whatFits 9 (some .int) 6 := ⟨zw842, zw30, zw845, by decide +kernel⟩
theorem zk_X6_262 : zCW RX6 262 yX2_ashInRain cX2_ashInRain 12 (some .int) 5 := ⟨zw883, zw30, zw886, by decide +kernel⟩
theorem zk_X6_267 : zCW RX6 267 yX2_yearByDraws cX2_yearByDraws 7 (some (.object "BonfireHeaps$Heap")) 3 := ⟨zw907, zw30, zw910, by decide +kernel⟩
theorem zk_X6_271 : zCW RX6 271 yX3_ashes cX3_ashes 3 (some .int) 0 := ⟨zw927, zw17, zw762, by decide +kernel⟩
theorem zk_X6_277 : zCW RX6 277 yX6_isOfKind cX6_isOfKind 4 (some .boolean) 2 := ⟨zw966, zw2, zw857, by decide +kernel⟩
theorem zk_X6_280 : zCW RX6 280 yX1_answer cX1_answer 4 (some .int) 3 := ⟨zw978, zw34, zw981, by decide +kernel⟩
theorem zk_X6_289 : zCW RX6 289 yX6_rowsThere cX6_rowsThere 3 (some .int) 0 := ⟨zw1088, zw2, zw1091, by decide +kernel⟩
theorem zk_X6_62 : zCW RX6 62 yX6_isRow cX6_isRow 1 (some .boolean) 1 := ⟨zw117, zw2, zw119, by decide +kernel⟩
theorem zk_X6_67 : zCW RX6 67 yX6_found cX6_found 2 (some .int) 1 := ⟨zw123, zw2, zw126, by decide +kernel⟩
theorem zk_X6_71 : zCW RX6 71 yX4_begin cX4_begin 4 none 2 := ⟨zw128, zw38, zw131, by decide +kernel⟩
theorem zk_X6_75 : zCW RX6 75 yX6_foundNothing cX6_foundNothing 2 (some .int) 1 := ⟨zw132, zw2, zw135, by decide +kernel⟩
theorem zk_X6_78 : zCW RX6 78 yX4_isMissing cX4_isMissing 1 (some .boolean) 0 := ⟨zw163, zw38, zw166, by decide +kernel⟩
theorem zk_X6_82 : zCW RX6 82 yX4_holds cX4_holds 3 (some .boolean) 2 := ⟨zw167, zw38, zw170, by decide +kernel⟩
theorem zk_X6_86 : zCW RX6 86 yX4_put cX4_put 4 (some .int) 2 := ⟨zw171, zw38, zw174, by decide +kernel⟩
theorem zk_X7_108 : zCW RX7 108 yX7_faults cX7_faults 2 (some .boolean) 1 := ⟨zw389, zw5, zw392, by decide +kernel⟩
theorem zk_X7_111 : zCW RX7 111 yX7_nextToken cX7_nextToken 1 none 0 := ⟨zw376, zw5, zw379, by decide +kernel⟩
theorem zk_X7_114 : zCW RX7 114 yX7_takes cX7_takes 2 (some .boolean) 1 := ⟨zw385, zw5, zw388, by decide +kernel⟩
theorem zk_X7_117 : zCW RX7 117 yX7_kindBy cX7_kindBy 1 (some .int) 1 := ⟨zw401, zw5, zw403, by decide +kernel⟩
theorem zk_X7_120 : zCW RX7 120 yX7_takesNumber cX7_takesNumber 5 (some .boolean) 4 := ⟨zw393, zw5, zw396, by decide +kernel⟩
theorem zk_X7_124 : zCW RX7 124 yX7_readThing cX7_readThing 3 (some .boolean) 0 := ⟨zw397, zw5, zw400, by decide +kernel⟩
theorem zk_X7_128 : zCW RX7 128 yX7_readHeap cX7_readHeap 2 (some .boolean) 0 := ⟨zw370, zw5, zw373, by decide +kernel⟩
theorem zk_X7_142 : zCW RX7 142 yX7_thingIn cX7_thingIn 3 (some .int) 1 := ⟨zw523, zw5, zw526, by decide +kernel⟩
theorem zk_X7_145 : zCW RX7 145 yX7_has cX7_has 2 (some .boolean) 2 := ⟨zw527, zw5, zw529, by decide +kernel⟩
theorem zk_X7_149 : zCW RX7 149 yX7_isLitIn cX7_isLitIn 3 (some .boolean) 1 := ⟨zw519, zw5, zw522, by decide +kernel⟩
theorem zk_X7_152 : zCW RX7 152 yX7_litBeside cX7_litBeside 2 (some .int) 1 := ⟨zw515, zw5, zw518, by decide +kernel⟩
theorem zk_X7_155 : zCW RX7 155 yX7_isHotIn cX7_isHotIn 3 (some .boolean) 1 := ⟨zw530, zw5, zw533, by decide +kernel⟩
theorem zk_X7_161 : zCW RX7 161 yX7_heatOf cX7_heatOf 5 (some .int) 1 := ⟨zw511, zw5, zw514, by decide +kernel⟩
theorem zk_X7_164 : zCW RX7 164 yX7_burns cX7_burns 1 (some .int) 1 := ⟨zw534, zw5, zw536, by decide +kernel⟩
theorem zk_X7_167 : zCW RX7 167 yX7_smokes cX7_smokes 1 (some .int) 1 := ⟨zw537, zw5, zw539, by decide +kernel⟩
theorem zk_X7_174 : zCW RX7 174 yX7_note cX7_note 2 none 0 := ⟨zw501, zw5, zw504, by decide +kernel⟩
theorem zk_X7_177 : zCW RX7 177 yX7_oneHour cX7_oneHour 4 none 0 := ⟨zw505, zw5, zw508, by decide +kernel⟩
theorem zk_X7_180 : zCW RX7 180 yX7_isThing cX7_isThing 2 (some .boolean) 1 := ⟨zw557, zw5, zw560, by decide +kernel⟩
theorem zk_X7_183 : zCW RX7 183 yX7_mayLight cX7_mayLight 2 (some .boolean) 1 := ⟨zw561, zw5, zw564, by decide +kernel⟩
theorem zk_X7_188 : zCW RX7 188 yX7_waterBy cX7_waterBy 3 none 2 := ⟨zw580, zw5, zw583, by decide +kernel⟩
theorem zk_X7_192 : zCW RX7 192 yX7_exchange cX7_exchange 4 none 2 := ⟨zw617, zw5, zw620, by decide +kernel⟩
theorem zk_X7_197 : zCW RX7 197 yX7_isWhat cX7_isWhat 1 (some .boolean) 1 := ⟨zw690, zw5, zw692, by decide +kernel⟩
theorem zk_X7_200 : zCW RX7 200 yX7_putAside cX7_putAside 2 none 0 := ⟨zw693, zw5, zw696, by decide +kernel⟩
theorem zk_X7_203 : zCW RX7 203 yX7_goOn cX7_goOn 3 none 1 := ⟨zw697, zw5, zw700, by decide +kernel⟩
theorem zk_X7_207 : zCW RX7 207 yX7_takeBack cX7_takeBack 2 none 0 := ⟨zw701, zw5, zw704, by decide +kernel⟩
theorem zk_X7_210 : zCW RX7 210 yX7_isNow cX7_isNow 3 (some .boolean) 2 := ⟨zw738, zw5, zw741, by decide +kernel⟩
theorem zk_X7_214 : zCW RX7 214 yX7_ashes cX7_ashes 3 (some .int) 0 := ⟨zw767, zw5, zw770, by decide +kernel⟩
theorem zk_X7_218 : zCW RX7 218 yX7_ones cX7_ones 3 (some .int) 1 := ⟨zw799, zw5, zw801, by decide +kernel⟩
theorem zk_X7_221 : zCW RX7 221 yX7_ashesBehind cX7_ashesBehind 3 (some .int) 1 := ⟨zw802, zw5, zw805, by decide +kernel⟩
theorem zk_X7_226 : zCW RX7 226 yX7_isSpared cX7_isSpared 5 (some .boolean) 2 := ⟨zw820, zw5, zw823, by decide +kernel⟩
theorem zk_X7_233 : zCW RX7 233 yX7_lacks cX7_lacks 4 (some .int) 3 := ⟨zw871, zw5, zw874, by decide +kernel⟩
theorem zk_X7_237 : zCW RX7 237 yX7_isSo cX7_isSo 6 (some .boolean) 3 := ⟨zw875, zw5, zw878, by decide +kernel⟩
theorem zk_X7_253 : zCW RX7 253 yX7_isKind cX7_isKind 2 (some .boolean) 2 := ⟨zw971, zw5, zw973, by decide +kernel⟩
theorem zk_X7_259 : zCW RX7 259 yX7_begin cX7_begin 2 none 1 := ⟨zw1046, zw5, zw1049, by decide +kernel⟩
theorem zk_X7_262 : zCW RX7 262 yX7_lent cX7_lent 3 (some .int) 2 := ⟨zw1054, zw5, zw1057, by decide +kernel⟩
theorem zk_X7_265 : zCW RX7 265 yX7_doorSize cX7_doorSize 2 (some .int) 1 := ⟨zw1070, zw5, zw1073, by decide +kernel⟩
theorem zk_X7_268 : zCW RX7 268 yX7_stickMark cX7_stickMark 2 (some .int) 1 := ⟨zw1062, zw5, zw1065, by decide +kernel⟩
theorem zk_X7_271 : zCW RX7 271 yX7_sizeOfDoor cX7_sizeOfDoor 2 (some .int) 1 := ⟨zw1066, zw5, zw1069, by decide +kernel⟩
theorem zk_X7_274 : zCW RX7 274 yX7_markOf cX7_markOf 4 (some .int) 1 := ⟨zw1058, zw5, zw1061, by decide +kernel⟩
theorem zk_X7_277 : zCW RX7 277 yX7_stickSize cX7_stickSize 3 (some .int) 1 := ⟨zw1050, zw5, zw1053, by decide +kernel⟩
theorem zk_X7_280 : zCW RX7 280 yX7_sizeOf cX7_sizeOf 3 (some .int) 1 := ⟨zw1042, zw5, zw1045, by decide +kernel⟩
theorem zk_X7_57 : zCW RX7 57 yX7_in cX7_in 6 (some .boolean) 3 := ⟨zw146, zw5, zw148, by decide +kernel⟩
theorem zk_X7_61 : zCW RX7 61 yX7_isRow cX7_isRow 1 (some .boolean) 1 := ⟨zw142, zw5, zw144, by decide +kernel⟩
theorem zk_X7_68 : zCW RX7 68 yX7_find cX7_find 2 (some .int) 1 := ⟨zw149, zw5, zw152, by decide +kernel⟩
theorem zk_X7_72 : zCW RX7 72 yX7_well cX7_well 2 (some .int) 1 := ⟨zw155, zw5, zw158, by decide +kernel⟩
theorem zk_X7_75 : zCW RX7 75 yX7_asLane cX7_asLane 2 (some .int) 2 := ⟨zw179, zw5, zw181, by decide +kernel⟩
theorem z_callVi {c ci n maxL d' : Nat} {y : MethodName} {bytes : ByteArray} {ret : Option FieldType} {fs : List Value} {T : u_T} {N : Nat} {v : Value} {mem' : ZM} (As rest : List Value) (C : zC E Γ own cc nL dd) (d : decode cc pc = .ok (.invokevirtual index, 3)) (hc : c < zNC) (he : zent E (mem c) c = .inr (ci, fs)) (hcl : vwCl[ci]? = some (y.cls, T, N)) (cw : zCW own index y bytes maxL ret n) (hin : Cond.instanceMethod y ∈ wsL_law) (hse : Cond.selects y.cls y y ∈ wsL_law)
    (hd : (d' + 1 ≤ dd ∧ 8 + (maxL + 11) + 40 * d' ≤ 40 * dd) ∧ As.length = n ∧ (rest.map fun v => v.category).sum ≤ 8) (hst : stk = As.reverse ++ .ref (E.2.1 c) :: rest) (M : zMet l E y bytes maxL ret d' (.ref (E.2.1 c) :: As) mem (some v) mem')
    (kk : zG l E Γ nL (pc + 3) loc (v :: rest) mem') : zG l E Γ nL pc loc stk mem := z_callV As rest C d hc he hcl cw hin hse hd hst M kk
theorem z_callSi {n maxL d' : Nat} {y : MethodName} {bytes : ByteArray} {ret : Option FieldType} {v : Value} {mem' : ZM} (As rest : List Value) (C : zC E Γ own cc nL dd) (d : decode cc pc = .ok (.invokestatic index, 3)) (cw : zCW own index y bytes maxL ret n) (hsta : Cond.static y ∈ wsL_law)
    (hd : (d' + 1 ≤ dd ∧ 8 + (maxL + 11) + 40 * d' ≤ 40 * dd) ∧ As.length = n ∧ (rest.map fun v => v.category).sum ≤ 8) (hst : stk = As.reverse ++ rest) (M : zMet l E y bytes maxL ret d' As mem (some v) mem')
    (kk : zG l E Γ nL (pc + 3) loc (v :: rest) mem') : zG l E Γ nL pc loc stk mem := z_callS As rest C d cw hsta hd hst M kk
theorem z_callSNi {n maxL d' : Nat} {y : MethodName} {host : String} {bytes : ByteArray} {ret : Option FieldType} {v : Value} {mem' : ZM} (As rest : List Value) (C : zC E Γ own cc nL dd) (d : decode cc pc = .ok (.invokestatic index, 3)) (hnl : va_Nw (.methodLinkNest own index y host) (gS Γ)) (w2 : Cond.initialized y.cls ∈ wsL_law) (w3 : Cond.code y bytes maxL ret ∈ wsL_law) (w4 : y.cls ≠ "java/lang/invoke/MethodHandle" ∧ y.cls ≠ "java/lang/invoke/VarHandle" ∧ (parseMethodDescriptor y.desc).map (fun d => d.parameters.length) = some n) (hsta : Cond.static y ∈ wsL_law)
    (hd : (d' + 1 ≤ dd ∧ 8 + (maxL + 11) + 40 * d' ≤ 40 * dd) ∧ As.length = n ∧ (rest.map fun v => v.category).sum ≤ 8) (hst : stk = As.reverse ++ rest) (M : zMet l E y bytes maxL ret d' As mem (some v) mem')
    (kk : zG l E Γ nL (pc + 3) loc (v :: rest) mem') : zG l E Γ nL pc loc stk mem := z_callSN As rest C d hnl w2 w3 w4 hsta hd hst M kk
theorem z_callVv {c ci n maxL d' : Nat} {y : MethodName} {bytes : ByteArray} {ret : Option FieldType} {fs : List Value} {T : u_T} {N : Nat} {mem' : ZM} (As rest : List Value) (C : zC E Γ own cc nL dd) (d : decode cc pc = .ok (.invokevirtual index, 3)) (hc : c < zNC) (he : zent E (mem c) c = .inr (ci, fs)) (hcl : vwCl[ci]? = some (y.cls, T, N)) (cw : zCW own index y bytes maxL ret n) (hin : Cond.instanceMethod y ∈ wsL_law) (hse : Cond.selects y.cls y y ∈ wsL_law)
    (hd : (d' + 1 ≤ dd ∧ 8 + (maxL + 11) + 40 * d' ≤ 40 * dd) ∧ As.length = n ∧ (rest.map fun v => v.category).sum ≤ 8) (hst : stk = As.reverse ++ .ref (E.2.1 c) :: rest) (M : zMet l E y bytes maxL ret d' (.ref (E.2.1 c) :: As) mem none mem')
    (kk : zG l E Γ nL (pc + 3) loc (rest) mem') : zG l E Γ nL pc loc stk mem := z_callV As rest C d hc he hcl cw hin hse hd hst M kk
theorem z_callSv {n maxL d' : Nat} {y : MethodName} {bytes : ByteArray} {ret : Option FieldType} {mem' : ZM} (As rest : List Value) (C : zC E Γ own cc nL dd) (d : decode cc pc = .ok (.invokestatic index, 3)) (cw : zCW own index y bytes maxL ret n) (hsta : Cond.static y ∈ wsL_law)
    (hd : (d' + 1 ≤ dd ∧ 8 + (maxL + 11) + 40 * d' ≤ 40 * dd) ∧ As.length = n ∧ (rest.map fun v => v.category).sum ≤ 8) (hst : stk = As.reverse ++ rest) (M : zMet l E y bytes maxL ret d' As mem none mem')
    (kk : zG l E Γ nL (pc + 3) loc (rest) mem') : zG l E Γ nL pc loc stk mem := z_callS As rest C d cw hsta hd hst M kk
theorem z_callSNv {n maxL d' : Nat} {y : MethodName} {host : String} {bytes : ByteArray} {ret : Option FieldType} {mem' : ZM} (As rest : List Value) (C : zC E Γ own cc nL dd) (d : decode cc pc = .ok (.invokestatic index, 3)) (hnl : va_Nw (.methodLinkNest own index y host) (gS Γ)) (w2 : Cond.initialized y.cls ∈ wsL_law) (w3 : Cond.code y bytes maxL ret ∈ wsL_law) (w4 : y.cls ≠ "java/lang/invoke/MethodHandle" ∧ y.cls ≠ "java/lang/invoke/VarHandle" ∧ (parseMethodDescriptor y.desc).map (fun d => d.parameters.length) = some n) (hsta : Cond.static y ∈ wsL_law)
    (hd : (d' + 1 ≤ dd ∧ 8 + (maxL + 11) + 40 * d' ≤ 40 * dd) ∧ As.length = n ∧ (rest.map fun v => v.category).sum ≤ 8) (hst : stk = As.reverse ++ rest) (M : zMet l E y bytes maxL ret d' As mem none mem')
    (kk : zG l E Γ nL (pc + 3) loc (rest) mem') : zG l E Γ nL pc loc stk mem := z_callSN As rest C d hnl w2 w3 w4 hsta hd hst M kk
theorem z_ldcS {q : Nat} {tx : String} (C : zC E Γ own cc nL dd) (d : decode cc pc = .ok (.ldc index, 2)) (hZ : vk_R own index tx q (gS Γ)) (kk : zG l E Γ nL (pc + 2) loc (.ref q :: stk) mem) : zG l E Γ nL pc loc stk mem :=
  fun H locs ls hP hS hl => va_ldcS C.1 C.2.1 C.2.2.2.1 hZ d (kk H locs ls hP hS hl)
/-- where a letter stands in sgldi -/
def zidx (v : Int32) : Int32 := if v = 115 then 0 else if v = 103 then 1 else if v = 108 then 2 else if v = 100 then 3 else if v = 105 then 4 else -1
end ZF
