theorem dfX6 : ∀ j, j < 9 → defaultValue (tyX6 j) = vp_V [.null, .null, .null, .null, .null, .null, .null, .null, .int 0] j := by
  intro j hj
  rcases (show j = 0 ∨ j = 1 ∨ j = 2 ∨ j = 3 ∨ j = 4 ∨ j = 5 ∨ j = 6 ∨ j = 7 ∨ j = 8 by omega) with rfl | rfl | rfl | rfl | rfl | rfl | rfl | rfl | rfl <;> rfl
set_option maxRecDepth 100000 in
set_option maxHeartbeats 4000000 in
theorem sX6_init {l : Launch} {D : va_G} {cA : Nat → ClassId} {h sz : Nat} : yMet l D cA yX6_init cX6_init 2 3 57 1388 h 6 [.null, .null, .null, .null, .null, .null, .null, .null, .int 0] sz (WX6 cA h) := by
  refine y_enter (by decide) rfl (Nat.le_of_ble_eq_true rfl) (fun Γ A hA C hi Rq => ?_)
  have C : yC D cA A Γ RX6 cX6_init 2 3 57 1388 := C
  refine y_aload C dX6_init_0 rfl (j := 0) rfl ?_
  refine y_obj C dX6_init_1 zw9 zw10 zw11 ⟨by decide, Nat.le_of_ble_eq_true rfl⟩ ?_
  refine y_aload C dX6_init_4 rfl (j := 0) rfl ?_
  refine y_bipush (v := 8) C dX6_init_5 (by decide +kernel) ?_
  refine y_newQ (Cn := "BonfireHeaps$Row") 8 3 C dX6_init_7 zw12 C.2.2.2.2.2.2.2.1.2.2.2.2.2.2.2.2 rfl (by decide +kernel) (by decide +kernel) (by decide) ⟨by decide, by decide⟩ (fun q1 => ?_)
  refine y_eq ([(h, .inr (6, [.null, .null, .null, .null, .null, .null, .null, .null, .int 0])), (q1, .inl (cA 3, 8, .inr (.inr (.inr (.inr (fun _ => none))))))]) rfl ?_
  refine y_putF (ty := .array (.object "BonfireHeaps$Row")) 0 C hi dX6_init_10 rfl rfl inlX6 tyX6_ok nmX6 0 (by decide) rfl rfl zw13 (by decide +kernel) rfl rfl (Nat.le_of_ble_eq_true rfl) ?_
  refine y_eq ([(h, .inr (6, [.ref q1, .null, .null, .null, .null, .null, .null, .null, .int 0])), (q1, .inl (cA 3, 8, .inr (.inr (.inr (.inr (fun _ => none))))))]) rfl ?_
  refine y_aload C dX6_init_13 rfl (j := 0) rfl ?_
  refine y_iconst (v := 2) C dX6_init_14 (by decide +kernel) ?_
  refine y_newQ (Cn := "BonfireHeaps$Heap") 2 2 C dX6_init_15 zw14 C.2.2.2.2.2.2.2.1.2.2.2.2.2.2.2.1 rfl (by decide +kernel) (by decide +kernel) (by decide) ⟨by decide, by decide⟩ (fun q2 => ?_)
  refine y_eq ([(h, .inr (6, [.ref q1, .null, .null, .null, .null, .null, .null, .null, .int 0])), (q1, .inl (cA 3, 8, .inr (.inr (.inr (.inr (fun _ => none)))))), (q2, .inl (cA 2, 2, .inr (.inr (.inr (.inr (fun _ => none))))))]) rfl ?_
  refine y_putF (ty := .array (.object "BonfireHeaps$Heap")) 0 C hi dX6_init_18 rfl rfl inlX6 tyX6_ok nmX6 1 (by decide) rfl rfl zw15 (by decide +kernel) rfl rfl (Nat.le_of_ble_eq_true rfl) ?_
  refine y_eq ([(h, .inr (6, [.ref q1, .ref q2, .null, .null, .null, .null, .null, .null, .int 0])), (q1, .inl (cA 3, 8, .inr (.inr (.inr (.inr (fun _ => none)))))), (q2, .inl (cA 2, 2, .inr (.inr (.inr (.inr (fun _ => none))))))]) rfl ?_
  refine y_aload C dX6_init_21 rfl (j := 0) rfl ?_
  refine y_eq ([(h, .inr (6, [.ref q1, .ref q2, .null, .null, .null, .null, .null, .null, .int 0])), (q1, .inl (cA 3, 8, .inr (.inr (.inr (.inr (fun _ => none)))))), (q2, .inl (cA 2, 2, .inr (.inr (.inr (.inr (fun _ => none))))))] ++ []) (List.append_nil _).symm ?_
  refine y2_mk (ci := 3) (Wd := WX3 cA) C dX6_init_22 dX6_init_25 dX6_init_26 rfl inlX3 tyX3_ok zw14 zw16 zw17 dfX3 rfl C.2.2.2.2.2.2.2.1.1 zw40 zw39 ⟨rfl, by decide +kernel⟩ (fun q sz => sX3_init) ⟨by decide, by decide⟩ (Nat.le_of_ble_eq_true rfl) ⟨by decide, by decide⟩ (fun q3 a3 => ?_)
  refine y2_putF (ty := .object "BonfireHeaps$Heap") 0 C hi dX6_init_29 rfl rfl inlX6 tyX6_ok nmX6 2 (by decide) rfl rfl zw18 (by decide +kernel) rfl rfl (Nat.le_of_ble_eq_true rfl) ([(h, .inr (6, [.ref q1, .ref q2, .ref q3, .null, .null, .null, .null, .null, .int 0])), (q1, .inl (cA 3, 8, .inr (.inr (.inr (.inr (fun _ => none)))))), (q2, .inl (cA 2, 2, .inr (.inr (.inr (.inr (fun _ => none))))))]) rfl ?_
  refine y_aload C dX6_init_32 rfl (j := 0) rfl ?_
  refine y2_mk (ci := 3) (Wd := WX3 cA) C dX6_init_33 dX6_init_36 dX6_init_37 rfl inlX3 tyX3_ok zw14 zw16 zw17 dfX3 rfl C.2.2.2.2.2.2.2.1.1 zw40 zw39 ⟨rfl, by decide +kernel⟩ (fun q sz => sX3_init) ⟨by decide, by decide⟩ (Nat.le_of_ble_eq_true rfl) ⟨by decide, by decide⟩ (fun q4 a4 => ?_)
  refine y2_putF (ty := .object "BonfireHeaps$Heap") 0 C hi dX6_init_40 rfl rfl inlX6 tyX6_ok nmX6 3 (by decide) rfl rfl zw19 (by decide +kernel) rfl rfl (Nat.le_of_ble_eq_true rfl) ([(h, .inr (6, [.ref q1, .ref q2, .ref q3, .ref q4, .null, .null, .null, .null, .int 0])), (q1, .inl (cA 3, 8, .inr (.inr (.inr (.inr (fun _ => none)))))), (q2, .inl (cA 2, 2, .inr (.inr (.inr (.inr (fun _ => none))))))]) rfl ?_
  refine y_aload C dX6_init_43 rfl (j := 0) rfl ?_
  refine y2_mk (ci := 5) (Wd := WX5 cA) C dX6_init_44 dX6_init_47 dX6_init_48 rfl inlX5 tyX5_ok zw20 zw21 zw22 dfX5 rfl C.2.2.2.2.2.2.2.1.2.1 zw54 zw53 ⟨rfl, by decide +kernel⟩ (fun q sz => sX5_init) ⟨by decide, by decide⟩ (Nat.le_of_ble_eq_true rfl) ⟨by decide, by decide⟩ (fun q5 a5 => ?_)
  refine y2_putF (ty := .object "BonfireHeaps$Tape") 0 C hi dX6_init_51 rfl rfl inlX6 tyX6_ok nmX6 4 (by decide) rfl rfl zw23 (by decide +kernel) rfl rfl (Nat.le_of_ble_eq_true rfl) ([(h, .inr (6, [.ref q1, .ref q2, .ref q3, .ref q4, .ref q5, .null, .null, .null, .int 0])), (q1, .inl (cA 3, 8, .inr (.inr (.inr (.inr (fun _ => none)))))), (q2, .inl (cA 2, 2, .inr (.inr (.inr (.inr (fun _ => none))))))]) rfl ?_
  refine y_aload C dX6_init_54 rfl (j := 0) rfl ?_
  refine y2_mk (ci := 0) (Wd := WX0 cA) C dX6_init_55 dX6_init_58 dX6_init_59 rfl inlX0 tyX0_ok zw24 zw25 zw26 dfX0 rfl C.2.2.2.2.2.2.2.1.2.2.1 zw62 zw61 ⟨rfl, by decide +kernel⟩ (fun q sz => sX0_init) ⟨by decide, by decide⟩ (Nat.le_of_ble_eq_true rfl) ⟨by decide, by decide⟩ (fun q6 a6 => ?_)
  refine y2_putF (ty := .object "BonfireHeaps$Acts") 0 C hi dX6_init_62 rfl rfl inlX6 tyX6_ok nmX6 5 (by decide) rfl rfl zw27 (by decide +kernel) rfl rfl (Nat.le_of_ble_eq_true rfl) ([(h, .inr (6, [.ref q1, .ref q2, .ref q3, .ref q4, .ref q5, .ref q6, .null, .null, .int 0])), (q1, .inl (cA 3, 8, .inr (.inr (.inr (.inr (fun _ => none)))))), (q2, .inl (cA 2, 2, .inr (.inr (.inr (.inr (fun _ => none))))))]) rfl ?_
  refine y_aload C dX6_init_65 rfl (j := 0) rfl ?_
  refine y2_mk (ci := 2) (Wd := WX2 cA) C dX6_init_66 dX6_init_69 dX6_init_70 rfl inlX2 tyX2_ok zw28 zw29 zw30 dfX2 rfl C.2.2.2.2.2.2.2.1.2.2.2.1 zw75 zw74 ⟨rfl, by decide +kernel⟩ (fun q sz => sX2_init) ⟨by decide, by decide⟩ (Nat.le_of_ble_eq_true rfl) ⟨by decide, by decide⟩ (fun q7 a7 => ?_)
  refine y2_putF (ty := .object "BonfireHeaps$Foretold") 0 C hi dX6_init_73 rfl rfl inlX6 tyX6_ok nmX6 6 (by decide) rfl rfl zw31 (by decide +kernel) rfl rfl (Nat.le_of_ble_eq_true rfl) ([(h, .inr (6, [.ref q1, .ref q2, .ref q3, .ref q4, .ref q5, .ref q6, .ref q7, .null, .int 0])), (q1, .inl (cA 3, 8, .inr (.inr (.inr (.inr (fun _ => none)))))), (q2, .inl (cA 2, 2, .inr (.inr (.inr (.inr (fun _ => none))))))]) rfl ?_
  refine y_aload C dX6_init_76 rfl (j := 0) rfl ?_
  refine y2_mk (ci := 1) (Wd := WX1 cA) C dX6_init_77 dX6_init_80 dX6_init_81 rfl inlX1 tyX1_ok zw32 zw33 zw34 dfX1 rfl C.2.2.2.2.2.2.2.1.2.2.2.2.1 zw80 zw79 ⟨rfl, by decide +kernel⟩ (fun q sz => sX1_init) ⟨by decide, by decide⟩ (Nat.le_of_ble_eq_true rfl) ⟨by decide, by decide⟩ (fun q8 a8 => ?_)
  refine y2_putF (ty := .object "BonfireHeaps$Asks") 0 C hi dX6_init_84 rfl rfl inlX6 tyX6_ok nmX6 7 (by decide) rfl rfl zw35 (by decide +kernel) rfl rfl (Nat.le_of_ble_eq_true rfl) ([(h, .inr (6, [.ref q1, .ref q2, .ref q3, .ref q4, .ref q5, .ref q6, .ref q7, .ref q8, .int 0])), (q1, .inl (cA 3, 8, .inr (.inr (.inr (.inr (fun _ => none)))))), (q2, .inl (cA 2, 2, .inr (.inr (.inr (.inr (fun _ => none))))))]) rfl ?_
  refine y_aload C dX6_init_87 rfl (j := 0) rfl ?_
  refine y_iconst (v := 0) C dX6_init_88 (by decide +kernel) ?_
  refine y2_put 0 C dX6_init_89 rfl rfl inlX6 tyX6_ok nmX6 8 (by decide) rfl zw36 (by decide +kernel) (Nat.le_of_ble_eq_true rfl) ([(h, .inr (6, [.ref q1, .ref q2, .ref q3, .ref q4, .ref q5, .ref q6, .ref q7, .ref q8, .int (0)])), (q1, .inl (cA 3, 8, .inr (.inr (.inr (.inr (fun _ => none)))))), (q2, .inl (cA 2, 2, .inr (.inr (.inr (.inr (fun _ => none))))))]) rfl ?_
  refine y_iconst (v := 0) C dX6_init_92 (by decide +kernel) ?_
  refine y_istore [(0, .ref h)] C dX6_init_93 rfl (by decide) rfl ?_
  refine y_iload C dX6_init_94 rfl (j := 0) rfl ?_
  refine y_bipush (v := 8) C dX6_init_95 (by decide +kernel) ?_
  refine y_lt 119 C dX6_init_97 (by decide) (by decide) ?_
  refine y_aload C dX6_init_100 rfl (j := 1) rfl ?_
  refine y2_get (v := .ref q1) 0 C dX6_init_101 rfl rfl inlX6 0 (by decide) rfl zw13 rfl ?_
  refine y_iload C dX6_init_104 rfl (j := 0) rfl ?_
  refine y2_mk (ci := 4) (Wd := WX4 cA) C dX6_init_105 dX6_init_108 dX6_init_109 rfl inlX4 tyX4_ok zw12 zw37 zw38 dfX4 rfl C.2.2.2.2.2.2.2.1.2.2.2.2.2.1 zw89 zw88 ⟨rfl, by decide +kernel⟩ (fun q sz => sX4_init) ⟨by decide, by decide⟩ (Nat.le_of_ble_eq_true rfl) ⟨by decide, by decide⟩ (fun q9 a9 => ?_)
  refine y2_aast (ci := 4) 1 3 C dX6_init_112 rfl rfl rfl rfl (by decide +kernel) ([(h, .inr (6, [.ref q1, .ref q2, .ref q3, .ref q4, .ref q5, .ref q6, .ref q7, .ref q8, .int (0)])), (q1, .inl (cA 3, 8, .inr (.inr (.inr (.inr (va_up (fun _ => none) (0 : Int32).toNatClampNeg (some q9))))))), (q2, .inl (cA 2, 2, .inr (.inr (.inr (.inr (fun _ => none))))))]) rfl ?_
  refine y_iinc (cst := 1) (v := 1) [(0, .ref h)] C dX6_init_113 (by decide +kernel) (by decide +kernel) (j := 0) rfl (by decide) rfl ?_
  refine y_goto 94 C dX6_init_116 (by decide) ?_
  refine y_iload C dX6_init_94 rfl (j := 0) rfl ?_
  refine y_bipush (v := 8) C dX6_init_95 (by decide +kernel) ?_
  refine y_lt 119 C dX6_init_97 (by decide) (by decide) ?_
  refine y_aload C dX6_init_100 rfl (j := 1) rfl ?_
  refine y2_get (v := .ref q1) 0 C dX6_init_101 rfl rfl inlX6 0 (by decide) rfl zw13 rfl ?_
  refine y_iload C dX6_init_104 rfl (j := 0) rfl ?_
  refine y2_mk (ci := 4) (Wd := WX4 cA) C dX6_init_105 dX6_init_108 dX6_init_109 rfl inlX4 tyX4_ok zw12 zw37 zw38 dfX4 rfl C.2.2.2.2.2.2.2.1.2.2.2.2.2.1 zw89 zw88 ⟨rfl, by decide +kernel⟩ (fun q sz => sX4_init) ⟨by decide, by decide⟩ (Nat.le_of_ble_eq_true rfl) ⟨by decide, by decide⟩ (fun q10 a10 => ?_)
  refine y2_aast (ci := 4) 1 3 C dX6_init_112 rfl rfl rfl rfl (by decide +kernel) ([(h, .inr (6, [.ref q1, .ref q2, .ref q3, .ref q4, .ref q5, .ref q6, .ref q7, .ref q8, .int (0)])), (q1, .inl (cA 3, 8, .inr (.inr (.inr (.inr (va_up (va_up (fun _ => none) (0 : Int32).toNatClampNeg (some q9)) (1 : Int32).toNatClampNeg (some q10))))))), (q2, .inl (cA 2, 2, .inr (.inr (.inr (.inr (fun _ => none))))))]) rfl ?_
  refine y_iinc (cst := 1) (v := 2) [(0, .ref h)] C dX6_init_113 (by decide +kernel) (by decide +kernel) (j := 0) rfl (by decide) rfl ?_
  refine y_goto 94 C dX6_init_116 (by decide) ?_
  refine y_iload C dX6_init_94 rfl (j := 0) rfl ?_
  refine y_bipush (v := 8) C dX6_init_95 (by decide +kernel) ?_
  refine y_lt 119 C dX6_init_97 (by decide) (by decide) ?_
  refine y_aload C dX6_init_100 rfl (j := 1) rfl ?_
  refine y2_get (v := .ref q1) 0 C dX6_init_101 rfl rfl inlX6 0 (by decide) rfl zw13 rfl ?_
  refine y_iload C dX6_init_104 rfl (j := 0) rfl ?_
  refine y2_mk (ci := 4) (Wd := WX4 cA) C dX6_init_105 dX6_init_108 dX6_init_109 rfl inlX4 tyX4_ok zw12 zw37 zw38 dfX4 rfl C.2.2.2.2.2.2.2.1.2.2.2.2.2.1 zw89 zw88 ⟨rfl, by decide +kernel⟩ (fun q sz => sX4_init) ⟨by decide, by decide⟩ (Nat.le_of_ble_eq_true rfl) ⟨by decide, by decide⟩ (fun q11 a11 => ?_)
  refine y2_aast (ci := 4) 1 3 C dX6_init_112 rfl rfl rfl rfl (by decide +kernel) ([(h, .inr (6, [.ref q1, .ref q2, .ref q3, .ref q4, .ref q5, .ref q6, .ref q7, .ref q8, .int (0)])), (q1, .inl (cA 3, 8, .inr (.inr (.inr (.inr (va_up (va_up (va_up (fun _ => none) (0 : Int32).toNatClampNeg (some q9)) (1 : Int32).toNatClampNeg (some q10)) (2 : Int32).toNatClampNeg (some q11))))))), (q2, .inl (cA 2, 2, .inr (.inr (.inr (.inr (fun _ => none))))))]) rfl ?_
  refine y_iinc (cst := 1) (v := 3) [(0, .ref h)] C dX6_init_113 (by decide +kernel) (by decide +kernel) (j := 0) rfl (by decide) rfl ?_
  refine y_goto 94 C dX6_init_116 (by decide) ?_
  refine y_iload C dX6_init_94 rfl (j := 0) rfl ?_
  refine y_bipush (v := 8) C dX6_init_95 (by decide +kernel) ?_
  refine y_lt 119 C dX6_init_97 (by decide) (by decide) ?_
  refine y_aload C dX6_init_100 rfl (j := 1) rfl ?_
  refine y2_get (v := .ref q1) 0 C dX6_init_101 rfl rfl inlX6 0 (by decide) rfl zw13 rfl ?_
  refine y_iload C dX6_init_104 rfl (j := 0) rfl ?_
  refine y2_mk (ci := 4) (Wd := WX4 cA) C dX6_init_105 dX6_init_108 dX6_init_109 rfl inlX4 tyX4_ok zw12 zw37 zw38 dfX4 rfl C.2.2.2.2.2.2.2.1.2.2.2.2.2.1 zw89 zw88 ⟨rfl, by decide +kernel⟩ (fun q sz => sX4_init) ⟨by decide, by decide⟩ (Nat.le_of_ble_eq_true rfl) ⟨by decide, by decide⟩ (fun q12 a12 => ?_)
  refine y2_aast (ci := 4) 1 3 C dX6_init_112 rfl rfl rfl rfl (by decide +kernel) ([(h, .inr (6, [.ref q1, .ref q2, .ref q3, .ref q4, .ref q5, .ref q6, .ref q7, .ref q8, .int (0)])), (q1, .inl (cA 3, 8, .inr (.inr (.inr (.inr (va_up (va_up (va_up (va_up (fun _ => none) (0 : Int32).toNatClampNeg (some q9)) (1 : Int32).toNatClampNeg (some q10)) (2 : Int32).toNatClampNeg (some q11)) (3 : Int32).toNatClampNeg (some q12))))))), (q2, .inl (cA 2, 2, .inr (.inr (.inr (.inr (fun _ => none))))))]) rfl ?_
  refine y_iinc (cst := 1) (v := 4) [(0, .ref h)] C dX6_init_113 (by decide +kernel) (by decide +kernel) (j := 0) rfl (by decide) rfl ?_
  refine y_goto 94 C dX6_init_116 (by decide) ?_
  refine y_iload C dX6_init_94 rfl (j := 0) rfl ?_
  refine y_bipush (v := 8) C dX6_init_95 (by decide +kernel) ?_
  refine y_lt 119 C dX6_init_97 (by decide) (by decide) ?_
  refine y_aload C dX6_init_100 rfl (j := 1) rfl ?_
  refine y2_get (v := .ref q1) 0 C dX6_init_101 rfl rfl inlX6 0 (by decide) rfl zw13 rfl ?_
  refine y_iload C dX6_init_104 rfl (j := 0) rfl ?_
  refine y2_mk (ci := 4) (Wd := WX4 cA) C dX6_init_105 dX6_init_108 dX6_init_109 rfl inlX4 tyX4_ok zw12 zw37 zw38 dfX4 rfl C.2.2.2.2.2.2.2.1.2.2.2.2.2.1 zw89 zw88 ⟨rfl, by decide +kernel⟩ (fun q sz => sX4_init) ⟨by decide, by decide⟩ (Nat.le_of_ble_eq_true rfl) ⟨by decide, by decide⟩ (fun q13 a13 => ?_)
  refine y2_aast (ci := 4) 1 3 C dX6_init_112 rfl rfl rfl rfl (by decide +kernel) ([(h, .inr (6, [.ref q1, .ref q2, .ref q3, .ref q4, .ref q5, .ref q6, .ref q7, .ref q8, .int (0)])), (q1, .inl (cA 3, 8, .inr (.inr (.inr (.inr (va_up (va_up (va_up (va_up (va_up (fun _ => none) (0 : Int32).toNatClampNeg (some q9)) (1 : Int32).toNatClampNeg (some q10)) (2 : Int32).toNatClampNeg (some q11)) (3 : Int32).toNatClampNeg (some q12)) (4 : Int32).toNatClampNeg (some q13))))))), (q2, .inl (cA 2, 2, .inr (.inr (.inr (.inr (fun _ => none))))))]) rfl ?_
  refine y_iinc (cst := 1) (v := 5) [(0, .ref h)] C dX6_init_113 (by decide +kernel) (by decide +kernel) (j := 0) rfl (by decide) rfl ?_
  refine y_goto 94 C dX6_init_116 (by decide) ?_
  refine y_iload C dX6_init_94 rfl (j := 0) rfl ?_
  refine y_bipush (v := 8) C dX6_init_95 (by decide +kernel) ?_
  refine y_lt 119 C dX6_init_97 (by decide) (by decide) ?_
  refine y_aload C dX6_init_100 rfl (j := 1) rfl ?_
  refine y2_get (v := .ref q1) 0 C dX6_init_101 rfl rfl inlX6 0 (by decide) rfl zw13 rfl ?_
  refine y_iload C dX6_init_104 rfl (j := 0) rfl ?_
  refine y2_mk (ci := 4) (Wd := WX4 cA) C dX6_init_105 dX6_init_108 dX6_init_109 rfl inlX4 tyX4_ok zw12 zw37 zw38 dfX4 rfl C.2.2.2.2.2.2.2.1.2.2.2.2.2.1 zw89 zw88 ⟨rfl, by decide +kernel⟩ (fun q sz => sX4_init) ⟨by decide, by decide⟩ (Nat.le_of_ble_eq_true rfl) ⟨by decide, by decide⟩ (fun q14 a14 => ?_)
  refine y2_aast (ci := 4) 1 3 C dX6_init_112 rfl rfl rfl rfl (by decide +kernel) ([(h, .inr (6, [.ref q1, .ref q2, .ref q3, .ref q4, .ref q5, .ref q6, .ref q7, .ref q8, .int (0)])), (q1, .inl (cA 3, 8, .inr (.inr (.inr (.inr (va_up (va_up (va_up (va_up (va_up (va_up (fun _ => none) (0 : Int32).toNatClampNeg (some q9)) (1 : Int32).toNatClampNeg (some q10)) (2 : Int32).toNatClampNeg (some q11)) (3 : Int32).toNatClampNeg (some q12)) (4 : Int32).toNatClampNeg (some q13)) (5 : Int32).toNatClampNeg (some q14))))))), (q2, .inl (cA 2, 2, .inr (.inr (.inr (.inr (fun _ => none))))))]) rfl ?_
  refine y_iinc (cst := 1) (v := 6) [(0, .ref h)] C dX6_init_113 (by decide +kernel) (by decide +kernel) (j := 0) rfl (by decide) rfl ?_
  refine y_goto 94 C dX6_init_116 (by decide) ?_
  refine y_iload C dX6_init_94 rfl (j := 0) rfl ?_
  refine y_bipush (v := 8) C dX6_init_95 (by decide +kernel) ?_
  refine y_lt 119 C dX6_init_97 (by decide) (by decide) ?_
  refine y_aload C dX6_init_100 rfl (j := 1) rfl ?_
  refine y2_get (v := .ref q1) 0 C dX6_init_101 rfl rfl inlX6 0 (by decide) rfl zw13 rfl ?_
  refine y_iload C dX6_init_104 rfl (j := 0) rfl ?_
  refine y2_mk (ci := 4) (Wd := WX4 cA) C dX6_init_105 dX6_init_108 dX6_init_109 rfl inlX4 tyX4_ok zw12 zw37 zw38 dfX4 rfl C.2.2.2.2.2.2.2.1.2.2.2.2.2.1 zw89 zw88 ⟨rfl, by decide +kernel⟩ (fun q sz => sX4_init) ⟨by decide, by decide⟩ (Nat.le_of_ble_eq_true rfl) ⟨by decide, by decide⟩ (fun q15 a15 => ?_)
  refine y2_aast (ci := 4) 1 3 C dX6_init_112 rfl rfl rfl rfl (by decide +kernel) ([(h, .inr (6, [.ref q1, .ref q2, .ref q3, .ref q4, .ref q5, .ref q6, .ref q7, .ref q8, .int (0)])), (q1, .inl (cA 3, 8, .inr (.inr (.inr (.inr (va_up (va_up (va_up (va_up (va_up (va_up (va_up (fun _ => none) (0 : Int32).toNatClampNeg (some q9)) (1 : Int32).toNatClampNeg (some q10)) (2 : Int32).toNatClampNeg (some q11)) (3 : Int32).toNatClampNeg (some q12)) (4 : Int32).toNatClampNeg (some q13)) (5 : Int32).toNatClampNeg (some q14)) (6 : Int32).toNatClampNeg (some q15))))))), (q2, .inl (cA 2, 2, .inr (.inr (.inr (.inr (fun _ => none))))))]) rfl ?_
  refine y_iinc (cst := 1) (v := 7) [(0, .ref h)] C dX6_init_113 (by decide +kernel) (by decide +kernel) (j := 0) rfl (by decide) rfl ?_
  refine y_goto 94 C dX6_init_116 (by decide) ?_
  refine y_iload C dX6_init_94 rfl (j := 0) rfl ?_
  refine y_bipush (v := 8) C dX6_init_95 (by decide +kernel) ?_
  refine y_lt 119 C dX6_init_97 (by decide) (by decide) ?_
  refine y_aload C dX6_init_100 rfl (j := 1) rfl ?_
  refine y2_get (v := .ref q1) 0 C dX6_init_101 rfl rfl inlX6 0 (by decide) rfl zw13 rfl ?_
  refine y_iload C dX6_init_104 rfl (j := 0) rfl ?_
  refine y2_mk (ci := 4) (Wd := WX4 cA) C dX6_init_105 dX6_init_108 dX6_init_109 rfl inlX4 tyX4_ok zw12 zw37 zw38 dfX4 rfl C.2.2.2.2.2.2.2.1.2.2.2.2.2.1 zw89 zw88 ⟨rfl, by decide +kernel⟩ (fun q sz => sX4_init) ⟨by decide, by decide⟩ (Nat.le_of_ble_eq_true rfl) ⟨by decide, by decide⟩ (fun q16 a16 => ?_)
  refine y2_aast (ci := 4) 1 3 C dX6_init_112 rfl rfl rfl rfl (by decide +kernel) ([(h, .inr (6, [.ref q1, .ref q2, .ref q3, .ref q4, .ref q5, .ref q6, .ref q7, .ref q8, .int (0)])), (q1, .inl (cA 3, 8, .inr (.inr (.inr (.inr (va_up (va_up (va_up (va_up (va_up (va_up (va_up (va_up (fun _ => none) (0 : Int32).toNatClampNeg (some q9)) (1 : Int32).toNatClampNeg (some q10)) (2 : Int32).toNatClampNeg (some q11)) (3 : Int32).toNatClampNeg (some q12)) (4 : Int32).toNatClampNeg (some q13)) (5 : Int32).toNatClampNeg (some q14)) (6 : Int32).toNatClampNeg (some q15)) (7 : Int32).toNatClampNeg (some q16))))))), (q2, .inl (cA 2, 2, .inr (.inr (.inr (.inr (fun _ => none))))))]) rfl ?_
  refine y_iinc (cst := 1) (v := 8) [(0, .ref h)] C dX6_init_113 (by decide +kernel) (by decide +kernel) (j := 0) rfl (by decide) rfl ?_
  refine y_goto 94 C dX6_init_116 (by decide) ?_
  refine y_iload C dX6_init_94 rfl (j := 0) rfl ?_
  refine y_bipush (v := 8) C dX6_init_95 (by decide +kernel) ?_
  refine y_ge 119 C dX6_init_97 (by decide) (by decide) ?_
  refine y_iconst (v := 0) C dX6_init_119 (by decide +kernel) ?_
  refine y_istore [(0, .ref h)] C dX6_init_120 rfl (by decide) rfl ?_
  refine y_iload C dX6_init_121 rfl (j := 0) rfl ?_
  refine y_iconst (v := 2) C dX6_init_122 (by decide +kernel) ?_
  refine y_lt 145 C dX6_init_123 (by decide) (by decide) ?_
  refine y_aload C dX6_init_126 rfl (j := 1) rfl ?_
  refine y2_get (v := .ref q2) 0 C dX6_init_127 rfl rfl inlX6 1 (by decide) rfl zw15 rfl ?_
  refine y_iload C dX6_init_130 rfl (j := 0) rfl ?_
  refine y2_mk (ci := 3) (Wd := WX3 cA) C dX6_init_131 dX6_init_134 dX6_init_135 rfl inlX3 tyX3_ok zw14 zw16 zw17 dfX3 rfl C.2.2.2.2.2.2.2.1.1 zw40 zw39 ⟨rfl, by decide +kernel⟩ (fun q sz => sX3_init) ⟨by decide, by decide⟩ (Nat.le_of_ble_eq_true rfl) ⟨by decide, by decide⟩ (fun q17 a17 => ?_)
  refine y2_aast (ci := 3) 2 2 C dX6_init_138 rfl rfl rfl rfl (by decide +kernel) ([(h, .inr (6, [.ref q1, .ref q2, .ref q3, .ref q4, .ref q5, .ref q6, .ref q7, .ref q8, .int (0)])), (q1, .inl (cA 3, 8, .inr (.inr (.inr (.inr (va_up (va_up (va_up (va_up (va_up (va_up (va_up (va_up (fun _ => none) (0 : Int32).toNatClampNeg (some q9)) (1 : Int32).toNatClampNeg (some q10)) (2 : Int32).toNatClampNeg (some q11)) (3 : Int32).toNatClampNeg (some q12)) (4 : Int32).toNatClampNeg (some q13)) (5 : Int32).toNatClampNeg (some q14)) (6 : Int32).toNatClampNeg (some q15)) (7 : Int32).toNatClampNeg (some q16))))))), (q2, .inl (cA 2, 2, .inr (.inr (.inr (.inr (va_up (fun _ => none) (0 : Int32).toNatClampNeg (some q17)))))))]) rfl ?_
  refine y_iinc (cst := 1) (v := 1) [(0, .ref h)] C dX6_init_139 (by decide +kernel) (by decide +kernel) (j := 0) rfl (by decide) rfl ?_
  refine y_goto 121 C dX6_init_142 (by decide) ?_
  refine y_iload C dX6_init_121 rfl (j := 0) rfl ?_
  refine y_iconst (v := 2) C dX6_init_122 (by decide +kernel) ?_
  refine y_lt 145 C dX6_init_123 (by decide) (by decide) ?_
  refine y_aload C dX6_init_126 rfl (j := 1) rfl ?_
  refine y2_get (v := .ref q2) 0 C dX6_init_127 rfl rfl inlX6 1 (by decide) rfl zw15 rfl ?_
  refine y_iload C dX6_init_130 rfl (j := 0) rfl ?_
  refine y2_mk (ci := 3) (Wd := WX3 cA) C dX6_init_131 dX6_init_134 dX6_init_135 rfl inlX3 tyX3_ok zw14 zw16 zw17 dfX3 rfl C.2.2.2.2.2.2.2.1.1 zw40 zw39 ⟨rfl, by decide +kernel⟩ (fun q sz => sX3_init) ⟨by decide, by decide⟩ (Nat.le_of_ble_eq_true rfl) ⟨by decide, by decide⟩ (fun q18 a18 => ?_)
  refine y2_aast (ci := 3) 2 2 C dX6_init_138 rfl rfl rfl rfl (by decide +kernel) ([(h, .inr (6, [.ref q1, .ref q2, .ref q3, .ref q4, .ref q5, .ref q6, .ref q7, .ref q8, .int (0)])), (q1, .inl (cA 3, 8, .inr (.inr (.inr (.inr (va_up (va_up (va_up (va_up (va_up (va_up (va_up (va_up (fun _ => none) (0 : Int32).toNatClampNeg (some q9)) (1 : Int32).toNatClampNeg (some q10)) (2 : Int32).toNatClampNeg (some q11)) (3 : Int32).toNatClampNeg (some q12)) (4 : Int32).toNatClampNeg (some q13)) (5 : Int32).toNatClampNeg (some q14)) (6 : Int32).toNatClampNeg (some q15)) (7 : Int32).toNatClampNeg (some q16))))))), (q2, .inl (cA 2, 2, .inr (.inr (.inr (.inr (va_up (va_up (fun _ => none) (0 : Int32).toNatClampNeg (some q17)) (1 : Int32).toNatClampNeg (some q18)))))))]) rfl ?_
  refine y_iinc (cst := 1) (v := 2) [(0, .ref h)] C dX6_init_139 (by decide +kernel) (by decide +kernel) (j := 0) rfl (by decide) rfl ?_
  refine y_goto 121 C dX6_init_142 (by decide) ?_
  refine y_iload C dX6_init_121 rfl (j := 0) rfl ?_
  refine y_iconst (v := 2) C dX6_init_122 (by decide +kernel) ?_
  refine y_ge 145 C dX6_init_123 (by decide) (by decide) ?_
  obtain ⟨ad, g0, g1, g2, g3, g4, g5, g6, g7, g8, g9, g10, g11, g12, g13, g14, g15, g16, g17, g18, g19, g20, g21, g22, g23, g24, g25, g26, g27, g28, g29, g30, g31, g32, g33, g34, g35, g36, g37, g38, g39, g40, g41, g42, g43, g44, g45, g46, g47, g48, g49, g50, g51, g52, g53, g54, g55, g56⟩ : ∃ ad : Nat → Nat, ad 0 = q1 ∧ ad 1 = q2 ∧ ad 2 = q3 ∧ ad 3 = a3 0 ∧ ad 4 = a3 1 ∧ ad 5 = a3 2 ∧ ad 6 = a3 3 ∧ ad 7 = q4 ∧ ad 8 = a4 0 ∧ ad 9 = a4 1 ∧ ad 10 = a4 2 ∧ ad 11 = a4 3 ∧ ad 12 = q5 ∧ ad 13 = a5 0 ∧ ad 14 = q6 ∧ ad 15 = a6 0 ∧ ad 16 = a6 1 ∧ ad 17 = a6 2 ∧ ad 18 = a6 3 ∧ ad 19 = a6 4 ∧ ad 20 = a6 5 ∧ ad 21 = a6 6 ∧ ad 22 = a6 7 ∧ ad 23 = q7 ∧ ad 24 = a7 0 ∧ ad 25 = a7 1 ∧ ad 26 = a7 2 ∧ ad 27 = a7 3 ∧ ad 28 = a7 4 ∧ ad 29 = q8 ∧ ad 30 = a8 0 ∧ ad 31 = q9 ∧ ad 32 = a9 0 ∧ ad 33 = q10 ∧ ad 34 = a10 0 ∧ ad 35 = q11 ∧ ad 36 = a11 0 ∧ ad 37 = q12 ∧ ad 38 = a12 0 ∧ ad 39 = q13 ∧ ad 40 = a13 0 ∧ ad 41 = q14 ∧ ad 42 = a14 0 ∧ ad 43 = q15 ∧ ad 44 = a15 0 ∧ ad 45 = q16 ∧ ad 46 = a16 0 ∧ ad 47 = q17 ∧ ad 48 = a17 0 ∧ ad 49 = a17 1 ∧ ad 50 = a17 2 ∧ ad 51 = a17 3 ∧ ad 52 = q18 ∧ ad 53 = a18 0 ∧ ad 54 = a18 1 ∧ ad 55 = a18 2 ∧ ad 56 = a18 3 := ⟨fun i => ([q1, q2, q3, a3 0, a3 1, a3 2, a3 3, q4, a4 0, a4 1, a4 2, a4 3, q5, a5 0, q6, a6 0, a6 1, a6 2, a6 3, a6 4, a6 5, a6 6, a6 7, q7, a7 0, a7 1, a7 2, a7 3, a7 4, q8, a8 0, q9, a9 0, q10, a10 0, q11, a11 0, q12, a12 0, q13, a13 0, q14, a14 0, q15, a15 0, q16, a16 0, q17, a17 0, a17 1, a17 2, a17 3, q18, a18 0, a18 1, a18 2, a18 3] : List Nat).getD i 0, rfl, rfl, rfl, rfl, rfl, rfl, rfl, rfl, rfl, rfl, rfl, rfl, rfl, rfl, rfl, rfl, rfl, rfl, rfl, rfl, rfl, rfl, rfl, rfl, rfl, rfl, rfl, rfl, rfl, rfl, rfl, rfl, rfl, rfl, rfl, rfl, rfl, rfl, rfl, rfl, rfl, rfl, rfl, rfl, rfl, rfl, rfl, rfl, rfl, rfl, rfl, rfl, rfl, rfl, rfl, rfl, rfl⟩
  refine y2_ext (fun i => some (ad (31 + 2 * i))) 1 rfl (fun i hi => ?_) ([(h, .inr (6, [.ref q1, .ref q2, .ref q3, .ref q4, .ref q5, .ref q6, .ref q7, .ref q8, .int (0)])), (q1, .inl (cA 3, 8, .inr (.inr (.inr (.inr (fun i => some (ad (31 + 2 * i)))))))), (q2, .inl (cA 2, 2, .inr (.inr (.inr (.inr (va_up (va_up (fun _ => none) (0 : Int32).toNatClampNeg (some q17)) (1 : Int32).toNatClampNeg (some q18)))))))]) rfl ?_
  · rcases (show i = 0 ∨ i = 1 ∨ i = 2 ∨ i = 3 ∨ i = 4 ∨ i = 5 ∨ i = 6 ∨ i = 7 by omega) with rfl | rfl | rfl | rfl | rfl | rfl | rfl | rfl
    · show some _ = some (ad 31); rw [g31]
    · show some _ = some (ad 33); rw [g33]
    · show some _ = some (ad 35); rw [g35]
    · show some _ = some (ad 37); rw [g37]
    · show some _ = some (ad 39); rw [g39]
    · show some _ = some (ad 41); rw [g41]
    · show some _ = some (ad 43); rw [g43]
    · show some _ = some (ad 45); rw [g45]
  refine y2_ext (fun i => some (ad (47 + 5 * i))) 2 rfl (fun i hi => ?_) ([(h, .inr (6, [.ref q1, .ref q2, .ref q3, .ref q4, .ref q5, .ref q6, .ref q7, .ref q8, .int (0)])), (q1, .inl (cA 3, 8, .inr (.inr (.inr (.inr (fun i => some (ad (31 + 2 * i)))))))), (q2, .inl (cA 2, 2, .inr (.inr (.inr (.inr (fun i => some (ad (47 + 5 * i))))))))]) rfl ?_
  · rcases (show i = 0 ∨ i = 1 by omega) with rfl | rfl
    · show some _ = some (ad 47); rw [g47]
    · show some _ = some (ad 52); rw [g52]
  refine y_vret ad C hA dX6_init_145 Rq ?_ ⟨by decide, by decide⟩ ⟨by decide, by decide⟩
  unfold WX6 WX2 WX0 WX1 WX5 WX3 WX4
  simp only [g0, g1, g2, g3, g4, g5, g6, g7, g8, g9, g10, g11, g12, g13, g14, g15, g16, g17, g18, g19, g20, g21, g22, g23, g24, g25, g26, g27, g28, g29, g30, g31, g32, g33, g34, g35, g36, g37, g38, g39, g40, g41, g42, g43, g44, g45, g46, g47, g48, g49, g50, g51, g52, g53, g54, g55, g56, List.cons_append, List.nil_append, List.append_nil, Nat.reduceAdd, Nat.add_zero]
