theorem dfX7 : ∀ j, j < 25 → defaultValue (tyX7 j) = vp_V [.null, .null, .null, .int 0, .int 0, .null, .null, .null, .int 0, .int 0, .int 0, .int 0, .int 0, .int 0, .int 0, .null, .null, .int 0, .null, .int 0, .null, .null, .null, .null, .int 0] j := by
  intro j hj
  rcases (show j = 0 ∨ j = 1 ∨ j = 2 ∨ j = 3 ∨ j = 4 ∨ j = 5 ∨ j = 6 ∨ j = 7 ∨ j = 8 ∨ j = 9 ∨ j = 10 ∨ j = 11 ∨ j = 12 ∨ j = 13 ∨ j = 14 ∨ j = 15 ∨ j = 16 ∨ j = 17 ∨ j = 18 ∨ j = 19 ∨ j = 20 ∨ j = 21 ∨ j = 22 ∨ j = 23 ∨ j = 24 by omega) with rfl | rfl | rfl | rfl | rfl | rfl | rfl | rfl | rfl | rfl | rfl | rfl | rfl | rfl | rfl | rfl | rfl | rfl | rfl | rfl | rfl | rfl | rfl | rfl | rfl <;> rfl
set_option maxRecDepth 100000 in
set_option maxHeartbeats 4000000 in
theorem sX7_init {l : Launch} {D : va_G} {cA : Nat → ClassId} {h sz : Nat} : yMet l D cA yX7_init cX7_init 2 1 13 1594 h 7 [.null, .null, .null, .int 0, .int 0, .null, .null, .null, .int 0, .int 0, .int 0, .int 0, .int 0, .int 0, .int 0, .null, .null, .int 0, .null, .int 0, .null, .null, .null, .null, .int 0] sz (WX7 cA h) := by
  refine y_enter (by decide) rfl (Nat.le_of_ble_eq_true rfl) (fun Γ A hA C hi Rq => ?_)
  have C : yC D cA A Γ RX7 cX7_init 2 1 13 1594 := C
  refine y_aload C dX7_init_0 rfl (j := 0) rfl ?_
  refine y_obj C dX7_init_1 zw97 zw10 zw11 ⟨by decide, Nat.le_of_ble_eq_true rfl⟩ ?_
  refine y_aload C dX7_init_4 rfl (j := 0) rfl ?_
  refine y_bipush (v := 8) C dX7_init_5 (by decide +kernel) ?_
  refine y_newI 8 C dX7_init_7 zw43 (by decide +kernel) (by decide +kernel) (by decide) ⟨by decide, by decide⟩ (fun q1 => ?_)
  refine y_eq ([(h, .inr (7, [.null, .null, .null, .int 0, .int 0, .null, .null, .null, .int 0, .int 0, .int 0, .int 0, .int 0, .int 0, .int 0, .null, .null, .int 0, .null, .int 0, .null, .null, .null, .null, .int 0])), (q1, .inl (cA 0, 8, .inl (fun _ => 0)))]) rfl ?_
  refine y_putF (ty := .array .int) 0 C hi dX7_init_9 rfl rfl inlX7 tyX7_ok nmX7 0 (by decide) rfl rfl zw98 (by decide +kernel) rfl rfl (Nat.le_of_ble_eq_true rfl) ?_
  refine y_eq ([(h, .inr (7, [.ref q1, .null, .null, .int 0, .int 0, .null, .null, .null, .int 0, .int 0, .int 0, .int 0, .int 0, .int 0, .int 0, .null, .null, .int 0, .null, .int 0, .null, .null, .null, .null, .int 0])), (q1, .inl (cA 0, 8, .inl (fun _ => 0)))]) rfl ?_
  refine y_aload C dX7_init_12 rfl (j := 0) rfl ?_
  refine y_bipush (v := 8) C dX7_init_13 (by decide +kernel) ?_
  refine y_newI 8 C dX7_init_15 zw43 (by decide +kernel) (by decide +kernel) (by decide) ⟨by decide, by decide⟩ (fun q2 => ?_)
  refine y_eq ([(h, .inr (7, [.ref q1, .null, .null, .int 0, .int 0, .null, .null, .null, .int 0, .int 0, .int 0, .int 0, .int 0, .int 0, .int 0, .null, .null, .int 0, .null, .int 0, .null, .null, .null, .null, .int 0])), (q1, .inl (cA 0, 8, .inl (fun _ => 0))), (q2, .inl (cA 0, 8, .inl (fun _ => 0)))]) rfl ?_
  refine y_putF (ty := .array .int) 0 C hi dX7_init_17 rfl rfl inlX7 tyX7_ok nmX7 1 (by decide) rfl rfl zw99 (by decide +kernel) rfl rfl (Nat.le_of_ble_eq_true rfl) ?_
  refine y_eq ([(h, .inr (7, [.ref q1, .ref q2, .null, .int 0, .int 0, .null, .null, .null, .int 0, .int 0, .int 0, .int 0, .int 0, .int 0, .int 0, .null, .null, .int 0, .null, .int 0, .null, .null, .null, .null, .int 0])), (q1, .inl (cA 0, 8, .inl (fun _ => 0))), (q2, .inl (cA 0, 8, .inl (fun _ => 0)))]) rfl ?_
  refine y_aload C dX7_init_20 rfl (j := 0) rfl ?_
  refine y_sipush (v := 320) C dX7_init_21 (by decide +kernel) ?_
  refine y_newI 320 C dX7_init_24 zw43 (by decide +kernel) (by decide +kernel) (by decide) ⟨by decide, by decide⟩ (fun q3 => ?_)
  refine y_eq ([(h, .inr (7, [.ref q1, .ref q2, .null, .int 0, .int 0, .null, .null, .null, .int 0, .int 0, .int 0, .int 0, .int 0, .int 0, .int 0, .null, .null, .int 0, .null, .int 0, .null, .null, .null, .null, .int 0])), (q1, .inl (cA 0, 8, .inl (fun _ => 0))), (q2, .inl (cA 0, 8, .inl (fun _ => 0))), (q3, .inl (cA 0, 320, .inl (fun _ => 0)))]) rfl ?_
  refine y_putF (ty := .array .int) 0 C hi dX7_init_26 rfl rfl inlX7 tyX7_ok nmX7 2 (by decide) rfl rfl zw100 (by decide +kernel) rfl rfl (Nat.le_of_ble_eq_true rfl) ?_
  refine y_eq ([(h, .inr (7, [.ref q1, .ref q2, .ref q3, .int 0, .int 0, .null, .null, .null, .int 0, .int 0, .int 0, .int 0, .int 0, .int 0, .int 0, .null, .null, .int 0, .null, .int 0, .null, .null, .null, .null, .int 0])), (q1, .inl (cA 0, 8, .inl (fun _ => 0))), (q2, .inl (cA 0, 8, .inl (fun _ => 0))), (q3, .inl (cA 0, 320, .inl (fun _ => 0)))]) rfl ?_
  refine y_aload C dX7_init_29 rfl (j := 0) rfl ?_
  refine y_bipush (v := 38) C dX7_init_30 (by decide +kernel) ?_
  refine y_newI 38 C dX7_init_32 zw43 (by decide +kernel) (by decide +kernel) (by decide) ⟨by decide, by decide⟩ (fun q4 => ?_)
  refine y_eq ([(h, .inr (7, [.ref q1, .ref q2, .ref q3, .int 0, .int 0, .null, .null, .null, .int 0, .int 0, .int 0, .int 0, .int 0, .int 0, .int 0, .null, .null, .int 0, .null, .int 0, .null, .null, .null, .null, .int 0])), (q1, .inl (cA 0, 8, .inl (fun _ => 0))), (q2, .inl (cA 0, 8, .inl (fun _ => 0))), (q3, .inl (cA 0, 320, .inl (fun _ => 0))), (q4, .inl (cA 0, 38, .inl (fun _ => 0)))]) rfl ?_
  refine y_putF (ty := .array .int) 0 C hi dX7_init_34 rfl rfl inlX7 tyX7_ok nmX7 5 (by decide) rfl rfl zw101 (by decide +kernel) rfl rfl (Nat.le_of_ble_eq_true rfl) ?_
  refine y_eq ([(h, .inr (7, [.ref q1, .ref q2, .ref q3, .int 0, .int 0, .ref q4, .null, .null, .int 0, .int 0, .int 0, .int 0, .int 0, .int 0, .int 0, .null, .null, .int 0, .null, .int 0, .null, .null, .null, .null, .int 0])), (q1, .inl (cA 0, 8, .inl (fun _ => 0))), (q2, .inl (cA 0, 8, .inl (fun _ => 0))), (q3, .inl (cA 0, 320, .inl (fun _ => 0))), (q4, .inl (cA 0, 38, .inl (fun _ => 0)))]) rfl ?_
  refine y_aload C dX7_init_37 rfl (j := 0) rfl ?_
  refine y_bipush (v := 40) C dX7_init_38 (by decide +kernel) ?_
  refine y_newI 40 C dX7_init_40 zw43 (by decide +kernel) (by decide +kernel) (by decide) ⟨by decide, by decide⟩ (fun q5 => ?_)
  refine y_eq ([(h, .inr (7, [.ref q1, .ref q2, .ref q3, .int 0, .int 0, .ref q4, .null, .null, .int 0, .int 0, .int 0, .int 0, .int 0, .int 0, .int 0, .null, .null, .int 0, .null, .int 0, .null, .null, .null, .null, .int 0])), (q1, .inl (cA 0, 8, .inl (fun _ => 0))), (q2, .inl (cA 0, 8, .inl (fun _ => 0))), (q3, .inl (cA 0, 320, .inl (fun _ => 0))), (q4, .inl (cA 0, 38, .inl (fun _ => 0))), (q5, .inl (cA 0, 40, .inl (fun _ => 0)))]) rfl ?_
  refine y_putF (ty := .array .int) 0 C hi dX7_init_42 rfl rfl inlX7 tyX7_ok nmX7 6 (by decide) rfl rfl zw102 (by decide +kernel) rfl rfl (Nat.le_of_ble_eq_true rfl) ?_
  refine y_eq ([(h, .inr (7, [.ref q1, .ref q2, .ref q3, .int 0, .int 0, .ref q4, .ref q5, .null, .int 0, .int 0, .int 0, .int 0, .int 0, .int 0, .int 0, .null, .null, .int 0, .null, .int 0, .null, .null, .null, .null, .int 0])), (q1, .inl (cA 0, 8, .inl (fun _ => 0))), (q2, .inl (cA 0, 8, .inl (fun _ => 0))), (q3, .inl (cA 0, 320, .inl (fun _ => 0))), (q4, .inl (cA 0, 38, .inl (fun _ => 0))), (q5, .inl (cA 0, 40, .inl (fun _ => 0)))]) rfl ?_
  refine y_aload C dX7_init_45 rfl (j := 0) rfl ?_
  refine y_bipush (v := 90) C dX7_init_46 (by decide +kernel) ?_
  refine y_newI 90 C dX7_init_48 zw43 (by decide +kernel) (by decide +kernel) (by decide) ⟨by decide, by decide⟩ (fun q6 => ?_)
  refine y_eq ([(h, .inr (7, [.ref q1, .ref q2, .ref q3, .int 0, .int 0, .ref q4, .ref q5, .null, .int 0, .int 0, .int 0, .int 0, .int 0, .int 0, .int 0, .null, .null, .int 0, .null, .int 0, .null, .null, .null, .null, .int 0])), (q1, .inl (cA 0, 8, .inl (fun _ => 0))), (q2, .inl (cA 0, 8, .inl (fun _ => 0))), (q3, .inl (cA 0, 320, .inl (fun _ => 0))), (q4, .inl (cA 0, 38, .inl (fun _ => 0))), (q5, .inl (cA 0, 40, .inl (fun _ => 0))), (q6, .inl (cA 0, 90, .inl (fun _ => 0)))]) rfl ?_
  refine y_putF (ty := .array .int) 0 C hi dX7_init_50 rfl rfl inlX7 tyX7_ok nmX7 7 (by decide) rfl rfl zw103 (by decide +kernel) rfl rfl (Nat.le_of_ble_eq_true rfl) ?_
  refine y_eq ([(h, .inr (7, [.ref q1, .ref q2, .ref q3, .int 0, .int 0, .ref q4, .ref q5, .ref q6, .int 0, .int 0, .int 0, .int 0, .int 0, .int 0, .int 0, .null, .null, .int 0, .null, .int 0, .null, .null, .null, .null, .int 0])), (q1, .inl (cA 0, 8, .inl (fun _ => 0))), (q2, .inl (cA 0, 8, .inl (fun _ => 0))), (q3, .inl (cA 0, 320, .inl (fun _ => 0))), (q4, .inl (cA 0, 38, .inl (fun _ => 0))), (q5, .inl (cA 0, 40, .inl (fun _ => 0))), (q6, .inl (cA 0, 90, .inl (fun _ => 0)))]) rfl ?_
  refine y_aload C dX7_init_53 rfl (j := 0) rfl ?_
  refine y_bipush (v := 38) C dX7_init_54 (by decide +kernel) ?_
  refine y_newI 38 C dX7_init_56 zw43 (by decide +kernel) (by decide +kernel) (by decide) ⟨by decide, by decide⟩ (fun q7 => ?_)
  refine y_eq ([(h, .inr (7, [.ref q1, .ref q2, .ref q3, .int 0, .int 0, .ref q4, .ref q5, .ref q6, .int 0, .int 0, .int 0, .int 0, .int 0, .int 0, .int 0, .null, .null, .int 0, .null, .int 0, .null, .null, .null, .null, .int 0])), (q1, .inl (cA 0, 8, .inl (fun _ => 0))), (q2, .inl (cA 0, 8, .inl (fun _ => 0))), (q3, .inl (cA 0, 320, .inl (fun _ => 0))), (q4, .inl (cA 0, 38, .inl (fun _ => 0))), (q5, .inl (cA 0, 40, .inl (fun _ => 0))), (q6, .inl (cA 0, 90, .inl (fun _ => 0))), (q7, .inl (cA 0, 38, .inl (fun _ => 0)))]) rfl ?_
  refine y_putF (ty := .array .int) 0 C hi dX7_init_58 rfl rfl inlX7 tyX7_ok nmX7 15 (by decide) rfl rfl zw104 (by decide +kernel) rfl rfl (Nat.le_of_ble_eq_true rfl) ?_
  refine y_eq ([(h, .inr (7, [.ref q1, .ref q2, .ref q3, .int 0, .int 0, .ref q4, .ref q5, .ref q6, .int 0, .int 0, .int 0, .int 0, .int 0, .int 0, .int 0, .ref q7, .null, .int 0, .null, .int 0, .null, .null, .null, .null, .int 0])), (q1, .inl (cA 0, 8, .inl (fun _ => 0))), (q2, .inl (cA 0, 8, .inl (fun _ => 0))), (q3, .inl (cA 0, 320, .inl (fun _ => 0))), (q4, .inl (cA 0, 38, .inl (fun _ => 0))), (q5, .inl (cA 0, 40, .inl (fun _ => 0))), (q6, .inl (cA 0, 90, .inl (fun _ => 0))), (q7, .inl (cA 0, 38, .inl (fun _ => 0)))]) rfl ?_
  refine y_aload C dX7_init_61 rfl (j := 0) rfl ?_
  refine y_bipush (v := 8) C dX7_init_62 (by decide +kernel) ?_
  refine y_newI 8 C dX7_init_64 zw43 (by decide +kernel) (by decide +kernel) (by decide) ⟨by decide, by decide⟩ (fun q8 => ?_)
  refine y_eq ([(h, .inr (7, [.ref q1, .ref q2, .ref q3, .int 0, .int 0, .ref q4, .ref q5, .ref q6, .int 0, .int 0, .int 0, .int 0, .int 0, .int 0, .int 0, .ref q7, .null, .int 0, .null, .int 0, .null, .null, .null, .null, .int 0])), (q1, .inl (cA 0, 8, .inl (fun _ => 0))), (q2, .inl (cA 0, 8, .inl (fun _ => 0))), (q3, .inl (cA 0, 320, .inl (fun _ => 0))), (q4, .inl (cA 0, 38, .inl (fun _ => 0))), (q5, .inl (cA 0, 40, .inl (fun _ => 0))), (q6, .inl (cA 0, 90, .inl (fun _ => 0))), (q7, .inl (cA 0, 38, .inl (fun _ => 0))), (q8, .inl (cA 0, 8, .inl (fun _ => 0)))]) rfl ?_
  refine y_putF (ty := .array .int) 0 C hi dX7_init_66 rfl rfl inlX7 tyX7_ok nmX7 16 (by decide) rfl rfl zw105 (by decide +kernel) rfl rfl (Nat.le_of_ble_eq_true rfl) ?_
  refine y_eq ([(h, .inr (7, [.ref q1, .ref q2, .ref q3, .int 0, .int 0, .ref q4, .ref q5, .ref q6, .int 0, .int 0, .int 0, .int 0, .int 0, .int 0, .int 0, .ref q7, .ref q8, .int 0, .null, .int 0, .null, .null, .null, .null, .int 0])), (q1, .inl (cA 0, 8, .inl (fun _ => 0))), (q2, .inl (cA 0, 8, .inl (fun _ => 0))), (q3, .inl (cA 0, 320, .inl (fun _ => 0))), (q4, .inl (cA 0, 38, .inl (fun _ => 0))), (q5, .inl (cA 0, 40, .inl (fun _ => 0))), (q6, .inl (cA 0, 90, .inl (fun _ => 0))), (q7, .inl (cA 0, 38, .inl (fun _ => 0))), (q8, .inl (cA 0, 8, .inl (fun _ => 0)))]) rfl ?_
  refine y_aload C dX7_init_69 rfl (j := 0) rfl ?_
  refine y_sipush (v := 912) C dX7_init_70 (by decide +kernel) ?_
  refine y_newI 912 C dX7_init_73 zw43 (by decide +kernel) (by decide +kernel) (by decide) ⟨by decide, by decide⟩ (fun q9 => ?_)
  refine y_eq ([(h, .inr (7, [.ref q1, .ref q2, .ref q3, .int 0, .int 0, .ref q4, .ref q5, .ref q6, .int 0, .int 0, .int 0, .int 0, .int 0, .int 0, .int 0, .ref q7, .ref q8, .int 0, .null, .int 0, .null, .null, .null, .null, .int 0])), (q1, .inl (cA 0, 8, .inl (fun _ => 0))), (q2, .inl (cA 0, 8, .inl (fun _ => 0))), (q3, .inl (cA 0, 320, .inl (fun _ => 0))), (q4, .inl (cA 0, 38, .inl (fun _ => 0))), (q5, .inl (cA 0, 40, .inl (fun _ => 0))), (q6, .inl (cA 0, 90, .inl (fun _ => 0))), (q7, .inl (cA 0, 38, .inl (fun _ => 0))), (q8, .inl (cA 0, 8, .inl (fun _ => 0))), (q9, .inl (cA 0, 912, .inl (fun _ => 0)))]) rfl ?_
  refine y_putF (ty := .array .int) 0 C hi dX7_init_75 rfl rfl inlX7 tyX7_ok nmX7 18 (by decide) rfl rfl zw106 (by decide +kernel) rfl rfl (Nat.le_of_ble_eq_true rfl) ?_
  refine y_eq ([(h, .inr (7, [.ref q1, .ref q2, .ref q3, .int 0, .int 0, .ref q4, .ref q5, .ref q6, .int 0, .int 0, .int 0, .int 0, .int 0, .int 0, .int 0, .ref q7, .ref q8, .int 0, .ref q9, .int 0, .null, .null, .null, .null, .int 0])), (q1, .inl (cA 0, 8, .inl (fun _ => 0))), (q2, .inl (cA 0, 8, .inl (fun _ => 0))), (q3, .inl (cA 0, 320, .inl (fun _ => 0))), (q4, .inl (cA 0, 38, .inl (fun _ => 0))), (q5, .inl (cA 0, 40, .inl (fun _ => 0))), (q6, .inl (cA 0, 90, .inl (fun _ => 0))), (q7, .inl (cA 0, 38, .inl (fun _ => 0))), (q8, .inl (cA 0, 8, .inl (fun _ => 0))), (q9, .inl (cA 0, 912, .inl (fun _ => 0)))]) rfl ?_
  refine y_aload C dX7_init_78 rfl (j := 0) rfl ?_
  refine y_bipush (v := 38) C dX7_init_79 (by decide +kernel) ?_
  refine y_newI 38 C dX7_init_81 zw43 (by decide +kernel) (by decide +kernel) (by decide) ⟨by decide, by decide⟩ (fun q10 => ?_)
  refine y_eq ([(h, .inr (7, [.ref q1, .ref q2, .ref q3, .int 0, .int 0, .ref q4, .ref q5, .ref q6, .int 0, .int 0, .int 0, .int 0, .int 0, .int 0, .int 0, .ref q7, .ref q8, .int 0, .ref q9, .int 0, .null, .null, .null, .null, .int 0])), (q1, .inl (cA 0, 8, .inl (fun _ => 0))), (q2, .inl (cA 0, 8, .inl (fun _ => 0))), (q3, .inl (cA 0, 320, .inl (fun _ => 0))), (q4, .inl (cA 0, 38, .inl (fun _ => 0))), (q5, .inl (cA 0, 40, .inl (fun _ => 0))), (q6, .inl (cA 0, 90, .inl (fun _ => 0))), (q7, .inl (cA 0, 38, .inl (fun _ => 0))), (q8, .inl (cA 0, 8, .inl (fun _ => 0))), (q9, .inl (cA 0, 912, .inl (fun _ => 0))), (q10, .inl (cA 0, 38, .inl (fun _ => 0)))]) rfl ?_
  refine y_putF (ty := .array .int) 0 C hi dX7_init_83 rfl rfl inlX7 tyX7_ok nmX7 20 (by decide) rfl rfl zw107 (by decide +kernel) rfl rfl (Nat.le_of_ble_eq_true rfl) ?_
  refine y_eq ([(h, .inr (7, [.ref q1, .ref q2, .ref q3, .int 0, .int 0, .ref q4, .ref q5, .ref q6, .int 0, .int 0, .int 0, .int 0, .int 0, .int 0, .int 0, .ref q7, .ref q8, .int 0, .ref q9, .int 0, .ref q10, .null, .null, .null, .int 0])), (q1, .inl (cA 0, 8, .inl (fun _ => 0))), (q2, .inl (cA 0, 8, .inl (fun _ => 0))), (q3, .inl (cA 0, 320, .inl (fun _ => 0))), (q4, .inl (cA 0, 38, .inl (fun _ => 0))), (q5, .inl (cA 0, 40, .inl (fun _ => 0))), (q6, .inl (cA 0, 90, .inl (fun _ => 0))), (q7, .inl (cA 0, 38, .inl (fun _ => 0))), (q8, .inl (cA 0, 8, .inl (fun _ => 0))), (q9, .inl (cA 0, 912, .inl (fun _ => 0))), (q10, .inl (cA 0, 38, .inl (fun _ => 0)))]) rfl ?_
  refine y_aload C dX7_init_86 rfl (j := 0) rfl ?_
  refine y_iconst (v := 2) C dX7_init_87 (by decide +kernel) ?_
  refine y_newZ 2 C dX7_init_88 zw108 (by decide +kernel) (by decide +kernel) (by decide) ⟨by decide, by decide⟩ (fun q11 => ?_)
  refine y_eq ([(h, .inr (7, [.ref q1, .ref q2, .ref q3, .int 0, .int 0, .ref q4, .ref q5, .ref q6, .int 0, .int 0, .int 0, .int 0, .int 0, .int 0, .int 0, .ref q7, .ref q8, .int 0, .ref q9, .int 0, .ref q10, .null, .null, .null, .int 0])), (q1, .inl (cA 0, 8, .inl (fun _ => 0))), (q2, .inl (cA 0, 8, .inl (fun _ => 0))), (q3, .inl (cA 0, 320, .inl (fun _ => 0))), (q4, .inl (cA 0, 38, .inl (fun _ => 0))), (q5, .inl (cA 0, 40, .inl (fun _ => 0))), (q6, .inl (cA 0, 90, .inl (fun _ => 0))), (q7, .inl (cA 0, 38, .inl (fun _ => 0))), (q8, .inl (cA 0, 8, .inl (fun _ => 0))), (q9, .inl (cA 0, 912, .inl (fun _ => 0))), (q10, .inl (cA 0, 38, .inl (fun _ => 0))), (q11, .inl (cA 1, 2, .inl (fun _ => 0)))]) rfl ?_
  refine y_putF (ty := .array .boolean) 0 C hi dX7_init_90 rfl rfl inlX7 tyX7_ok nmX7 21 (by decide) rfl rfl zw109 (by decide +kernel) rfl rfl (Nat.le_of_ble_eq_true rfl) ?_
  refine y_eq ([(h, .inr (7, [.ref q1, .ref q2, .ref q3, .int 0, .int 0, .ref q4, .ref q5, .ref q6, .int 0, .int 0, .int 0, .int 0, .int 0, .int 0, .int 0, .ref q7, .ref q8, .int 0, .ref q9, .int 0, .ref q10, .ref q11, .null, .null, .int 0])), (q1, .inl (cA 0, 8, .inl (fun _ => 0))), (q2, .inl (cA 0, 8, .inl (fun _ => 0))), (q3, .inl (cA 0, 320, .inl (fun _ => 0))), (q4, .inl (cA 0, 38, .inl (fun _ => 0))), (q5, .inl (cA 0, 40, .inl (fun _ => 0))), (q6, .inl (cA 0, 90, .inl (fun _ => 0))), (q7, .inl (cA 0, 38, .inl (fun _ => 0))), (q8, .inl (cA 0, 8, .inl (fun _ => 0))), (q9, .inl (cA 0, 912, .inl (fun _ => 0))), (q10, .inl (cA 0, 38, .inl (fun _ => 0))), (q11, .inl (cA 1, 2, .inl (fun _ => 0)))]) rfl ?_
  refine y_aload C dX7_init_93 rfl (j := 0) rfl ?_
  refine y_bipush (v := 76) C dX7_init_94 (by decide +kernel) ?_
  refine y_newI 76 C dX7_init_96 zw43 (by decide +kernel) (by decide +kernel) (by decide) ⟨by decide, by decide⟩ (fun q12 => ?_)
  refine y_eq ([(h, .inr (7, [.ref q1, .ref q2, .ref q3, .int 0, .int 0, .ref q4, .ref q5, .ref q6, .int 0, .int 0, .int 0, .int 0, .int 0, .int 0, .int 0, .ref q7, .ref q8, .int 0, .ref q9, .int 0, .ref q10, .ref q11, .null, .null, .int 0])), (q1, .inl (cA 0, 8, .inl (fun _ => 0))), (q2, .inl (cA 0, 8, .inl (fun _ => 0))), (q3, .inl (cA 0, 320, .inl (fun _ => 0))), (q4, .inl (cA 0, 38, .inl (fun _ => 0))), (q5, .inl (cA 0, 40, .inl (fun _ => 0))), (q6, .inl (cA 0, 90, .inl (fun _ => 0))), (q7, .inl (cA 0, 38, .inl (fun _ => 0))), (q8, .inl (cA 0, 8, .inl (fun _ => 0))), (q9, .inl (cA 0, 912, .inl (fun _ => 0))), (q10, .inl (cA 0, 38, .inl (fun _ => 0))), (q11, .inl (cA 1, 2, .inl (fun _ => 0))), (q12, .inl (cA 0, 76, .inl (fun _ => 0)))]) rfl ?_
  refine y_putF (ty := .array .int) 0 C hi dX7_init_98 rfl rfl inlX7 tyX7_ok nmX7 22 (by decide) rfl rfl zw110 (by decide +kernel) rfl rfl (Nat.le_of_ble_eq_true rfl) ?_
  refine y_eq ([(h, .inr (7, [.ref q1, .ref q2, .ref q3, .int 0, .int 0, .ref q4, .ref q5, .ref q6, .int 0, .int 0, .int 0, .int 0, .int 0, .int 0, .int 0, .ref q7, .ref q8, .int 0, .ref q9, .int 0, .ref q10, .ref q11, .ref q12, .null, .int 0])), (q1, .inl (cA 0, 8, .inl (fun _ => 0))), (q2, .inl (cA 0, 8, .inl (fun _ => 0))), (q3, .inl (cA 0, 320, .inl (fun _ => 0))), (q4, .inl (cA 0, 38, .inl (fun _ => 0))), (q5, .inl (cA 0, 40, .inl (fun _ => 0))), (q6, .inl (cA 0, 90, .inl (fun _ => 0))), (q7, .inl (cA 0, 38, .inl (fun _ => 0))), (q8, .inl (cA 0, 8, .inl (fun _ => 0))), (q9, .inl (cA 0, 912, .inl (fun _ => 0))), (q10, .inl (cA 0, 38, .inl (fun _ => 0))), (q11, .inl (cA 1, 2, .inl (fun _ => 0))), (q12, .inl (cA 0, 76, .inl (fun _ => 0)))]) rfl ?_
  refine y_aload C dX7_init_101 rfl (j := 0) rfl ?_
  refine y_bipush (v := 16) C dX7_init_102 (by decide +kernel) ?_
  refine y_newI 16 C dX7_init_104 zw43 (by decide +kernel) (by decide +kernel) (by decide) ⟨by decide, by decide⟩ (fun q13 => ?_)
  refine y_eq ([(h, .inr (7, [.ref q1, .ref q2, .ref q3, .int 0, .int 0, .ref q4, .ref q5, .ref q6, .int 0, .int 0, .int 0, .int 0, .int 0, .int 0, .int 0, .ref q7, .ref q8, .int 0, .ref q9, .int 0, .ref q10, .ref q11, .ref q12, .null, .int 0])), (q1, .inl (cA 0, 8, .inl (fun _ => 0))), (q2, .inl (cA 0, 8, .inl (fun _ => 0))), (q3, .inl (cA 0, 320, .inl (fun _ => 0))), (q4, .inl (cA 0, 38, .inl (fun _ => 0))), (q5, .inl (cA 0, 40, .inl (fun _ => 0))), (q6, .inl (cA 0, 90, .inl (fun _ => 0))), (q7, .inl (cA 0, 38, .inl (fun _ => 0))), (q8, .inl (cA 0, 8, .inl (fun _ => 0))), (q9, .inl (cA 0, 912, .inl (fun _ => 0))), (q10, .inl (cA 0, 38, .inl (fun _ => 0))), (q11, .inl (cA 1, 2, .inl (fun _ => 0))), (q12, .inl (cA 0, 76, .inl (fun _ => 0))), (q13, .inl (cA 0, 16, .inl (fun _ => 0)))]) rfl ?_
  refine y_putF (ty := .array .int) 0 C hi dX7_init_106 rfl rfl inlX7 tyX7_ok nmX7 23 (by decide) rfl rfl zw111 (by decide +kernel) rfl rfl (Nat.le_of_ble_eq_true rfl) ?_
  refine y_eq ([(h, .inr (7, [.ref q1, .ref q2, .ref q3, .int 0, .int 0, .ref q4, .ref q5, .ref q6, .int 0, .int 0, .int 0, .int 0, .int 0, .int 0, .int 0, .ref q7, .ref q8, .int 0, .ref q9, .int 0, .ref q10, .ref q11, .ref q12, .ref q13, .int 0])), (q1, .inl (cA 0, 8, .inl (fun _ => 0))), (q2, .inl (cA 0, 8, .inl (fun _ => 0))), (q3, .inl (cA 0, 320, .inl (fun _ => 0))), (q4, .inl (cA 0, 38, .inl (fun _ => 0))), (q5, .inl (cA 0, 40, .inl (fun _ => 0))), (q6, .inl (cA 0, 90, .inl (fun _ => 0))), (q7, .inl (cA 0, 38, .inl (fun _ => 0))), (q8, .inl (cA 0, 8, .inl (fun _ => 0))), (q9, .inl (cA 0, 912, .inl (fun _ => 0))), (q10, .inl (cA 0, 38, .inl (fun _ => 0))), (q11, .inl (cA 1, 2, .inl (fun _ => 0))), (q12, .inl (cA 0, 76, .inl (fun _ => 0))), (q13, .inl (cA 0, 16, .inl (fun _ => 0)))]) rfl ?_
  refine y_iconst (v := 0) C dX7_init_109 (by decide +kernel) ?_
  refine y_istore [(0, .ref h)] C dX7_init_110 rfl (by decide) rfl ?_
  refine y_iload C dX7_init_111 rfl (j := 0) rfl ?_
  refine y_bipush (v := 8) C dX7_init_112 (by decide +kernel) ?_
  refine y_lt 130 C dX7_init_114 (by decide) (by decide) ?_
  refine y_aload C dX7_init_117 rfl (j := 1) rfl ?_
  refine y_get (v := .ref q2) 0 C dX7_init_118 rfl rfl inlX7 1 (by decide) rfl zw99 rfl ?_
  refine y_iload C dX7_init_121 rfl (j := 0) rfl ?_
  refine y_iconst (v := -1) C dX7_init_122 (by decide +kernel) ?_
  refine y_iast 2 C dX7_init_123 rfl (by decide +kernel) ?_
  refine y_eq ([(h, .inr (7, [.ref q1, .ref q2, .ref q3, .int 0, .int 0, .ref q4, .ref q5, .ref q6, .int 0, .int 0, .int 0, .int 0, .int 0, .int 0, .int 0, .ref q7, .ref q8, .int 0, .ref q9, .int 0, .ref q10, .ref q11, .ref q12, .ref q13, .int 0])), (q1, .inl (cA 0, 8, .inl (fun _ => 0))), (q2, .inl (cA 0, 8, .inl (upd (fun _ => 0) (0 : Int32).toNatClampNeg (-1)))), (q3, .inl (cA 0, 320, .inl (fun _ => 0))), (q4, .inl (cA 0, 38, .inl (fun _ => 0))), (q5, .inl (cA 0, 40, .inl (fun _ => 0))), (q6, .inl (cA 0, 90, .inl (fun _ => 0))), (q7, .inl (cA 0, 38, .inl (fun _ => 0))), (q8, .inl (cA 0, 8, .inl (fun _ => 0))), (q9, .inl (cA 0, 912, .inl (fun _ => 0))), (q10, .inl (cA 0, 38, .inl (fun _ => 0))), (q11, .inl (cA 1, 2, .inl (fun _ => 0))), (q12, .inl (cA 0, 76, .inl (fun _ => 0))), (q13, .inl (cA 0, 16, .inl (fun _ => 0)))]) rfl ?_
  refine y_iinc (cst := 1) (v := 1) [(0, .ref h)] C dX7_init_124 (by decide +kernel) (by decide +kernel) (j := 0) rfl (by decide) rfl ?_
  refine y_goto 111 C dX7_init_127 (by decide) ?_
  refine y_iload C dX7_init_111 rfl (j := 0) rfl ?_
  refine y_bipush (v := 8) C dX7_init_112 (by decide +kernel) ?_
  refine y_lt 130 C dX7_init_114 (by decide) (by decide) ?_
  refine y_aload C dX7_init_117 rfl (j := 1) rfl ?_
  refine y_get (v := .ref q2) 0 C dX7_init_118 rfl rfl inlX7 1 (by decide) rfl zw99 rfl ?_
  refine y_iload C dX7_init_121 rfl (j := 0) rfl ?_
  refine y_iconst (v := -1) C dX7_init_122 (by decide +kernel) ?_
  refine y_iast 2 C dX7_init_123 rfl (by decide +kernel) ?_
  refine y_eq ([(h, .inr (7, [.ref q1, .ref q2, .ref q3, .int 0, .int 0, .ref q4, .ref q5, .ref q6, .int 0, .int 0, .int 0, .int 0, .int 0, .int 0, .int 0, .ref q7, .ref q8, .int 0, .ref q9, .int 0, .ref q10, .ref q11, .ref q12, .ref q13, .int 0])), (q1, .inl (cA 0, 8, .inl (fun _ => 0))), (q2, .inl (cA 0, 8, .inl (upd (upd (fun _ => 0) (0 : Int32).toNatClampNeg (-1)) (1 : Int32).toNatClampNeg (-1)))), (q3, .inl (cA 0, 320, .inl (fun _ => 0))), (q4, .inl (cA 0, 38, .inl (fun _ => 0))), (q5, .inl (cA 0, 40, .inl (fun _ => 0))), (q6, .inl (cA 0, 90, .inl (fun _ => 0))), (q7, .inl (cA 0, 38, .inl (fun _ => 0))), (q8, .inl (cA 0, 8, .inl (fun _ => 0))), (q9, .inl (cA 0, 912, .inl (fun _ => 0))), (q10, .inl (cA 0, 38, .inl (fun _ => 0))), (q11, .inl (cA 1, 2, .inl (fun _ => 0))), (q12, .inl (cA 0, 76, .inl (fun _ => 0))), (q13, .inl (cA 0, 16, .inl (fun _ => 0)))]) rfl ?_
  refine y_iinc (cst := 1) (v := 2) [(0, .ref h)] C dX7_init_124 (by decide +kernel) (by decide +kernel) (j := 0) rfl (by decide) rfl ?_
  refine y_goto 111 C dX7_init_127 (by decide) ?_
  refine y_iload C dX7_init_111 rfl (j := 0) rfl ?_
  refine y_bipush (v := 8) C dX7_init_112 (by decide +kernel) ?_
  refine y_lt 130 C dX7_init_114 (by decide) (by decide) ?_
  refine y_aload C dX7_init_117 rfl (j := 1) rfl ?_
  refine y_get (v := .ref q2) 0 C dX7_init_118 rfl rfl inlX7 1 (by decide) rfl zw99 rfl ?_
  refine y_iload C dX7_init_121 rfl (j := 0) rfl ?_
  refine y_iconst (v := -1) C dX7_init_122 (by decide +kernel) ?_
  refine y_iast 2 C dX7_init_123 rfl (by decide +kernel) ?_
  refine y_eq ([(h, .inr (7, [.ref q1, .ref q2, .ref q3, .int 0, .int 0, .ref q4, .ref q5, .ref q6, .int 0, .int 0, .int 0, .int 0, .int 0, .int 0, .int 0, .ref q7, .ref q8, .int 0, .ref q9, .int 0, .ref q10, .ref q11, .ref q12, .ref q13, .int 0])), (q1, .inl (cA 0, 8, .inl (fun _ => 0))), (q2, .inl (cA 0, 8, .inl (upd (upd (upd (fun _ => 0) (0 : Int32).toNatClampNeg (-1)) (1 : Int32).toNatClampNeg (-1)) (2 : Int32).toNatClampNeg (-1)))), (q3, .inl (cA 0, 320, .inl (fun _ => 0))), (q4, .inl (cA 0, 38, .inl (fun _ => 0))), (q5, .inl (cA 0, 40, .inl (fun _ => 0))), (q6, .inl (cA 0, 90, .inl (fun _ => 0))), (q7, .inl (cA 0, 38, .inl (fun _ => 0))), (q8, .inl (cA 0, 8, .inl (fun _ => 0))), (q9, .inl (cA 0, 912, .inl (fun _ => 0))), (q10, .inl (cA 0, 38, .inl (fun _ => 0))), (q11, .inl (cA 1, 2, .inl (fun _ => 0))), (q12, .inl (cA 0, 76, .inl (fun _ => 0))), (q13, .inl (cA 0, 16, .inl (fun _ => 0)))]) rfl ?_
  refine y_iinc (cst := 1) (v := 3) [(0, .ref h)] C dX7_init_124 (by decide +kernel) (by decide +kernel) (j := 0) rfl (by decide) rfl ?_
  refine y_goto 111 C dX7_init_127 (by decide) ?_
  refine y_iload C dX7_init_111 rfl (j := 0) rfl ?_
  refine y_bipush (v := 8) C dX7_init_112 (by decide +kernel) ?_
  refine y_lt 130 C dX7_init_114 (by decide) (by decide) ?_
  refine y_aload C dX7_init_117 rfl (j := 1) rfl ?_
  refine y_get (v := .ref q2) 0 C dX7_init_118 rfl rfl inlX7 1 (by decide) rfl zw99 rfl ?_
  refine y_iload C dX7_init_121 rfl (j := 0) rfl ?_
  refine y_iconst (v := -1) C dX7_init_122 (by decide +kernel) ?_
  refine y_iast 2 C dX7_init_123 rfl (by decide +kernel) ?_
  refine y_eq ([(h, .inr (7, [.ref q1, .ref q2, .ref q3, .int 0, .int 0, .ref q4, .ref q5, .ref q6, .int 0, .int 0, .int 0, .int 0, .int 0, .int 0, .int 0, .ref q7, .ref q8, .int 0, .ref q9, .int 0, .ref q10, .ref q11, .ref q12, .ref q13, .int 0])), (q1, .inl (cA 0, 8, .inl (fun _ => 0))), (q2, .inl (cA 0, 8, .inl (upd (upd (upd (upd (fun _ => 0) (0 : Int32).toNatClampNeg (-1)) (1 : Int32).toNatClampNeg (-1)) (2 : Int32).toNatClampNeg (-1)) (3 : Int32).toNatClampNeg (-1)))), (q3, .inl (cA 0, 320, .inl (fun _ => 0))), (q4, .inl (cA 0, 38, .inl (fun _ => 0))), (q5, .inl (cA 0, 40, .inl (fun _ => 0))), (q6, .inl (cA 0, 90, .inl (fun _ => 0))), (q7, .inl (cA 0, 38, .inl (fun _ => 0))), (q8, .inl (cA 0, 8, .inl (fun _ => 0))), (q9, .inl (cA 0, 912, .inl (fun _ => 0))), (q10, .inl (cA 0, 38, .inl (fun _ => 0))), (q11, .inl (cA 1, 2, .inl (fun _ => 0))), (q12, .inl (cA 0, 76, .inl (fun _ => 0))), (q13, .inl (cA 0, 16, .inl (fun _ => 0)))]) rfl ?_
  refine y_iinc (cst := 1) (v := 4) [(0, .ref h)] C dX7_init_124 (by decide +kernel) (by decide +kernel) (j := 0) rfl (by decide) rfl ?_
  refine y_goto 111 C dX7_init_127 (by decide) ?_
  refine y_iload C dX7_init_111 rfl (j := 0) rfl ?_
  refine y_bipush (v := 8) C dX7_init_112 (by decide +kernel) ?_
  refine y_lt 130 C dX7_init_114 (by decide) (by decide) ?_
  refine y_aload C dX7_init_117 rfl (j := 1) rfl ?_
  refine y_get (v := .ref q2) 0 C dX7_init_118 rfl rfl inlX7 1 (by decide) rfl zw99 rfl ?_
  refine y_iload C dX7_init_121 rfl (j := 0) rfl ?_
  refine y_iconst (v := -1) C dX7_init_122 (by decide +kernel) ?_
  refine y_iast 2 C dX7_init_123 rfl (by decide +kernel) ?_
  refine y_eq ([(h, .inr (7, [.ref q1, .ref q2, .ref q3, .int 0, .int 0, .ref q4, .ref q5, .ref q6, .int 0, .int 0, .int 0, .int 0, .int 0, .int 0, .int 0, .ref q7, .ref q8, .int 0, .ref q9, .int 0, .ref q10, .ref q11, .ref q12, .ref q13, .int 0])), (q1, .inl (cA 0, 8, .inl (fun _ => 0))), (q2, .inl (cA 0, 8, .inl (upd (upd (upd (upd (upd (fun _ => 0) (0 : Int32).toNatClampNeg (-1)) (1 : Int32).toNatClampNeg (-1)) (2 : Int32).toNatClampNeg (-1)) (3 : Int32).toNatClampNeg (-1)) (4 : Int32).toNatClampNeg (-1)))), (q3, .inl (cA 0, 320, .inl (fun _ => 0))), (q4, .inl (cA 0, 38, .inl (fun _ => 0))), (q5, .inl (cA 0, 40, .inl (fun _ => 0))), (q6, .inl (cA 0, 90, .inl (fun _ => 0))), (q7, .inl (cA 0, 38, .inl (fun _ => 0))), (q8, .inl (cA 0, 8, .inl (fun _ => 0))), (q9, .inl (cA 0, 912, .inl (fun _ => 0))), (q10, .inl (cA 0, 38, .inl (fun _ => 0))), (q11, .inl (cA 1, 2, .inl (fun _ => 0))), (q12, .inl (cA 0, 76, .inl (fun _ => 0))), (q13, .inl (cA 0, 16, .inl (fun _ => 0)))]) rfl ?_
  refine y_iinc (cst := 1) (v := 5) [(0, .ref h)] C dX7_init_124 (by decide +kernel) (by decide +kernel) (j := 0) rfl (by decide) rfl ?_
  refine y_goto 111 C dX7_init_127 (by decide) ?_
  refine y_iload C dX7_init_111 rfl (j := 0) rfl ?_
  refine y_bipush (v := 8) C dX7_init_112 (by decide +kernel) ?_
  refine y_lt 130 C dX7_init_114 (by decide) (by decide) ?_
  refine y_aload C dX7_init_117 rfl (j := 1) rfl ?_
  refine y_get (v := .ref q2) 0 C dX7_init_118 rfl rfl inlX7 1 (by decide) rfl zw99 rfl ?_
  refine y_iload C dX7_init_121 rfl (j := 0) rfl ?_
  refine y_iconst (v := -1) C dX7_init_122 (by decide +kernel) ?_
  refine y_iast 2 C dX7_init_123 rfl (by decide +kernel) ?_
  refine y_eq ([(h, .inr (7, [.ref q1, .ref q2, .ref q3, .int 0, .int 0, .ref q4, .ref q5, .ref q6, .int 0, .int 0, .int 0, .int 0, .int 0, .int 0, .int 0, .ref q7, .ref q8, .int 0, .ref q9, .int 0, .ref q10, .ref q11, .ref q12, .ref q13, .int 0])), (q1, .inl (cA 0, 8, .inl (fun _ => 0))), (q2, .inl (cA 0, 8, .inl (upd (upd (upd (upd (upd (upd (fun _ => 0) (0 : Int32).toNatClampNeg (-1)) (1 : Int32).toNatClampNeg (-1)) (2 : Int32).toNatClampNeg (-1)) (3 : Int32).toNatClampNeg (-1)) (4 : Int32).toNatClampNeg (-1)) (5 : Int32).toNatClampNeg (-1)))), (q3, .inl (cA 0, 320, .inl (fun _ => 0))), (q4, .inl (cA 0, 38, .inl (fun _ => 0))), (q5, .inl (cA 0, 40, .inl (fun _ => 0))), (q6, .inl (cA 0, 90, .inl (fun _ => 0))), (q7, .inl (cA 0, 38, .inl (fun _ => 0))), (q8, .inl (cA 0, 8, .inl (fun _ => 0))), (q9, .inl (cA 0, 912, .inl (fun _ => 0))), (q10, .inl (cA 0, 38, .inl (fun _ => 0))), (q11, .inl (cA 1, 2, .inl (fun _ => 0))), (q12, .inl (cA 0, 76, .inl (fun _ => 0))), (q13, .inl (cA 0, 16, .inl (fun _ => 0)))]) rfl ?_
  refine y_iinc (cst := 1) (v := 6) [(0, .ref h)] C dX7_init_124 (by decide +kernel) (by decide +kernel) (j := 0) rfl (by decide) rfl ?_
  refine y_goto 111 C dX7_init_127 (by decide) ?_
  refine y_iload C dX7_init_111 rfl (j := 0) rfl ?_
  refine y_bipush (v := 8) C dX7_init_112 (by decide +kernel) ?_
  refine y_lt 130 C dX7_init_114 (by decide) (by decide) ?_
  refine y_aload C dX7_init_117 rfl (j := 1) rfl ?_
  refine y_get (v := .ref q2) 0 C dX7_init_118 rfl rfl inlX7 1 (by decide) rfl zw99 rfl ?_
  refine y_iload C dX7_init_121 rfl (j := 0) rfl ?_
  refine y_iconst (v := -1) C dX7_init_122 (by decide +kernel) ?_
  refine y_iast 2 C dX7_init_123 rfl (by decide +kernel) ?_
  refine y_eq ([(h, .inr (7, [.ref q1, .ref q2, .ref q3, .int 0, .int 0, .ref q4, .ref q5, .ref q6, .int 0, .int 0, .int 0, .int 0, .int 0, .int 0, .int 0, .ref q7, .ref q8, .int 0, .ref q9, .int 0, .ref q10, .ref q11, .ref q12, .ref q13, .int 0])), (q1, .inl (cA 0, 8, .inl (fun _ => 0))), (q2, .inl (cA 0, 8, .inl (upd (upd (upd (upd (upd (upd (upd (fun _ => 0) (0 : Int32).toNatClampNeg (-1)) (1 : Int32).toNatClampNeg (-1)) (2 : Int32).toNatClampNeg (-1)) (3 : Int32).toNatClampNeg (-1)) (4 : Int32).toNatClampNeg (-1)) (5 : Int32).toNatClampNeg (-1)) (6 : Int32).toNatClampNeg (-1)))), (q3, .inl (cA 0, 320, .inl (fun _ => 0))), (q4, .inl (cA 0, 38, .inl (fun _ => 0))), (q5, .inl (cA 0, 40, .inl (fun _ => 0))), (q6, .inl (cA 0, 90, .inl (fun _ => 0))), (q7, .inl (cA 0, 38, .inl (fun _ => 0))), (q8, .inl (cA 0, 8, .inl (fun _ => 0))), (q9, .inl (cA 0, 912, .inl (fun _ => 0))), (q10, .inl (cA 0, 38, .inl (fun _ => 0))), (q11, .inl (cA 1, 2, .inl (fun _ => 0))), (q12, .inl (cA 0, 76, .inl (fun _ => 0))), (q13, .inl (cA 0, 16, .inl (fun _ => 0)))]) rfl ?_
  refine y_iinc (cst := 1) (v := 7) [(0, .ref h)] C dX7_init_124 (by decide +kernel) (by decide +kernel) (j := 0) rfl (by decide) rfl ?_
  refine y_goto 111 C dX7_init_127 (by decide) ?_
  refine y_iload C dX7_init_111 rfl (j := 0) rfl ?_
  refine y_bipush (v := 8) C dX7_init_112 (by decide +kernel) ?_
  refine y_lt 130 C dX7_init_114 (by decide) (by decide) ?_
  refine y_aload C dX7_init_117 rfl (j := 1) rfl ?_
  refine y_get (v := .ref q2) 0 C dX7_init_118 rfl rfl inlX7 1 (by decide) rfl zw99 rfl ?_
  refine y_iload C dX7_init_121 rfl (j := 0) rfl ?_
  refine y_iconst (v := -1) C dX7_init_122 (by decide +kernel) ?_
  refine y_iast 2 C dX7_init_123 rfl (by decide +kernel) ?_
  refine y_eq ([(h, .inr (7, [.ref q1, .ref q2, .ref q3, .int 0, .int 0, .ref q4, .ref q5, .ref q6, .int 0, .int 0, .int 0, .int 0, .int 0, .int 0, .int 0, .ref q7, .ref q8, .int 0, .ref q9, .int 0, .ref q10, .ref q11, .ref q12, .ref q13, .int 0])), (q1, .inl (cA 0, 8, .inl (fun _ => 0))), (q2, .inl (cA 0, 8, .inl (upd (upd (upd (upd (upd (upd (upd (upd (fun _ => 0) (0 : Int32).toNatClampNeg (-1)) (1 : Int32).toNatClampNeg (-1)) (2 : Int32).toNatClampNeg (-1)) (3 : Int32).toNatClampNeg (-1)) (4 : Int32).toNatClampNeg (-1)) (5 : Int32).toNatClampNeg (-1)) (6 : Int32).toNatClampNeg (-1)) (7 : Int32).toNatClampNeg (-1)))), (q3, .inl (cA 0, 320, .inl (fun _ => 0))), (q4, .inl (cA 0, 38, .inl (fun _ => 0))), (q5, .inl (cA 0, 40, .inl (fun _ => 0))), (q6, .inl (cA 0, 90, .inl (fun _ => 0))), (q7, .inl (cA 0, 38, .inl (fun _ => 0))), (q8, .inl (cA 0, 8, .inl (fun _ => 0))), (q9, .inl (cA 0, 912, .inl (fun _ => 0))), (q10, .inl (cA 0, 38, .inl (fun _ => 0))), (q11, .inl (cA 1, 2, .inl (fun _ => 0))), (q12, .inl (cA 0, 76, .inl (fun _ => 0))), (q13, .inl (cA 0, 16, .inl (fun _ => 0)))]) rfl ?_
  refine y_iinc (cst := 1) (v := 8) [(0, .ref h)] C dX7_init_124 (by decide +kernel) (by decide +kernel) (j := 0) rfl (by decide) rfl ?_
  refine y_goto 111 C dX7_init_127 (by decide) ?_
  refine y_iload C dX7_init_111 rfl (j := 0) rfl ?_
  refine y_bipush (v := 8) C dX7_init_112 (by decide +kernel) ?_
  refine y_ge 130 C dX7_init_114 (by decide) (by decide) ?_
  exact y_vret (fun i => ([q1, q2, q3, q4, q5, q6, q7, q8, q9, q10, q11, q12, q13] : List Nat).getD i 0) C hA dX7_init_130 Rq rfl ⟨by decide, by decide⟩ ⟨by decide, by decide⟩
