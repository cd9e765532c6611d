/-! the worlds that constructors leave -/
def WX3 (cA : Nat → ClassId) (h : Nat) (ad : Nat → Nat) : va_W := [(h, .inr (3, [.int 0, .ref (ad 0), .ref (ad 1), .ref (ad 2), .ref (ad 3), .int 0, .int 0, .int 0, .int 0, .int 0])), (ad 0, .inl (cA 0, 8, .inl (fun _ => 0))), (ad 1, .inl (cA 0, 8, .inl (fun _ => 0))), (ad 2, .inl (cA 0, 8, .inl (fun _ => 0))), (ad 3, .inl (cA 0, 8, .inl (fun _ => 0)))]
def WX4 (cA : Nat → ClassId) (h : Nat) (ad : Nat → Nat) : va_W := [(h, .inr (4, [.int (-1), .int 0, .ref (ad 0)])), (ad 0, .inl (cA 0, 40, .inl (fun _ => 0)))]
def WX5 (cA : Nat → ClassId) (h : Nat) (ad : Nat → Nat) : va_W := [(h, .inr (5, [.ref (ad 0), .int 0, .int 0, .int 0, .int 0])), (ad 0, .inl (cA 0, 90, .inl (fun _ => 0)))]
def WX0 (cA : Nat → ClassId) (h : Nat) (ad : Nat → Nat) : va_W := [(h, .inr (0, [.int 0, .int 0, .ref (ad 0), .ref (ad 1), .ref (ad 2), .ref (ad 3), .ref (ad 4), .ref (ad 5), .ref (ad 6), .ref (ad 7)])), (ad 0, .inl (cA 0, 192, .inl (fun _ => 0))), (ad 1, .inl (cA 0, 192, .inl (fun _ => 0))), (ad 2, .inl (cA 0, 192, .inl (fun _ => 0))), (ad 3, .inl (cA 0, 24, .inl (fun _ => 0))), (ad 4, .inl (cA 0, 24, .inl (fun _ => 0))), (ad 5, .inl (cA 0, 24, .inl (fun _ => 0))), (ad 6, .inl (cA 0, 24, .inl (fun _ => 0))), (ad 7, .inl (cA 0, 24, .inl (fun _ => 0)))]
def WX1 (cA : Nat → ClassId) (h : Nat) (ad : Nat → Nat) : va_W := [(h, .inr (1, [.ref (ad 0), .int 0, .int 0, .int 0, .int 0, .int 0])), (ad 0, .inl (cA 0, 16, .inl (fun _ => 0)))]
def WX2 (cA : Nat → ClassId) (h : Nat) (ad : Nat → Nat) : va_W := [(h, .inr (2, [.ref (ad 0)]))] ++ WX3 cA (ad 0) (fun i => ad (1 + i))
def WX6 (cA : Nat → ClassId) (h : Nat) (ad : Nat → Nat) : va_W := [(h, .inr (6, [.ref (ad 0), .ref (ad 1), .ref (ad 2), .ref (ad 7), .ref (ad 12), .ref (ad 14), .ref (ad 23), .ref (ad 29), .int 0])), (ad 0, .inl (cA 3, 8, .inr (.inr (.inr (.inr (fun i => some (ad (31 + 2 * i)))))))), (ad 1, .inl (cA 2, 2, .inr (.inr (.inr (.inr (fun i => some (ad (47 + 5 * i))))))))] ++ WX3 cA (ad 2) (fun i => ad (3 + i)) ++ WX3 cA (ad 7) (fun i => ad (8 + i)) ++ WX5 cA (ad 12) (fun i => ad (13 + i)) ++ WX0 cA (ad 14) (fun i => ad (15 + i)) ++ WX2 cA (ad 23) (fun i => ad (24 + i)) ++ WX1 cA (ad 29) (fun i => ad (30 + i)) ++ WX4 cA (ad 31) (fun i => ad (32 + i)) ++ WX4 cA (ad 33) (fun i => ad (34 + i)) ++ WX4 cA (ad 35) (fun i => ad (36 + i)) ++ WX4 cA (ad 37) (fun i => ad (38 + i)) ++ WX4 cA (ad 39) (fun i => ad (40 + i)) ++ WX4 cA (ad 41) (fun i => ad (42 + i)) ++ WX4 cA (ad 43) (fun i => ad (44 + i)) ++ WX4 cA (ad 45) (fun i => ad (46 + i)) ++ WX3 cA (ad 47) (fun i => ad (48 + i)) ++ WX3 cA (ad 52) (fun i => ad (53 + i))
def WX7 (cA : Nat → ClassId) (h : Nat) (ad : Nat → Nat) : va_W := [(h, .inr (7, [.ref (ad 0), .ref (ad 1), .ref (ad 2), .int 0, .int 0, .ref (ad 3), .ref (ad 4), .ref (ad 5), .int 0, .int 0, .int 0, .int 0, .int 0, .int 0, .int 0, .ref (ad 6), .ref (ad 7), .int 0, .ref (ad 8), .int 0, .ref (ad 9), .ref (ad 10), .ref (ad 11), .ref (ad 12), .int 0])), (ad 0, .inl (cA 0, 8, .inl (fun _ => 0))), (ad 1, .inl (cA 0, 8, .inl (upd (upd (upd (upd (upd (upd (upd (upd (fun _ => 0) (0 : Int32).toNatClampNeg (-1)) (1 : Int32).toNatClampNeg (-1)) (2 : Int32).toNatClampNeg (-1)) (3 : Int32).toNatClampNeg (-1)) (4 : Int32).toNatClampNeg (-1)) (5 : Int32).toNatClampNeg (-1)) (6 : Int32).toNatClampNeg (-1)) (7 : Int32).toNatClampNeg (-1)))), (ad 2, .inl (cA 0, 320, .inl (fun _ => 0))), (ad 3, .inl (cA 0, 38, .inl (fun _ => 0))), (ad 4, .inl (cA 0, 40, .inl (fun _ => 0))), (ad 5, .inl (cA 0, 90, .inl (fun _ => 0))), (ad 6, .inl (cA 0, 38, .inl (fun _ => 0))), (ad 7, .inl (cA 0, 8, .inl (fun _ => 0))), (ad 8, .inl (cA 0, 912, .inl (fun _ => 0))), (ad 9, .inl (cA 0, 38, .inl (fun _ => 0))), (ad 10, .inl (cA 1, 2, .inl (fun _ => 0))), (ad 11, .inl (cA 0, 76, .inl (fun _ => 0))), (ad 12, .inl (cA 0, 16, .inl (fun _ => 0)))]
theorem dfX3 : ∀ j, j < 10 → defaultValue (tyX3 j) = vp_V [.int 0, .null, .null, .null, .null, .int 0, .int 0, .int 0, .int 0, .int 0] j := by
  intro j hj
  rcases (show j = 0 ∨ j = 1 ∨ j = 2 ∨ j = 3 ∨ j = 4 ∨ j = 5 ∨ j = 6 ∨ j = 7 ∨ j = 8 ∨ j = 9 by omega) with rfl | rfl | rfl | rfl | rfl | rfl | rfl | rfl | rfl | rfl <;> rfl
set_option maxRecDepth 100000 in
set_option maxHeartbeats 4000000 in
theorem sX3_init {l : Launch} {D : va_G} {cA : Nat → ClassId} {h sz : Nat} : yMet l D cA yX3_init cX3_init 1 1 4 32 h 3 [.int 0, .null, .null, .null, .null, .int 0, .int 0, .int 0, .int 0, .int 0] sz (WX3 cA h) := by
  refine y_enter (by decide) rfl (Nat.le_of_ble_eq_true rfl) (fun Γ A hA C hi Rq => ?_)
  have C : yC D cA A Γ RX3 cX3_init 1 1 4 32 := C
  refine y_aload C dX3_init_0 rfl (j := 0) rfl ?_
  refine y_obj C dX3_init_1 zw41 zw10 zw11 ⟨by decide, Nat.le_of_ble_eq_true rfl⟩ ?_
  refine y_aload C dX3_init_4 rfl (j := 0) rfl ?_
  refine y_iconst (v := 0) C dX3_init_5 (by decide +kernel) ?_
  refine y_put 0 C dX3_init_6 rfl rfl inlX3 tyX3_ok nmX3 0 (by decide) rfl zw42 (by decide +kernel) (Nat.le_of_ble_eq_true rfl) ?_
  refine y_aload C dX3_init_9 rfl (j := 0) rfl ?_
  refine y_bipush (v := 8) C dX3_init_10 (by decide +kernel) ?_
  refine y_newI 8 C dX3_init_12 zw43 (by decide +kernel) (by decide +kernel) (by decide) ⟨by decide, by decide⟩ (fun q1 => ?_)
  refine y_putF (ty := .array .int) 0 C hi dX3_init_14 rfl rfl inlX3 tyX3_ok nmX3 1 (by decide) rfl rfl zw44 (by decide +kernel) rfl rfl (Nat.le_of_ble_eq_true rfl) ?_
  refine y_aload C dX3_init_17 rfl (j := 0) rfl ?_
  refine y_bipush (v := 8) C dX3_init_18 (by decide +kernel) ?_
  refine y_newI 8 C dX3_init_20 zw43 (by decide +kernel) (by decide +kernel) (by decide) ⟨by decide, by decide⟩ (fun q2 => ?_)
  refine y_putF (ty := .array .int) 0 C hi dX3_init_22 rfl rfl inlX3 tyX3_ok nmX3 2 (by decide) rfl rfl zw45 (by decide +kernel) rfl rfl (Nat.le_of_ble_eq_true rfl) ?_
  refine y_aload C dX3_init_25 rfl (j := 0) rfl ?_
  refine y_bipush (v := 8) C dX3_init_26 (by decide +kernel) ?_
  refine y_newI 8 C dX3_init_28 zw43 (by decide +kernel) (by decide +kernel) (by decide) ⟨by decide, by decide⟩ (fun q3 => ?_)
  refine y_putF (ty := .array .int) 0 C hi dX3_init_30 rfl rfl inlX3 tyX3_ok nmX3 3 (by decide) rfl rfl zw46 (by decide +kernel) rfl rfl (Nat.le_of_ble_eq_true rfl) ?_
  refine y_aload C dX3_init_33 rfl (j := 0) rfl ?_
  refine y_bipush (v := 8) C dX3_init_34 (by decide +kernel) ?_
  refine y_newI 8 C dX3_init_36 zw43 (by decide +kernel) (by decide +kernel) (by decide) ⟨by decide, by decide⟩ (fun q4 => ?_)
  refine y_putF (ty := .array .int) 0 C hi dX3_init_38 rfl rfl inlX3 tyX3_ok nmX3 4 (by decide) rfl rfl zw47 (by decide +kernel) rfl rfl (Nat.le_of_ble_eq_true rfl) ?_
  refine y_aload C dX3_init_41 rfl (j := 0) rfl ?_
  refine y_iconst (v := 0) C dX3_init_42 (by decide +kernel) ?_
  refine y_put 0 C dX3_init_43 rfl rfl inlX3 tyX3_ok nmX3 5 (by decide) rfl zw48 (by decide +kernel) (Nat.le_of_ble_eq_true rfl) ?_
  refine y_aload C dX3_init_46 rfl (j := 0) rfl ?_
  refine y_iconst (v := 0) C dX3_init_47 (by decide +kernel) ?_
  refine y_put 0 C dX3_init_48 rfl rfl inlX3 tyX3_ok nmX3 6 (by decide) rfl zw49 (by decide +kernel) (Nat.le_of_ble_eq_true rfl) ?_
  refine y_aload C dX3_init_51 rfl (j := 0) rfl ?_
  refine y_iconst (v := 0) C dX3_init_52 (by decide +kernel) ?_
  refine y_put 0 C dX3_init_53 rfl rfl inlX3 tyX3_ok nmX3 7 (by decide) rfl zw50 (by decide +kernel) (Nat.le_of_ble_eq_true rfl) ?_
  refine y_aload C dX3_init_56 rfl (j := 0) rfl ?_
  refine y_iconst (v := 0) C dX3_init_57 (by decide +kernel) ?_
  refine y_put 0 C dX3_init_58 rfl rfl inlX3 tyX3_ok nmX3 8 (by decide) rfl zw51 (by decide +kernel) (Nat.le_of_ble_eq_true rfl) ?_
  refine y_aload C dX3_init_61 rfl (j := 0) rfl ?_
  refine y_iconst (v := 0) C dX3_init_62 (by decide +kernel) ?_
  refine y_put 0 C dX3_init_63 rfl rfl inlX3 tyX3_ok nmX3 9 (by decide) rfl zw52 (by decide +kernel) (Nat.le_of_ble_eq_true rfl) ?_
  exact y_vret (fun i => ([q1, q2, q3, q4] : List Nat).getD i 0) C hA dX3_init_66 Rq rfl ⟨by decide, by decide⟩ ⟨by decide, by decide⟩
theorem dfX4 : ∀ j, j < 3 → defaultValue (tyX4 j) = vp_V [.int 0, .int 0, .null] j := by
  intro j hj
  rcases (show j = 0 ∨ j = 1 ∨ j = 2 by omega) with rfl | rfl | rfl <;> rfl
set_option maxRecDepth 100000 in
set_option maxHeartbeats 4000000 in
theorem sX4_init {l : Launch} {D : va_G} {cA : Nat → ClassId} {h sz : Nat} : yMet l D cA yX4_init cX4_init 1 1 1 40 h 4 [.int 0, .int 0, .null] sz (WX4 cA h) := by
  refine y_enter (by decide) rfl (Nat.le_of_ble_eq_true rfl) (fun Γ A hA C hi Rq => ?_)
  have C : yC D cA A Γ RX4 cX4_init 1 1 1 40 := C
  refine y_aload C dX4_init_0 rfl (j := 0) rfl ?_
  refine y_obj C dX4_init_1 zw90 zw10 zw11 ⟨by decide, Nat.le_of_ble_eq_true rfl⟩ ?_
  refine y_aload C dX4_init_4 rfl (j := 0) rfl ?_
  refine y_iconst (v := -1) C dX4_init_5 (by decide +kernel) ?_
  refine y_put 0 C dX4_init_6 rfl rfl inlX4 tyX4_ok nmX4 0 (by decide) rfl zw91 (by decide +kernel) (Nat.le_of_ble_eq_true rfl) ?_
  refine y_aload C dX4_init_9 rfl (j := 0) rfl ?_
  refine y_iconst (v := 0) C dX4_init_10 (by decide +kernel) ?_
  refine y_put 0 C dX4_init_11 rfl rfl inlX4 tyX4_ok nmX4 1 (by decide) rfl zw92 (by decide +kernel) (Nat.le_of_ble_eq_true rfl) ?_
  refine y_aload C dX4_init_14 rfl (j := 0) rfl ?_
  refine y_bipush (v := 40) C dX4_init_15 (by decide +kernel) ?_
  refine y_newI 40 C dX4_init_17 zw43 (by decide +kernel) (by decide +kernel) (by decide) ⟨by decide, by decide⟩ (fun q1 => ?_)
  refine y_putF (ty := .array .int) 0 C hi dX4_init_19 rfl rfl inlX4 tyX4_ok nmX4 2 (by decide) rfl rfl zw93 (by decide +kernel) rfl rfl (Nat.le_of_ble_eq_true rfl) ?_
  exact y_vret (fun i => ([q1] : List Nat).getD i 0) C hA dX4_init_22 Rq rfl ⟨by decide, by decide⟩ ⟨by decide, by decide⟩
theorem dfX5 : ∀ j, j < 5 → defaultValue (tyX5 j) = vp_V [.null, .int 0, .int 0, .int 0, .int 0] j := by
  intro j hj
  rcases (show j = 0 ∨ j = 1 ∨ j = 2 ∨ j = 3 ∨ j = 4 by omega) with rfl | rfl | rfl | rfl | rfl <;> rfl
set_option maxRecDepth 100000 in
set_option maxHeartbeats 4000000 in
theorem sX5_init {l : Launch} {D : va_G} {cA : Nat → ClassId} {h sz : Nat} : yMet l D cA yX5_init cX5_init 1 1 1 90 h 5 [.null, .int 0, .int 0, .int 0, .int 0] sz (WX5 cA h) := by
  refine y_enter (by decide) rfl (Nat.le_of_ble_eq_true rfl) (fun Γ A hA C hi Rq => ?_)
  have C : yC D cA A Γ RX5 cX5_init 1 1 1 90 := C
  refine y_aload C dX5_init_0 rfl (j := 0) rfl ?_
  refine y_obj C dX5_init_1 zw55 zw10 zw11 ⟨by decide, Nat.le_of_ble_eq_true rfl⟩ ?_
  refine y_aload C dX5_init_4 rfl (j := 0) rfl ?_
  refine y_bipush (v := 90) C dX5_init_5 (by decide +kernel) ?_
  refine y_newI 90 C dX5_init_7 zw43 (by decide +kernel) (by decide +kernel) (by decide) ⟨by decide, by decide⟩ (fun q1 => ?_)
  refine y_putF (ty := .array .int) 0 C hi dX5_init_9 rfl rfl inlX5 tyX5_ok nmX5 0 (by decide) rfl rfl zw56 (by decide +kernel) rfl rfl (Nat.le_of_ble_eq_true rfl) ?_
  refine y_aload C dX5_init_12 rfl (j := 0) rfl ?_
  refine y_iconst (v := 0) C dX5_init_13 (by decide +kernel) ?_
  refine y_put 0 C dX5_init_14 rfl rfl inlX5 tyX5_ok nmX5 1 (by decide) rfl zw57 (by decide +kernel) (Nat.le_of_ble_eq_true rfl) ?_
  refine y_aload C dX5_init_17 rfl (j := 0) rfl ?_
  refine y_iconst (v := 0) C dX5_init_18 (by decide +kernel) ?_
  refine y_put 0 C dX5_init_19 rfl rfl inlX5 tyX5_ok nmX5 2 (by decide) rfl zw58 (by decide +kernel) (Nat.le_of_ble_eq_true rfl) ?_
  refine y_aload C dX5_init_22 rfl (j := 0) rfl ?_
  refine y_iconst (v := 0) C dX5_init_23 (by decide +kernel) ?_
  refine y_put 0 C dX5_init_24 rfl rfl inlX5 tyX5_ok nmX5 3 (by decide) rfl zw59 (by decide +kernel) (Nat.le_of_ble_eq_true rfl) ?_
  refine y_aload C dX5_init_27 rfl (j := 0) rfl ?_
  refine y_iconst (v := 0) C dX5_init_28 (by decide +kernel) ?_
  refine y_put 0 C dX5_init_29 rfl rfl inlX5 tyX5_ok nmX5 4 (by decide) rfl zw60 (by decide +kernel) (Nat.le_of_ble_eq_true rfl) ?_
  exact y_vret (fun i => ([q1] : List Nat).getD i 0) C hA dX5_init_32 Rq rfl ⟨by decide, by decide⟩ ⟨by decide, by decide⟩
theorem dfX0 : ∀ j, j < 10 → defaultValue (tyX0 j) = vp_V [.int 0, .int 0, .null, .null, .null, .null, .null, .null, .null, .null] j := by
  intro j hj
  rcases (show j = 0 ∨ j = 1 ∨ j = 2 ∨ j = 3 ∨ j = 4 ∨ j = 5 ∨ j = 6 ∨ j = 7 ∨ j = 8 ∨ j = 9 by omega) with rfl | rfl | rfl | rfl | rfl | rfl | rfl | rfl | rfl | rfl <;> rfl
set_option maxRecDepth 100000 in
set_option maxHeartbeats 4000000 in
theorem sX0_init {l : Launch} {D : va_G} {cA : Nat → ClassId} {h sz : Nat} : yMet l D cA yX0_init cX0_init 1 1 8 696 h 0 [.int 0, .int 0, .null, .null, .null, .null, .null, .null, .null, .null] sz (WX0 cA h) := by
  refine y_enter (by decide) rfl (Nat.le_of_ble_eq_true rfl) (fun Γ A hA C hi Rq => ?_)
  have C : yC D cA A Γ RX0 cX0_init 1 1 8 696 := C
  refine y_aload C dX0_init_0 rfl (j := 0) rfl ?_
  refine y_obj C dX0_init_1 zw63 zw10 zw11 ⟨by decide, Nat.le_of_ble_eq_true rfl⟩ ?_
  refine y_aload C dX0_init_4 rfl (j := 0) rfl ?_
  refine y_iconst (v := 0) C dX0_init_5 (by decide +kernel) ?_
  refine y_put 0 C dX0_init_6 rfl rfl inlX0 tyX0_ok nmX0 0 (by decide) rfl zw64 (by decide +kernel) (Nat.le_of_ble_eq_true rfl) ?_
  refine y_aload C dX0_init_9 rfl (j := 0) rfl ?_
  refine y_iconst (v := 0) C dX0_init_10 (by decide +kernel) ?_
  refine y_put 0 C dX0_init_11 rfl rfl inlX0 tyX0_ok nmX0 1 (by decide) rfl zw65 (by decide +kernel) (Nat.le_of_ble_eq_true rfl) ?_
  refine y_aload C dX0_init_14 rfl (j := 0) rfl ?_
  refine y_sipush (v := 192) C dX0_init_15 (by decide +kernel) ?_
  refine y_newI 192 C dX0_init_18 zw43 (by decide +kernel) (by decide +kernel) (by decide) ⟨by decide, by decide⟩ (fun q1 => ?_)
  refine y_putF (ty := .array .int) 0 C hi dX0_init_20 rfl rfl inlX0 tyX0_ok nmX0 2 (by decide) rfl rfl zw66 (by decide +kernel) rfl rfl (Nat.le_of_ble_eq_true rfl) ?_
  refine y_aload C dX0_init_23 rfl (j := 0) rfl ?_
  refine y_sipush (v := 192) C dX0_init_24 (by decide +kernel) ?_
  refine y_newI 192 C dX0_init_27 zw43 (by decide +kernel) (by decide +kernel) (by decide) ⟨by decide, by decide⟩ (fun q2 => ?_)
  refine y_putF (ty := .array .int) 0 C hi dX0_init_29 rfl rfl inlX0 tyX0_ok nmX0 3 (by decide) rfl rfl zw67 (by decide +kernel) rfl rfl (Nat.le_of_ble_eq_true rfl) ?_
  refine y_aload C dX0_init_32 rfl (j := 0) rfl ?_
  refine y_sipush (v := 192) C dX0_init_33 (by decide +kernel) ?_
  refine y_newI 192 C dX0_init_36 zw43 (by decide +kernel) (by decide +kernel) (by decide) ⟨by decide, by decide⟩ (fun q3 => ?_)
  refine y_putF (ty := .array .int) 0 C hi dX0_init_38 rfl rfl inlX0 tyX0_ok nmX0 4 (by decide) rfl rfl zw68 (by decide +kernel) rfl rfl (Nat.le_of_ble_eq_true rfl) ?_
  refine y_aload C dX0_init_41 rfl (j := 0) rfl ?_
  refine y_bipush (v := 24) C dX0_init_42 (by decide +kernel) ?_
  refine y_newI 24 C dX0_init_44 zw43 (by decide +kernel) (by decide +kernel) (by decide) ⟨by decide, by decide⟩ (fun q4 => ?_)
  refine y_putF (ty := .array .int) 0 C hi dX0_init_46 rfl rfl inlX0 tyX0_ok nmX0 5 (by decide) rfl rfl zw69 (by decide +kernel) rfl rfl (Nat.le_of_ble_eq_true rfl) ?_
  refine y_aload C dX0_init_49 rfl (j := 0) rfl ?_
  refine y_bipush (v := 24) C dX0_init_50 (by decide +kernel) ?_
  refine y_newI 24 C dX0_init_52 zw43 (by decide +kernel) (by decide +kernel) (by decide) ⟨by decide, by decide⟩ (fun q5 => ?_)
  refine y_putF (ty := .array .int) 0 C hi dX0_init_54 rfl rfl inlX0 tyX0_ok nmX0 6 (by decide) rfl rfl zw70 (by decide +kernel) rfl rfl (Nat.le_of_ble_eq_true rfl) ?_
  refine y_aload C dX0_init_57 rfl (j := 0) rfl ?_
  refine y_bipush (v := 24) C dX0_init_58 (by decide +kernel) ?_
  refine y_newI 24 C dX0_init_60 zw43 (by decide +kernel) (by decide +kernel) (by decide) ⟨by decide, by decide⟩ (fun q6 => ?_)
  refine y_putF (ty := .array .int) 0 C hi dX0_init_62 rfl rfl inlX0 tyX0_ok nmX0 7 (by decide) rfl rfl zw71 (by decide +kernel) rfl rfl (Nat.le_of_ble_eq_true rfl) ?_
  refine y_aload C dX0_init_65 rfl (j := 0) rfl ?_
  refine y_bipush (v := 24) C dX0_init_66 (by decide +kernel) ?_
  refine y_newI 24 C dX0_init_68 zw43 (by decide +kernel) (by decide +kernel) (by decide) ⟨by decide, by decide⟩ (fun q7 => ?_)
  refine y_putF (ty := .array .int) 0 C hi dX0_init_70 rfl rfl inlX0 tyX0_ok nmX0 8 (by decide) rfl rfl zw72 (by decide +kernel) rfl rfl (Nat.le_of_ble_eq_true rfl) ?_
  refine y_aload C dX0_init_73 rfl (j := 0) rfl ?_
  refine y_bipush (v := 24) C dX0_init_74 (by decide +kernel) ?_
  refine y_newI 24 C dX0_init_76 zw43 (by decide +kernel) (by decide +kernel) (by decide) ⟨by decide, by decide⟩ (fun q8 => ?_)
  refine y_putF (ty := .array .int) 0 C hi dX0_init_78 rfl rfl inlX0 tyX0_ok nmX0 9 (by decide) rfl rfl zw73 (by decide +kernel) rfl rfl (Nat.le_of_ble_eq_true rfl) ?_
  exact y_vret (fun i => ([q1, q2, q3, q4, q5, q6, q7, q8] : List Nat).getD i 0) C hA dX0_init_81 Rq rfl ⟨by decide, by decide⟩ ⟨by decide, by decide⟩
theorem dfX1 : ∀ j, j < 6 → defaultValue (tyX1 j) = vp_V [.null, .int 0, .int 0, .int 0, .int 0, .int 0] j := by
  intro j hj
  rcases (show j = 0 ∨ j = 1 ∨ j = 2 ∨ j = 3 ∨ j = 4 ∨ j = 5 by omega) with rfl | rfl | rfl | rfl | rfl | rfl <;> rfl
set_option maxRecDepth 100000 in
set_option maxHeartbeats 4000000 in
theorem sX1_init {l : Launch} {D : va_G} {cA : Nat → ClassId} {h sz : Nat} : yMet l D cA yX1_init cX1_init 1 1 1 16 h 1 [.null, .int 0, .int 0, .int 0, .int 0, .int 0] sz (WX1 cA h) := by
  refine y_enter (by decide) rfl (Nat.le_of_ble_eq_true rfl) (fun Γ A hA C hi Rq => ?_)
  have C : yC D cA A Γ RX1 cX1_init 1 1 1 16 := C
  refine y_aload C dX1_init_0 rfl (j := 0) rfl ?_
  refine y_obj C dX1_init_1 zw81 zw10 zw11 ⟨by decide, Nat.le_of_ble_eq_true rfl⟩ ?_
  refine y_aload C dX1_init_4 rfl (j := 0) rfl ?_
  refine y_bipush (v := 16) C dX1_init_5 (by decide +kernel) ?_
  refine y_newI 16 C dX1_init_7 zw43 (by decide +kernel) (by decide +kernel) (by decide) ⟨by decide, by decide⟩ (fun q1 => ?_)
  refine y_putF (ty := .array .int) 0 C hi dX1_init_9 rfl rfl inlX1 tyX1_ok nmX1 0 (by decide) rfl rfl zw82 (by decide +kernel) rfl rfl (Nat.le_of_ble_eq_true rfl) ?_
  refine y_aload C dX1_init_12 rfl (j := 0) rfl ?_
  refine y_iconst (v := 0) C dX1_init_13 (by decide +kernel) ?_
  refine y_put 0 C dX1_init_14 rfl rfl inlX1 tyX1_ok nmX1 1 (by decide) rfl zw83 (by decide +kernel) (Nat.le_of_ble_eq_true rfl) ?_
  refine y_aload C dX1_init_17 rfl (j := 0) rfl ?_
  refine y_iconst (v := 0) C dX1_init_18 (by decide +kernel) ?_
  refine y_put 0 C dX1_init_19 rfl rfl inlX1 tyX1_ok nmX1 2 (by decide) rfl zw84 (by decide +kernel) (Nat.le_of_ble_eq_true rfl) ?_
  refine y_aload C dX1_init_22 rfl (j := 0) rfl ?_
  refine y_iconst (v := 0) C dX1_init_23 (by decide +kernel) ?_
  refine y_put 0 C dX1_init_24 rfl rfl inlX1 tyX1_ok nmX1 3 (by decide) rfl zw85 (by decide +kernel) (Nat.le_of_ble_eq_true rfl) ?_
  refine y_aload C dX1_init_27 rfl (j := 0) rfl ?_
  refine y_iconst (v := 0) C dX1_init_28 (by decide +kernel) ?_
  refine y_put 0 C dX1_init_29 rfl rfl inlX1 tyX1_ok nmX1 4 (by decide) rfl zw86 (by decide +kernel) (Nat.le_of_ble_eq_true rfl) ?_
  refine y_aload C dX1_init_32 rfl (j := 0) rfl ?_
  refine y_iconst (v := 0) C dX1_init_33 (by decide +kernel) ?_
  refine y_put 0 C dX1_init_34 rfl rfl inlX1 tyX1_ok nmX1 5 (by decide) rfl zw87 (by decide +kernel) (Nat.le_of_ble_eq_true rfl) ?_
  exact y_vret (fun i => ([q1] : List Nat).getD i 0) C hA dX1_init_37 Rq rfl ⟨by decide, by decide⟩ ⟨by decide, by decide⟩
theorem dfX2 : ∀ j, j < 1 → defaultValue (tyX2 j) = vp_V [.null] j := by
  intro j hj
  rcases (show j = 0 by omega) with rfl; rfl
set_option maxRecDepth 100000 in
set_option maxHeartbeats 4000000 in
theorem sX2_init {l : Launch} {D : va_G} {cA : Nat → ClassId} {h sz : Nat} : yMet l D cA yX2_init cX2_init 1 2 5 42 h 2 [.null] sz (WX2 cA h) := by
  refine y_enter (by decide) rfl (Nat.le_of_ble_eq_true rfl) (fun Γ A hA C hi Rq => ?_)
  have C : yC D cA A Γ RX2 cX2_init 1 2 5 42 := C
  refine y_aload C dX2_init_0 rfl (j := 0) rfl ?_
  refine y_obj C dX2_init_1 zw76 zw10 zw11 ⟨by decide, Nat.le_of_ble_eq_true rfl⟩ ?_
  refine y_aload C dX2_init_4 rfl (j := 0) rfl ?_
  refine y_mk (ci := 3) (Wd := WX3 cA) C dX2_init_5 dX2_init_8 dX2_init_9 rfl inlX3 tyX3_ok zw77 zw16 zw17 dfX3 rfl C.2.2.2.2.2.2.2.1.2.2.2.2.2.2.1 zw40 zw39 ⟨rfl, by decide +kernel⟩ (fun q sz => sX3_init) ⟨by decide, by decide⟩ (Nat.le_of_ble_eq_true rfl) ⟨by decide, by decide⟩ (fun q1 a1 => ?_)
  refine y_putF (ty := .object "BonfireHeaps$Heap") 0 C hi dX2_init_12 rfl rfl inlX2 tyX2_ok nmX2 0 (by decide) rfl rfl zw78 (by decide +kernel) rfl rfl (Nat.le_of_ble_eq_true rfl) ?_
  exact y_vret (fun i => ([q1, a1 0, a1 1, a1 2, a1 3] : List Nat).getD i 0) C hA dX2_init_15 Rq rfl ⟨by decide, by decide⟩ ⟨by decide, by decide⟩
