-- X1_body23_3
def fX1_body23_3  (a1 : Int32) (mem : ZM) : Option (Int32 × ZM) :=
  Option.bind (fX1_leaveTrace (23 : Int32) mem) (fun r1 => Option.bind (fX1_body20 r1) (fun r2 => zlet r2.1 (fun v3 => Option.bind (fX1_askSize_2 a1 r2.2) (fun r4 => some ((v3 - r4.1), r4.2)))))
set_option maxRecDepth 100000 in
set_option maxHeartbeats 4000000 in
theorem sX1_body23_3 {l : Launch} {E : ZE}  {a1 : Int32} {mem : ZM} {t : Int32 × ZM} (h : fX1_body23_3 a1 mem = some t) : zMet l E yX1_body23 cX1_body23 3 (some .int) 7 [.ref (E.2.1 15), .int a1] mem (some (.int t.1)) t.2 := by
  refine z_enter (by decide) (Nat.le_of_ble_eq_true rfl) (fun Γ C Rq => ?_)
  have C : zC E Γ RX1 cX1_body23 3 7 := C
  show zG l E Γ 3 0 [(0, .ref (E.2.1 15)), (1, .int a1)] [] mem
  unfold fX1_body23_3 at h
  refine z_aload_n C dX1_body23_0 rfl (j := 0) rfl ?_
  refine z_bipush (v := 23) C dX1_body23_1 zb23 ?_
  obtain ⟨r1, h1, h⟩ := Option.bind_eq_some_iff.mp h
  refine z_callVv [.int (23 : Int32)] [] C dX1_body23_3 (by decide) zen_15 rfl zk_X1_78 zw1000 zw1001 ⟨⟨by decide, by decide⟩, rfl, Nat.le_of_ble_eq_true rfl⟩ rfl (sX1_leaveTrace  h1) ?_
  refine z_aload_n C dX1_body23_6 rfl (j := 0) rfl ?_
  obtain ⟨r2, h2, h⟩ := Option.bind_eq_some_iff.mp h
  refine z_callVi [] [] C dX1_body23_7 (by decide) zen_15 rfl zk_X1_75 zw1017 zw1018 ⟨⟨by decide, by decide⟩, rfl, Nat.le_of_ble_eq_true rfl⟩ rfl (sX1_body20  h2) ?_
  refine z_istore_n [(0, .ref (E.2.1 15)), (1, .int a1)] C dX1_body23_10 h rfl (by decide) rfl (fun v3 h => ?_)
  refine z_iload_n C dX1_body23_11 rfl (j := 0) rfl ?_
  refine z_aload_n C dX1_body23_12 rfl (j := 1) rfl ?_
  refine z_iload_n C dX1_body23_13 rfl (j := 2) rfl ?_
  obtain ⟨r4, h4, h⟩ := Option.bind_eq_some_iff.mp h
  refine z_callVi [.int a1] [.int v3] C dX1_body23_14 (by decide) zen_15 rfl zk_X1_40 zw986 zw987 ⟨⟨by decide, by decide⟩, rfl, Nat.le_of_ble_eq_true rfl⟩ rfl (sX1_askSize_2  h4) ?_
  refine z_isub C dX1_body23_17 ?_
  have e := Option.some.inj h; subst e; exact z_iret C dX1_body23_18 Rq
-- X1_askMark_4
def fX1_askMark_4  (a1 : Int32) (mem : ZM) : Option (Int32 × ZM) :=
  if a1 ≤ (16 : Int32) then (if (mem 15 3) = (1 : Int32) then (Option.bind (fX1_body21 mem) (fun r2 => some (r2.1, r2.2))) else if (mem 15 3) = (2 : Int32) then (Option.bind (fX1_body24 mem) (fun r4 => some (r4.1, r4.2))) else if (mem 15 3) = (3 : Int32) then (Option.bind (fX1_body22 mem) (fun r6 => some (r6.1, r6.2))) else if (mem 15 3) = (4 : Int32) then (Option.bind (fX1_body23_3 (a1 + (1 : Int32)) mem) (fun r8 => some (r8.1, r8.2))) else if (mem 15 3) = (5 : Int32) then (Option.bind (fX1_body23_3 (a1 + (1 : Int32)) mem) (fun r10 => some (r10.1, r10.2))) else (Option.bind (fX1_body20 mem) (fun r11 => some (r11.1, r11.2)))) else (some ((0 : Int32), mem))
set_option maxRecDepth 100000 in
set_option maxHeartbeats 4000000 in
theorem sX1_askMark_4 {l : Launch} {E : ZE}  {a1 : Int32} {mem : ZM} {t : Int32 × ZM} (h : fX1_askMark_4 a1 mem = some t) : zMet l E yX1_askMark cX1_askMark 2 (some .int) 8 [.ref (E.2.1 15), .int a1] mem (some (.int t.1)) t.2 := by
  refine z_enter (by decide) (Nat.le_of_ble_eq_true rfl) (fun Γ C Rq => ?_)
  have C : zC E Γ RX1 cX1_askMark 2 8 := C
  show zG l E Γ 2 0 [(0, .ref (E.2.1 15)), (1, .int a1)] [] mem
  unfold fX1_askMark_4 at h
  refine z_iload_n C dX1_askMark_0 rfl (j := 1) rfl ?_
  refine z_bipush (v := 16) C dX1_askMark_1 zb16 ?_
  refine z_icmp_le 8 C dX1_askMark_3 (by decide) h (fun h => ?_) (fun h => ?_)
  · refine z_aload_n C dX1_askMark_8 rfl (j := 0) rfl ?_
    refine zg1_3 C dX1_askMark_9 zw85 ?_
    by_cases c1 : (mem 15 3) = (1 : Int32)
    · rw [if_pos c1] at h
      refine z_swIn (off := 36) 48 C dX1_askMark_12 1 c1 (by decide) (by decide) (by decide) (by decide) ?_
      refine z_aload_n C dX1_askMark_48 rfl (j := 0) rfl ?_
      obtain ⟨r2, h2, h⟩ := Option.bind_eq_some_iff.mp h
      refine z_callVi [] [] C dX1_askMark_49 (by decide) zen_15 rfl zk_X1_63 zw1013 zw1014 ⟨⟨by decide, by decide⟩, rfl, Nat.le_of_ble_eq_true rfl⟩ rfl (sX1_body21  h2) ?_
      have e := Option.some.inj h; subst e; exact z_iret C dX1_askMark_52 Rq
    rw [if_neg c1] at h
    have nc1 : ((mem 15 3)).toInt ≠ 1 := zne c1
    by_cases c3 : (mem 15 3) = (2 : Int32)
    · rw [if_pos c3] at h
      refine z_swIn (off := 54) 66 C dX1_askMark_12 2 c3 (by decide) (by decide) (by decide) (by decide) ?_
      refine z_aload_n C dX1_askMark_66 rfl (j := 0) rfl ?_
      obtain ⟨r4, h4, h⟩ := Option.bind_eq_some_iff.mp h
      refine z_callVi [] [] C dX1_askMark_67 (by decide) zen_15 rfl zk_X1_72 zw1028 zw1029 ⟨⟨by decide, by decide⟩, rfl, Nat.le_of_ble_eq_true rfl⟩ rfl (sX1_body24  h4) ?_
      have e := Option.some.inj h; subst e; exact z_iret C dX1_askMark_70 Rq
    rw [if_neg c3] at h
    have nc3 : ((mem 15 3)).toInt ≠ 2 := zne c3
    by_cases c5 : (mem 15 3) = (3 : Int32)
    · rw [if_pos c5] at h
      refine z_swIn (off := 41) 53 C dX1_askMark_12 3 c5 (by decide) (by decide) (by decide) (by decide) ?_
      refine z_aload_n C dX1_askMark_53 rfl (j := 0) rfl ?_
      obtain ⟨r6, h6, h⟩ := Option.bind_eq_some_iff.mp h
      refine z_callVi [] [] C dX1_askMark_54 (by decide) zen_15 rfl zk_X1_66 zw1021 zw1022 ⟨⟨by decide, by decide⟩, rfl, Nat.le_of_ble_eq_true rfl⟩ rfl (sX1_body22  h6) ?_
      have e := Option.some.inj h; subst e; exact z_iret C dX1_askMark_57 Rq
    rw [if_neg c5] at h
    have nc5 : ((mem 15 3)).toInt ≠ 3 := zne c5
    by_cases c7 : (mem 15 3) = (4 : Int32)
    · rw [if_pos c7] at h
      refine z_swIn (off := 46) 58 C dX1_askMark_12 4 c7 (by decide) (by decide) (by decide) (by decide) ?_
      refine z_aload_n C dX1_askMark_58 rfl (j := 0) rfl ?_
      refine z_iload_n C dX1_askMark_59 rfl (j := 1) rfl ?_
      refine z_iconst (v := 1) C dX1_askMark_60 zc1 ?_
      refine z_iadd C dX1_askMark_61 ?_
      obtain ⟨r8, h8, h⟩ := Option.bind_eq_some_iff.mp h
      refine z_callVi [.int (a1 + (1 : Int32))] [] C dX1_askMark_62 (by decide) zen_15 rfl zk_X1_69 zw1025 zw1026 ⟨⟨by decide, by decide⟩, rfl, Nat.le_of_ble_eq_true rfl⟩ rfl (sX1_body23_3  h8) ?_
      have e := Option.some.inj h; subst e; exact z_iret C dX1_askMark_65 Rq
    rw [if_neg c7] at h
    have nc7 : ((mem 15 3)).toInt ≠ 4 := zne c7
    by_cases c9 : (mem 15 3) = (5 : Int32)
    · rw [if_pos c9] at h
      refine z_swIn (off := 46) 58 C dX1_askMark_12 5 c9 (by decide) (by decide) (by decide) (by decide) ?_
      refine z_aload_n C dX1_askMark_58 rfl (j := 0) rfl ?_
      refine z_iload_n C dX1_askMark_59 rfl (j := 1) rfl ?_
      refine z_iconst (v := 1) C dX1_askMark_60 zc1 ?_
      refine z_iadd C dX1_askMark_61 ?_
      obtain ⟨r10, h10, h⟩ := Option.bind_eq_some_iff.mp h
      refine z_callVi [.int (a1 + (1 : Int32))] [] C dX1_askMark_62 (by decide) zen_15 rfl zk_X1_69 zw1025 zw1026 ⟨⟨by decide, by decide⟩, rfl, Nat.le_of_ble_eq_true rfl⟩ rfl (sX1_body23_3  h10) ?_
      have e := Option.some.inj h; subst e; exact z_iret C dX1_askMark_65 Rq
    rw [if_neg c9] at h
    have nc9 : ((mem 15 3)).toInt ≠ 5 := zne c9
    refine z_swOut 71 C dX1_askMark_12 (by omega) (by decide) ?_
    refine z_aload_n C dX1_askMark_71 rfl (j := 0) rfl ?_
    obtain ⟨r11, h11, h⟩ := Option.bind_eq_some_iff.mp h
    refine z_callVi [] [] C dX1_askMark_72 (by decide) zen_15 rfl zk_X1_75 zw1017 zw1018 ⟨⟨by decide, by decide⟩, rfl, Nat.le_of_ble_eq_true rfl⟩ rfl (sX1_body20  h11) ?_
    have e := Option.some.inj h; subst e; exact z_iret C dX1_askMark_75 Rq
  · refine z_iconst (v := 0) C dX1_askMark_6 zc0 ?_
    have e := Option.some.inj h; subst e; exact z_iret C dX1_askMark_7 Rq
-- X1_answer
def fX1_answer (q1 : Nat) (a2 : Int32) (a3 : Int32) (mem : ZM) : Option (Int32 × ZM) :=
  zlet (zst mem 15 2 a2) (fun m1 => zgd (zin a2 8) (zlet (zst m1 15 3 (m1 (q1 + 1) a2.toNatClampNeg)) (fun m2 => zgd (zin a2 8) (zlet (zst m2 15 4 (m2 (q1 + 2) a2.toNatClampNeg)) (fun m3 => zgd (zin a2 8) (zlet (zst m3 15 5 (m3 (q1 + 3) a2.toNatClampNeg)) (fun m4 => zlet (zst m4 15 1 (0 : Int32)) (fun m5 => if a3 = 0 then (Option.bind (fX1_askMark_4 (0 : Int32) m5) (fun r6 => some (r6.1, r6.2))) else (Option.bind (fX1_askSize_4 (0 : Int32) m5) (fun r7 => some (r7.1, r7.2)))))))))))
set_option maxRecDepth 100000 in
set_option maxHeartbeats 4000000 in
theorem sX1_answer {l : Launch} {E : ZE} {q1 : Nat} (hq1 : zH q1) {a2 : Int32} {a3 : Int32} {mem : ZM} {t : Int32 × ZM} (h : fX1_answer q1 a2 a3 mem = some t) : zMet l E yX1_answer cX1_answer 4 (some .int) 9 [.ref (E.2.1 15), .ref (E.2.1 q1), .int a2, .int a3] mem (some (.int t.1)) t.2 := by
  refine z_enter (by decide) (Nat.le_of_ble_eq_true rfl) (fun Γ C Rq => ?_)
  have C : zC E Γ RX1 cX1_answer 4 9 := C
  show zG l E Γ 4 0 [(0, .ref (E.2.1 15)), (1, .ref (E.2.1 q1)), (2, .int a2), (3, .int a3)] [] mem
  unfold fX1_answer at h
  refine z_aload_n C dX1_answer_0 rfl (j := 0) rfl ?_
  refine z_iload_n C dX1_answer_1 rfl (j := 2) rfl ?_
  refine zp1_2 C dX1_answer_2 zw84 h (fun m1 h => ?_)
  refine z_aload_n C dX1_answer_5 rfl (j := 0) rfl ?_
  refine z_aload_n C dX1_answer_6 rfl (j := 1) rfl ?_
  refine zg3_1 C dX1_answer_7 hq1 zw982 ?_
  refine z_iload_n C dX1_answer_10 rfl (j := 2) rfl ?_
  refine z_iald C dX1_answer_11 (zH_ar1 hq1) h (fun h => ?_)
  refine zp1_3 C dX1_answer_12 zw85 h (fun m2 h => ?_)
  refine z_aload_n C dX1_answer_15 rfl (j := 0) rfl ?_
  refine z_aload_n C dX1_answer_16 rfl (j := 1) rfl ?_
  refine zg3_2 C dX1_answer_17 hq1 zw983 ?_
  refine z_iload_n C dX1_answer_20 rfl (j := 2) rfl ?_
  refine z_iald C dX1_answer_21 (zH_ar2 hq1) h (fun h => ?_)
  refine zp1_4 C dX1_answer_22 zw86 h (fun m3 h => ?_)
  refine z_aload_n C dX1_answer_25 rfl (j := 0) rfl ?_
  refine z_aload_n C dX1_answer_26 rfl (j := 1) rfl ?_
  refine zg3_3 C dX1_answer_27 hq1 zw984 ?_
  refine z_iload_n C dX1_answer_30 rfl (j := 2) rfl ?_
  refine z_iald C dX1_answer_31 (zH_ar3 hq1) h (fun h => ?_)
  refine zp1_5 C dX1_answer_32 zw87 h (fun m4 h => ?_)
  refine z_aload_n C dX1_answer_35 rfl (j := 0) rfl ?_
  refine z_iconst (v := 0) C dX1_answer_36 zc0 ?_
  refine zp1_1 C dX1_answer_37 zw83 h (fun m5 h => ?_)
  refine z_iload_n C dX1_answer_40 rfl (j := 3) rfl ?_
  refine z_if_eq 52 C dX1_answer_41 (by decide) h (fun h => ?_) (fun h => ?_)
  · refine z_aload_n C dX1_answer_52 rfl (j := 0) rfl ?_
    refine z_iconst (v := 0) C dX1_answer_53 zc0 ?_
    obtain ⟨r6, h6, h⟩ := Option.bind_eq_some_iff.mp h
    refine z_callVi [.int (0 : Int32)] [] C dX1_answer_54 (by decide) zen_15 rfl zk_X1_44 zw1033 zw1034 ⟨⟨by decide, by decide⟩, rfl, Nat.le_of_ble_eq_true rfl⟩ rfl (sX1_askMark_4  h6) ?_
    have e := Option.some.inj h; subst e; exact z_iret C dX1_answer_57 Rq
  · refine z_aload_n C dX1_answer_44 rfl (j := 0) rfl ?_
    refine z_iconst (v := 0) C dX1_answer_45 zc0 ?_
    obtain ⟨r7, h7, h⟩ := Option.bind_eq_some_iff.mp h
    refine z_callVi [.int (0 : Int32)] [] C dX1_answer_46 (by decide) zen_15 rfl zk_X1_40 zw986 zw987 ⟨⟨by decide, by decide⟩, rfl, Nat.le_of_ble_eq_true rfl⟩ rfl (sX1_askSize_4  h7) ?_
    refine z_goto 57 C dX1_answer_49 (by decide) ?_
    have e := Option.some.inj h; subst e; exact z_iret C dX1_answer_57 Rq
-- X3_takeFrom
def fX3_takeFrom (b0 : Nat) (q1 : Nat)  (mem : ZM) : Option (ZM) :=
  zlet (zst mem b0 0 (mem q1 0)) (fun m1 => zgd (zcpg (0 : Int32) (0 : Int32) (8 : Int32) 8 8) (zlet (zcp m1 (q1 + 1) (0 : Int32).toNatClampNeg (b0 + 1) (0 : Int32).toNatClampNeg (8 : Int32).toNatClampNeg) (fun m2 => zgd (zcpg (0 : Int32) (0 : Int32) (8 : Int32) 8 8) (zlet (zcp m2 (q1 + 2) (0 : Int32).toNatClampNeg (b0 + 2) (0 : Int32).toNatClampNeg (8 : Int32).toNatClampNeg) (fun m3 => zgd (zcpg (0 : Int32) (0 : Int32) (8 : Int32) 8 8) (zlet (zcp m3 (q1 + 3) (0 : Int32).toNatClampNeg (b0 + 3) (0 : Int32).toNatClampNeg (8 : Int32).toNatClampNeg) (fun m4 => zgd (zcpg (0 : Int32) (0 : Int32) (8 : Int32) 8 8) (zlet (zcp m4 (q1 + 4) (0 : Int32).toNatClampNeg (b0 + 4) (0 : Int32).toNatClampNeg (8 : Int32).toNatClampNeg) (fun m5 => zlet (zst m5 b0 5 (m5 q1 5)) (fun m6 => zlet (zst m6 b0 6 (m6 q1 6)) (fun m7 => zlet (zst m7 b0 7 (m7 q1 7)) (fun m8 => zlet (zst m8 b0 8 (m8 q1 8)) (fun m9 => zlet (zst m9 b0 9 (m9 q1 9)) (fun m10 => some m10))))))))))))))
set_option maxRecDepth 100000 in
set_option maxHeartbeats 4000000 in
theorem sX3_takeFrom {l : Launch} {E : ZE} {b0 : Nat} {q1 : Nat} (hb0 : zH b0) (hq1 : zH q1)  {mem : ZM} {t : ZM} (h : fX3_takeFrom b0 q1 mem = some t) : zMet l E yX3_takeFrom cX3_takeFrom 2 none 1 [.ref (E.2.1 b0), .ref (E.2.1 q1)] mem none t := by
  refine z_enter (by decide) (Nat.le_of_ble_eq_true rfl) (fun Γ C Rq => ?_)
  have C : zC E Γ RX3 cX3_takeFrom 2 1 := C
  show zG l E Γ 2 0 [(0, .ref (E.2.1 b0)), (1, .ref (E.2.1 q1))] [] mem
  unfold fX3_takeFrom at h
  refine z_aload_n C dX3_takeFrom_0 rfl (j := 0) rfl ?_
  refine z_aload_n C dX3_takeFrom_1 rfl (j := 1) rfl ?_
  refine zg3_0 C dX3_takeFrom_2 hq1 zw42 ?_
  refine zp3_0 C dX3_takeFrom_5 hb0 zw42 h (fun m1 h => ?_)
  refine z_aload_n C dX3_takeFrom_8 rfl (j := 1) rfl ?_
  refine zg3_1 C dX3_takeFrom_9 hq1 zw44 ?_
  refine z_iconst (v := 0) C dX3_takeFrom_12 zc0 ?_
  refine z_aload_n C dX3_takeFrom_13 rfl (j := 0) rfl ?_
  refine zg3_1 C dX3_takeFrom_14 hb0 zw44 ?_
  refine z_iconst (v := 0) C dX3_takeFrom_17 zc0 ?_
  refine z_bipush (v := 8) C dX3_takeFrom_18 zb8 ?_
  refine z_acopy C dX3_takeFrom_20 zw355 zw189 zw190 zw191 (zH_ar1 hq1) (zH_ar1 hb0) ⟨by decide, Nat.le_of_ble_eq_true rfl⟩ h (fun m2 h => ?_)
  refine z_aload_n C dX3_takeFrom_23 rfl (j := 1) rfl ?_
  refine zg3_2 C dX3_takeFrom_24 hq1 zw45 ?_
  refine z_iconst (v := 0) C dX3_takeFrom_27 zc0 ?_
  refine z_aload_n C dX3_takeFrom_28 rfl (j := 0) rfl ?_
  refine zg3_2 C dX3_takeFrom_29 hb0 zw45 ?_
  refine z_iconst (v := 0) C dX3_takeFrom_32 zc0 ?_
  refine z_bipush (v := 8) C dX3_takeFrom_33 zb8 ?_
  refine z_acopy C dX3_takeFrom_35 zw355 zw189 zw190 zw191 (zH_ar2 hq1) (zH_ar2 hb0) ⟨by decide, Nat.le_of_ble_eq_true rfl⟩ h (fun m3 h => ?_)
  refine z_aload_n C dX3_takeFrom_38 rfl (j := 1) rfl ?_
  refine zg3_3 C dX3_takeFrom_39 hq1 zw46 ?_
  refine z_iconst (v := 0) C dX3_takeFrom_42 zc0 ?_
  refine z_aload_n C dX3_takeFrom_43 rfl (j := 0) rfl ?_
  refine zg3_3 C dX3_takeFrom_44 hb0 zw46 ?_
  refine z_iconst (v := 0) C dX3_takeFrom_47 zc0 ?_
  refine z_bipush (v := 8) C dX3_takeFrom_48 zb8 ?_
  refine z_acopy C dX3_takeFrom_50 zw355 zw189 zw190 zw191 (zH_ar3 hq1) (zH_ar3 hb0) ⟨by decide, Nat.le_of_ble_eq_true rfl⟩ h (fun m4 h => ?_)
  refine z_aload_n C dX3_takeFrom_53 rfl (j := 1) rfl ?_
  refine zg3_4 C dX3_takeFrom_54 hq1 zw47 ?_
  refine z_iconst (v := 0) C dX3_takeFrom_57 zc0 ?_
  refine z_aload_n C dX3_takeFrom_58 rfl (j := 0) rfl ?_
  refine zg3_4 C dX3_takeFrom_59 hb0 zw47 ?_
  refine z_iconst (v := 0) C dX3_takeFrom_62 zc0 ?_
  refine z_bipush (v := 8) C dX3_takeFrom_63 zb8 ?_
  refine z_acopy C dX3_takeFrom_65 zw355 zw189 zw190 zw191 (zH_ar4 hq1) (zH_ar4 hb0) ⟨by decide, Nat.le_of_ble_eq_true rfl⟩ h (fun m5 h => ?_)
  refine z_aload_n C dX3_takeFrom_68 rfl (j := 0) rfl ?_
  refine z_aload_n C dX3_takeFrom_69 rfl (j := 1) rfl ?_
  refine zg3_5 C dX3_takeFrom_70 hq1 zw48 ?_
  refine zp3_5 C dX3_takeFrom_73 hb0 zw48 h (fun m6 h => ?_)
  refine z_aload_n C dX3_takeFrom_76 rfl (j := 0) rfl ?_
  refine z_aload_n C dX3_takeFrom_77 rfl (j := 1) rfl ?_
  refine zg3_6 C dX3_takeFrom_78 hq1 zw49 ?_
  refine zp3_6 C dX3_takeFrom_81 hb0 zw49 h (fun m7 h => ?_)
  refine z_aload_n C dX3_takeFrom_84 rfl (j := 0) rfl ?_
  refine z_aload_n C dX3_takeFrom_85 rfl (j := 1) rfl ?_
  refine zg3_7 C dX3_takeFrom_86 hq1 zw50 ?_
  refine zp3_7 C dX3_takeFrom_89 hb0 zw50 h (fun m8 h => ?_)
  refine z_aload_n C dX3_takeFrom_92 rfl (j := 0) rfl ?_
  refine z_aload_n C dX3_takeFrom_93 rfl (j := 1) rfl ?_
  refine zg3_8 C dX3_takeFrom_94 hq1 zw51 ?_
  refine zp3_8 C dX3_takeFrom_97 hb0 zw51 h (fun m9 h => ?_)
  refine z_aload_n C dX3_takeFrom_100 rfl (j := 0) rfl ?_
  refine z_aload_n C dX3_takeFrom_101 rfl (j := 1) rfl ?_
  refine zg3_9 C dX3_takeFrom_102 hq1 zw52 ?_
  refine zp3_9 C dX3_takeFrom_105 hb0 zw52 h (fun m10 h => ?_)
  have e := Option.some.inj h; subst e; exact z_vret C dX3_takeFrom_108 Rq
-- X3_isLit
def fX3_isLit (b0 : Nat) (a1 : Int32) (mem : ZM) : Option (Int32) :=
  if (((mem b0 5) >>> (a1 &&& 31)) &&& (1 : Int32)) = (1 : Int32) then (some (1 : Int32)) else (some (0 : Int32))
set_option maxRecDepth 100000 in
set_option maxHeartbeats 4000000 in
theorem sX3_isLit {l : Launch} {E : ZE} {b0 : Nat} (hb0 : zH b0) {a1 : Int32} {mem : ZM} {t : Int32} (h : fX3_isLit b0 a1 mem = some t) : zMet l E yX3_isLit cX3_isLit 2 (some .boolean) 0 [.ref (E.2.1 b0), .int a1] mem (some (.int t)) mem := by
  refine z_enter (by decide) (Nat.le_of_ble_eq_true rfl) (fun Γ C Rq => ?_)
  have C : zC E Γ RX3 cX3_isLit 2 0 := C
  show zG l E Γ 2 0 [(0, .ref (E.2.1 b0)), (1, .int a1)] [] mem
  unfold fX3_isLit at h
  refine z_aload_n C dX3_isLit_0 rfl (j := 0) rfl ?_
  refine zg3_5 C dX3_isLit_1 hb0 zw48 ?_
  refine z_iload_n C dX3_isLit_4 rfl (j := 1) rfl ?_
  refine z_ishr C dX3_isLit_5 ?_
  refine z_iconst (v := 1) C dX3_isLit_6 zc1 ?_
  refine z_iand C dX3_isLit_7 ?_
  refine z_iconst (v := 1) C dX3_isLit_8 zc1 ?_
  refine z_icmp_ne 16 C dX3_isLit_9 (by decide) h (fun h => ?_) (fun h => ?_)
  · refine z_iconst (v := 0) C dX3_isLit_16 zc0 ?_
    have e := Option.some.inj h; subst e; exact z_zret C dX3_isLit_17 zbl0 Rq
  · refine z_iconst (v := 1) C dX3_isLit_12 zc1 ?_
    refine z_goto 17 C dX3_isLit_13 (by decide) ?_
    have e := Option.some.inj h; subst e; exact z_zret C dX3_isLit_17 zbl1 Rq
-- X3_placesLit
def fX3_placesLit_j31 (b0 : Nat) (x1 : Int32) (x2 : Int32) (mem4 : ZM) : Option ((Int32 × Int32) ⊕ (Int32 × Int32)) :=
  zlet (x2 + (1 : Int32)) (fun v5 => some (Sum.inl (x1, v5)))
set_option maxRecDepth 100000 in
set_option maxHeartbeats 4000000 in
theorem jX3_placesLit_31 {l : Launch} {E : ZE} {Γ : ZG} (C : zC E Γ RX3 cX3_placesLit 3 1) {b0 : Nat} (hb0 : zH b0) {x1 : Int32} {x2 : Int32}  {mem4 : ZM}  {u : (Int32 × Int32) ⊕ (Int32 × Int32)}  (G1 : ∀ s', u = Sum.inl s' → zG l E Γ 3 4 [(0, .ref (E.2.1 b0)), (1, .int (s'.1)), (2, .int (s'.2))] [] mem4) (G2 : ∀ s', u = Sum.inr s' → zG l E Γ 3 37 [(1, .int (s'.1))] [] mem4) (h : fX3_placesLit_j31 b0 x1 x2 mem4 = some u) : zG l E Γ 3 31 [(0, .ref (E.2.1 b0)), (1, .int x1), (2, .int x2)] [] mem4 := by
  unfold fX3_placesLit_j31 at h
  refine z_iinc [(0, .ref (E.2.1 b0)), (1, .int x1)] C dX3_placesLit_31 zc1 h (j := 2) rfl (by decide) rfl (fun v5 h => ?_)
  refine z_goto 4 C dX3_placesLit_34 (by decide) ?_
  refine z_pick [1, 2, 0] rfl ?_
  exact G1 _ (Option.some.inj h).symm
def fX3_placesLit_b4 (b0 : Nat)  (mem4 : ZM) (x4_1 : Int32) (x4_2 : Int32) : Option ((Int32 × Int32) ⊕ (Int32 × Int32)) :=
  if (mem4 b0 0) ≤ x4_2 then (some (Sum.inr (x4_1, x4_2))) else (Option.bind (fX3_isLit b0 x4_2 mem4) (fun r4 => if r4 = 0 then (fX3_placesLit_j31 b0 x4_1 x4_2 mem4) else (zgd (zin x4_2 8) (zlet (x4_1 ||| ((1 : Int32) <<< ((mem4 (b0 + 4) x4_2.toNatClampNeg) &&& 31))) (fun v6 => fX3_placesLit_j31 b0 v6 x4_2 mem4)))))
def fX3_placesLit_l4 (b0 : Nat)  (mem4 : ZM) (s : Int32 × Int32) : Option (Int32 × Int32) := ziter (fun s => fX3_placesLit_b4 b0 mem4 s.1 s.2) 2000 s
set_option maxRecDepth 100000 in
set_option maxHeartbeats 4000000 in
theorem bX3_placesLit_4 {l : Launch} {E : ZE} {Γ : ZG} (C : zC E Γ RX3 cX3_placesLit 3 1) {b0 : Nat} (hb0 : zH b0)  {mem4 : ZM} {x4_1 : Int32} {x4_2 : Int32} {u : (Int32 × Int32) ⊕ (Int32 × Int32)} (G1 : ∀ s', u = Sum.inl s' → zG l E Γ 3 4 [(0, .ref (E.2.1 b0)), (1, .int (s'.1)), (2, .int (s'.2))] [] mem4) (G2 : ∀ s', u = Sum.inr s' → zG l E Γ 3 37 [(1, .int (s'.1))] [] mem4) (h : fX3_placesLit_b4 b0 mem4 x4_1 x4_2 = some u) : zG l E Γ 3 4 [(0, .ref (E.2.1 b0)), (1, .int x4_1), (2, .int x4_2)] [] mem4 := by
  unfold fX3_placesLit_b4 at h
  refine z_iload_n C dX3_placesLit_4 rfl (j := 2) rfl ?_
  refine z_aload_n C dX3_placesLit_5 rfl (j := 0) rfl ?_
  refine zg3_0 C dX3_placesLit_6 hb0 zw42 ?_
  refine z_icmp_ge 37 C dX3_placesLit_9 (by decide) h (fun h => ?_) (fun h => ?_)
  · refine z_pick [1] rfl ?_
    exact G2 _ (Option.some.inj h).symm
  · refine z_aload_n C dX3_placesLit_12 rfl (j := 0) rfl ?_
    refine z_iload_n C dX3_placesLit_13 rfl (j := 2) rfl ?_
    obtain ⟨r4, h4, h⟩ := Option.bind_eq_some_iff.mp h
    refine z_callVi [.int x4_2] [] C dX3_placesLit_14 (zH_lt hb0) (zH_ent hb0) rfl zk_X3_62 zw448 zw449 ⟨⟨by decide, by decide⟩, rfl, Nat.le_of_ble_eq_true rfl⟩ rfl (sX3_isLit hb0 h4) ?_
    refine z_if_eq 31 C dX3_placesLit_17 (by decide) h (fun h => ?_) (fun h => ?_)
    · refine z_pick [0, 1, 2] rfl ?_
      exact jX3_placesLit_31 C hb0  G1 G2 h
    · refine z_iload_n C dX3_placesLit_20 rfl (j := 1) rfl ?_
      refine z_iconst (v := 1) C dX3_placesLit_21 zc1 ?_
      refine z_aload_n C dX3_placesLit_22 rfl (j := 0) rfl ?_
      refine zg3_4 C dX3_placesLit_23 hb0 zw47 ?_
      refine z_iload_n C dX3_placesLit_26 rfl (j := 2) rfl ?_
      refine z_iald C dX3_placesLit_27 (zH_ar4 hb0) h (fun h => ?_)
      refine z_ishl C dX3_placesLit_28 ?_
      refine z_ior C dX3_placesLit_29 ?_
      refine z_istore_n [(0, .ref (E.2.1 b0)), (2, .int x4_2)] C dX3_placesLit_30 h rfl (by decide) rfl (fun v6 h => ?_)
      refine z_pick [1, 0, 2] rfl ?_
      exact jX3_placesLit_31 C hb0  G1 G2 h
theorem lX3_placesLit_4 {l : Launch} {E : ZE} {Γ : ZG} (C : zC E Γ RX3 cX3_placesLit 3 1) {b0 : Nat} (hb0 : zH b0)  {mem4 : ZM} {s : Int32 × Int32} {r : Int32 × Int32} (h : fX3_placesLit_l4 b0 mem4 s = some r) (K1 : zG l E Γ 3 37 [(1, .int r.1)] [] mem4) : zG l E Γ 3 4 [(0, .ref (E.2.1 b0)), (1, .int s.1), (2, .int s.2)] [] mem4 :=
  z_loop (body := fun s => fX3_placesLit_b4 b0 mem4 s.1 s.2) (fun s => zG l E Γ 3 4 [(0, .ref (E.2.1 b0)), (1, .int s.1), (2, .int s.2)] [] mem4) (fun r => zG l E Γ 3 37 [(1, .int r.1)] [] mem4) (fun s u hb g1 g2 => bX3_placesLit_4 C hb0 g1 g2 hb) 2000 s r h K1
def fX3_placesLit (b0 : Nat)  (mem : ZM) : Option (Int32) :=
  zlet (0 : Int32) (fun v1 => zlet (0 : Int32) (fun v2 => Option.bind (fX3_placesLit_l4 b0 mem (v1, v2)) (fun r3 => some r3.1)))
set_option maxRecDepth 100000 in
set_option maxHeartbeats 4000000 in
theorem sX3_placesLit {l : Launch} {E : ZE} {b0 : Nat} (hb0 : zH b0)  {mem : ZM} {t : Int32} (h : fX3_placesLit b0 mem = some t) : zMet l E yX3_placesLit cX3_placesLit 3 (some .int) 1 [.ref (E.2.1 b0)] mem (some (.int t)) mem := by
  refine z_enter (by decide) (Nat.le_of_ble_eq_true rfl) (fun Γ C Rq => ?_)
  have C : zC E Γ RX3 cX3_placesLit 3 1 := C
  show zG l E Γ 3 0 [(0, .ref (E.2.1 b0))] [] mem
  unfold fX3_placesLit at h
  refine z_iconst (v := 0) C dX3_placesLit_0 zc0 ?_
  refine z_istore_n [(0, .ref (E.2.1 b0))] C dX3_placesLit_1 h rfl (by decide) rfl (fun v1 h => ?_)
  refine z_iconst (v := 0) C dX3_placesLit_2 zc0 ?_
  refine z_istore_n [(1, .int v1), (0, .ref (E.2.1 b0))] C dX3_placesLit_3 h rfl (by decide) rfl (fun v2 h => ?_)
  obtain ⟨r3, h3, h⟩ := Option.bind_eq_some_iff.mp h
  refine z_pick [2, 1, 0] rfl ?_
  refine lX3_placesLit_4 C hb0 h3 ?_
  refine z_iload_n C dX3_placesLit_37 rfl (j := 0) rfl ?_
  have e := Option.some.inj h; subst e; exact z_iret C dX3_placesLit_38 Rq
-- X3_isOut
def fX3_isOut (b0 : Nat) (a1 : Int32) (mem : ZM) : Option (Int32) :=
  if (((mem b0 6) >>> (a1 &&& 31)) &&& (1 : Int32)) = (1 : Int32) then (some (1 : Int32)) else (some (0 : Int32))
set_option maxRecDepth 100000 in
set_option maxHeartbeats 4000000 in
theorem sX3_isOut {l : Launch} {E : ZE} {b0 : Nat} (hb0 : zH b0) {a1 : Int32} {mem : ZM} {t : Int32} (h : fX3_isOut b0 a1 mem = some t) : zMet l E yX3_isOut cX3_isOut 2 (some .boolean) 0 [.ref (E.2.1 b0), .int a1] mem (some (.int t)) mem := by
  refine z_enter (by decide) (Nat.le_of_ble_eq_true rfl) (fun Γ C Rq => ?_)
  have C : zC E Γ RX3 cX3_isOut 2 0 := C
  show zG l E Γ 2 0 [(0, .ref (E.2.1 b0)), (1, .int a1)] [] mem
  unfold fX3_isOut at h
  refine z_aload_n C dX3_isOut_0 rfl (j := 0) rfl ?_
  refine zg3_6 C dX3_isOut_1 hb0 zw49 ?_
  refine z_iload_n C dX3_isOut_4 rfl (j := 1) rfl ?_
  refine z_ishr C dX3_isOut_5 ?_
  refine z_iconst (v := 1) C dX3_isOut_6 zc1 ?_
  refine z_iand C dX3_isOut_7 ?_
  refine z_iconst (v := 1) C dX3_isOut_8 zc1 ?_
  refine z_icmp_ne 16 C dX3_isOut_9 (by decide) h (fun h => ?_) (fun h => ?_)
  · refine z_iconst (v := 0) C dX3_isOut_16 zc0 ?_
    have e := Option.some.inj h; subst e; exact z_zret C dX3_isOut_17 zbl0 Rq
  · refine z_iconst (v := 1) C dX3_isOut_12 zc1 ?_
    refine z_goto 17 C dX3_isOut_13 (by decide) ?_
    have e := Option.some.inj h; subst e; exact z_zret C dX3_isOut_17 zbl1 Rq
-- X3_placesBeside
def fX3_placesBeside  (a0 : Int32) : Option (Int32) :=
  some ((((1 : Int32) <<< (a0 &&& 31)) <<< ((1 : Int32) &&& 31)) ||| (((1 : Int32) <<< (a0 &&& 31)) >>> ((1 : Int32) &&& 31)))
set_option maxRecDepth 100000 in
set_option maxHeartbeats 4000000 in
theorem sX3_placesBeside {l : Launch} {E : ZE}  {a0 : Int32} {mem : ZM} {t : Int32} (h : fX3_placesBeside a0 = some t) : zMet l E yX3_placesBeside cX3_placesBeside 1 (some .int) 0 [.int a0] mem (some (.int t)) mem := by
  refine z_enter (by decide) (Nat.le_of_ble_eq_true rfl) (fun Γ C Rq => ?_)
  have C : zC E Γ RX3 cX3_placesBeside 1 0 := C
  show zG l E Γ 1 0 [(0, .int a0)] [] mem
  unfold fX3_placesBeside at h
  refine z_iconst (v := 1) C dX3_placesBeside_0 zc1 ?_
  refine z_iload_n C dX3_placesBeside_1 rfl (j := 0) rfl ?_
  refine z_ishl C dX3_placesBeside_2 ?_
  refine z_iconst (v := 1) C dX3_placesBeside_3 zc1 ?_
  refine z_ishl C dX3_placesBeside_4 ?_
  refine z_iconst (v := 1) C dX3_placesBeside_5 zc1 ?_
  refine z_iload_n C dX3_placesBeside_6 rfl (j := 0) rfl ?_
  refine z_ishl C dX3_placesBeside_7 ?_
  refine z_iconst (v := 1) C dX3_placesBeside_8 zc1 ?_
  refine z_ishr C dX3_placesBeside_9 ?_
  refine z_ior C dX3_placesBeside_10 ?_
  have e := Option.some.inj h; subst e; exact z_iret C dX3_placesBeside_11 Rq
-- X3_placesOfHotIron
def fX3_placesOfHotIron_j55 (b0 : Nat) (y4_1 : Int32) (x2 : Int32) (x3 : Int32) (mem4 : ZM) : Option ((Int32 × Int32) ⊕ (Int32 × Int32)) :=
  zlet (x3 + (1 : Int32)) (fun v4 => some (Sum.inl (x2, v4)))
set_option maxRecDepth 100000 in
set_option maxHeartbeats 4000000 in
theorem jX3_placesOfHotIron_55 {l : Launch} {E : ZE} {Γ : ZG} (C : zC E Γ RX3 cX3_placesOfHotIron 4 1) {b0 : Nat} (hb0 : zH b0) {y4_1 : Int32} {x2 : Int32} {x3 : Int32}  {mem4 : ZM}  {u : (Int32 × Int32) ⊕ (Int32 × Int32)}  (G1 : ∀ s', u = Sum.inl s' → zG l E Γ 4 4 [(0, .ref (E.2.1 b0)), (1, .int y4_1), (2, .int (s'.1)), (3, .int (s'.2))] [] mem4) (G2 : ∀ s', u = Sum.inr s' → zG l E Γ 4 61 [(2, .int (s'.1))] [] mem4) (h : fX3_placesOfHotIron_j55 b0 y4_1 x2 x3 mem4 = some u) : zG l E Γ 4 55 [(0, .ref (E.2.1 b0)), (1, .int y4_1), (2, .int x2), (3, .int x3)] [] mem4 := by
  unfold fX3_placesOfHotIron_j55 at h
  refine z_iinc [(0, .ref (E.2.1 b0)), (1, .int y4_1), (2, .int x2)] C dX3_placesOfHotIron_55 zc1 h (j := 3) rfl (by decide) rfl (fun v4 h => ?_)
  refine z_goto 4 C dX3_placesOfHotIron_58 (by decide) ?_
  refine z_pick [1, 2, 3, 0] rfl ?_
  exact G1 _ (Option.some.inj h).symm
def fX3_placesOfHotIron_b4 (b0 : Nat) (y4_1 : Int32) (mem4 : ZM) (x4_2 : Int32) (x4_3 : Int32) : Option ((Int32 × Int32) ⊕ (Int32 × Int32)) :=
  if (mem4 b0 0) ≤ x4_3 then (some (Sum.inr (x4_2, x4_3))) else (zgd (zin x4_3 8) (if (mem4 (b0 + 1) x4_3.toNatClampNeg) = (5 : Int32) then (Option.bind (fX3_isOut b0 x4_3 mem4) (fun r5 => if r5 = 0 then (zgd (zin x4_3 8) (Option.bind (fX3_placesBeside (mem4 (b0 + 4) x4_3.toNatClampNeg)) (fun r6 => if (y4_1 &&& r6) = 0 then (fX3_placesOfHotIron_j55 b0 y4_1 x4_2 x4_3 mem4) else (zgd (zin x4_3 8) (zlet (x4_2 ||| ((1 : Int32) <<< ((mem4 (b0 + 4) x4_3.toNatClampNeg) &&& 31))) (fun v7 => fX3_placesOfHotIron_j55 b0 y4_1 v7 x4_3 mem4)))))) else (fX3_placesOfHotIron_j55 b0 y4_1 x4_2 x4_3 mem4))) else (fX3_placesOfHotIron_j55 b0 y4_1 x4_2 x4_3 mem4)))
def fX3_placesOfHotIron_l4 (b0 : Nat) (y4_1 : Int32) (mem4 : ZM) (s : Int32 × Int32) : Option (Int32 × Int32) := ziter (fun s => fX3_placesOfHotIron_b4 b0 y4_1 mem4 s.1 s.2) 2000 s
set_option maxRecDepth 100000 in
set_option maxHeartbeats 4000000 in
theorem bX3_placesOfHotIron_4 {l : Launch} {E : ZE} {Γ : ZG} (C : zC E Γ RX3 cX3_placesOfHotIron 4 1) {b0 : Nat} (hb0 : zH b0) {y4_1 : Int32} {mem4 : ZM} {x4_2 : Int32} {x4_3 : Int32} {u : (Int32 × Int32) ⊕ (Int32 × Int32)} (G1 : ∀ s', u = Sum.inl s' → zG l E Γ 4 4 [(0, .ref (E.2.1 b0)), (1, .int y4_1), (2, .int (s'.1)), (3, .int (s'.2))] [] mem4) (G2 : ∀ s', u = Sum.inr s' → zG l E Γ 4 61 [(2, .int (s'.1))] [] mem4) (h : fX3_placesOfHotIron_b4 b0 y4_1 mem4 x4_2 x4_3 = some u) : zG l E Γ 4 4 [(0, .ref (E.2.1 b0)), (1, .int y4_1), (2, .int x4_2), (3, .int x4_3)] [] mem4 := by
  unfold fX3_placesOfHotIron_b4 at h
  refine z_iload_n C dX3_placesOfHotIron_4 rfl (j := 3) rfl ?_
  refine z_aload_n C dX3_placesOfHotIron_5 rfl (j := 0) rfl ?_
  refine zg3_0 C dX3_placesOfHotIron_6 hb0 zw42 ?_
  refine z_icmp_ge 61 C dX3_placesOfHotIron_9 (by decide) h (fun h => ?_) (fun h => ?_)
  · refine z_pick [2] rfl ?_
    exact G2 _ (Option.some.inj h).symm
  · refine z_aload_n C dX3_placesOfHotIron_12 rfl (j := 0) rfl ?_
    refine zg3_1 C dX3_placesOfHotIron_13 hb0 zw44 ?_
    refine z_iload_n C dX3_placesOfHotIron_16 rfl (j := 3) rfl ?_
    refine z_iald C dX3_placesOfHotIron_17 (zH_ar1 hb0) h (fun h => ?_)
    refine z_iconst (v := 5) C dX3_placesOfHotIron_18 zc5 ?_
    refine z_icmp_ne 55 C dX3_placesOfHotIron_19 (by decide) h (fun h => ?_) (fun h => ?_)
    · refine z_pick [0, 1, 2, 3] rfl ?_
      exact jX3_placesOfHotIron_55 C hb0  G1 G2 h
    · refine z_aload_n C dX3_placesOfHotIron_22 rfl (j := 0) rfl ?_
      refine z_iload_n C dX3_placesOfHotIron_23 rfl (j := 3) rfl ?_
      obtain ⟨r5, h5, h⟩ := Option.bind_eq_some_iff.mp h
      refine z_callVi [.int x4_3] [] C dX3_placesOfHotIron_24 (zH_lt hb0) (zH_ent hb0) rfl zk_X3_56 zw456 zw457 ⟨⟨by decide, by decide⟩, rfl, Nat.le_of_ble_eq_true rfl⟩ rfl (sX3_isOut hb0 h5) ?_
      refine z_if_ne 55 C dX3_placesOfHotIron_27 (by decide) h (fun h => ?_) (fun h => ?_)
      · refine z_pick [0, 1, 2, 3] rfl ?_
        exact jX3_placesOfHotIron_55 C hb0  G1 G2 h
      · refine z_iload_n C dX3_placesOfHotIron_30 rfl (j := 1) rfl ?_
        refine z_aload_n C dX3_placesOfHotIron_31 rfl (j := 0) rfl ?_
        refine zg3_4 C dX3_placesOfHotIron_32 hb0 zw47 ?_
        refine z_iload_n C dX3_placesOfHotIron_35 rfl (j := 3) rfl ?_
        refine z_iald C dX3_placesOfHotIron_36 (zH_ar4 hb0) h (fun h => ?_)
        obtain ⟨r6, h6, h⟩ := Option.bind_eq_some_iff.mp h
        refine z_callSi [.int (mem4 (b0 + 4) x4_3.toNatClampNeg)] [.int y4_1] C dX3_placesOfHotIron_37 zk_X3_100 zw460 ⟨⟨by decide, by decide⟩, rfl, Nat.le_of_ble_eq_true rfl⟩ rfl (sX3_placesBeside  h6) ?_
        refine z_iand C dX3_placesOfHotIron_40 ?_
        refine z_if_eq 55 C dX3_placesOfHotIron_41 (by decide) h (fun h => ?_) (fun h => ?_)
        · refine z_pick [0, 1, 2, 3] rfl ?_
          exact jX3_placesOfHotIron_55 C hb0  G1 G2 h
        · refine z_iload_n C dX3_placesOfHotIron_44 rfl (j := 2) rfl ?_
          refine z_iconst (v := 1) C dX3_placesOfHotIron_45 zc1 ?_
          refine z_aload_n C dX3_placesOfHotIron_46 rfl (j := 0) rfl ?_
          refine zg3_4 C dX3_placesOfHotIron_47 hb0 zw47 ?_
          refine z_iload_n C dX3_placesOfHotIron_50 rfl (j := 3) rfl ?_
          refine z_iald C dX3_placesOfHotIron_51 (zH_ar4 hb0) h (fun h => ?_)
          refine z_ishl C dX3_placesOfHotIron_52 ?_
          refine z_ior C dX3_placesOfHotIron_53 ?_
          refine z_istore_n [(0, .ref (E.2.1 b0)), (1, .int y4_1), (3, .int x4_3)] C dX3_placesOfHotIron_54 h rfl (by decide) rfl (fun v7 h => ?_)
          refine z_pick [1, 2, 0, 3] rfl ?_
          exact jX3_placesOfHotIron_55 C hb0  G1 G2 h
theorem lX3_placesOfHotIron_4 {l : Launch} {E : ZE} {Γ : ZG} (C : zC E Γ RX3 cX3_placesOfHotIron 4 1) {b0 : Nat} (hb0 : zH b0) {y4_1 : Int32} {mem4 : ZM} {s : Int32 × Int32} {r : Int32 × Int32} (h : fX3_placesOfHotIron_l4 b0 y4_1 mem4 s = some r) (K1 : zG l E Γ 4 61 [(2, .int r.1)] [] mem4) : zG l E Γ 4 4 [(0, .ref (E.2.1 b0)), (1, .int y4_1), (2, .int s.1), (3, .int s.2)] [] mem4 :=
  z_loop (body := fun s => fX3_placesOfHotIron_b4 b0 y4_1 mem4 s.1 s.2) (fun s => zG l E Γ 4 4 [(0, .ref (E.2.1 b0)), (1, .int y4_1), (2, .int s.1), (3, .int s.2)] [] mem4) (fun r => zG l E Γ 4 61 [(2, .int r.1)] [] mem4) (fun s u hb g1 g2 => bX3_placesOfHotIron_4 C hb0 g1 g2 hb) 2000 s r h K1
def fX3_placesOfHotIron (b0 : Nat) (a1 : Int32) (mem : ZM) : Option (Int32) :=
  zlet (0 : Int32) (fun v1 => zlet (0 : Int32) (fun v2 => Option.bind (fX3_placesOfHotIron_l4 b0 a1 mem (v1, v2)) (fun r3 => some r3.1)))
set_option maxRecDepth 100000 in
set_option maxHeartbeats 4000000 in
theorem sX3_placesOfHotIron {l : Launch} {E : ZE} {b0 : Nat} (hb0 : zH b0) {a1 : Int32} {mem : ZM} {t : Int32} (h : fX3_placesOfHotIron b0 a1 mem = some t) : zMet l E yX3_placesOfHotIron cX3_placesOfHotIron 4 (some .int) 1 [.ref (E.2.1 b0), .int a1] mem (some (.int t)) mem := by
  refine z_enter (by decide) (Nat.le_of_ble_eq_true rfl) (fun Γ C Rq => ?_)
  have C : zC E Γ RX3 cX3_placesOfHotIron 4 1 := C
  show zG l E Γ 4 0 [(0, .ref (E.2.1 b0)), (1, .int a1)] [] mem
  unfold fX3_placesOfHotIron at h
  refine z_iconst (v := 0) C dX3_placesOfHotIron_0 zc0 ?_
  refine z_istore_n [(0, .ref (E.2.1 b0)), (1, .int a1)] C dX3_placesOfHotIron_1 h rfl (by decide) rfl (fun v1 h => ?_)
  refine z_iconst (v := 0) C dX3_placesOfHotIron_2 zc0 ?_
  refine z_istore_n [(2, .int v1), (0, .ref (E.2.1 b0)), (1, .int a1)] C dX3_placesOfHotIron_3 h rfl (by decide) rfl (fun v2 h => ?_)
  obtain ⟨r3, h3, h⟩ := Option.bind_eq_some_iff.mp h
  refine z_pick [2, 3, 1, 0] rfl ?_
  refine lX3_placesOfHotIron_4 C hb0 h3 ?_
  refine z_iload_n C dX3_placesOfHotIron_61 rfl (j := 0) rfl ?_
  have e := Option.some.inj h; subst e; exact z_iret C dX3_placesOfHotIron_62 Rq
-- J6_bitCount_0f7a4
def fJ6_bitCount_0f7a4  (a0 : Int32) : Option (Int32) :=
  zlet (a0 - (((a0.toUInt32 >>> ((1 : Int32).toUInt32 &&& Int32.toUInt32 31)).toInt32) &&& (1431655765 : Int32))) (fun v1 => zlet ((v1 &&& (858993459 : Int32)) + (((v1.toUInt32 >>> ((2 : Int32).toUInt32 &&& Int32.toUInt32 31)).toInt32) &&& (858993459 : Int32))) (fun v2 => zlet ((v2 + ((v2.toUInt32 >>> ((4 : Int32).toUInt32 &&& Int32.toUInt32 31)).toInt32)) &&& (252645135 : Int32)) (fun v3 => zlet (v3 + ((v3.toUInt32 >>> ((8 : Int32).toUInt32 &&& Int32.toUInt32 31)).toInt32)) (fun v4 => zlet (v4 + ((v4.toUInt32 >>> ((16 : Int32).toUInt32 &&& Int32.toUInt32 31)).toInt32)) (fun v5 => some (v5 &&& (63 : Int32)))))))
set_option maxRecDepth 100000 in
set_option maxHeartbeats 4000000 in
theorem sJ6_bitCount_0f7a4 {l : Launch} {E : ZE}  {a0 : Int32} {mem : ZM} {t : Int32} (h : fJ6_bitCount_0f7a4 a0 = some t) : zMet l E yJ6_bitCount_0f7a4 cJ6_bitCount_0f7a4 1 (some .int) 0 [.int a0] mem (some (.int t)) mem := by
  refine z_enter (by decide) (Nat.le_of_ble_eq_true rfl) (fun Γ C Rq => ?_)
  have C : zC E Γ RJ6 cJ6_bitCount_0f7a4 1 0 := C
  show zG l E Γ 1 0 [(0, .int a0)] [] mem
  unfold fJ6_bitCount_0f7a4 at h
  refine z_iload_n C dJ6_bitCount_0f7a4_0 rfl (j := 0) rfl ?_
  refine z_iload_n C dJ6_bitCount_0f7a4_1 rfl (j := 0) rfl ?_
  refine z_iconst (v := 1) C dJ6_bitCount_0f7a4_2 zc1 ?_
  refine z_iushr C dJ6_bitCount_0f7a4_3 ?_
  refine z_ldcw C dJ6_bitCount_0f7a4_4 zw470 ?_
  refine z_iand C dJ6_bitCount_0f7a4_7 ?_
  refine z_isub C dJ6_bitCount_0f7a4_8 ?_
  refine z_istore_n [] C dJ6_bitCount_0f7a4_9 h rfl (by decide) rfl (fun v1 h => ?_)
  refine z_iload_n C dJ6_bitCount_0f7a4_10 rfl (j := 0) rfl ?_
  refine z_ldcw C dJ6_bitCount_0f7a4_11 zw471 ?_
  refine z_iand C dJ6_bitCount_0f7a4_14 ?_
  refine z_iload_n C dJ6_bitCount_0f7a4_15 rfl (j := 0) rfl ?_
  refine z_iconst (v := 2) C dJ6_bitCount_0f7a4_16 zc2 ?_
  refine z_iushr C dJ6_bitCount_0f7a4_17 ?_
  refine z_ldcw C dJ6_bitCount_0f7a4_18 zw471 ?_
  refine z_iand C dJ6_bitCount_0f7a4_21 ?_
  refine z_iadd C dJ6_bitCount_0f7a4_22 ?_
  refine z_istore_n [] C dJ6_bitCount_0f7a4_23 h rfl (by decide) rfl (fun v2 h => ?_)
  refine z_iload_n C dJ6_bitCount_0f7a4_24 rfl (j := 0) rfl ?_
  refine z_iload_n C dJ6_bitCount_0f7a4_25 rfl (j := 0) rfl ?_
  refine z_iconst (v := 4) C dJ6_bitCount_0f7a4_26 zc4 ?_
  refine z_iushr C dJ6_bitCount_0f7a4_27 ?_
  refine z_iadd C dJ6_bitCount_0f7a4_28 ?_
  refine z_ldcw C dJ6_bitCount_0f7a4_29 zw472 ?_
  refine z_iand C dJ6_bitCount_0f7a4_32 ?_
  refine z_istore_n [] C dJ6_bitCount_0f7a4_33 h rfl (by decide) rfl (fun v3 h => ?_)
  refine z_iload_n C dJ6_bitCount_0f7a4_34 rfl (j := 0) rfl ?_
  refine z_iload_n C dJ6_bitCount_0f7a4_35 rfl (j := 0) rfl ?_
  refine z_bipush (v := 8) C dJ6_bitCount_0f7a4_36 zb8 ?_
  refine z_iushr C dJ6_bitCount_0f7a4_38 ?_
  refine z_iadd C dJ6_bitCount_0f7a4_39 ?_
  refine z_istore_n [] C dJ6_bitCount_0f7a4_40 h rfl (by decide) rfl (fun v4 h => ?_)
  refine z_iload_n C dJ6_bitCount_0f7a4_41 rfl (j := 0) rfl ?_
  refine z_iload_n C dJ6_bitCount_0f7a4_42 rfl (j := 0) rfl ?_
  refine z_bipush (v := 16) C dJ6_bitCount_0f7a4_43 zb16 ?_
  refine z_iushr C dJ6_bitCount_0f7a4_45 ?_
  refine z_iadd C dJ6_bitCount_0f7a4_46 ?_
  refine z_istore_n [] C dJ6_bitCount_0f7a4_47 h rfl (by decide) rfl (fun v5 h => ?_)
  refine z_iload_n C dJ6_bitCount_0f7a4_48 rfl (j := 0) rfl ?_
  refine z_bipush (v := 63) C dJ6_bitCount_0f7a4_49 zb63 ?_
  refine z_iand C dJ6_bitCount_0f7a4_51 ?_
  have e := Option.some.inj h; subst e; exact z_iret C dJ6_bitCount_0f7a4_52 Rq
-- X3_heatAt
def fX3_heatAt_j41 (b0 : Nat) (x2 : Int32) (x3 : Int32) (x4 : Int32) (k0 : Int32) (mem : ZM) : Option (Int32) :=
  zlet k0 (fun v4 => Option.bind (fJ6_bitCount_0f7a4 (x2 &&& x4)) (fun r5 => Option.bind (fJ6_bitCount_0f7a4 (x3 &&& x4)) (fun r6 => some ((((2 : Int32) * r5) + v4) + r6))))
set_option maxRecDepth 100000 in
set_option maxHeartbeats 4000000 in
theorem jX3_heatAt_41 {l : Launch} {E : ZE} {Γ : ZG} (C : zC E Γ RX3 cX3_heatAt 7 1) {b0 : Nat} (hb0 : zH b0) {x2 : Int32} {x3 : Int32} {x4 : Int32} {k0 : Int32}  {mem : ZM}  {t : Int32}  (Rq : zRq E Γ (some .int) (some (.int t)) mem) (h : fX3_heatAt_j41 b0 x2 x3 x4 k0 mem = some t) : zG l E Γ 7 41 [(2, .int x2), (3, .int x3), (4, .int x4)] [.int k0] mem := by
  unfold fX3_heatAt_j41 at h
  refine z_istore [(2, .int x2), (3, .int x3), (4, .int x4)] C dX3_heatAt_41 h (by decide) rfl (fun v4 h => ?_)
  refine z_iconst (v := 2) C dX3_heatAt_43 zc2 ?_
  refine z_iload_n C dX3_heatAt_44 rfl (j := 1) rfl ?_
  refine z_iload C dX3_heatAt_45 (j := 3) rfl ?_
  refine z_iand C dX3_heatAt_47 ?_
  obtain ⟨r5, h5, h⟩ := Option.bind_eq_some_iff.mp h
  refine z_callSi [.int (x2 &&& x4)] [.int (2 : Int32)] C dX3_heatAt_48 zk_X3_103 zw467 ⟨⟨by decide, by decide⟩, rfl, Nat.le_of_ble_eq_true rfl⟩ rfl (sJ6_bitCount_0f7a4  h5) ?_
  refine z_imul C dX3_heatAt_51 ?_
  refine z_iload C dX3_heatAt_52 (j := 0) rfl ?_
  refine z_iadd C dX3_heatAt_54 ?_
  refine z_iload_n C dX3_heatAt_55 rfl (j := 2) rfl ?_
  refine z_iload C dX3_heatAt_56 (j := 3) rfl ?_
  refine z_iand C dX3_heatAt_58 ?_
  obtain ⟨r6, h6, h⟩ := Option.bind_eq_some_iff.mp h
  refine z_callSi [.int (x3 &&& x4)] [.int (((2 : Int32) * r5) + v4)] C dX3_heatAt_59 zk_X3_103 zw467 ⟨⟨by decide, by decide⟩, rfl, Nat.le_of_ble_eq_true rfl⟩ rfl (sJ6_bitCount_0f7a4  h6) ?_
  refine z_iadd C dX3_heatAt_62 ?_
  have e := Option.some.inj h; subst e; exact z_iret C dX3_heatAt_63 Rq
def fX3_heatAt_j27 (b0 : Nat) (x2 : Int32) (x3 : Int32) (x4 : Int32) (k0 : Int32) (mem : ZM) : Option (Int32) :=
  zlet k0 (fun v3 => if (x2 &&& v3) = 0 then (fX3_heatAt_j41 b0 x2 x3 x4 (0 : Int32) mem) else (fX3_heatAt_j41 b0 x2 x3 x4 (1 : Int32) mem))
set_option maxRecDepth 100000 in
set_option maxHeartbeats 4000000 in
theorem jX3_heatAt_27 {l : Launch} {E : ZE} {Γ : ZG} (C : zC E Γ RX3 cX3_heatAt 7 1) {b0 : Nat} (hb0 : zH b0) {x2 : Int32} {x3 : Int32} {x4 : Int32} {k0 : Int32}  {mem : ZM}  {t : Int32}  (Rq : zRq E Γ (some .int) (some (.int t)) mem) (h : fX3_heatAt_j27 b0 x2 x3 x4 k0 mem = some t) : zG l E Γ 7 27 [(2, .int x2), (3, .int x3), (4, .int x4)] [.int k0] mem := by
  unfold fX3_heatAt_j27 at h
  refine z_istore [(2, .int x2), (3, .int x3), (4, .int x4)] C dX3_heatAt_27 h (by decide) rfl (fun v3 h => ?_)
  refine z_iload_n C dX3_heatAt_29 rfl (j := 1) rfl ?_
  refine z_iload C dX3_heatAt_30 (j := 0) rfl ?_
  refine z_iand C dX3_heatAt_32 ?_
  refine z_if_eq 40 C dX3_heatAt_33 (by decide) h (fun h => ?_) (fun h => ?_)
  · refine z_iconst (v := 0) C dX3_heatAt_40 zc0 ?_
    refine z_pick [1, 2, 3] rfl ?_
    exact jX3_heatAt_41 C hb0  Rq h
  · refine z_iconst (v := 1) C dX3_heatAt_36 zc1 ?_
    refine z_goto 41 C dX3_heatAt_37 (by decide) ?_
    refine z_pick [1, 2, 3] rfl ?_
    exact jX3_heatAt_41 C hb0  Rq h
def fX3_heatAt (b0 : Nat) (a1 : Int32) (a2 : Int32) (a3 : Int32) (mem : ZM) : Option (Int32) :=
  Option.bind (fX3_placesBeside a1) (fun r1 => zlet r1 (fun v2 => if (mem b0 7) = (1 : Int32) then (fX3_heatAt_j27 b0 a2 a3 v2 (((1 : Int32) <<< (a1 &&& 31)) >>> ((2 : Int32) &&& 31)) mem) else (fX3_heatAt_j27 b0 a2 a3 v2 (((1 : Int32) <<< (a1 &&& 31)) <<< ((2 : Int32) &&& 31)) mem)))
set_option maxRecDepth 100000 in
set_option maxHeartbeats 4000000 in
theorem sX3_heatAt {l : Launch} {E : ZE} {b0 : Nat} (hb0 : zH b0) {a1 : Int32} {a2 : Int32} {a3 : Int32} {mem : ZM} {t : Int32} (h : fX3_heatAt b0 a1 a2 a3 mem = some t) : zMet l E yX3_heatAt cX3_heatAt 7 (some .int) 1 [.ref (E.2.1 b0), .int a1, .int a2, .int a3] mem (some (.int t)) mem := by
  refine z_enter (by decide) (Nat.le_of_ble_eq_true rfl) (fun Γ C Rq => ?_)
  have C : zC E Γ RX3 cX3_heatAt 7 1 := C
  show zG l E Γ 7 0 [(0, .ref (E.2.1 b0)), (1, .int a1), (2, .int a2), (3, .int a3)] [] mem
  unfold fX3_heatAt at h
  refine z_iload_n C dX3_heatAt_0 rfl (j := 1) rfl ?_
  obtain ⟨r1, h1, h⟩ := Option.bind_eq_some_iff.mp h
  refine z_callSi [.int a1] [] C dX3_heatAt_1 zk_X3_100 zw460 ⟨⟨by decide, by decide⟩, rfl, Nat.le_of_ble_eq_true rfl⟩ rfl (sX3_placesBeside  h1) ?_
  refine z_istore [(0, .ref (E.2.1 b0)), (1, .int a1), (2, .int a2), (3, .int a3)] C dX3_heatAt_4 h (by decide) rfl (fun v2 h => ?_)
  refine z_aload_n C dX3_heatAt_6 rfl (j := 1) rfl ?_
  refine zg3_7 C dX3_heatAt_7 hb0 zw50 ?_
  refine z_iconst (v := 1) C dX3_heatAt_10 zc1 ?_
  refine z_icmp_ne 22 C dX3_heatAt_11 (by decide) h (fun h => ?_) (fun h => ?_)
  · refine z_iconst (v := 1) C dX3_heatAt_22 zc1 ?_
    refine z_iload_n C dX3_heatAt_23 rfl (j := 2) rfl ?_
    refine z_ishl C dX3_heatAt_24 ?_
    refine z_iconst (v := 2) C dX3_heatAt_25 zc2 ?_
    refine z_ishl C dX3_heatAt_26 ?_
    refine z_pick [3, 4, 0] rfl ?_
    exact jX3_heatAt_27 C hb0  Rq h
  · refine z_iconst (v := 1) C dX3_heatAt_14 zc1 ?_
    refine z_iload_n C dX3_heatAt_15 rfl (j := 2) rfl ?_
    refine z_ishl C dX3_heatAt_16 ?_
    refine z_iconst (v := 2) C dX3_heatAt_17 zc2 ?_
    refine z_ishr C dX3_heatAt_18 ?_
    refine z_goto 27 C dX3_heatAt_19 (by decide) ?_
    refine z_pick [3, 4, 0] rfl ?_
    exact jX3_heatAt_27 C hb0  Rq h
-- X3_isAsh
def fX3_isAsh (b0 : Nat) (a1 : Int32) (mem : ZM) : Option (Int32) :=
  zgd (zin a1 8) (if (mem (b0 + 2) a1.toNatClampNeg) = 0 then (some (1 : Int32)) else (some (0 : Int32)))
set_option maxRecDepth 100000 in
set_option maxHeartbeats 4000000 in
theorem sX3_isAsh {l : Launch} {E : ZE} {b0 : Nat} (hb0 : zH b0) {a1 : Int32} {mem : ZM} {t : Int32} (h : fX3_isAsh b0 a1 mem = some t) : zMet l E yX3_isAsh cX3_isAsh 2 (some .boolean) 0 [.ref (E.2.1 b0), .int a1] mem (some (.int t)) mem := by
  refine z_enter (by decide) (Nat.le_of_ble_eq_true rfl) (fun Γ C Rq => ?_)
  have C : zC E Γ RX3 cX3_isAsh 2 0 := C
  show zG l E Γ 2 0 [(0, .ref (E.2.1 b0)), (1, .int a1)] [] mem
  unfold fX3_isAsh at h
  refine z_aload_n C dX3_isAsh_0 rfl (j := 0) rfl ?_
  refine zg3_2 C dX3_isAsh_1 hb0 zw45 ?_
  refine z_iload_n C dX3_isAsh_4 rfl (j := 1) rfl ?_
  refine z_iald C dX3_isAsh_5 (zH_ar2 hb0) h (fun h => ?_)
  refine z_if_ne 13 C dX3_isAsh_6 (by decide) h (fun h => ?_) (fun h => ?_)
  · refine z_iconst (v := 0) C dX3_isAsh_13 zc0 ?_
    have e := Option.some.inj h; subst e; exact z_zret C dX3_isAsh_14 zbl0 Rq
  · refine z_iconst (v := 1) C dX3_isAsh_9 zc1 ?_
    refine z_goto 14 C dX3_isAsh_10 (by decide) ?_
    have e := Option.some.inj h; subst e; exact z_zret C dX3_isAsh_14 zbl1 Rq
-- X3_quench
def fX3_quench (b0 : Nat) (a1 : Int32) (mem : ZM) : Option (ZM) :=
  zlet (zst mem b0 5 ((mem b0 5) &&& (((1 : Int32) <<< (a1 &&& 31)) ^^^ (-1 : Int32)))) (fun m1 => some m1)
set_option maxRecDepth 100000 in
set_option maxHeartbeats 4000000 in
theorem sX3_quench {l : Launch} {E : ZE} {b0 : Nat} (hb0 : zH b0) {a1 : Int32} {mem : ZM} {t : ZM} (h : fX3_quench b0 a1 mem = some t) : zMet l E yX3_quench cX3_quench 2 none 0 [.ref (E.2.1 b0), .int a1] mem none t := by
  refine z_enter (by decide) (Nat.le_of_ble_eq_true rfl) (fun Γ C Rq => ?_)
  have C : zC E Γ RX3 cX3_quench 2 0 := C
  show zG l E Γ 2 0 [(0, .ref (E.2.1 b0)), (1, .int a1)] [] mem
  unfold fX3_quench at h
  refine z_aload_n C dX3_quench_0 rfl (j := 0) rfl ?_
  refine z_dup C dX3_quench_1 rfl ?_
  refine zg3_5 C dX3_quench_2 hb0 zw48 ?_
  refine z_iconst (v := 1) C dX3_quench_5 zc1 ?_
  refine z_iload_n C dX3_quench_6 rfl (j := 1) rfl ?_
  refine z_ishl C dX3_quench_7 ?_
  refine z_iconst (v := -1) C dX3_quench_8 zcm1 ?_
  refine z_ixor C dX3_quench_9 ?_
  refine z_iand C dX3_quench_10 ?_
  refine zp3_5 C dX3_quench_11 hb0 zw48 h (fun m1 h => ?_)
  have e := Option.some.inj h; subst e; exact z_vret C dX3_quench_14 Rq
-- X3_burnDown
def fX3_burnDown (b0 : Nat) (a1 : Int32) (mem : ZM) : Option (ZM) :=
  zgd (zin a1 8) (zlet (mem (b0 + 1) a1.toNatClampNeg) (fun v1 => zgd (zin a1 8) (zgd (zin v1 6) (zgd (zin a1 8) (zlet (zst mem (b0 + 2) a1.toNatClampNeg (if (0 : Int32) < ((mem (b0 + 2) a1.toNatClampNeg) - (zt1.getD v1.toNatClampNeg 0)) then ((mem (b0 + 2) a1.toNatClampNeg) - (zt1.getD v1.toNatClampNeg 0)) else (0 : Int32))) (fun m2 => zgd (zin v1 6) (zlet (zst m2 b0 8 (if ((m2 b0 8) + (zt2.getD v1.toNatClampNeg 0)) < (99999 : Int32) then ((m2 b0 8) + (zt2.getD v1.toNatClampNeg 0)) else (99999 : Int32))) (fun m3 => Option.bind (fX3_isAsh b0 a1 m3) (fun r4 => if r4 = 0 then (some m3) else (Option.bind (fX3_quench b0 a1 m3) (fun r5 => some r5)))))))))))
set_option maxRecDepth 100000 in
set_option maxHeartbeats 4000000 in
theorem sX3_burnDown {l : Launch} {E : ZE} {b0 : Nat} (hb0 : zH b0) {a1 : Int32} {mem : ZM} {t : ZM} (h : fX3_burnDown b0 a1 mem = some t) : zMet l E yX3_burnDown cX3_burnDown 3 none 1 [.ref (E.2.1 b0), .int a1] mem none t := by
  refine z_enter (by decide) (Nat.le_of_ble_eq_true rfl) (fun Γ C Rq => ?_)
  have C : zC E Γ RX3 cX3_burnDown 3 1 := C
  show zG l E Γ 3 0 [(0, .ref (E.2.1 b0)), (1, .int a1)] [] mem
  unfold fX3_burnDown at h
  refine z_aload_n C dX3_burnDown_0 rfl (j := 0) rfl ?_
  refine zg3_1 C dX3_burnDown_1 hb0 zw44 ?_
  refine z_iload_n C dX3_burnDown_4 rfl (j := 1) rfl ?_
  refine z_iald C dX3_burnDown_5 (zH_ar1 hb0) h (fun h => ?_)
  refine z_istore_n [(0, .ref (E.2.1 b0)), (1, .int a1)] C dX3_burnDown_6 h rfl (by decide) rfl (fun v1 h => ?_)
  refine z_aload_n C dX3_burnDown_7 rfl (j := 1) rfl ?_
  refine zg3_2 C dX3_burnDown_8 hb0 zw45 ?_
  refine z_iload_n C dX3_burnDown_11 rfl (j := 2) rfl ?_
  refine z_iconst (v := 0) C dX3_burnDown_12 zc0 ?_
  refine z_aload_n C dX3_burnDown_13 rfl (j := 1) rfl ?_
  refine zg3_2 C dX3_burnDown_14 hb0 zw45 ?_
  refine z_iload_n C dX3_burnDown_17 rfl (j := 2) rfl ?_
  refine z_iald C dX3_burnDown_18 (zH_ar2 hb0) h (fun h => ?_)
  refine z_getsN C dX3_burnDown_19 C.2.2.2.2.2.2.2.1.2.1.1 C.2.2.2.2.2.2.2.1.2.2.2.2.2.2.2.1 ?_
  refine z_iload_n C dX3_burnDown_22 rfl (j := 0) rfl ?_
  refine z_tald C dX3_burnDown_23 C.2.2.2.2.2.2.2.1.2.1.2 h (fun h => ?_)
  refine z_isub C dX3_burnDown_24 ?_
  refine z_mmax C dX3_burnDown_25 zw442 zw287 zw288 zw289 ⟨by decide, Nat.le_of_ble_eq_true rfl⟩ ?_
  refine z_iast C dX3_burnDown_28 (zH_ar2 hb0) h (fun m2 h => ?_)
  refine z_aload_n C dX3_burnDown_29 rfl (j := 1) rfl ?_
  refine z_ldc C dX3_burnDown_30 zw477 ?_
  refine z_aload_n C dX3_burnDown_32 rfl (j := 1) rfl ?_
  refine zg3_8 C dX3_burnDown_33 hb0 zw51 ?_
  refine z_getsN C dX3_burnDown_36 C.2.2.2.2.2.2.2.1.2.2.1.1 C.2.2.2.2.2.2.2.1.2.2.2.2.2.2.2.2 ?_
  refine z_iload_n C dX3_burnDown_39 rfl (j := 0) rfl ?_
  refine z_tald C dX3_burnDown_40 C.2.2.2.2.2.2.2.1.2.2.1.2 h (fun h => ?_)
  refine z_iadd C dX3_burnDown_41 ?_
  refine z_mmin C dX3_burnDown_42 zw478 zw291 zw288 zw292 ⟨by decide, Nat.le_of_ble_eq_true rfl⟩ ?_
  refine zp3_8 C dX3_burnDown_45 hb0 zw51 h (fun m3 h => ?_)
  refine z_aload_n C dX3_burnDown_48 rfl (j := 1) rfl ?_
  refine z_iload_n C dX3_burnDown_49 rfl (j := 2) rfl ?_
  obtain ⟨r4, h4, h⟩ := Option.bind_eq_some_iff.mp h
  refine z_callVi [.int a1] [] C dX3_burnDown_50 (zH_lt hb0) (zH_ent hb0) rfl zk_X3_52 zw480 zw481 ⟨⟨by decide, by decide⟩, rfl, Nat.le_of_ble_eq_true rfl⟩ rfl (sX3_isAsh hb0 h4) ?_
  refine z_if_eq 61 C dX3_burnDown_53 (by decide) h (fun h => ?_) (fun h => ?_)
  · have e := Option.some.inj h; subst e; exact z_vret C dX3_burnDown_61 Rq
  · refine z_aload_n C dX3_burnDown_56 rfl (j := 1) rfl ?_
    refine z_iload_n C dX3_burnDown_57 rfl (j := 2) rfl ?_
    obtain ⟨r5, h5, h⟩ := Option.bind_eq_some_iff.mp h
    refine z_callVv [.int a1] [] C dX3_burnDown_58 (zH_lt hb0) (zH_ent hb0) rfl zk_X3_74 zw484 zw485 ⟨⟨by decide, by decide⟩, rfl, Nat.le_of_ble_eq_true rfl⟩ rfl (sX3_quench hb0 h5) ?_
    have e := Option.some.inj h; subst e; exact z_vret C dX3_burnDown_61 Rq
-- X3_canBurn
def fX3_canBurn (b0 : Nat) (a1 : Int32) (mem : ZM) : Option (Int32) :=
  zgd (zin a1 8) (zgd (zin (mem (b0 + 1) a1.toNatClampNeg) 6) (if (zt1.getD (mem (b0 + 1) a1.toNatClampNeg).toNatClampNeg 0) ≤ 0 then (some (0 : Int32)) else (Option.bind (fX3_isAsh b0 a1 mem) (fun r1 => if r1 = 0 then (Option.bind (fX3_isOut b0 a1 mem) (fun r2 => if r2 = 0 then (some (1 : Int32)) else (some (0 : Int32)))) else (some (0 : Int32))))))
set_option maxRecDepth 100000 in
set_option maxHeartbeats 4000000 in
theorem sX3_canBurn {l : Launch} {E : ZE} {b0 : Nat} (hb0 : zH b0) {a1 : Int32} {mem : ZM} {t : Int32} (h : fX3_canBurn b0 a1 mem = some t) : zMet l E yX3_canBurn cX3_canBurn 2 (some .boolean) 1 [.ref (E.2.1 b0), .int a1] mem (some (.int t)) mem := by
  refine z_enter (by decide) (Nat.le_of_ble_eq_true rfl) (fun Γ C Rq => ?_)
  have C : zC E Γ RX3 cX3_canBurn 2 1 := C
  show zG l E Γ 2 0 [(0, .ref (E.2.1 b0)), (1, .int a1)] [] mem
  unfold fX3_canBurn at h
  refine z_getsN C dX3_canBurn_0 C.2.2.2.2.2.2.2.1.2.1.1 C.2.2.2.2.2.2.2.1.2.2.2.2.2.2.2.1 ?_
  refine z_aload_n C dX3_canBurn_3 rfl (j := 0) rfl ?_
  refine zg3_1 C dX3_canBurn_4 hb0 zw44 ?_
  refine z_iload_n C dX3_canBurn_7 rfl (j := 1) rfl ?_
  refine z_iald C dX3_canBurn_8 (zH_ar1 hb0) h (fun h => ?_)
  refine z_tald C dX3_canBurn_9 C.2.2.2.2.2.2.2.1.2.1.2 h (fun h => ?_)
  refine z_if_le 33 C dX3_canBurn_10 (by decide) h (fun h => ?_) (fun h => ?_)
  · refine z_iconst (v := 0) C dX3_canBurn_33 zc0 ?_
    have e := Option.some.inj h; subst e; exact z_zret C dX3_canBurn_34 zbl0 Rq
  · refine z_aload_n C dX3_canBurn_13 rfl (j := 0) rfl ?_
    refine z_iload_n C dX3_canBurn_14 rfl (j := 1) rfl ?_
    obtain ⟨r1, h1, h⟩ := Option.bind_eq_some_iff.mp h
    refine z_callVi [.int a1] [] C dX3_canBurn_15 (zH_lt hb0) (zH_ent hb0) rfl zk_X3_52 zw480 zw481 ⟨⟨by decide, by decide⟩, rfl, Nat.le_of_ble_eq_true rfl⟩ rfl (sX3_isAsh hb0 h1) ?_
    refine z_if_ne 33 C dX3_canBurn_18 (by decide) h (fun h => ?_) (fun h => ?_)
    · refine z_iconst (v := 0) C dX3_canBurn_33 zc0 ?_
      have e := Option.some.inj h; subst e; exact z_zret C dX3_canBurn_34 zbl0 Rq
    · refine z_aload_n C dX3_canBurn_21 rfl (j := 0) rfl ?_
      refine z_iload_n C dX3_canBurn_22 rfl (j := 1) rfl ?_
      obtain ⟨r2, h2, h⟩ := Option.bind_eq_some_iff.mp h
      refine z_callVi [.int a1] [] C dX3_canBurn_23 (zH_lt hb0) (zH_ent hb0) rfl zk_X3_56 zw456 zw457 ⟨⟨by decide, by decide⟩, rfl, Nat.le_of_ble_eq_true rfl⟩ rfl (sX3_isOut hb0 h2) ?_
      refine z_if_ne 33 C dX3_canBurn_26 (by decide) h (fun h => ?_) (fun h => ?_)
      · refine z_iconst (v := 0) C dX3_canBurn_33 zc0 ?_
        have e := Option.some.inj h; subst e; exact z_zret C dX3_canBurn_34 zbl0 Rq
      · refine z_iconst (v := 1) C dX3_canBurn_29 zc1 ?_
        refine z_goto 34 C dX3_canBurn_30 (by decide) ?_
        have e := Option.some.inj h; subst e; exact z_zret C dX3_canBurn_34 zbl1 Rq
-- X3_mayBeLit
def fX3_mayBeLit (b0 : Nat) (a1 : Int32) (mem : ZM) : Option (Int32) :=
  Option.bind (fX3_canBurn b0 a1 mem) (fun r1 => if r1 = 0 then (some (0 : Int32)) else (zgd (zin a1 8) (if (mem (b0 + 3) a1.toNatClampNeg) = 0 then (Option.bind (fX3_isLit b0 a1 mem) (fun r2 => if r2 = 0 then (some (1 : Int32)) else (some (0 : Int32)))) else (some (0 : Int32)))))
set_option maxRecDepth 100000 in
set_option maxHeartbeats 4000000 in
theorem sX3_mayBeLit {l : Launch} {E : ZE} {b0 : Nat} (hb0 : zH b0) {a1 : Int32} {mem : ZM} {t : Int32} (h : fX3_mayBeLit b0 a1 mem = some t) : zMet l E yX3_mayBeLit cX3_mayBeLit 2 (some .boolean) 2 [.ref (E.2.1 b0), .int a1] mem (some (.int t)) mem := by
  refine z_enter (by decide) (Nat.le_of_ble_eq_true rfl) (fun Γ C Rq => ?_)
  have C : zC E Γ RX3 cX3_mayBeLit 2 2 := C
  show zG l E Γ 2 0 [(0, .ref (E.2.1 b0)), (1, .int a1)] [] mem
  unfold fX3_mayBeLit at h
  refine z_aload_n C dX3_mayBeLit_0 rfl (j := 0) rfl ?_
  refine z_iload_n C dX3_mayBeLit_1 rfl (j := 1) rfl ?_
  obtain ⟨r1, h1, h⟩ := Option.bind_eq_some_iff.mp h
  refine z_callVi [.int a1] [] C dX3_mayBeLit_2 (zH_lt hb0) (zH_ent hb0) rfl zk_X3_59 zw492 zw493 ⟨⟨by decide, by decide⟩, rfl, Nat.le_of_ble_eq_true rfl⟩ rfl (sX3_canBurn hb0 h1) ?_
  refine z_if_eq 29 C dX3_mayBeLit_5 (by decide) h (fun h => ?_) (fun h => ?_)
  · refine z_iconst (v := 0) C dX3_mayBeLit_29 zc0 ?_
    have e := Option.some.inj h; subst e; exact z_zret C dX3_mayBeLit_30 zbl0 Rq
  · refine z_aload_n C dX3_mayBeLit_8 rfl (j := 0) rfl ?_
    refine zg3_3 C dX3_mayBeLit_9 hb0 zw46 ?_
    refine z_iload_n C dX3_mayBeLit_12 rfl (j := 1) rfl ?_
    refine z_iald C dX3_mayBeLit_13 (zH_ar3 hb0) h (fun h => ?_)
    refine z_if_ne 29 C dX3_mayBeLit_14 (by decide) h (fun h => ?_) (fun h => ?_)
    · refine z_iconst (v := 0) C dX3_mayBeLit_29 zc0 ?_
      have e := Option.some.inj h; subst e; exact z_zret C dX3_mayBeLit_30 zbl0 Rq
    · refine z_aload_n C dX3_mayBeLit_17 rfl (j := 0) rfl ?_
      refine z_iload_n C dX3_mayBeLit_18 rfl (j := 1) rfl ?_
      obtain ⟨r2, h2, h⟩ := Option.bind_eq_some_iff.mp h
      refine z_callVi [.int a1] [] C dX3_mayBeLit_19 (zH_lt hb0) (zH_ent hb0) rfl zk_X3_62 zw448 zw449 ⟨⟨by decide, by decide⟩, rfl, Nat.le_of_ble_eq_true rfl⟩ rfl (sX3_isLit hb0 h2) ?_
      refine z_if_ne 29 C dX3_mayBeLit_22 (by decide) h (fun h => ?_) (fun h => ?_)
      · refine z_iconst (v := 0) C dX3_mayBeLit_29 zc0 ?_
        have e := Option.some.inj h; subst e; exact z_zret C dX3_mayBeLit_30 zbl0 Rq
      · refine z_iconst (v := 1) C dX3_mayBeLit_25 zc1 ?_
        refine z_goto 30 C dX3_mayBeLit_26 (by decide) ?_
        have e := Option.some.inj h; subst e; exact z_zret C dX3_mayBeLit_30 zbl1 Rq
-- X3_passHour
def fX3_passHour_j121 (b0 : Nat) (y37_1 : Int32) (y37_2 : Int32) (y37_3 : Int32) (x4 : Int32) (x5 : Int32) (mem : ZM) : Option ((Int32 × ZM) ⊕ (Int32 × ZM)) :=
  zgd (zin x4 8) (zgd (zin x4 8) (zlet (zst mem (b0 + 3) x4.toNatClampNeg (if (0 : Int32) < ((mem (b0 + 3) x4.toNatClampNeg) - x5) then ((mem (b0 + 3) x4.toNatClampNeg) - x5) else (0 : Int32))) (fun m12 => zlet (x4 + (1 : Int32)) (fun v13 => some (Sum.inl (v13, m12))))))
set_option maxRecDepth 100000 in
set_option maxHeartbeats 4000000 in
theorem jX3_passHour_121 {l : Launch} {E : ZE} {Γ : ZG} (C : zC E Γ RX3 cX3_passHour 6 3) {b0 : Nat} (hb0 : zH b0) {y37_1 : Int32} {y37_2 : Int32} {y37_3 : Int32} {x4 : Int32} {x5 : Int32}  {mem : ZM}  {u : (Int32 × ZM) ⊕ (Int32 × ZM)}  (G1 : ∀ s', u = Sum.inl s' → zG l E Γ 6 37 [(0, .ref (E.2.1 b0)), (1, .int y37_1), (2, .int y37_2), (3, .int y37_3), (4, .int (s'.1))] [] s'.2) (G2 : ∀ s', u = Sum.inr s' → zG l E Γ 6 148 [] [] s'.2) (h : fX3_passHour_j121 b0 y37_1 y37_2 y37_3 x4 x5 mem = some u) : zG l E Γ 6 121 [(0, .ref (E.2.1 b0)), (1, .int y37_1), (2, .int y37_2), (3, .int y37_3), (4, .int x4), (5, .int x5)] [] mem := by
  unfold fX3_passHour_j121 at h
  refine z_aload_n C dX3_passHour_121 rfl (j := 0) rfl ?_
  refine zg3_3 C dX3_passHour_122 hb0 zw46 ?_
  refine z_iload C dX3_passHour_125 (j := 4) rfl ?_
  refine z_iconst (v := 0) C dX3_passHour_127 zc0 ?_
  refine z_aload_n C dX3_passHour_128 rfl (j := 0) rfl ?_
  refine zg3_3 C dX3_passHour_129 hb0 zw46 ?_
  refine z_iload C dX3_passHour_132 (j := 4) rfl ?_
  refine z_iald C dX3_passHour_134 (zH_ar3 hb0) h (fun h => ?_)
  refine z_iload C dX3_passHour_135 (j := 5) rfl ?_
  refine z_isub C dX3_passHour_137 ?_
  refine z_mmax C dX3_passHour_138 zw442 zw287 zw288 zw289 ⟨by decide, Nat.le_of_ble_eq_true rfl⟩ ?_
  refine z_iast C dX3_passHour_141 (zH_ar3 hb0) h (fun m12 h => ?_)
  refine z_iinc [(0, .ref (E.2.1 b0)), (1, .int y37_1), (2, .int y37_2), (3, .int y37_3), (5, .int x5)] C dX3_passHour_142 zc1 h (j := 4) rfl (by decide) rfl (fun v13 h => ?_)
  refine z_goto 37 C dX3_passHour_145 (by decide) ?_
  refine z_pick [1, 2, 3, 4, 0] rfl ?_
  exact G1 _ (Option.some.inj h).symm
def fX3_passHour_j72 (b0 : Nat) (y37_1 : Int32) (y37_2 : Int32) (y37_3 : Int32) (x4 : Int32) (k0 : Int32) (mem : ZM) : Option ((Int32 × ZM) ⊕ (Int32 × ZM)) :=
  zlet k0 (fun v11 => if ((y37_1 >>> (x4 &&& 31)) &&& (1 : Int32)) = (1 : Int32) then (Option.bind (fX3_burnDown b0 x4 mem) (fun r16 => fX3_passHour_j121 b0 y37_1 y37_2 y37_3 x4 v11 r16)) else (if v11 < (2 : Int32) then (fX3_passHour_j121 b0 y37_1 y37_2 y37_3 x4 v11 mem) else (Option.bind (fX3_mayBeLit b0 x4 mem) (fun r14 => if r14 = 0 then (fX3_passHour_j121 b0 y37_1 y37_2 y37_3 x4 v11 mem) else (zlet (zst mem b0 5 ((mem b0 5) ||| ((1 : Int32) <<< (x4 &&& 31)))) (fun m15 => fX3_passHour_j121 b0 y37_1 y37_2 y37_3 x4 v11 m15))))))
set_option maxRecDepth 100000 in
set_option maxHeartbeats 4000000 in
theorem jX3_passHour_72 {l : Launch} {E : ZE} {Γ : ZG} (C : zC E Γ RX3 cX3_passHour 6 3) {b0 : Nat} (hb0 : zH b0) {y37_1 : Int32} {y37_2 : Int32} {y37_3 : Int32} {x4 : Int32} {k0 : Int32}  {mem : ZM}  {u : (Int32 × ZM) ⊕ (Int32 × ZM)}  (G1 : ∀ s', u = Sum.inl s' → zG l E Γ 6 37 [(0, .ref (E.2.1 b0)), (1, .int y37_1), (2, .int y37_2), (3, .int y37_3), (4, .int (s'.1))] [] s'.2) (G2 : ∀ s', u = Sum.inr s' → zG l E Γ 6 148 [] [] s'.2) (h : fX3_passHour_j72 b0 y37_1 y37_2 y37_3 x4 k0 mem = some u) : zG l E Γ 6 72 [(0, .ref (E.2.1 b0)), (1, .int y37_1), (2, .int y37_2), (3, .int y37_3), (4, .int x4)] [.int k0] mem := by
  unfold fX3_passHour_j72 at h
  refine z_istore [(0, .ref (E.2.1 b0)), (1, .int y37_1), (2, .int y37_2), (3, .int y37_3), (4, .int x4)] C dX3_passHour_72 h (by decide) rfl (fun v11 h => ?_)
  refine z_iload_n C dX3_passHour_74 rfl (j := 2) rfl ?_
  refine z_iload C dX3_passHour_75 (j := 5) rfl ?_
  refine z_ishr C dX3_passHour_77 ?_
  refine z_iconst (v := 1) C dX3_passHour_78 zc1 ?_
  refine z_iand C dX3_passHour_79 ?_
  refine z_iconst (v := 1) C dX3_passHour_80 zc1 ?_
  refine z_icmp_ne 93 C dX3_passHour_81 (by decide) h (fun h => ?_) (fun h => ?_)
  · refine z_iload C dX3_passHour_93 (j := 0) rfl ?_
    refine z_iconst (v := 2) C dX3_passHour_95 zc2 ?_
    refine z_icmp_lt 121 C dX3_passHour_96 (by decide) h (fun h => ?_) (fun h => ?_)
    · refine z_pick [1, 2, 3, 4, 5, 0] rfl ?_
      exact jX3_passHour_121 C hb0  G1 G2 h
    · refine z_aload_n C dX3_passHour_99 rfl (j := 1) rfl ?_
      refine z_iload C dX3_passHour_100 (j := 5) rfl ?_
      obtain ⟨r14, h14, h⟩ := Option.bind_eq_some_iff.mp h
      refine z_callVi [.int x4] [] C dX3_passHour_102 (zH_lt hb0) (zH_ent hb0) rfl zk_X3_65 zw488 zw489 ⟨⟨by decide, by decide⟩, rfl, Nat.le_of_ble_eq_true rfl⟩ rfl (sX3_mayBeLit hb0 h14) ?_
      refine z_if_eq 121 C dX3_passHour_105 (by decide) h (fun h => ?_) (fun h => ?_)
      · refine z_pick [1, 2, 3, 4, 5, 0] rfl ?_
        exact jX3_passHour_121 C hb0  G1 G2 h
      · refine z_aload_n C dX3_passHour_108 rfl (j := 1) rfl ?_
        refine z_dup C dX3_passHour_109 rfl ?_
        refine zg3_5 C dX3_passHour_110 hb0 zw48 ?_
        refine z_iconst (v := 1) C dX3_passHour_113 zc1 ?_
        refine z_iload C dX3_passHour_114 (j := 5) rfl ?_
        refine z_ishl C dX3_passHour_116 ?_
        refine z_ior C dX3_passHour_117 ?_
        refine zp3_5 C dX3_passHour_118 hb0 zw48 h (fun m15 h => ?_)
        refine z_pick [1, 2, 3, 4, 5, 0] rfl ?_
        exact jX3_passHour_121 C hb0  G1 G2 h
  · refine z_aload_n C dX3_passHour_84 rfl (j := 1) rfl ?_
    refine z_iload C dX3_passHour_85 (j := 5) rfl ?_
    obtain ⟨r16, h16, h⟩ := Option.bind_eq_some_iff.mp h
    refine z_callVv [.int x4] [] C dX3_passHour_87 (zH_lt hb0) (zH_ent hb0) rfl zk_X3_90 zw474 zw475 ⟨⟨by decide, by decide⟩, rfl, Nat.le_of_ble_eq_true rfl⟩ rfl (sX3_burnDown hb0 h16) ?_
    refine z_goto 121 C dX3_passHour_90 (by decide) ?_
    refine z_pick [1, 2, 3, 4, 5, 0] rfl ?_
    exact jX3_passHour_121 C hb0  G1 G2 h
def fX3_passHour_b37 (b0 : Nat) (y37_1 : Int32) (y37_2 : Int32) (y37_3 : Int32) (x37_4 : Int32) (memb : ZM) : Option ((Int32 × ZM) ⊕ (Int32 × ZM)) :=
  if (memb b0 0) ≤ x37_4 then (some (Sum.inr (x37_4, memb))) else (Option.bind (fX3_isOut b0 x37_4 memb) (fun r9 => if r9 = 0 then (zgd (zin x37_4 8) (Option.bind (fX3_heatAt b0 (memb (b0 + 4) x37_4.toNatClampNeg) y37_2 y37_3 memb) (fun r10 => fX3_passHour_j72 b0 y37_1 y37_2 y37_3 x37_4 r10 memb))) else (fX3_passHour_j72 b0 y37_1 y37_2 y37_3 x37_4 (0 : Int32) memb)))
def fX3_passHour_l37 (b0 : Nat) (y37_1 : Int32) (y37_2 : Int32) (y37_3 : Int32) (s : Int32 × ZM) : Option (Int32 × ZM) := ziter (fun s => fX3_passHour_b37 b0 y37_1 y37_2 y37_3 s.1 s.2) 2000 s
set_option maxRecDepth 100000 in
set_option maxHeartbeats 4000000 in
theorem bX3_passHour_37 {l : Launch} {E : ZE} {Γ : ZG} (C : zC E Γ RX3 cX3_passHour 6 3) {b0 : Nat} (hb0 : zH b0) {y37_1 : Int32} {y37_2 : Int32} {y37_3 : Int32} {x37_4 : Int32} {memb : ZM} {u : (Int32 × ZM) ⊕ (Int32 × ZM)} (G1 : ∀ s', u = Sum.inl s' → zG l E Γ 6 37 [(0, .ref (E.2.1 b0)), (1, .int y37_1), (2, .int y37_2), (3, .int y37_3), (4, .int (s'.1))] [] s'.2) (G2 : ∀ s', u = Sum.inr s' → zG l E Γ 6 148 [] [] s'.2) (h : fX3_passHour_b37 b0 y37_1 y37_2 y37_3 x37_4 memb = some u) : zG l E Γ 6 37 [(0, .ref (E.2.1 b0)), (1, .int y37_1), (2, .int y37_2), (3, .int y37_3), (4, .int x37_4)] [] memb := by
  unfold fX3_passHour_b37 at h
  refine z_iload C dX3_passHour_37 (j := 4) rfl ?_
  refine z_aload_n C dX3_passHour_39 rfl (j := 0) rfl ?_
  refine zg3_0 C dX3_passHour_40 hb0 zw42 ?_
  refine z_icmp_ge 148 C dX3_passHour_43 (by decide) h (fun h => ?_) (fun h => ?_)
  · refine z_pick [] rfl ?_
    exact G2 _ (Option.some.inj h).symm
  · refine z_aload_n C dX3_passHour_46 rfl (j := 0) rfl ?_
    refine z_iload C dX3_passHour_47 (j := 4) rfl ?_
    obtain ⟨r9, h9, h⟩ := Option.bind_eq_some_iff.mp h
    refine z_callVi [.int x37_4] [] C dX3_passHour_49 (zH_lt hb0) (zH_ent hb0) rfl zk_X3_56 zw456 zw457 ⟨⟨by decide, by decide⟩, rfl, Nat.le_of_ble_eq_true rfl⟩ rfl (sX3_isOut hb0 h9) ?_
    refine z_if_eq 59 C dX3_passHour_52 (by decide) h (fun h => ?_) (fun h => ?_)
    · refine z_aload_n C dX3_passHour_59 rfl (j := 0) rfl ?_
      refine z_aload_n C dX3_passHour_60 rfl (j := 0) rfl ?_
      refine zg3_4 C dX3_passHour_61 hb0 zw47 ?_
      refine z_iload C dX3_passHour_64 (j := 4) rfl ?_
      refine z_iald C dX3_passHour_66 (zH_ar4 hb0) h (fun h => ?_)
      refine z_iload_n C dX3_passHour_67 rfl (j := 2) rfl ?_
      refine z_iload_n C dX3_passHour_68 rfl (j := 3) rfl ?_
      obtain ⟨r10, h10, h⟩ := Option.bind_eq_some_iff.mp h
      refine z_callVi [.int (memb (b0 + 4) x37_4.toNatClampNeg), .int y37_2, .int y37_3] [] C dX3_passHour_69 (zH_lt hb0) (zH_ent hb0) rfl zk_X3_86 zw463 zw464 ⟨⟨by decide, by decide⟩, rfl, Nat.le_of_ble_eq_true rfl⟩ rfl (sX3_heatAt hb0 h10) ?_
      refine z_pick [0, 1, 2, 3, 4] rfl ?_
      exact jX3_passHour_72 C hb0  G1 G2 h
    · refine z_iconst (v := 0) C dX3_passHour_55 zc0 ?_
      refine z_goto 72 C dX3_passHour_56 (by decide) ?_
      refine z_pick [0, 1, 2, 3, 4] rfl ?_
      exact jX3_passHour_72 C hb0  G1 G2 h
theorem lX3_passHour_37 {l : Launch} {E : ZE} {Γ : ZG} (C : zC E Γ RX3 cX3_passHour 6 3) {b0 : Nat} (hb0 : zH b0) {y37_1 : Int32} {y37_2 : Int32} {y37_3 : Int32} {s : Int32 × ZM} {r : Int32 × ZM} (h : fX3_passHour_l37 b0 y37_1 y37_2 y37_3 s = some r) (K1 : zG l E Γ 6 148 [] [] r.2) : zG l E Γ 6 37 [(0, .ref (E.2.1 b0)), (1, .int y37_1), (2, .int y37_2), (3, .int y37_3), (4, .int s.1)] [] s.2 :=
  z_loop (body := fun s => fX3_passHour_b37 b0 y37_1 y37_2 y37_3 s.1 s.2) (fun s => zG l E Γ 6 37 [(0, .ref (E.2.1 b0)), (1, .int y37_1), (2, .int y37_2), (3, .int y37_3), (4, .int s.1)] [] s.2) (fun r => zG l E Γ 6 148 [] [] r.2) (fun s u hb g1 g2 => bX3_passHour_37 C hb0 g1 g2 hb) 2000 s r h K1
def fX3_passHour (b0 : Nat)  (mem : ZM) : Option (ZM) :=
  zlet (zst mem b0 9 ((mem b0 9) + (1 : Int32))) (fun m1 => if (m1 b0 5) = 0 then (some m1) else (zlet (m1 b0 5) (fun v2 => Option.bind (fX3_placesLit b0 m1) (fun r3 => zlet r3 (fun v4 => Option.bind (fX3_placesOfHotIron b0 v4 m1) (fun r5 => zlet r5 (fun v6 => zlet (0 : Int32) (fun v7 => Option.bind (fX3_passHour_l37 b0 v2 v4 v6 (v7, m1)) (fun r8 => some r8.2)))))))))
set_option maxRecDepth 100000 in
set_option maxHeartbeats 4000000 in
theorem sX3_passHour {l : Launch} {E : ZE} {b0 : Nat} (hb0 : zH b0)  {mem : ZM} {t : ZM} (h : fX3_passHour b0 mem = some t) : zMet l E yX3_passHour cX3_passHour 6 none 3 [.ref (E.2.1 b0)] mem none t := by
  refine z_enter (by decide) (Nat.le_of_ble_eq_true rfl) (fun Γ C Rq => ?_)
  have C : zC E Γ RX3 cX3_passHour 6 3 := C
  show zG l E Γ 6 0 [(0, .ref (E.2.1 b0))] [] mem
  unfold fX3_passHour at h
  refine z_aload_n C dX3_passHour_0 rfl (j := 0) rfl ?_
  refine z_dup C dX3_passHour_1 rfl ?_
  refine zg3_9 C dX3_passHour_2 hb0 zw52 ?_
  refine z_iconst (v := 1) C dX3_passHour_5 zc1 ?_
  refine z_iadd C dX3_passHour_6 ?_
  refine zp3_9 C dX3_passHour_7 hb0 zw52 h (fun m1 h => ?_)
  refine z_aload_n C dX3_passHour_10 rfl (j := 0) rfl ?_
  refine zg3_5 C dX3_passHour_11 hb0 zw48 ?_
  refine z_if_ne 18 C dX3_passHour_14 (by decide) h (fun h => ?_) (fun h => ?_)
  · refine z_aload_n C dX3_passHour_18 rfl (j := 0) rfl ?_
    refine zg3_5 C dX3_passHour_19 hb0 zw48 ?_
    refine z_istore_n [(0, .ref (E.2.1 b0))] C dX3_passHour_22 h rfl (by decide) rfl (fun v2 h => ?_)
    refine z_aload_n C dX3_passHour_23 rfl (j := 1) rfl ?_
    obtain ⟨r3, h3, h⟩ := Option.bind_eq_some_iff.mp h
    refine z_callVi [] [] C dX3_passHour_24 (zH_lt hb0) (zH_ent hb0) rfl zk_X3_78 zw444 zw445 ⟨⟨by decide, by decide⟩, rfl, Nat.le_of_ble_eq_true rfl⟩ rfl (sX3_placesLit hb0 h3) ?_
    refine z_istore_n [(1, .int v2), (0, .ref (E.2.1 b0))] C dX3_passHour_27 h rfl (by decide) rfl (fun v4 h => ?_)
    refine z_aload_n C dX3_passHour_28 rfl (j := 2) rfl ?_
    refine z_iload_n C dX3_passHour_29 rfl (j := 0) rfl ?_
    obtain ⟨r5, h5, h⟩ := Option.bind_eq_some_iff.mp h
    refine z_callVi [.int v4] [] C dX3_passHour_30 (zH_lt hb0) (zH_ent hb0) rfl zk_X3_82 zw452 zw453 ⟨⟨by decide, by decide⟩, rfl, Nat.le_of_ble_eq_true rfl⟩ rfl (sX3_placesOfHotIron hb0 h5) ?_
    refine z_istore_n [(2, .int v4), (1, .int v2), (0, .ref (E.2.1 b0))] C dX3_passHour_33 h rfl (by decide) rfl (fun v6 h => ?_)
    refine z_iconst (v := 0) C dX3_passHour_34 zc0 ?_
    refine z_istore [(3, .int v6), (2, .int v4), (1, .int v2), (0, .ref (E.2.1 b0))] C dX3_passHour_35 h (by decide) rfl (fun v7 h => ?_)
    obtain ⟨r8, h8, h⟩ := Option.bind_eq_some_iff.mp h
    refine z_pick [4, 3, 2, 1, 0] rfl ?_
    refine lX3_passHour_37 C hb0 h8 ?_
    have e := Option.some.inj h; subst e; exact z_vret C dX3_passHour_148 Rq
  · have e := Option.some.inj h; subst e; exact z_vret C dX3_passHour_17 Rq
-- X2_tryHours
def fX2_tryHours_b2  (y2_1 : Int32) (x2_2 : Int32) (memb : ZM) : Option ((Int32 × ZM) ⊕ (Int32 × ZM)) :=
  if y2_1 ≤ x2_2 then (some (Sum.inr (x2_2, memb))) else (if (memb 37 5) = 0 then (some (Sum.inr (x2_2, memb))) else (Option.bind (fX3_passHour 37 memb) (fun r3 => zlet (x2_2 + (1 : Int32)) (fun v4 => some (Sum.inl (v4, r3))))))
def fX2_tryHours_l2  (y2_1 : Int32) (s : Int32 × ZM) : Option (Int32 × ZM) := ziter (fun s => fX2_tryHours_b2 y2_1 s.1 s.2) 2000 s
set_option maxRecDepth 100000 in
set_option maxHeartbeats 4000000 in
theorem bX2_tryHours_2 {l : Launch} {E : ZE} {Γ : ZG} (C : zC E Γ RX2 cX2_tryHours 3 4)  {y2_1 : Int32} {x2_2 : Int32} {memb : ZM} {u : (Int32 × ZM) ⊕ (Int32 × ZM)} (G1 : ∀ s', u = Sum.inl s' → zG l E Γ 3 2 [(0, .ref (E.2.1 14)), (1, .int y2_1), (2, .int (s'.1))] [] s'.2) (G2 : ∀ s', u = Sum.inr s' → zG l E Γ 3 30 [] [] s'.2) (h : fX2_tryHours_b2 y2_1 x2_2 memb = some u) : zG l E Γ 3 2 [(0, .ref (E.2.1 14)), (1, .int y2_1), (2, .int x2_2)] [] memb := by
  unfold fX2_tryHours_b2 at h
  refine z_iload_n C dX2_tryHours_2 rfl (j := 2) rfl ?_
  refine z_iload_n C dX2_tryHours_3 rfl (j := 1) rfl ?_
  refine z_icmp_ge 30 C dX2_tryHours_4 (by decide) h (fun h => ?_) (fun h => ?_)
  · refine z_pick [] rfl ?_
    exact G2 _ (Option.some.inj h).symm
  · refine z_aload_n C dX2_tryHours_7 rfl (j := 0) rfl ?_
    refine zg2_0 C dX2_tryHours_8 zw78 ?_
    refine zg3_5 C dX2_tryHours_11 zH37 zw683 ?_
    refine z_if_eq 30 C dX2_tryHours_14 (by decide) h (fun h => ?_) (fun h => ?_)
    · refine z_pick [] rfl ?_
      exact G2 _ (Option.some.inj h).symm
    · refine z_aload_n C dX2_tryHours_17 rfl (j := 0) rfl ?_
      refine zg2_0 C dX2_tryHours_18 zw78 ?_
      obtain ⟨r3, h3, h⟩ := Option.bind_eq_some_iff.mp h
      refine z_callVv [] [] C dX2_tryHours_21 (zH_lt zH37) (zH_ent zH37) rfl zk_X2_34 zw439 zw440 ⟨⟨by decide, by decide⟩, rfl, Nat.le_of_ble_eq_true rfl⟩ rfl (sX3_passHour zH37 h3) ?_
      refine z_iinc [(0, .ref (E.2.1 14)), (1, .int y2_1)] C dX2_tryHours_24 zc1 h (j := 2) rfl (by decide) rfl (fun v4 h => ?_)
      refine z_goto 2 C dX2_tryHours_27 (by decide) ?_
      refine z_pick [1, 2, 0] rfl ?_
      exact G1 _ (Option.some.inj h).symm
theorem lX2_tryHours_2 {l : Launch} {E : ZE} {Γ : ZG} (C : zC E Γ RX2 cX2_tryHours 3 4)  {y2_1 : Int32} {s : Int32 × ZM} {r : Int32 × ZM} (h : fX2_tryHours_l2 y2_1 s = some r) (K1 : zG l E Γ 3 30 [] [] r.2) : zG l E Γ 3 2 [(0, .ref (E.2.1 14)), (1, .int y2_1), (2, .int s.1)] [] s.2 :=
  z_loop (body := fun s => fX2_tryHours_b2 y2_1 s.1 s.2) (fun s => zG l E Γ 3 2 [(0, .ref (E.2.1 14)), (1, .int y2_1), (2, .int s.1)] [] s.2) (fun r => zG l E Γ 3 30 [] [] r.2) (fun s u hb g1 g2 => bX2_tryHours_2 C  g1 g2 hb) 2000 s r h K1
def fX2_tryHours  (a1 : Int32) (mem : ZM) : Option (ZM) :=
  zlet (0 : Int32) (fun v1 => Option.bind (fX2_tryHours_l2 a1 (v1, mem)) (fun r2 => some r2.2))
set_option maxRecDepth 100000 in
set_option maxHeartbeats 4000000 in
theorem sX2_tryHours {l : Launch} {E : ZE}  {a1 : Int32} {mem : ZM} {t : ZM} (h : fX2_tryHours a1 mem = some t) : zMet l E yX2_tryHours cX2_tryHours 3 none 4 [.ref (E.2.1 14), .int a1] mem none t := by
  refine z_enter (by decide) (Nat.le_of_ble_eq_true rfl) (fun Γ C Rq => ?_)
  have C : zC E Γ RX2 cX2_tryHours 3 4 := C
  show zG l E Γ 3 0 [(0, .ref (E.2.1 14)), (1, .int a1)] [] mem
  unfold fX2_tryHours at h
  refine z_iconst (v := 0) C dX2_tryHours_0 zc0 ?_
  refine z_istore_n [(0, .ref (E.2.1 14)), (1, .int a1)] C dX2_tryHours_1 h rfl (by decide) rfl (fun v1 h => ?_)
  obtain ⟨r2, h2, h⟩ := Option.bind_eq_some_iff.mp h
  refine z_pick [1, 2, 0] rfl ?_
  refine lX2_tryHours_2 C  h2 ?_
  have e := Option.some.inj h; subst e; exact z_vret C dX2_tryHours_30 Rq
