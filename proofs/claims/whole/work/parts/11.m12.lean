-- X7_status
def fX7_status   (mem : ZM) : Option (Int32) :=
  some (mem 58 3)
set_option maxRecDepth 100000 in
set_option maxHeartbeats 4000000 in
theorem sX7_status {l : Launch} {E : ZE}   {mem : ZM} {t : Int32} (h : fX7_status mem = some t) : zMet l E yX7_status cX7_status 1 (some .int) 0 [.ref (E.2.1 58)] mem (some (.int t)) mem := by
  refine z_enter (by decide) (Nat.le_of_ble_eq_true rfl) (fun Γ C Rq => ?_)
  have C : zC E Γ RX7 cX7_status 1 0 := C
  show zG l E Γ 1 0 [(0, .ref (E.2.1 58))] [] mem
  unfold fX7_status at h
  refine z_aload_n C dX7_status_0 rfl (j := 0) rfl ?_
  refine zg7_3 C dX7_status_1 zw153 ?_
  have e := Option.some.inj h; subst e; exact z_iret C dX7_status_4 Rq
-- X1_body12_0
def fX1_body12_0  (a1 : Int32) (mem : ZM) : Option (Int32 × ZM) :=
  Option.bind (fX1_leaveTrace (12 : Int32) mem) (fun r1 => none)
set_option maxRecDepth 100000 in
set_option maxHeartbeats 4000000 in
theorem sX1_body12_0 {l : Launch} {E : ZE}  {a1 : Int32} {mem : ZM} {t : Int32 × ZM} (h : fX1_body12_0 a1 mem = some t) : zMet l E yX1_body12 cX1_body12 2 (some .int) 1 [.ref (E.2.1 15), .int a1] mem (some (.int t.1)) t.2 := by
  refine z_enter (by decide) (Nat.le_of_ble_eq_true rfl) (fun Γ C Rq => ?_)
  have C : zC E Γ RX1 cX1_body12 2 1 := C
  show zG l E Γ 2 0 [(0, .ref (E.2.1 15)), (1, .int a1)] [] mem
  unfold fX1_body12_0 at h
  refine z_aload_n C dX1_body12_0 rfl (j := 0) rfl ?_
  refine z_bipush (v := 12) C dX1_body12_1 zb12 ?_
  obtain ⟨r1, h1, h⟩ := Option.bind_eq_some_iff.mp h
  refine z_callVv [.int (12 : Int32)] [] C dX1_body12_3 (by decide) zen_15 rfl zk_X1_78 zw1000 zw1001 ⟨⟨by decide, by decide⟩, rfl, Nat.le_of_ble_eq_true rfl⟩ rfl (sX1_leaveTrace  h1) ?_
  refine z_aload_n C dX1_body12_6 rfl (j := 0) rfl ?_
  refine z_iload_n C dX1_body12_7 rfl (j := 1) rfl ?_
  cases h
-- X1_askSize_1
def fX1_askSize_1  (a1 : Int32) (mem : ZM) : Option (Int32 × ZM) :=
  if a1 ≤ (16 : Int32) then (if (mem 15 3) = (1 : Int32) then (Option.bind (fX1_body11_0 (a1 + (1 : Int32)) mem) (fun r2 => some (r2.1, r2.2))) else if (mem 15 3) = (2 : Int32) then (Option.bind (fX1_body12_0 (a1 + (1 : Int32)) mem) (fun r4 => some (r4.1, r4.2))) else if (mem 15 3) = (3 : Int32) then (Option.bind (fX1_body11_0 (a1 + (1 : Int32)) mem) (fun r6 => some (r6.1, r6.2))) else if (mem 15 3) = (4 : Int32) then (Option.bind (fX1_body13 mem) (fun r8 => some (r8.1, r8.2))) else if (mem 15 3) = (5 : Int32) then (Option.bind (fX1_body14 mem) (fun r10 => some (r10.1, r10.2))) else (Option.bind (fX1_body10 mem) (fun r11 => some (r11.1, r11.2)))) else (some ((0 : Int32), mem))
set_option maxRecDepth 100000 in
set_option maxHeartbeats 4000000 in
theorem sX1_askSize_1 {l : Launch} {E : ZE}  {a1 : Int32} {mem : ZM} {t : Int32 × ZM} (h : fX1_askSize_1 a1 mem = some t) : zMet l E yX1_askSize cX1_askSize 2 (some .int) 4 [.ref (E.2.1 15), .int a1] mem (some (.int t.1)) t.2 := by
  refine z_enter (by decide) (Nat.le_of_ble_eq_true rfl) (fun Γ C Rq => ?_)
  have C : zC E Γ RX1 cX1_askSize 2 4 := C
  show zG l E Γ 2 0 [(0, .ref (E.2.1 15)), (1, .int a1)] [] mem
  unfold fX1_askSize_1 at h
  refine z_iload_n C dX1_askSize_0 rfl (j := 1) rfl ?_
  refine z_bipush (v := 16) C dX1_askSize_1 zb16 ?_
  refine z_icmp_le 8 C dX1_askSize_3 (by decide) h (fun h => ?_) (fun h => ?_)
  · refine z_aload_n C dX1_askSize_8 rfl (j := 0) rfl ?_
    refine zg1_3 C dX1_askSize_9 zw85 ?_
    by_cases c1 : (mem 15 3) = (1 : Int32)
    · rw [if_pos c1] at h
      refine z_swIn (off := 36) 48 C dX1_askSize_12 1 c1 (by decide) (by decide) (by decide) (by decide) ?_
      refine z_aload_n C dX1_askSize_48 rfl (j := 0) rfl ?_
      refine z_iload_n C dX1_askSize_49 rfl (j := 1) rfl ?_
      refine z_iconst (v := 1) C dX1_askSize_50 zc1 ?_
      refine z_iadd C dX1_askSize_51 ?_
      obtain ⟨r2, h2, h⟩ := Option.bind_eq_some_iff.mp h
      refine z_callVi [.int (a1 + (1 : Int32))] [] C dX1_askSize_52 (by decide) zen_15 rfl zk_X1_47 zw990 zw991 ⟨⟨by decide, by decide⟩, rfl, Nat.le_of_ble_eq_true rfl⟩ rfl (sX1_body11_0  h2) ?_
      have e := Option.some.inj h; subst e; exact z_iret C dX1_askSize_55 Rq
    rw [if_neg c1] at h
    have nc1 : ((mem 15 3)).toInt ≠ 1 := zne c1
    by_cases c3 : (mem 15 3) = (2 : Int32)
    · rw [if_pos c3] at h
      refine z_swIn (off := 44) 56 C dX1_askSize_12 2 c3 (by decide) (by decide) (by decide) (by decide) ?_
      refine z_aload_n C dX1_askSize_56 rfl (j := 0) rfl ?_
      refine z_iload_n C dX1_askSize_57 rfl (j := 1) rfl ?_
      refine z_iconst (v := 1) C dX1_askSize_58 zc1 ?_
      refine z_iadd C dX1_askSize_59 ?_
      obtain ⟨r4, h4, h⟩ := Option.bind_eq_some_iff.mp h
      refine z_callVi [.int (a1 + (1 : Int32))] [] C dX1_askSize_60 (by decide) zen_15 rfl zk_X1_50 zw993 zw994 ⟨⟨by decide, by decide⟩, rfl, Nat.le_of_ble_eq_true rfl⟩ rfl (sX1_body12_0  h4) ?_
      have e := Option.some.inj h; subst e; exact z_iret C dX1_askSize_63 Rq
    rw [if_neg c3] at h
    have nc3 : ((mem 15 3)).toInt ≠ 2 := zne c3
    by_cases c5 : (mem 15 3) = (3 : Int32)
    · rw [if_pos c5] at h
      refine z_swIn (off := 36) 48 C dX1_askSize_12 3 c5 (by decide) (by decide) (by decide) (by decide) ?_
      refine z_aload_n C dX1_askSize_48 rfl (j := 0) rfl ?_
      refine z_iload_n C dX1_askSize_49 rfl (j := 1) rfl ?_
      refine z_iconst (v := 1) C dX1_askSize_50 zc1 ?_
      refine z_iadd C dX1_askSize_51 ?_
      obtain ⟨r6, h6, h⟩ := Option.bind_eq_some_iff.mp h
      refine z_callVi [.int (a1 + (1 : Int32))] [] C dX1_askSize_52 (by decide) zen_15 rfl zk_X1_47 zw990 zw991 ⟨⟨by decide, by decide⟩, rfl, Nat.le_of_ble_eq_true rfl⟩ rfl (sX1_body11_0  h6) ?_
      have e := Option.some.inj h; subst e; exact z_iret C dX1_askSize_55 Rq
    rw [if_neg c5] at h
    have nc5 : ((mem 15 3)).toInt ≠ 3 := zne c5
    by_cases c7 : (mem 15 3) = (4 : Int32)
    · rw [if_pos c7] at h
      refine z_swIn (off := 52) 64 C dX1_askSize_12 4 c7 (by decide) (by decide) (by decide) (by decide) ?_
      refine z_aload_n C dX1_askSize_64 rfl (j := 0) rfl ?_
      obtain ⟨r8, h8, h⟩ := Option.bind_eq_some_iff.mp h
      refine z_callVi [] [] C dX1_askSize_65 (by decide) zen_15 rfl zk_X1_53 zw996 zw997 ⟨⟨by decide, by decide⟩, rfl, Nat.le_of_ble_eq_true rfl⟩ rfl (sX1_body13  h8) ?_
      have e := Option.some.inj h; subst e; exact z_iret C dX1_askSize_68 Rq
    rw [if_neg c7] at h
    have nc7 : ((mem 15 3)).toInt ≠ 4 := zne c7
    by_cases c9 : (mem 15 3) = (5 : Int32)
    · rw [if_pos c9] at h
      refine z_swIn (off := 57) 69 C dX1_askSize_12 5 c9 (by decide) (by decide) (by decide) (by decide) ?_
      refine z_aload_n C dX1_askSize_69 rfl (j := 0) rfl ?_
      obtain ⟨r10, h10, h⟩ := Option.bind_eq_some_iff.mp h
      refine z_callVi [] [] C dX1_askSize_70 (by decide) zen_15 rfl zk_X1_57 zw1008 zw1009 ⟨⟨by decide, by decide⟩, rfl, Nat.le_of_ble_eq_true rfl⟩ rfl (sX1_body14  h10) ?_
      have e := Option.some.inj h; subst e; exact z_iret C dX1_askSize_73 Rq
    rw [if_neg c9] at h
    have nc9 : ((mem 15 3)).toInt ≠ 5 := zne c9
    refine z_swOut 74 C dX1_askSize_12 (by omega) (by decide) ?_
    refine z_aload_n C dX1_askSize_74 rfl (j := 0) rfl ?_
    obtain ⟨r11, h11, h⟩ := Option.bind_eq_some_iff.mp h
    refine z_callVi [] [] C dX1_askSize_75 (by decide) zen_15 rfl zk_X1_60 zw1004 zw1005 ⟨⟨by decide, by decide⟩, rfl, Nat.le_of_ble_eq_true rfl⟩ rfl (sX1_body10  h11) ?_
    have e := Option.some.inj h; subst e; exact z_iret C dX1_askSize_78 Rq
  · refine z_iconst (v := 0) C dX1_askSize_6 zc0 ?_
    have e := Option.some.inj h; subst e; exact z_iret C dX1_askSize_7 Rq
-- X1_body12_2
def fX1_body12_2  (a1 : Int32) (mem : ZM) : Option (Int32 × ZM) :=
  Option.bind (fX1_leaveTrace (12 : Int32) mem) (fun r1 => Option.bind (fX1_body11_1 a1 r1) (fun r2 => some ((-r2.1), r2.2)))
set_option maxRecDepth 100000 in
set_option maxHeartbeats 4000000 in
theorem sX1_body12_2 {l : Launch} {E : ZE}  {a1 : Int32} {mem : ZM} {t : Int32 × ZM} (h : fX1_body12_2 a1 mem = some t) : zMet l E yX1_body12 cX1_body12 2 (some .int) 6 [.ref (E.2.1 15), .int a1] mem (some (.int t.1)) t.2 := by
  refine z_enter (by decide) (Nat.le_of_ble_eq_true rfl) (fun Γ C Rq => ?_)
  have C : zC E Γ RX1 cX1_body12 2 6 := C
  show zG l E Γ 2 0 [(0, .ref (E.2.1 15)), (1, .int a1)] [] mem
  unfold fX1_body12_2 at h
  refine z_aload_n C dX1_body12_0 rfl (j := 0) rfl ?_
  refine z_bipush (v := 12) C dX1_body12_1 zb12 ?_
  obtain ⟨r1, h1, h⟩ := Option.bind_eq_some_iff.mp h
  refine z_callVv [.int (12 : Int32)] [] C dX1_body12_3 (by decide) zen_15 rfl zk_X1_78 zw1000 zw1001 ⟨⟨by decide, by decide⟩, rfl, Nat.le_of_ble_eq_true rfl⟩ rfl (sX1_leaveTrace  h1) ?_
  refine z_aload_n C dX1_body12_6 rfl (j := 0) rfl ?_
  refine z_iload_n C dX1_body12_7 rfl (j := 1) rfl ?_
  obtain ⟨r2, h2, h⟩ := Option.bind_eq_some_iff.mp h
  refine z_callVi [.int a1] [] C dX1_body12_8 (by decide) zen_15 rfl zk_X1_47 zw990 zw991 ⟨⟨by decide, by decide⟩, rfl, Nat.le_of_ble_eq_true rfl⟩ rfl (sX1_body11_1  h2) ?_
  refine z_ineg C dX1_body12_11 ?_
  have e := Option.some.inj h; subst e; exact z_iret C dX1_body12_12 Rq
-- X1_askSize_3
def fX1_askSize_3  (a1 : Int32) (mem : ZM) : Option (Int32 × ZM) :=
  if a1 ≤ (16 : Int32) then (if (mem 15 3) = (1 : Int32) then (Option.bind (fX1_body11_2 (a1 + (1 : Int32)) mem) (fun r2 => some (r2.1, r2.2))) else if (mem 15 3) = (2 : Int32) then (Option.bind (fX1_body12_2 (a1 + (1 : Int32)) mem) (fun r4 => some (r4.1, r4.2))) else if (mem 15 3) = (3 : Int32) then (Option.bind (fX1_body11_2 (a1 + (1 : Int32)) mem) (fun r6 => some (r6.1, r6.2))) else if (mem 15 3) = (4 : Int32) then (Option.bind (fX1_body13 mem) (fun r8 => some (r8.1, r8.2))) else if (mem 15 3) = (5 : Int32) then (Option.bind (fX1_body14 mem) (fun r10 => some (r10.1, r10.2))) else (Option.bind (fX1_body10 mem) (fun r11 => some (r11.1, r11.2)))) else (some ((0 : Int32), mem))
set_option maxRecDepth 100000 in
set_option maxHeartbeats 4000000 in
theorem sX1_askSize_3 {l : Launch} {E : ZE}  {a1 : Int32} {mem : ZM} {t : Int32 × ZM} (h : fX1_askSize_3 a1 mem = some t) : zMet l E yX1_askSize cX1_askSize 2 (some .int) 7 [.ref (E.2.1 15), .int a1] mem (some (.int t.1)) t.2 := by
  refine z_enter (by decide) (Nat.le_of_ble_eq_true rfl) (fun Γ C Rq => ?_)
  have C : zC E Γ RX1 cX1_askSize 2 7 := C
  show zG l E Γ 2 0 [(0, .ref (E.2.1 15)), (1, .int a1)] [] mem
  unfold fX1_askSize_3 at h
  refine z_iload_n C dX1_askSize_0 rfl (j := 1) rfl ?_
  refine z_bipush (v := 16) C dX1_askSize_1 zb16 ?_
  refine z_icmp_le 8 C dX1_askSize_3 (by decide) h (fun h => ?_) (fun h => ?_)
  · refine z_aload_n C dX1_askSize_8 rfl (j := 0) rfl ?_
    refine zg1_3 C dX1_askSize_9 zw85 ?_
    by_cases c1 : (mem 15 3) = (1 : Int32)
    · rw [if_pos c1] at h
      refine z_swIn (off := 36) 48 C dX1_askSize_12 1 c1 (by decide) (by decide) (by decide) (by decide) ?_
      refine z_aload_n C dX1_askSize_48 rfl (j := 0) rfl ?_
      refine z_iload_n C dX1_askSize_49 rfl (j := 1) rfl ?_
      refine z_iconst (v := 1) C dX1_askSize_50 zc1 ?_
      refine z_iadd C dX1_askSize_51 ?_
      obtain ⟨r2, h2, h⟩ := Option.bind_eq_some_iff.mp h
      refine z_callVi [.int (a1 + (1 : Int32))] [] C dX1_askSize_52 (by decide) zen_15 rfl zk_X1_47 zw990 zw991 ⟨⟨by decide, by decide⟩, rfl, Nat.le_of_ble_eq_true rfl⟩ rfl (sX1_body11_2  h2) ?_
      have e := Option.some.inj h; subst e; exact z_iret C dX1_askSize_55 Rq
    rw [if_neg c1] at h
    have nc1 : ((mem 15 3)).toInt ≠ 1 := zne c1
    by_cases c3 : (mem 15 3) = (2 : Int32)
    · rw [if_pos c3] at h
      refine z_swIn (off := 44) 56 C dX1_askSize_12 2 c3 (by decide) (by decide) (by decide) (by decide) ?_
      refine z_aload_n C dX1_askSize_56 rfl (j := 0) rfl ?_
      refine z_iload_n C dX1_askSize_57 rfl (j := 1) rfl ?_
      refine z_iconst (v := 1) C dX1_askSize_58 zc1 ?_
      refine z_iadd C dX1_askSize_59 ?_
      obtain ⟨r4, h4, h⟩ := Option.bind_eq_some_iff.mp h
      refine z_callVi [.int (a1 + (1 : Int32))] [] C dX1_askSize_60 (by decide) zen_15 rfl zk_X1_50 zw993 zw994 ⟨⟨by decide, by decide⟩, rfl, Nat.le_of_ble_eq_true rfl⟩ rfl (sX1_body12_2  h4) ?_
      have e := Option.some.inj h; subst e; exact z_iret C dX1_askSize_63 Rq
    rw [if_neg c3] at h
    have nc3 : ((mem 15 3)).toInt ≠ 2 := zne c3
    by_cases c5 : (mem 15 3) = (3 : Int32)
    · rw [if_pos c5] at h
      refine z_swIn (off := 36) 48 C dX1_askSize_12 3 c5 (by decide) (by decide) (by decide) (by decide) ?_
      refine z_aload_n C dX1_askSize_48 rfl (j := 0) rfl ?_
      refine z_iload_n C dX1_askSize_49 rfl (j := 1) rfl ?_
      refine z_iconst (v := 1) C dX1_askSize_50 zc1 ?_
      refine z_iadd C dX1_askSize_51 ?_
      obtain ⟨r6, h6, h⟩ := Option.bind_eq_some_iff.mp h
      refine z_callVi [.int (a1 + (1 : Int32))] [] C dX1_askSize_52 (by decide) zen_15 rfl zk_X1_47 zw990 zw991 ⟨⟨by decide, by decide⟩, rfl, Nat.le_of_ble_eq_true rfl⟩ rfl (sX1_body11_2  h6) ?_
      have e := Option.some.inj h; subst e; exact z_iret C dX1_askSize_55 Rq
    rw [if_neg c5] at h
    have nc5 : ((mem 15 3)).toInt ≠ 3 := zne c5
    by_cases c7 : (mem 15 3) = (4 : Int32)
    · rw [if_pos c7] at h
      refine z_swIn (off := 52) 64 C dX1_askSize_12 4 c7 (by decide) (by decide) (by decide) (by decide) ?_
      refine z_aload_n C dX1_askSize_64 rfl (j := 0) rfl ?_
      obtain ⟨r8, h8, h⟩ := Option.bind_eq_some_iff.mp h
      refine z_callVi [] [] C dX1_askSize_65 (by decide) zen_15 rfl zk_X1_53 zw996 zw997 ⟨⟨by decide, by decide⟩, rfl, Nat.le_of_ble_eq_true rfl⟩ rfl (sX1_body13  h8) ?_
      have e := Option.some.inj h; subst e; exact z_iret C dX1_askSize_68 Rq
    rw [if_neg c7] at h
    have nc7 : ((mem 15 3)).toInt ≠ 4 := zne c7
    by_cases c9 : (mem 15 3) = (5 : Int32)
    · rw [if_pos c9] at h
      refine z_swIn (off := 57) 69 C dX1_askSize_12 5 c9 (by decide) (by decide) (by decide) (by decide) ?_
      refine z_aload_n C dX1_askSize_69 rfl (j := 0) rfl ?_
      obtain ⟨r10, h10, h⟩ := Option.bind_eq_some_iff.mp h
      refine z_callVi [] [] C dX1_askSize_70 (by decide) zen_15 rfl zk_X1_57 zw1008 zw1009 ⟨⟨by decide, by decide⟩, rfl, Nat.le_of_ble_eq_true rfl⟩ rfl (sX1_body14  h10) ?_
      have e := Option.some.inj h; subst e; exact z_iret C dX1_askSize_73 Rq
    rw [if_neg c9] at h
    have nc9 : ((mem 15 3)).toInt ≠ 5 := zne c9
    refine z_swOut 74 C dX1_askSize_12 (by omega) (by decide) ?_
    refine z_aload_n C dX1_askSize_74 rfl (j := 0) rfl ?_
    obtain ⟨r11, h11, h⟩ := Option.bind_eq_some_iff.mp h
    refine z_callVi [] [] C dX1_askSize_75 (by decide) zen_15 rfl zk_X1_60 zw1004 zw1005 ⟨⟨by decide, by decide⟩, rfl, Nat.le_of_ble_eq_true rfl⟩ rfl (sX1_body10  h11) ?_
    have e := Option.some.inj h; subst e; exact z_iret C dX1_askSize_78 Rq
  · refine z_iconst (v := 0) C dX1_askSize_6 zc0 ?_
    have e := Option.some.inj h; subst e; exact z_iret C dX1_askSize_7 Rq
-- X1_body23_2
def fX1_body23_2  (a1 : Int32) (mem : ZM) : Option (Int32 × ZM) :=
  Option.bind (fX1_leaveTrace (23 : Int32) mem) (fun r1 => Option.bind (fX1_body20 r1) (fun r2 => zlet r2.1 (fun v3 => Option.bind (fX1_askSize_1 a1 r2.2) (fun r4 => some ((v3 - r4.1), r4.2)))))
set_option maxRecDepth 100000 in
set_option maxHeartbeats 4000000 in
theorem sX1_body23_2 {l : Launch} {E : ZE}  {a1 : Int32} {mem : ZM} {t : Int32 × ZM} (h : fX1_body23_2 a1 mem = some t) : zMet l E yX1_body23 cX1_body23 3 (some .int) 5 [.ref (E.2.1 15), .int a1] mem (some (.int t.1)) t.2 := by
  refine z_enter (by decide) (Nat.le_of_ble_eq_true rfl) (fun Γ C Rq => ?_)
  have C : zC E Γ RX1 cX1_body23 3 5 := C
  show zG l E Γ 3 0 [(0, .ref (E.2.1 15)), (1, .int a1)] [] mem
  unfold fX1_body23_2 at h
  refine z_aload_n C dX1_body23_0 rfl (j := 0) rfl ?_
  refine z_bipush (v := 23) C dX1_body23_1 zb23 ?_
  obtain ⟨r1, h1, h⟩ := Option.bind_eq_some_iff.mp h
  refine z_callVv [.int (23 : Int32)] [] C dX1_body23_3 (by decide) zen_15 rfl zk_X1_78 zw1000 zw1001 ⟨⟨by decide, by decide⟩, rfl, Nat.le_of_ble_eq_true rfl⟩ rfl (sX1_leaveTrace  h1) ?_
  refine z_aload_n C dX1_body23_6 rfl (j := 0) rfl ?_
  obtain ⟨r2, h2, h⟩ := Option.bind_eq_some_iff.mp h
  refine z_callVi [] [] C dX1_body23_7 (by decide) zen_15 rfl zk_X1_75 zw1017 zw1018 ⟨⟨by decide, by decide⟩, rfl, Nat.le_of_ble_eq_true rfl⟩ rfl (sX1_body20  h2) ?_
  refine z_istore_n [(0, .ref (E.2.1 15)), (1, .int a1)] C dX1_body23_10 h rfl (by decide) rfl (fun v3 h => ?_)
  refine z_iload_n C dX1_body23_11 rfl (j := 0) rfl ?_
  refine z_aload_n C dX1_body23_12 rfl (j := 1) rfl ?_
  refine z_iload_n C dX1_body23_13 rfl (j := 2) rfl ?_
  obtain ⟨r4, h4, h⟩ := Option.bind_eq_some_iff.mp h
  refine z_callVi [.int a1] [.int v3] C dX1_body23_14 (by decide) zen_15 rfl zk_X1_40 zw986 zw987 ⟨⟨by decide, by decide⟩, rfl, Nat.le_of_ble_eq_true rfl⟩ rfl (sX1_askSize_1  h4) ?_
  refine z_isub C dX1_body23_17 ?_
  have e := Option.some.inj h; subst e; exact z_iret C dX1_body23_18 Rq
-- X1_askMark_3
def fX1_askMark_3  (a1 : Int32) (mem : ZM) : Option (Int32 × ZM) :=
  if a1 ≤ (16 : Int32) then (if (mem 15 3) = (1 : Int32) then (Option.bind (fX1_body21 mem) (fun r2 => some (r2.1, r2.2))) else if (mem 15 3) = (2 : Int32) then (Option.bind (fX1_body24 mem) (fun r4 => some (r4.1, r4.2))) else if (mem 15 3) = (3 : Int32) then (Option.bind (fX1_body22 mem) (fun r6 => some (r6.1, r6.2))) else if (mem 15 3) = (4 : Int32) then (Option.bind (fX1_body23_2 (a1 + (1 : Int32)) mem) (fun r8 => some (r8.1, r8.2))) else if (mem 15 3) = (5 : Int32) then (Option.bind (fX1_body23_2 (a1 + (1 : Int32)) mem) (fun r10 => some (r10.1, r10.2))) else (Option.bind (fX1_body20 mem) (fun r11 => some (r11.1, r11.2)))) else (some ((0 : Int32), mem))
set_option maxRecDepth 100000 in
set_option maxHeartbeats 4000000 in
theorem sX1_askMark_3 {l : Launch} {E : ZE}  {a1 : Int32} {mem : ZM} {t : Int32 × ZM} (h : fX1_askMark_3 a1 mem = some t) : zMet l E yX1_askMark cX1_askMark 2 (some .int) 6 [.ref (E.2.1 15), .int a1] mem (some (.int t.1)) t.2 := by
  refine z_enter (by decide) (Nat.le_of_ble_eq_true rfl) (fun Γ C Rq => ?_)
  have C : zC E Γ RX1 cX1_askMark 2 6 := C
  show zG l E Γ 2 0 [(0, .ref (E.2.1 15)), (1, .int a1)] [] mem
  unfold fX1_askMark_3 at h
  refine z_iload_n C dX1_askMark_0 rfl (j := 1) rfl ?_
  refine z_bipush (v := 16) C dX1_askMark_1 zb16 ?_
  refine z_icmp_le 8 C dX1_askMark_3 (by decide) h (fun h => ?_) (fun h => ?_)
  · refine z_aload_n C dX1_askMark_8 rfl (j := 0) rfl ?_
    refine zg1_3 C dX1_askMark_9 zw85 ?_
    by_cases c1 : (mem 15 3) = (1 : Int32)
    · rw [if_pos c1] at h
      refine z_swIn (off := 36) 48 C dX1_askMark_12 1 c1 (by decide) (by decide) (by decide) (by decide) ?_
      refine z_aload_n C dX1_askMark_48 rfl (j := 0) rfl ?_
      obtain ⟨r2, h2, h⟩ := Option.bind_eq_some_iff.mp h
      refine z_callVi [] [] C dX1_askMark_49 (by decide) zen_15 rfl zk_X1_63 zw1013 zw1014 ⟨⟨by decide, by decide⟩, rfl, Nat.le_of_ble_eq_true rfl⟩ rfl (sX1_body21  h2) ?_
      have e := Option.some.inj h; subst e; exact z_iret C dX1_askMark_52 Rq
    rw [if_neg c1] at h
    have nc1 : ((mem 15 3)).toInt ≠ 1 := zne c1
    by_cases c3 : (mem 15 3) = (2 : Int32)
    · rw [if_pos c3] at h
      refine z_swIn (off := 54) 66 C dX1_askMark_12 2 c3 (by decide) (by decide) (by decide) (by decide) ?_
      refine z_aload_n C dX1_askMark_66 rfl (j := 0) rfl ?_
      obtain ⟨r4, h4, h⟩ := Option.bind_eq_some_iff.mp h
      refine z_callVi [] [] C dX1_askMark_67 (by decide) zen_15 rfl zk_X1_72 zw1028 zw1029 ⟨⟨by decide, by decide⟩, rfl, Nat.le_of_ble_eq_true rfl⟩ rfl (sX1_body24  h4) ?_
      have e := Option.some.inj h; subst e; exact z_iret C dX1_askMark_70 Rq
    rw [if_neg c3] at h
    have nc3 : ((mem 15 3)).toInt ≠ 2 := zne c3
    by_cases c5 : (mem 15 3) = (3 : Int32)
    · rw [if_pos c5] at h
      refine z_swIn (off := 41) 53 C dX1_askMark_12 3 c5 (by decide) (by decide) (by decide) (by decide) ?_
      refine z_aload_n C dX1_askMark_53 rfl (j := 0) rfl ?_
      obtain ⟨r6, h6, h⟩ := Option.bind_eq_some_iff.mp h
      refine z_callVi [] [] C dX1_askMark_54 (by decide) zen_15 rfl zk_X1_66 zw1021 zw1022 ⟨⟨by decide, by decide⟩, rfl, Nat.le_of_ble_eq_true rfl⟩ rfl (sX1_body22  h6) ?_
      have e := Option.some.inj h; subst e; exact z_iret C dX1_askMark_57 Rq
    rw [if_neg c5] at h
    have nc5 : ((mem 15 3)).toInt ≠ 3 := zne c5
    by_cases c7 : (mem 15 3) = (4 : Int32)
    · rw [if_pos c7] at h
      refine z_swIn (off := 46) 58 C dX1_askMark_12 4 c7 (by decide) (by decide) (by decide) (by decide) ?_
      refine z_aload_n C dX1_askMark_58 rfl (j := 0) rfl ?_
      refine z_iload_n C dX1_askMark_59 rfl (j := 1) rfl ?_
      refine z_iconst (v := 1) C dX1_askMark_60 zc1 ?_
      refine z_iadd C dX1_askMark_61 ?_
      obtain ⟨r8, h8, h⟩ := Option.bind_eq_some_iff.mp h
      refine z_callVi [.int (a1 + (1 : Int32))] [] C dX1_askMark_62 (by decide) zen_15 rfl zk_X1_69 zw1025 zw1026 ⟨⟨by decide, by decide⟩, rfl, Nat.le_of_ble_eq_true rfl⟩ rfl (sX1_body23_2  h8) ?_
      have e := Option.some.inj h; subst e; exact z_iret C dX1_askMark_65 Rq
    rw [if_neg c7] at h
    have nc7 : ((mem 15 3)).toInt ≠ 4 := zne c7
    by_cases c9 : (mem 15 3) = (5 : Int32)
    · rw [if_pos c9] at h
      refine z_swIn (off := 46) 58 C dX1_askMark_12 5 c9 (by decide) (by decide) (by decide) (by decide) ?_
      refine z_aload_n C dX1_askMark_58 rfl (j := 0) rfl ?_
      refine z_iload_n C dX1_askMark_59 rfl (j := 1) rfl ?_
      refine z_iconst (v := 1) C dX1_askMark_60 zc1 ?_
      refine z_iadd C dX1_askMark_61 ?_
      obtain ⟨r10, h10, h⟩ := Option.bind_eq_some_iff.mp h
      refine z_callVi [.int (a1 + (1 : Int32))] [] C dX1_askMark_62 (by decide) zen_15 rfl zk_X1_69 zw1025 zw1026 ⟨⟨by decide, by decide⟩, rfl, Nat.le_of_ble_eq_true rfl⟩ rfl (sX1_body23_2  h10) ?_
      have e := Option.some.inj h; subst e; exact z_iret C dX1_askMark_65 Rq
    rw [if_neg c9] at h
    have nc9 : ((mem 15 3)).toInt ≠ 5 := zne c9
    refine z_swOut 71 C dX1_askMark_12 (by omega) (by decide) ?_
    refine z_aload_n C dX1_askMark_71 rfl (j := 0) rfl ?_
    obtain ⟨r11, h11, h⟩ := Option.bind_eq_some_iff.mp h
    refine z_callVi [] [] C dX1_askMark_72 (by decide) zen_15 rfl zk_X1_75 zw1017 zw1018 ⟨⟨by decide, by decide⟩, rfl, Nat.le_of_ble_eq_true rfl⟩ rfl (sX1_body20  h11) ?_
    have e := Option.some.inj h; subst e; exact z_iret C dX1_askMark_75 Rq
  · refine z_iconst (v := 0) C dX1_askMark_6 zc0 ?_
    have e := Option.some.inj h; subst e; exact z_iret C dX1_askMark_7 Rq
-- X1_body11_4
def fX1_body11_4  (a1 : Int32) (mem : ZM) : Option (Int32 × ZM) :=
  Option.bind (fX1_leaveTrace (11 : Int32) mem) (fun r1 => Option.bind (fX1_body10 r1) (fun r2 => zlet r2.1 (fun v3 => Option.bind (fX1_askMark_3 a1 r2.2) (fun r4 => some ((v3 + r4.1), r4.2)))))
set_option maxRecDepth 100000 in
set_option maxHeartbeats 4000000 in
theorem sX1_body11_4 {l : Launch} {E : ZE}  {a1 : Int32} {mem : ZM} {t : Int32 × ZM} (h : fX1_body11_4 a1 mem = some t) : zMet l E yX1_body11 cX1_body11 3 (some .int) 7 [.ref (E.2.1 15), .int a1] mem (some (.int t.1)) t.2 := by
  refine z_enter (by decide) (Nat.le_of_ble_eq_true rfl) (fun Γ C Rq => ?_)
  have C : zC E Γ RX1 cX1_body11 3 7 := C
  show zG l E Γ 3 0 [(0, .ref (E.2.1 15)), (1, .int a1)] [] mem
  unfold fX1_body11_4 at h
  refine z_aload_n C dX1_body11_0 rfl (j := 0) rfl ?_
  refine z_bipush (v := 11) C dX1_body11_1 zb11 ?_
  obtain ⟨r1, h1, h⟩ := Option.bind_eq_some_iff.mp h
  refine z_callVv [.int (11 : Int32)] [] C dX1_body11_3 (by decide) zen_15 rfl zk_X1_78 zw1000 zw1001 ⟨⟨by decide, by decide⟩, rfl, Nat.le_of_ble_eq_true rfl⟩ rfl (sX1_leaveTrace  h1) ?_
  refine z_aload_n C dX1_body11_6 rfl (j := 0) rfl ?_
  obtain ⟨r2, h2, h⟩ := Option.bind_eq_some_iff.mp h
  refine z_callVi [] [] C dX1_body11_7 (by decide) zen_15 rfl zk_X1_60 zw1004 zw1005 ⟨⟨by decide, by decide⟩, rfl, Nat.le_of_ble_eq_true rfl⟩ rfl (sX1_body10  h2) ?_
  refine z_istore_n [(0, .ref (E.2.1 15)), (1, .int a1)] C dX1_body11_10 h rfl (by decide) rfl (fun v3 h => ?_)
  refine z_iload_n C dX1_body11_11 rfl (j := 0) rfl ?_
  refine z_aload_n C dX1_body11_12 rfl (j := 1) rfl ?_
  refine z_iload_n C dX1_body11_13 rfl (j := 2) rfl ?_
  obtain ⟨r4, h4, h⟩ := Option.bind_eq_some_iff.mp h
  refine z_callVi [.int a1] [.int v3] C dX1_body11_14 (by decide) zen_15 rfl zk_X1_44 zw1033 zw1034 ⟨⟨by decide, by decide⟩, rfl, Nat.le_of_ble_eq_true rfl⟩ rfl (sX1_askMark_3  h4) ?_
  refine z_iadd C dX1_body11_17 ?_
  have e := Option.some.inj h; subst e; exact z_iret C dX1_body11_18 Rq
-- X1_body12_4
def fX1_body12_4  (a1 : Int32) (mem : ZM) : Option (Int32 × ZM) :=
  Option.bind (fX1_leaveTrace (12 : Int32) mem) (fun r1 => Option.bind (fX1_body11_3 a1 r1) (fun r2 => some ((-r2.1), r2.2)))
set_option maxRecDepth 100000 in
set_option maxHeartbeats 4000000 in
theorem sX1_body12_4 {l : Launch} {E : ZE}  {a1 : Int32} {mem : ZM} {t : Int32 × ZM} (h : fX1_body12_4 a1 mem = some t) : zMet l E yX1_body12 cX1_body12 2 (some .int) 8 [.ref (E.2.1 15), .int a1] mem (some (.int t.1)) t.2 := by
  refine z_enter (by decide) (Nat.le_of_ble_eq_true rfl) (fun Γ C Rq => ?_)
  have C : zC E Γ RX1 cX1_body12 2 8 := C
  show zG l E Γ 2 0 [(0, .ref (E.2.1 15)), (1, .int a1)] [] mem
  unfold fX1_body12_4 at h
  refine z_aload_n C dX1_body12_0 rfl (j := 0) rfl ?_
  refine z_bipush (v := 12) C dX1_body12_1 zb12 ?_
  obtain ⟨r1, h1, h⟩ := Option.bind_eq_some_iff.mp h
  refine z_callVv [.int (12 : Int32)] [] C dX1_body12_3 (by decide) zen_15 rfl zk_X1_78 zw1000 zw1001 ⟨⟨by decide, by decide⟩, rfl, Nat.le_of_ble_eq_true rfl⟩ rfl (sX1_leaveTrace  h1) ?_
  refine z_aload_n C dX1_body12_6 rfl (j := 0) rfl ?_
  refine z_iload_n C dX1_body12_7 rfl (j := 1) rfl ?_
  obtain ⟨r2, h2, h⟩ := Option.bind_eq_some_iff.mp h
  refine z_callVi [.int a1] [] C dX1_body12_8 (by decide) zen_15 rfl zk_X1_47 zw990 zw991 ⟨⟨by decide, by decide⟩, rfl, Nat.le_of_ble_eq_true rfl⟩ rfl (sX1_body11_3  h2) ?_
  refine z_ineg C dX1_body12_11 ?_
  have e := Option.some.inj h; subst e; exact z_iret C dX1_body12_12 Rq
-- X1_body23_4
def fX1_body23_4  (a1 : Int32) (mem : ZM) : Option (Int32 × ZM) :=
  Option.bind (fX1_leaveTrace (23 : Int32) mem) (fun r1 => Option.bind (fX1_body20 r1) (fun r2 => zlet r2.1 (fun v3 => Option.bind (fX1_askSize_3 a1 r2.2) (fun r4 => some ((v3 - r4.1), r4.2)))))
set_option maxRecDepth 100000 in
set_option maxHeartbeats 4000000 in
theorem sX1_body23_4 {l : Launch} {E : ZE}  {a1 : Int32} {mem : ZM} {t : Int32 × ZM} (h : fX1_body23_4 a1 mem = some t) : zMet l E yX1_body23 cX1_body23 3 (some .int) 8 [.ref (E.2.1 15), .int a1] mem (some (.int t.1)) t.2 := by
  refine z_enter (by decide) (Nat.le_of_ble_eq_true rfl) (fun Γ C Rq => ?_)
  have C : zC E Γ RX1 cX1_body23 3 8 := C
  show zG l E Γ 3 0 [(0, .ref (E.2.1 15)), (1, .int a1)] [] mem
  unfold fX1_body23_4 at h
  refine z_aload_n C dX1_body23_0 rfl (j := 0) rfl ?_
  refine z_bipush (v := 23) C dX1_body23_1 zb23 ?_
  obtain ⟨r1, h1, h⟩ := Option.bind_eq_some_iff.mp h
  refine z_callVv [.int (23 : Int32)] [] C dX1_body23_3 (by decide) zen_15 rfl zk_X1_78 zw1000 zw1001 ⟨⟨by decide, by decide⟩, rfl, Nat.le_of_ble_eq_true rfl⟩ rfl (sX1_leaveTrace  h1) ?_
  refine z_aload_n C dX1_body23_6 rfl (j := 0) rfl ?_
  obtain ⟨r2, h2, h⟩ := Option.bind_eq_some_iff.mp h
  refine z_callVi [] [] C dX1_body23_7 (by decide) zen_15 rfl zk_X1_75 zw1017 zw1018 ⟨⟨by decide, by decide⟩, rfl, Nat.le_of_ble_eq_true rfl⟩ rfl (sX1_body20  h2) ?_
  refine z_istore_n [(0, .ref (E.2.1 15)), (1, .int a1)] C dX1_body23_10 h rfl (by decide) rfl (fun v3 h => ?_)
  refine z_iload_n C dX1_body23_11 rfl (j := 0) rfl ?_
  refine z_aload_n C dX1_body23_12 rfl (j := 1) rfl ?_
  refine z_iload_n C dX1_body23_13 rfl (j := 2) rfl ?_
  obtain ⟨r4, h4, h⟩ := Option.bind_eq_some_iff.mp h
  refine z_callVi [.int a1] [.int v3] C dX1_body23_14 (by decide) zen_15 rfl zk_X1_40 zw986 zw987 ⟨⟨by decide, by decide⟩, rfl, Nat.le_of_ble_eq_true rfl⟩ rfl (sX1_askSize_3  h4) ?_
  refine z_isub C dX1_body23_17 ?_
  have e := Option.some.inj h; subst e; exact z_iret C dX1_body23_18 Rq
