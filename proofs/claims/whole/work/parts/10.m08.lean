-- X7_heatOf
def fX7_heatOf_j82  (x1 : Int32) (k0 : Int32) (k1 : Int32) (mem : ZM) : Option (Int32) :=
  zlet (k1 + k0) (fun v7 => zgd (zin (5 : Int32) 38) (Option.bind (fX7_has (mem 62 (5 : Int32).toNatClampNeg) x1) (fun r8 => if r8 = 0 then (some v7) else (some (0 : Int32)))))
set_option maxRecDepth 100000 in
set_option maxHeartbeats 4000000 in
theorem jX7_heatOf_82 {l : Launch} {E : ZE} {Γ : ZG} (C : zC E Γ RX7 cX7_heatOf 5 4)  {x1 : Int32} {k0 : Int32} {k1 : Int32}  {mem : ZM}  {t : Int32}  (Rq : zRq E Γ (some .int) (some (.int t)) mem) (h : fX7_heatOf_j82  x1 k0 k1 mem = some t) : zG l E Γ 5 82 [(0, .ref (E.2.1 58)), (1, .int x1)] [.int k0, .int k1] mem := by
  unfold fX7_heatOf_j82 at h
  refine z_iadd C dX7_heatOf_82 ?_
  refine z_istore [(0, .ref (E.2.1 58)), (1, .int x1)] C dX7_heatOf_83 h (by decide) rfl (fun v7 h => ?_)
  refine z_aload_n C dX7_heatOf_85 rfl (j := 1) rfl ?_
  refine zg7_5 C dX7_heatOf_86 zw101 ?_
  refine z_iconst (v := 5) C dX7_heatOf_89 zc5 ?_
  refine z_iald C dX7_heatOf_90 zar62 h (fun h => ?_)
  refine z_iload_n C dX7_heatOf_91 rfl (j := 2) rfl ?_
  obtain ⟨r8, h8, h⟩ := Option.bind_eq_some_iff.mp h
  refine z_callSi [.int (mem 62 (5 : Int32).toNatClampNeg), .int x1] [] C dX7_heatOf_92 zk_X7_145 zw528 ⟨⟨by decide, by decide⟩, rfl, Nat.le_of_ble_eq_true rfl⟩ rfl (sX7_has  h8) ?_
  refine z_if_eq 102 C dX7_heatOf_95 (by decide) h (fun h => ?_) (fun h => ?_)
  · refine z_iload C dX7_heatOf_102 (j := 0) rfl ?_
    have e := Option.some.inj h; subst e; exact z_iret C dX7_heatOf_104 Rq
  · refine z_iconst (v := 0) C dX7_heatOf_98 zc0 ?_
    refine z_goto 104 C dX7_heatOf_99 (by decide) ?_
    have e := Option.some.inj h; subst e; exact z_iret C dX7_heatOf_104 Rq
def fX7_heatOf_j66  (x1 : Int32) (x2 : Int32) (k0 : Int32) (k1 : Int32) (mem : ZM) : Option (Int32) :=
  Option.bind (fX7_isHotIn (x2 + (1 : Int32)) mem) (fun r6 => if r6 = 0 then (fX7_heatOf_j82  x1 (0 : Int32) (k1 + k0) mem) else (fX7_heatOf_j82  x1 (1 : Int32) (k1 + k0) mem))
set_option maxRecDepth 100000 in
set_option maxHeartbeats 4000000 in
theorem jX7_heatOf_66 {l : Launch} {E : ZE} {Γ : ZG} (C : zC E Γ RX7 cX7_heatOf 5 4)  {x1 : Int32} {x2 : Int32} {k0 : Int32} {k1 : Int32}  {mem : ZM}  {t : Int32}  (Rq : zRq E Γ (some .int) (some (.int t)) mem) (h : fX7_heatOf_j66  x1 x2 k0 k1 mem = some t) : zG l E Γ 5 66 [(0, .ref (E.2.1 58)), (1, .int x1), (2, .int x2)] [.int k0, .int k1] mem := by
  unfold fX7_heatOf_j66 at h
  refine z_iadd C dX7_heatOf_66 ?_
  refine z_aload_n C dX7_heatOf_67 rfl (j := 0) rfl ?_
  refine z_iload_n C dX7_heatOf_68 rfl (j := 2) rfl ?_
  refine z_iconst (v := 1) C dX7_heatOf_69 zc1 ?_
  refine z_iadd C dX7_heatOf_70 ?_
  obtain ⟨r6, h6, h⟩ := Option.bind_eq_some_iff.mp h
  refine z_callVi [.int (x2 + (1 : Int32))] [.int (k1 + k0)] C dX7_heatOf_71 (by decide) zen_58 rfl zk_X7_155 zw531 zw532 ⟨⟨by decide, by decide⟩, rfl, Nat.le_of_ble_eq_true rfl⟩ rfl (sX7_isHotIn  h6) ?_
  refine z_if_eq 81 C dX7_heatOf_74 (by decide) h (fun h => ?_) (fun h => ?_)
  · refine z_iconst (v := 0) C dX7_heatOf_81 zc0 ?_
    refine z_pick [0, 1] rfl ?_
    exact jX7_heatOf_82 C   Rq h
  · refine z_iconst (v := 1) C dX7_heatOf_77 zc1 ?_
    refine z_goto 82 C dX7_heatOf_78 (by decide) ?_
    refine z_pick [0, 1] rfl ?_
    exact jX7_heatOf_82 C   Rq h
def fX7_heatOf_j50  (x1 : Int32) (x2 : Int32) (k0 : Int32) (k1 : Int32) (mem : ZM) : Option (Int32) :=
  Option.bind (fX7_isHotIn (x2 - (1 : Int32)) mem) (fun r5 => if r5 = 0 then (fX7_heatOf_j66  x1 x2 (0 : Int32) (k1 + k0) mem) else (fX7_heatOf_j66  x1 x2 (1 : Int32) (k1 + k0) mem))
set_option maxRecDepth 100000 in
set_option maxHeartbeats 4000000 in
theorem jX7_heatOf_50 {l : Launch} {E : ZE} {Γ : ZG} (C : zC E Γ RX7 cX7_heatOf 5 4)  {x1 : Int32} {x2 : Int32} {k0 : Int32} {k1 : Int32}  {mem : ZM}  {t : Int32}  (Rq : zRq E Γ (some .int) (some (.int t)) mem) (h : fX7_heatOf_j50  x1 x2 k0 k1 mem = some t) : zG l E Γ 5 50 [(0, .ref (E.2.1 58)), (1, .int x1), (2, .int x2)] [.int k0, .int k1] mem := by
  unfold fX7_heatOf_j50 at h
  refine z_iadd C dX7_heatOf_50 ?_
  refine z_aload_n C dX7_heatOf_51 rfl (j := 0) rfl ?_
  refine z_iload_n C dX7_heatOf_52 rfl (j := 2) rfl ?_
  refine z_iconst (v := 1) C dX7_heatOf_53 zc1 ?_
  refine z_isub C dX7_heatOf_54 ?_
  obtain ⟨r5, h5, h⟩ := Option.bind_eq_some_iff.mp h
  refine z_callVi [.int (x2 - (1 : Int32))] [.int (k1 + k0)] C dX7_heatOf_55 (by decide) zen_58 rfl zk_X7_155 zw531 zw532 ⟨⟨by decide, by decide⟩, rfl, Nat.le_of_ble_eq_true rfl⟩ rfl (sX7_isHotIn  h5) ?_
  refine z_if_eq 65 C dX7_heatOf_58 (by decide) h (fun h => ?_) (fun h => ?_)
  · refine z_iconst (v := 0) C dX7_heatOf_65 zc0 ?_
    refine z_pick [0, 1, 2] rfl ?_
    exact jX7_heatOf_66 C   Rq h
  · refine z_iconst (v := 1) C dX7_heatOf_61 zc1 ?_
    refine z_goto 66 C dX7_heatOf_62 (by decide) ?_
    refine z_pick [0, 1, 2] rfl ?_
    exact jX7_heatOf_66 C   Rq h
def fX7_heatOf_j29  (x1 : Int32) (x2 : Int32) (k0 : Int32) (mem : ZM) : Option (Int32) :=
  zlet k0 (fun v2 => Option.bind (fX7_litBeside x2 mem) (fun r3 => Option.bind (fX7_isLitIn v2 mem) (fun r4 => if r4 = 0 then (fX7_heatOf_j50  x1 x2 (0 : Int32) ((2 : Int32) * r3) mem) else (fX7_heatOf_j50  x1 x2 (1 : Int32) ((2 : Int32) * r3) mem))))
set_option maxRecDepth 100000 in
set_option maxHeartbeats 4000000 in
theorem jX7_heatOf_29 {l : Launch} {E : ZE} {Γ : ZG} (C : zC E Γ RX7 cX7_heatOf 5 4)  {x1 : Int32} {x2 : Int32} {k0 : Int32}  {mem : ZM}  {t : Int32}  (Rq : zRq E Γ (some .int) (some (.int t)) mem) (h : fX7_heatOf_j29  x1 x2 k0 mem = some t) : zG l E Γ 5 29 [(0, .ref (E.2.1 58)), (1, .int x1), (2, .int x2)] [.int k0] mem := by
  unfold fX7_heatOf_j29 at h
  refine z_istore_n [(0, .ref (E.2.1 58)), (1, .int x1), (2, .int x2)] C dX7_heatOf_29 h rfl (by decide) rfl (fun v2 h => ?_)
  refine z_iconst (v := 2) C dX7_heatOf_30 zc2 ?_
  refine z_aload_n C dX7_heatOf_31 rfl (j := 1) rfl ?_
  refine z_iload_n C dX7_heatOf_32 rfl (j := 3) rfl ?_
  obtain ⟨r3, h3, h⟩ := Option.bind_eq_some_iff.mp h
  refine z_callVi [.int x2] [.int (2 : Int32)] C dX7_heatOf_33 (by decide) zen_58 rfl zk_X7_152 zw516 zw517 ⟨⟨by decide, by decide⟩, rfl, Nat.le_of_ble_eq_true rfl⟩ rfl (sX7_litBeside  h3) ?_
  refine z_imul C dX7_heatOf_36 ?_
  refine z_aload_n C dX7_heatOf_37 rfl (j := 1) rfl ?_
  refine z_iload_n C dX7_heatOf_38 rfl (j := 0) rfl ?_
  obtain ⟨r4, h4, h⟩ := Option.bind_eq_some_iff.mp h
  refine z_callVi [.int v2] [.int ((2 : Int32) * r3)] C dX7_heatOf_39 (by decide) zen_58 rfl zk_X7_149 zw520 zw521 ⟨⟨by decide, by decide⟩, rfl, Nat.le_of_ble_eq_true rfl⟩ rfl (sX7_isLitIn  h4) ?_
  refine z_if_eq 49 C dX7_heatOf_42 (by decide) h (fun h => ?_) (fun h => ?_)
  · refine z_iconst (v := 0) C dX7_heatOf_49 zc0 ?_
    refine z_pick [1, 2, 3] rfl ?_
    exact jX7_heatOf_50 C   Rq h
  · refine z_iconst (v := 1) C dX7_heatOf_45 zc1 ?_
    refine z_goto 50 C dX7_heatOf_46 (by decide) ?_
    refine z_pick [1, 2, 3] rfl ?_
    exact jX7_heatOf_50 C   Rq h
def fX7_heatOf  (a1 : Int32) (mem : ZM) : Option (Int32) :=
  zgd (zin ((30 : Int32) + a1) 38) (zlet (mem 62 ((30 : Int32) + a1).toNatClampNeg) (fun v1 => zgd (zin (2 : Int32) 38) (if (mem 62 (2 : Int32).toNatClampNeg) = (1 : Int32) then (fX7_heatOf_j29  a1 v1 (v1 - (2 : Int32)) mem) else (fX7_heatOf_j29  a1 v1 (v1 + (2 : Int32)) mem))))
set_option maxRecDepth 100000 in
set_option maxHeartbeats 4000000 in
theorem sX7_heatOf {l : Launch} {E : ZE}  {a1 : Int32} {mem : ZM} {t : Int32} (h : fX7_heatOf a1 mem = some t) : zMet l E yX7_heatOf cX7_heatOf 5 (some .int) 4 [.ref (E.2.1 58), .int a1] mem (some (.int t)) mem := by
  refine z_enter (by decide) (Nat.le_of_ble_eq_true rfl) (fun Γ C Rq => ?_)
  have C : zC E Γ RX7 cX7_heatOf 5 4 := C
  show zG l E Γ 5 0 [(0, .ref (E.2.1 58)), (1, .int a1)] [] mem
  unfold fX7_heatOf at h
  refine z_aload_n C dX7_heatOf_0 rfl (j := 0) rfl ?_
  refine zg7_5 C dX7_heatOf_1 zw101 ?_
  refine z_bipush (v := 30) C dX7_heatOf_4 zb30 ?_
  refine z_iload_n C dX7_heatOf_6 rfl (j := 1) rfl ?_
  refine z_iadd C dX7_heatOf_7 ?_
  refine z_iald C dX7_heatOf_8 zar62 h (fun h => ?_)
  refine z_istore_n [(0, .ref (E.2.1 58)), (1, .int a1)] C dX7_heatOf_9 h rfl (by decide) rfl (fun v1 h => ?_)
  refine z_aload_n C dX7_heatOf_10 rfl (j := 1) rfl ?_
  refine zg7_5 C dX7_heatOf_11 zw101 ?_
  refine z_iconst (v := 2) C dX7_heatOf_14 zc2 ?_
  refine z_iald C dX7_heatOf_15 zar62 h (fun h => ?_)
  refine z_iconst (v := 1) C dX7_heatOf_16 zc1 ?_
  refine z_icmp_ne 26 C dX7_heatOf_17 (by decide) h (fun h => ?_) (fun h => ?_)
  · refine z_iload_n C dX7_heatOf_26 rfl (j := 0) rfl ?_
    refine z_iconst (v := 2) C dX7_heatOf_27 zc2 ?_
    refine z_iadd C dX7_heatOf_28 ?_
    refine z_pick [1, 2, 0] rfl ?_
    exact jX7_heatOf_29 C   Rq h
  · refine z_iload_n C dX7_heatOf_20 rfl (j := 0) rfl ?_
    refine z_iconst (v := 2) C dX7_heatOf_21 zc2 ?_
    refine z_isub C dX7_heatOf_22 ?_
    refine z_goto 29 C dX7_heatOf_23 (by decide) ?_
    refine z_pick [1, 2, 0] rfl ?_
    exact jX7_heatOf_29 C   Rq h
-- X7_burns
def fX7_burns  (a0 : Int32) : Option (Int32) :=
  if a0 = (1 : Int32) then (some (2 : Int32)) else (if a0 = (2 : Int32) then (some (1 : Int32)) else (if a0 = (3 : Int32) then (some (4 : Int32)) else (some (0 : Int32))))
set_option maxRecDepth 100000 in
set_option maxHeartbeats 4000000 in
theorem sX7_burns {l : Launch} {E : ZE}  {a0 : Int32} {mem : ZM} {t : Int32} (h : fX7_burns a0 = some t) : zMet l E yX7_burns cX7_burns 1 (some .int) 0 [.int a0] mem (some (.int t)) mem := by
  refine z_enter (by decide) (Nat.le_of_ble_eq_true rfl) (fun Γ C Rq => ?_)
  have C : zC E Γ RX7 cX7_burns 1 0 := C
  show zG l E Γ 1 0 [(0, .int a0)] [] mem
  unfold fX7_burns at h
  refine z_iload_n C dX7_burns_0 rfl (j := 0) rfl ?_
  refine z_iconst (v := 1) C dX7_burns_1 zc1 ?_
  refine z_icmp_ne 9 C dX7_burns_2 (by decide) h (fun h => ?_) (fun h => ?_)
  · refine z_iload_n C dX7_burns_9 rfl (j := 0) rfl ?_
    refine z_iconst (v := 2) C dX7_burns_10 zc2 ?_
    refine z_icmp_ne 18 C dX7_burns_11 (by decide) h (fun h => ?_) (fun h => ?_)
    · refine z_iload_n C dX7_burns_18 rfl (j := 0) rfl ?_
      refine z_iconst (v := 3) C dX7_burns_19 zc3 ?_
      refine z_icmp_ne 27 C dX7_burns_20 (by decide) h (fun h => ?_) (fun h => ?_)
      · refine z_iconst (v := 0) C dX7_burns_27 zc0 ?_
        have e := Option.some.inj h; subst e; exact z_iret C dX7_burns_28 Rq
      · refine z_iconst (v := 4) C dX7_burns_23 zc4 ?_
        refine z_goto 28 C dX7_burns_24 (by decide) ?_
        have e := Option.some.inj h; subst e; exact z_iret C dX7_burns_28 Rq
    · refine z_iconst (v := 1) C dX7_burns_14 zc1 ?_
      refine z_goto 28 C dX7_burns_15 (by decide) ?_
      have e := Option.some.inj h; subst e; exact z_iret C dX7_burns_28 Rq
  · refine z_iconst (v := 2) C dX7_burns_5 zc2 ?_
    refine z_goto 28 C dX7_burns_6 (by decide) ?_
    have e := Option.some.inj h; subst e; exact z_iret C dX7_burns_28 Rq
-- X7_smokes
def fX7_smokes  (a0 : Int32) : Option (Int32) :=
  if a0 = (1 : Int32) then (some (1 : Int32)) else (if a0 = (2 : Int32) then (some (3 : Int32)) else (some (0 : Int32)))
set_option maxRecDepth 100000 in
set_option maxHeartbeats 4000000 in
theorem sX7_smokes {l : Launch} {E : ZE}  {a0 : Int32} {mem : ZM} {t : Int32} (h : fX7_smokes a0 = some t) : zMet l E yX7_smokes cX7_smokes 1 (some .int) 0 [.int a0] mem (some (.int t)) mem := by
  refine z_enter (by decide) (Nat.le_of_ble_eq_true rfl) (fun Γ C Rq => ?_)
  have C : zC E Γ RX7 cX7_smokes 1 0 := C
  show zG l E Γ 1 0 [(0, .int a0)] [] mem
  unfold fX7_smokes at h
  refine z_iload_n C dX7_smokes_0 rfl (j := 0) rfl ?_
  refine z_iconst (v := 1) C dX7_smokes_1 zc1 ?_
  refine z_icmp_ne 9 C dX7_smokes_2 (by decide) h (fun h => ?_) (fun h => ?_)
  · refine z_iload_n C dX7_smokes_9 rfl (j := 0) rfl ?_
    refine z_iconst (v := 2) C dX7_smokes_10 zc2 ?_
    refine z_icmp_ne 18 C dX7_smokes_11 (by decide) h (fun h => ?_) (fun h => ?_)
    · refine z_iconst (v := 0) C dX7_smokes_18 zc0 ?_
      have e := Option.some.inj h; subst e; exact z_iret C dX7_smokes_19 Rq
    · refine z_iconst (v := 3) C dX7_smokes_14 zc3 ?_
      refine z_goto 19 C dX7_smokes_15 (by decide) ?_
      have e := Option.some.inj h; subst e; exact z_iret C dX7_smokes_19 Rq
  · refine z_iconst (v := 1) C dX7_smokes_5 zc1 ?_
    refine z_goto 19 C dX7_smokes_6 (by decide) ?_
    have e := Option.some.inj h; subst e; exact z_iret C dX7_smokes_19 Rq
-- X7_oneHour
def fX7_oneHour_b14  (y14_1 : Int32) (x14_2 : Int32) (memb : ZM) : Option ((Int32 × ZM) ⊕ (Int32 × ZM)) :=
  zgd (zin (0 : Int32) 38) (if (memb 62 (0 : Int32).toNatClampNeg) ≤ x14_2 then (some (Sum.inr (x14_2, memb))) else (Option.bind (fX7_heatOf x14_2 memb) (fun r5 => zgd (zin x14_2 8) (zlet (zst memb 66 x14_2.toNatClampNeg r5) (fun m6 => zlet (x14_2 + (1 : Int32)) (fun v7 => some (Sum.inl (v7, m6))))))))
def fX7_oneHour_l14  (y14_1 : Int32) (s : Int32 × ZM) : Option (Int32 × ZM) := ziter (fun s => fX7_oneHour_b14 y14_1 s.1 s.2) 2000 s
set_option maxRecDepth 100000 in
set_option maxHeartbeats 4000000 in
theorem bX7_oneHour_14 {l : Launch} {E : ZE} {Γ : ZG} (C : zC E Γ RX7 cX7_oneHour 4 5)  {y14_1 : Int32} {x14_2 : Int32} {memb : ZM} {u : (Int32 × ZM) ⊕ (Int32 × ZM)} (G1 : ∀ s', u = Sum.inl s' → zG l E Γ 4 14 [(0, .ref (E.2.1 58)), (1, .int y14_1), (2, .int (s'.1))] [] s'.2) (G2 : ∀ s', u = Sum.inr s' → zG l E Γ 4 41 [(0, .ref (E.2.1 58)), (1, .int y14_1)] [] s'.2) (h : fX7_oneHour_b14 y14_1 x14_2 memb = some u) : zG l E Γ 4 14 [(0, .ref (E.2.1 58)), (1, .int y14_1), (2, .int x14_2)] [] memb := by
  unfold fX7_oneHour_b14 at h
  refine z_iload_n C dX7_oneHour_14 rfl (j := 2) rfl ?_
  refine z_aload_n C dX7_oneHour_15 rfl (j := 0) rfl ?_
  refine zg7_5 C dX7_oneHour_16 zw101 ?_
  refine z_iconst (v := 0) C dX7_oneHour_19 zc0 ?_
  refine z_iald C dX7_oneHour_20 zar62 h (fun h => ?_)
  refine z_icmp_ge 41 C dX7_oneHour_21 (by decide) h (fun h => ?_) (fun h => ?_)
  · refine z_pick [0, 1] rfl ?_
    exact G2 _ (Option.some.inj h).symm
  · refine z_aload_n C dX7_oneHour_24 rfl (j := 0) rfl ?_
    refine zg7_16 C dX7_oneHour_25 zw105 ?_
    refine z_iload_n C dX7_oneHour_28 rfl (j := 2) rfl ?_
    refine z_aload_n C dX7_oneHour_29 rfl (j := 0) rfl ?_
    refine z_iload_n C dX7_oneHour_30 rfl (j := 2) rfl ?_
    obtain ⟨r5, h5, h⟩ := Option.bind_eq_some_iff.mp h
    refine z_callVi [.int x14_2] [.int x14_2, .ref (E.2.1 66)] C dX7_oneHour_31 (by decide) zen_58 rfl zk_X7_161 zw512 zw513 ⟨⟨by decide, by decide⟩, rfl, Nat.le_of_ble_eq_true rfl⟩ rfl (sX7_heatOf  h5) ?_
    refine z_iast C dX7_oneHour_34 zar66 h (fun m6 h => ?_)
    refine z_iinc [(0, .ref (E.2.1 58)), (1, .int y14_1)] C dX7_oneHour_35 zc1 h (j := 2) rfl (by decide) rfl (fun v7 h => ?_)
    refine z_goto 14 C dX7_oneHour_38 (by decide) ?_
    refine z_pick [1, 2, 0] rfl ?_
    exact G1 _ (Option.some.inj h).symm
theorem lX7_oneHour_14 {l : Launch} {E : ZE} {Γ : ZG} (C : zC E Γ RX7 cX7_oneHour 4 5)  {y14_1 : Int32} {s : Int32 × ZM} {r : Int32 × ZM} (h : fX7_oneHour_l14 y14_1 s = some r) (K1 : zG l E Γ 4 41 [(0, .ref (E.2.1 58)), (1, .int y14_1)] [] r.2) : zG l E Γ 4 14 [(0, .ref (E.2.1 58)), (1, .int y14_1), (2, .int s.1)] [] s.2 :=
  z_loop (body := fun s => fX7_oneHour_b14 y14_1 s.1 s.2) (fun s => zG l E Γ 4 14 [(0, .ref (E.2.1 58)), (1, .int y14_1), (2, .int s.1)] [] s.2) (fun r => zG l E Γ 4 41 [(0, .ref (E.2.1 58)), (1, .int y14_1)] [] r.2) (fun s u hb g1 g2 => bX7_oneHour_14 C  g1 g2 hb) 2000 s r h K1
def fX7_oneHour_j268  (y43_1 : Int32) (x2 : Int32) (k0 : Int32) (k1 : Int32) (mem : ZM) : Option ((Int32 × ZM) ⊕ (Int32 × ZM)) :=
  zgd (zin k1 38) (zlet (zst mem 62 k1.toNatClampNeg k0) (fun m13 => zlet (x2 + (1 : Int32)) (fun v14 => some (Sum.inl (v14, m13)))))
set_option maxRecDepth 100000 in
set_option maxHeartbeats 4000000 in
theorem jX7_oneHour_268 {l : Launch} {E : ZE} {Γ : ZG} (C : zC E Γ RX7 cX7_oneHour 4 5)  {y43_1 : Int32} {x2 : Int32} {k0 : Int32} {k1 : Int32}  {mem : ZM}  {u : (Int32 × ZM) ⊕ (Int32 × ZM)}  (G1 : ∀ s', u = Sum.inl s' → zG l E Γ 4 43 [(0, .ref (E.2.1 58)), (1, .int y43_1), (2, .int (s'.1))] [] s'.2) (G2 : ∀ s', u = Sum.inr s' → zG l E Γ 4 275 [(0, .ref (E.2.1 58))] [] s'.2) (h : fX7_oneHour_j268  y43_1 x2 k0 k1 mem = some u) : zG l E Γ 4 268 [(0, .ref (E.2.1 58)), (1, .int y43_1), (2, .int x2)] [.int k0, .int k1, .ref (E.2.1 62)] mem := by
  unfold fX7_oneHour_j268 at h
  refine z_iast C dX7_oneHour_268 zar62 h (fun m13 h => ?_)
  refine z_iinc [(0, .ref (E.2.1 58)), (1, .int y43_1)] C dX7_oneHour_269 zc1 h (j := 2) rfl (by decide) rfl (fun v14 h => ?_)
  refine z_goto 43 C dX7_oneHour_272 (by decide) ?_
  refine z_pick [1, 2, 0] rfl ?_
  exact G1 _ (Option.some.inj h).symm
def fX7_oneHour_j222  (y43_1 : Int32) (x2 : Int32) (mem : ZM) : Option ((Int32 × ZM) ⊕ (Int32 × ZM)) :=
  zgd (zin ((22 : Int32) + x2) 38) (zgd (zin x2 8) (if (mem 62 ((22 : Int32) + x2).toNatClampNeg) ≤ (mem 66 x2.toNatClampNeg) then (fX7_oneHour_j268  y43_1 x2 (0 : Int32) ((22 : Int32) + x2) mem) else (zgd (zin ((22 : Int32) + x2) 38) (zgd (zin x2 8) (fX7_oneHour_j268  y43_1 x2 ((mem 62 ((22 : Int32) + x2).toNatClampNeg) - (mem 66 x2.toNatClampNeg)) ((22 : Int32) + x2) mem)))))
set_option maxRecDepth 100000 in
set_option maxHeartbeats 4000000 in
theorem jX7_oneHour_222 {l : Launch} {E : ZE} {Γ : ZG} (C : zC E Γ RX7 cX7_oneHour 4 5)  {y43_1 : Int32} {x2 : Int32}  {mem : ZM}  {u : (Int32 × ZM) ⊕ (Int32 × ZM)}  (G1 : ∀ s', u = Sum.inl s' → zG l E Γ 4 43 [(0, .ref (E.2.1 58)), (1, .int y43_1), (2, .int (s'.1))] [] s'.2) (G2 : ∀ s', u = Sum.inr s' → zG l E Γ 4 275 [(0, .ref (E.2.1 58))] [] s'.2) (h : fX7_oneHour_j222  y43_1 x2 mem = some u) : zG l E Γ 4 222 [(0, .ref (E.2.1 58)), (1, .int y43_1), (2, .int x2)] [] mem := by
  unfold fX7_oneHour_j222 at h
  refine z_aload_n C dX7_oneHour_222 rfl (j := 0) rfl ?_
  refine zg7_5 C dX7_oneHour_223 zw101 ?_
  refine z_bipush (v := 22) C dX7_oneHour_226 zb22 ?_
  refine z_iload_n C dX7_oneHour_228 rfl (j := 2) rfl ?_
  refine z_iadd C dX7_oneHour_229 ?_
  refine z_aload_n C dX7_oneHour_230 rfl (j := 0) rfl ?_
  refine zg7_5 C dX7_oneHour_231 zw101 ?_
  refine z_bipush (v := 22) C dX7_oneHour_234 zb22 ?_
  refine z_iload_n C dX7_oneHour_236 rfl (j := 2) rfl ?_
  refine z_iadd C dX7_oneHour_237 ?_
  refine z_iald C dX7_oneHour_238 zar62 h (fun h => ?_)
  refine z_aload_n C dX7_oneHour_239 rfl (j := 0) rfl ?_
  refine zg7_16 C dX7_oneHour_240 zw105 ?_
  refine z_iload_n C dX7_oneHour_243 rfl (j := 2) rfl ?_
  refine z_iald C dX7_oneHour_244 zar66 h (fun h => ?_)
  refine z_icmp_le 267 C dX7_oneHour_245 (by decide) h (fun h => ?_) (fun h => ?_)
  · refine z_iconst (v := 0) C dX7_oneHour_267 zc0 ?_
    refine z_pick [0, 1, 2] rfl ?_
    exact jX7_oneHour_268 C   G1 G2 h
  · refine z_aload_n C dX7_oneHour_248 rfl (j := 0) rfl ?_
    refine zg7_5 C dX7_oneHour_249 zw101 ?_
    refine z_bipush (v := 22) C dX7_oneHour_252 zb22 ?_
    refine z_iload_n C dX7_oneHour_254 rfl (j := 2) rfl ?_
    refine z_iadd C dX7_oneHour_255 ?_
    refine z_iald C dX7_oneHour_256 zar62 h (fun h => ?_)
    refine z_aload_n C dX7_oneHour_257 rfl (j := 0) rfl ?_
    refine zg7_16 C dX7_oneHour_258 zw105 ?_
    refine z_iload_n C dX7_oneHour_261 rfl (j := 2) rfl ?_
    refine z_iald C dX7_oneHour_262 zar66 h (fun h => ?_)
    refine z_isub C dX7_oneHour_263 ?_
    refine z_goto 268 C dX7_oneHour_264 (by decide) ?_
    refine z_pick [0, 1, 2] rfl ?_
    exact jX7_oneHour_268 C   G1 G2 h
def fX7_oneHour_j152  (y43_1 : Int32) (x2 : Int32) (x3 : Int32) (k0 : Int32) (k1 : Int32) (mem : ZM) : Option ((Int32 × ZM) ⊕ (Int32 × ZM)) :=
  zgd (zin k1 38) (zlet (zst mem 62 k1.toNatClampNeg k0) (fun m18 => Option.bind (fX7_smokes x3) (fun r19 => zlet (zst m18 58 17 ((m18 58 17) + r19)) (fun m20 => fX7_oneHour_j222  y43_1 x2 m20))))
set_option maxRecDepth 100000 in
set_option maxHeartbeats 4000000 in
theorem jX7_oneHour_152 {l : Launch} {E : ZE} {Γ : ZG} (C : zC E Γ RX7 cX7_oneHour 4 5)  {y43_1 : Int32} {x2 : Int32} {x3 : Int32} {k0 : Int32} {k1 : Int32}  {mem : ZM}  {u : (Int32 × ZM) ⊕ (Int32 × ZM)}  (G1 : ∀ s', u = Sum.inl s' → zG l E Γ 4 43 [(0, .ref (E.2.1 58)), (1, .int y43_1), (2, .int (s'.1))] [] s'.2) (G2 : ∀ s', u = Sum.inr s' → zG l E Γ 4 275 [(0, .ref (E.2.1 58))] [] s'.2) (h : fX7_oneHour_j152  y43_1 x2 x3 k0 k1 mem = some u) : zG l E Γ 4 152 [(0, .ref (E.2.1 58)), (1, .int y43_1), (2, .int x2), (3, .int x3)] [.int k0, .int k1, .ref (E.2.1 62)] mem := by
  unfold fX7_oneHour_j152 at h
  refine z_iast C dX7_oneHour_152 zar62 h (fun m18 h => ?_)
  refine z_aload_n C dX7_oneHour_153 rfl (j := 0) rfl ?_
  refine z_dup C dX7_oneHour_154 rfl ?_
  refine zg7_17 C dX7_oneHour_155 zw509 ?_
  refine z_iload_n C dX7_oneHour_158 rfl (j := 3) rfl ?_
  obtain ⟨r19, h19, h⟩ := Option.bind_eq_some_iff.mp h
  refine z_callSi [.int x3] [.int (m18 58 17), .ref (E.2.1 58)] C dX7_oneHour_159 zk_X7_167 zw538 ⟨⟨by decide, by decide⟩, rfl, Nat.le_of_ble_eq_true rfl⟩ rfl (sX7_smokes  h19) ?_
  refine z_iadd C dX7_oneHour_162 ?_
  refine zp7_17 C dX7_oneHour_163 zw509 h (fun m20 h => ?_)
  refine z_goto 222 C dX7_oneHour_166 (by decide) ?_
  refine z_pick [0, 1, 2] rfl ?_
  exact jX7_oneHour_222 C   G1 G2 h
def fX7_oneHour_j113  (y43_1 : Int32) (x2 : Int32) (x3 : Int32) (k0 : Int32) (k1 : Int32) (mem : ZM) : Option ((Int32 × ZM) ⊕ (Int32 × ZM)) :=
  zgd (zin k1 38) (zlet (zst mem 62 k1.toNatClampNeg k0) (fun m17 => zgd (zin ((14 : Int32) + x2) 38) (if (m17 62 ((14 : Int32) + x2).toNatClampNeg) = 0 then (zgd (zin (4 : Int32) 38) (fX7_oneHour_j152  y43_1 x2 x3 ((m17 62 (4 : Int32).toNatClampNeg) &&& (((1 : Int32) <<< (x2 &&& 31)) ^^^ (-1 : Int32))) (4 : Int32) m17)) else (zgd (zin (4 : Int32) 38) (fX7_oneHour_j152  y43_1 x2 x3 (m17 62 (4 : Int32).toNatClampNeg) (4 : Int32) m17)))))
set_option maxRecDepth 100000 in
set_option maxHeartbeats 4000000 in
theorem jX7_oneHour_113 {l : Launch} {E : ZE} {Γ : ZG} (C : zC E Γ RX7 cX7_oneHour 4 5)  {y43_1 : Int32} {x2 : Int32} {x3 : Int32} {k0 : Int32} {k1 : Int32}  {mem : ZM}  {u : (Int32 × ZM) ⊕ (Int32 × ZM)}  (G1 : ∀ s', u = Sum.inl s' → zG l E Γ 4 43 [(0, .ref (E.2.1 58)), (1, .int y43_1), (2, .int (s'.1))] [] s'.2) (G2 : ∀ s', u = Sum.inr s' → zG l E Γ 4 275 [(0, .ref (E.2.1 58))] [] s'.2) (h : fX7_oneHour_j113  y43_1 x2 x3 k0 k1 mem = some u) : zG l E Γ 4 113 [(0, .ref (E.2.1 58)), (1, .int y43_1), (2, .int x2), (3, .int x3)] [.int k0, .int k1, .ref (E.2.1 62)] mem := by
  unfold fX7_oneHour_j113 at h
  refine z_iast C dX7_oneHour_113 zar62 h (fun m17 h => ?_)
  refine z_aload_n C dX7_oneHour_114 rfl (j := 0) rfl ?_
  refine zg7_5 C dX7_oneHour_115 zw101 ?_
  refine z_iconst (v := 4) C dX7_oneHour_118 zc4 ?_
  refine z_aload_n C dX7_oneHour_119 rfl (j := 0) rfl ?_
  refine zg7_5 C dX7_oneHour_120 zw101 ?_
  refine z_bipush (v := 14) C dX7_oneHour_123 zb14 ?_
  refine z_iload_n C dX7_oneHour_125 rfl (j := 2) rfl ?_
  refine z_iadd C dX7_oneHour_126 ?_
  refine z_iald C dX7_oneHour_127 zar62 h (fun h => ?_)
  refine z_if_ne 146 C dX7_oneHour_128 (by decide) h (fun h => ?_) (fun h => ?_)
  · refine z_aload_n C dX7_oneHour_146 rfl (j := 0) rfl ?_
    refine zg7_5 C dX7_oneHour_147 zw101 ?_
    refine z_iconst (v := 4) C dX7_oneHour_150 zc4 ?_
    refine z_iald C dX7_oneHour_151 zar62 h (fun h => ?_)
    refine z_pick [0, 1, 2, 3] rfl ?_
    exact jX7_oneHour_152 C   G1 G2 h
  · refine z_aload_n C dX7_oneHour_131 rfl (j := 0) rfl ?_
    refine zg7_5 C dX7_oneHour_132 zw101 ?_
    refine z_iconst (v := 4) C dX7_oneHour_135 zc4 ?_
    refine z_iald C dX7_oneHour_136 zar62 h (fun h => ?_)
    refine z_iconst (v := 1) C dX7_oneHour_137 zc1 ?_
    refine z_iload_n C dX7_oneHour_138 rfl (j := 2) rfl ?_
    refine z_ishl C dX7_oneHour_139 ?_
    refine z_iconst (v := -1) C dX7_oneHour_140 zcm1 ?_
    refine z_ixor C dX7_oneHour_141 ?_
    refine z_iand C dX7_oneHour_142 ?_
    refine z_goto 152 C dX7_oneHour_143 (by decide) ?_
    refine z_pick [0, 1, 2, 3] rfl ?_
    exact jX7_oneHour_152 C   G1 G2 h
def fX7_oneHour_b43  (y43_1 : Int32) (x43_2 : Int32) (memb : ZM) : Option ((Int32 × ZM) ⊕ (Int32 × ZM)) :=
  zgd (zin (0 : Int32) 38) (if (memb 62 (0 : Int32).toNatClampNeg) ≤ x43_2 then (some (Sum.inr (x43_2, memb))) else (zgd (zin ((6 : Int32) + x43_2) 38) (zlet (memb 62 ((6 : Int32) + x43_2).toNatClampNeg) (fun v10 => Option.bind (fX7_has y43_1 x43_2) (fun r11 => if r11 = 0 then (Option.bind (fX7_burns v10) (fun r12 => if r12 ≤ 0 then (fX7_oneHour_j222  y43_1 x43_2 memb) else (zgd (zin ((14 : Int32) + x43_2) 38) (if (memb 62 ((14 : Int32) + x43_2).toNatClampNeg) ≤ 0 then (fX7_oneHour_j222  y43_1 x43_2 memb) else (zgd (zin ((22 : Int32) + x43_2) 38) (if (memb 62 ((22 : Int32) + x43_2).toNatClampNeg) = 0 then (zgd (zin x43_2 8) (if (memb 66 x43_2.toNatClampNeg) ≤ (1 : Int32) then (fX7_oneHour_j222  y43_1 x43_2 memb) else (zgd (zin (4 : Int32) 38) (zgd (zin (4 : Int32) 38) (zlet (zst memb 62 (4 : Int32).toNatClampNeg ((memb 62 (4 : Int32).toNatClampNeg) ||| ((1 : Int32) <<< (x43_2 &&& 31)))) (fun m15 => fX7_oneHour_j222  y43_1 x43_2 m15)))))) else (fX7_oneHour_j222  y43_1 x43_2 memb))))))) else (zgd (zin ((14 : Int32) + x43_2) 38) (Option.bind (fX7_burns v10) (fun r16 => if (memb 62 ((14 : Int32) + x43_2).toNatClampNeg) ≤ r16 then (fX7_oneHour_j113  y43_1 x43_2 v10 (0 : Int32) ((14 : Int32) + x43_2) memb) else (zgd (zin ((14 : Int32) + x43_2) 38) (Option.bind (fX7_burns v10) (fun r21 => fX7_oneHour_j113  y43_1 x43_2 v10 ((memb 62 ((14 : Int32) + x43_2).toNatClampNeg) - r21) ((14 : Int32) + x43_2) memb)))))))))))
def fX7_oneHour_l43  (y43_1 : Int32) (s : Int32 × ZM) : Option (Int32 × ZM) := ziter (fun s => fX7_oneHour_b43 y43_1 s.1 s.2) 2000 s
set_option maxRecDepth 100000 in
set_option maxHeartbeats 4000000 in
theorem bX7_oneHour_43 {l : Launch} {E : ZE} {Γ : ZG} (C : zC E Γ RX7 cX7_oneHour 4 5)  {y43_1 : Int32} {x43_2 : Int32} {memb : ZM} {u : (Int32 × ZM) ⊕ (Int32 × ZM)} (G1 : ∀ s', u = Sum.inl s' → zG l E Γ 4 43 [(0, .ref (E.2.1 58)), (1, .int y43_1), (2, .int (s'.1))] [] s'.2) (G2 : ∀ s', u = Sum.inr s' → zG l E Γ 4 275 [(0, .ref (E.2.1 58))] [] s'.2) (h : fX7_oneHour_b43 y43_1 x43_2 memb = some u) : zG l E Γ 4 43 [(0, .ref (E.2.1 58)), (1, .int y43_1), (2, .int x43_2)] [] memb := by
  unfold fX7_oneHour_b43 at h
  refine z_iload_n C dX7_oneHour_43 rfl (j := 2) rfl ?_
  refine z_aload_n C dX7_oneHour_44 rfl (j := 0) rfl ?_
  refine zg7_5 C dX7_oneHour_45 zw101 ?_
  refine z_iconst (v := 0) C dX7_oneHour_48 zc0 ?_
  refine z_iald C dX7_oneHour_49 zar62 h (fun h => ?_)
  refine z_icmp_ge 275 C dX7_oneHour_50 (by decide) h (fun h => ?_) (fun h => ?_)
  · refine z_pick [0] rfl ?_
    exact G2 _ (Option.some.inj h).symm
  · refine z_aload_n C dX7_oneHour_53 rfl (j := 0) rfl ?_
    refine zg7_5 C dX7_oneHour_54 zw101 ?_
    refine z_bipush (v := 6) C dX7_oneHour_57 zb6 ?_
    refine z_iload_n C dX7_oneHour_59 rfl (j := 2) rfl ?_
    refine z_iadd C dX7_oneHour_60 ?_
    refine z_iald C dX7_oneHour_61 zar62 h (fun h => ?_)
    refine z_istore_n [(0, .ref (E.2.1 58)), (1, .int y43_1), (2, .int x43_2)] C dX7_oneHour_62 h rfl (by decide) rfl (fun v10 h => ?_)
    refine z_iload_n C dX7_oneHour_63 rfl (j := 2) rfl ?_
    refine z_iload_n C dX7_oneHour_64 rfl (j := 3) rfl ?_
    obtain ⟨r11, h11, h⟩ := Option.bind_eq_some_iff.mp h
    refine z_callSi [.int y43_1, .int x43_2] [] C dX7_oneHour_65 zk_X7_145 zw528 ⟨⟨by decide, by decide⟩, rfl, Nat.le_of_ble_eq_true rfl⟩ rfl (sX7_has  h11) ?_
    refine z_if_eq 169 C dX7_oneHour_68 (by decide) h (fun h => ?_) (fun h => ?_)
    · refine z_iload_n C dX7_oneHour_169 rfl (j := 0) rfl ?_
      obtain ⟨r12, h12, h⟩ := Option.bind_eq_some_iff.mp h
      refine z_callSi [.int v10] [] C dX7_oneHour_170 zk_X7_164 zw535 ⟨⟨by decide, by decide⟩, rfl, Nat.le_of_ble_eq_true rfl⟩ rfl (sX7_burns  h12) ?_
      refine z_if_le 222 C dX7_oneHour_173 (by decide) h (fun h => ?_) (fun h => ?_)
      · refine z_pick [1, 2, 3] rfl ?_
        exact jX7_oneHour_222 C   G1 G2 h
      · refine z_aload_n C dX7_oneHour_176 rfl (j := 1) rfl ?_
        refine zg7_5 C dX7_oneHour_177 zw101 ?_
        refine z_bipush (v := 14) C dX7_oneHour_180 zb14 ?_
        refine z_iload_n C dX7_oneHour_182 rfl (j := 3) rfl ?_
        refine z_iadd C dX7_oneHour_183 ?_
        refine z_iald C dX7_oneHour_184 zar62 h (fun h => ?_)
        refine z_if_le 222 C dX7_oneHour_185 (by decide) h (fun h => ?_) (fun h => ?_)
        · refine z_pick [1, 2, 3] rfl ?_
          exact jX7_oneHour_222 C   G1 G2 h
        · refine z_aload_n C dX7_oneHour_188 rfl (j := 1) rfl ?_
          refine zg7_5 C dX7_oneHour_189 zw101 ?_
          refine z_bipush (v := 22) C dX7_oneHour_192 zb22 ?_
          refine z_iload_n C dX7_oneHour_194 rfl (j := 3) rfl ?_
          refine z_iadd C dX7_oneHour_195 ?_
          refine z_iald C dX7_oneHour_196 zar62 h (fun h => ?_)
          refine z_if_ne 222 C dX7_oneHour_197 (by decide) h (fun h => ?_) (fun h => ?_)
          · refine z_pick [1, 2, 3] rfl ?_
            exact jX7_oneHour_222 C   G1 G2 h
          · refine z_aload_n C dX7_oneHour_200 rfl (j := 1) rfl ?_
            refine zg7_16 C dX7_oneHour_201 zw105 ?_
            refine z_iload_n C dX7_oneHour_204 rfl (j := 3) rfl ?_
            refine z_iald C dX7_oneHour_205 zar66 h (fun h => ?_)
            refine z_iconst (v := 1) C dX7_oneHour_206 zc1 ?_
            refine z_icmp_le 222 C dX7_oneHour_207 (by decide) h (fun h => ?_) (fun h => ?_)
            · refine z_pick [1, 2, 3] rfl ?_
              exact jX7_oneHour_222 C   G1 G2 h
            · refine z_aload_n C dX7_oneHour_210 rfl (j := 1) rfl ?_
              refine zg7_5 C dX7_oneHour_211 zw101 ?_
              refine z_iconst (v := 4) C dX7_oneHour_214 zc4 ?_
              refine z_dup2 C dX7_oneHour_215 rfl rfl ?_
              refine z_iald C dX7_oneHour_216 zar62 h (fun h => ?_)
              refine z_iconst (v := 1) C dX7_oneHour_217 zc1 ?_
              refine z_iload_n C dX7_oneHour_218 rfl (j := 3) rfl ?_
              refine z_ishl C dX7_oneHour_219 ?_
              refine z_ior C dX7_oneHour_220 ?_
              refine z_iast C dX7_oneHour_221 zar62 h (fun m15 h => ?_)
              refine z_pick [1, 2, 3] rfl ?_
              exact jX7_oneHour_222 C   G1 G2 h
    · refine z_aload_n C dX7_oneHour_71 rfl (j := 1) rfl ?_
      refine zg7_5 C dX7_oneHour_72 zw101 ?_
      refine z_bipush (v := 14) C dX7_oneHour_75 zb14 ?_
      refine z_iload_n C dX7_oneHour_77 rfl (j := 3) rfl ?_
      refine z_iadd C dX7_oneHour_78 ?_
      refine z_aload_n C dX7_oneHour_79 rfl (j := 1) rfl ?_
      refine zg7_5 C dX7_oneHour_80 zw101 ?_
      refine z_bipush (v := 14) C dX7_oneHour_83 zb14 ?_
      refine z_iload_n C dX7_oneHour_85 rfl (j := 3) rfl ?_
      refine z_iadd C dX7_oneHour_86 ?_
      refine z_iald C dX7_oneHour_87 zar62 h (fun h => ?_)
      refine z_iload_n C dX7_oneHour_88 rfl (j := 0) rfl ?_
      obtain ⟨r16, h16, h⟩ := Option.bind_eq_some_iff.mp h
      refine z_callSi [.int v10] [.int (memb 62 ((14 : Int32) + x43_2).toNatClampNeg), .int ((14 : Int32) + x43_2), .ref (E.2.1 62)] C dX7_oneHour_89 zk_X7_164 zw535 ⟨⟨by decide, by decide⟩, rfl, Nat.le_of_ble_eq_true rfl⟩ rfl (sX7_burns  h16) ?_
      refine z_icmp_le 112 C dX7_oneHour_92 (by decide) h (fun h => ?_) (fun h => ?_)
      · refine z_iconst (v := 0) C dX7_oneHour_112 zc0 ?_
        refine z_pick [1, 2, 3, 0] rfl ?_
        exact jX7_oneHour_113 C   G1 G2 h
      · refine z_aload_n C dX7_oneHour_95 rfl (j := 1) rfl ?_
        refine zg7_5 C dX7_oneHour_96 zw101 ?_
        refine z_bipush (v := 14) C dX7_oneHour_99 zb14 ?_
        refine z_iload_n C dX7_oneHour_101 rfl (j := 3) rfl ?_
        refine z_iadd C dX7_oneHour_102 ?_
        refine z_iald C dX7_oneHour_103 zar62 h (fun h => ?_)
        refine z_iload_n C dX7_oneHour_104 rfl (j := 0) rfl ?_
        obtain ⟨r21, h21, h⟩ := Option.bind_eq_some_iff.mp h
        refine z_callSi [.int v10] [.int (memb 62 ((14 : Int32) + x43_2).toNatClampNeg), .int ((14 : Int32) + x43_2), .ref (E.2.1 62)] C dX7_oneHour_105 zk_X7_164 zw535 ⟨⟨by decide, by decide⟩, rfl, Nat.le_of_ble_eq_true rfl⟩ rfl (sX7_burns  h21) ?_
        refine z_isub C dX7_oneHour_108 ?_
        refine z_goto 113 C dX7_oneHour_109 (by decide) ?_
        refine z_pick [1, 2, 3, 0] rfl ?_
        exact jX7_oneHour_113 C   G1 G2 h
theorem lX7_oneHour_43 {l : Launch} {E : ZE} {Γ : ZG} (C : zC E Γ RX7 cX7_oneHour 4 5)  {y43_1 : Int32} {s : Int32 × ZM} {r : Int32 × ZM} (h : fX7_oneHour_l43 y43_1 s = some r) (K1 : zG l E Γ 4 275 [(0, .ref (E.2.1 58))] [] r.2) : zG l E Γ 4 43 [(0, .ref (E.2.1 58)), (1, .int y43_1), (2, .int s.1)] [] s.2 :=
  z_loop (body := fun s => fX7_oneHour_b43 y43_1 s.1 s.2) (fun s => zG l E Γ 4 43 [(0, .ref (E.2.1 58)), (1, .int y43_1), (2, .int s.1)] [] s.2) (fun r => zG l E Γ 4 275 [(0, .ref (E.2.1 58))] [] r.2) (fun s u hb g1 g2 => bX7_oneHour_43 C  g1 g2 hb) 2000 s r h K1
def fX7_oneHour_j312  (k0 : Int32) (k1 : Int32) (mem : ZM) : Option (ZM) :=
  zgd (zin k1 38) (zlet (zst mem 62 k1.toNatClampNeg k0) (fun m22 => zgd (zin (1 : Int32) 38) (zgd (zin (1 : Int32) 38) (zlet (zst m22 62 (1 : Int32).toNatClampNeg ((m22 62 (1 : Int32).toNatClampNeg) + (1 : Int32))) (fun m23 => some m23)))))
set_option maxRecDepth 100000 in
set_option maxHeartbeats 4000000 in
theorem jX7_oneHour_312 {l : Launch} {E : ZE} {Γ : ZG} (C : zC E Γ RX7 cX7_oneHour 4 5)  {k0 : Int32} {k1 : Int32}  {mem : ZM}  {t : ZM}  (Rq : zRq E Γ none none t) (h : fX7_oneHour_j312  k0 k1 mem = some t) : zG l E Γ 4 312 [(0, .ref (E.2.1 58))] [.int k0, .int k1, .ref (E.2.1 62)] mem := by
  unfold fX7_oneHour_j312 at h
  refine z_iast C dX7_oneHour_312 zar62 h (fun m22 h => ?_)
  refine z_aload_n C dX7_oneHour_313 rfl (j := 0) rfl ?_
  refine zg7_5 C dX7_oneHour_314 zw101 ?_
  refine z_iconst (v := 1) C dX7_oneHour_317 zc1 ?_
  refine z_dup2 C dX7_oneHour_318 rfl rfl ?_
  refine z_iald C dX7_oneHour_319 zar62 h (fun h => ?_)
  refine z_iconst (v := 1) C dX7_oneHour_320 zc1 ?_
  refine z_iadd C dX7_oneHour_321 ?_
  refine z_iast C dX7_oneHour_322 zar62 h (fun m23 h => ?_)
  have e := Option.some.inj h; subst e; exact z_vret C dX7_oneHour_323 Rq
def fX7_oneHour   (mem : ZM) : Option (ZM) :=
  zgd (zin (4 : Int32) 38) (zlet (mem 62 (4 : Int32).toNatClampNeg) (fun v1 => zlet (zst mem 58 17 (0 : Int32)) (fun m2 => zlet (0 : Int32) (fun v3 => Option.bind (fX7_oneHour_l14 v1 (v3, m2)) (fun r4 => zlet (0 : Int32) (fun v8 => Option.bind (fX7_oneHour_l43 v1 (v8, r4.2)) (fun r9 => zgd (zin (3 : Int32) 38) (if ((r9.2 62 (3 : Int32).toNatClampNeg) + (r9.2 58 17)) ≤ (99999 : Int32) then (zgd (zin (3 : Int32) 38) (fX7_oneHour_j312  ((r9.2 62 (3 : Int32).toNatClampNeg) + (r9.2 58 17)) (3 : Int32) r9.2)) else (fX7_oneHour_j312  (99999 : Int32) (3 : Int32) r9.2)))))))))
set_option maxRecDepth 100000 in
set_option maxHeartbeats 4000000 in
theorem sX7_oneHour {l : Launch} {E : ZE}   {mem : ZM} {t : ZM} (h : fX7_oneHour mem = some t) : zMet l E yX7_oneHour cX7_oneHour 4 none 5 [.ref (E.2.1 58)] mem none t := by
  refine z_enter (by decide) (Nat.le_of_ble_eq_true rfl) (fun Γ C Rq => ?_)
  have C : zC E Γ RX7 cX7_oneHour 4 5 := C
  show zG l E Γ 4 0 [(0, .ref (E.2.1 58))] [] mem
  unfold fX7_oneHour at h
  refine z_aload_n C dX7_oneHour_0 rfl (j := 0) rfl ?_
  refine zg7_5 C dX7_oneHour_1 zw101 ?_
  refine z_iconst (v := 4) C dX7_oneHour_4 zc4 ?_
  refine z_iald C dX7_oneHour_5 zar62 h (fun h => ?_)
  refine z_istore_n [(0, .ref (E.2.1 58))] C dX7_oneHour_6 h rfl (by decide) rfl (fun v1 h => ?_)
  refine z_aload_n C dX7_oneHour_7 rfl (j := 1) rfl ?_
  refine z_iconst (v := 0) C dX7_oneHour_8 zc0 ?_
  refine zp7_17 C dX7_oneHour_9 zw509 h (fun m2 h => ?_)
  refine z_iconst (v := 0) C dX7_oneHour_12 zc0 ?_
  refine z_istore_n [(1, .int v1), (0, .ref (E.2.1 58))] C dX7_oneHour_13 h rfl (by decide) rfl (fun v3 h => ?_)
  obtain ⟨r4, h4, h⟩ := Option.bind_eq_some_iff.mp h
  refine z_pick [2, 1, 0] rfl ?_
  refine lX7_oneHour_14 C  h4 ?_
  refine z_iconst (v := 0) C dX7_oneHour_41 zc0 ?_
  refine z_istore_n [(0, .ref (E.2.1 58)), (1, .int v1)] C dX7_oneHour_42 h rfl (by decide) rfl (fun v8 h => ?_)
  obtain ⟨r9, h9, h⟩ := Option.bind_eq_some_iff.mp h
  refine z_pick [1, 2, 0] rfl ?_
  refine lX7_oneHour_43 C  h9 ?_
  refine z_aload_n C dX7_oneHour_275 rfl (j := 0) rfl ?_
  refine zg7_5 C dX7_oneHour_276 zw101 ?_
  refine z_iconst (v := 3) C dX7_oneHour_279 zc3 ?_
  refine z_aload_n C dX7_oneHour_280 rfl (j := 0) rfl ?_
  refine zg7_5 C dX7_oneHour_281 zw101 ?_
  refine z_iconst (v := 3) C dX7_oneHour_284 zc3 ?_
  refine z_iald C dX7_oneHour_285 zar62 h (fun h => ?_)
  refine z_aload_n C dX7_oneHour_286 rfl (j := 0) rfl ?_
  refine zg7_17 C dX7_oneHour_287 zw509 ?_
  refine z_iadd C dX7_oneHour_290 ?_
  refine z_ldc C dX7_oneHour_291 zw510 ?_
  refine z_icmp_le 301 C dX7_oneHour_293 (by decide) h (fun h => ?_) (fun h => ?_)
  · refine z_aload_n C dX7_oneHour_301 rfl (j := 0) rfl ?_
    refine zg7_5 C dX7_oneHour_302 zw101 ?_
    refine z_iconst (v := 3) C dX7_oneHour_305 zc3 ?_
    refine z_iald C dX7_oneHour_306 zar62 h (fun h => ?_)
    refine z_aload_n C dX7_oneHour_307 rfl (j := 0) rfl ?_
    refine zg7_17 C dX7_oneHour_308 zw509 ?_
    refine z_iadd C dX7_oneHour_311 ?_
    refine z_pick [0] rfl ?_
    exact jX7_oneHour_312 C   Rq h
  · refine z_ldc C dX7_oneHour_296 zw510 ?_
    refine z_goto 312 C dX7_oneHour_298 (by decide) ?_
    refine z_pick [0] rfl ?_
    exact jX7_oneHour_312 C   Rq h
-- X7_ashes
def fX7_ashes_j34  (x2 : Int32) (k0 : Int32) (k1 : Int32) (mem4 : ZM) : Option ((Int32 × Int32) ⊕ (Int32 × Int32)) :=
  zlet (k1 ||| k0) (fun v4 => zlet (x2 + (1 : Int32)) (fun v5 => some (Sum.inl (v4, v5))))
set_option maxRecDepth 100000 in
set_option maxHeartbeats 4000000 in
theorem jX7_ashes_34 {l : Launch} {E : ZE} {Γ : ZG} (C : zC E Γ RX7 cX7_ashes 3 0)  {x2 : Int32} {k0 : Int32} {k1 : Int32}  {mem4 : ZM}  {u : (Int32 × Int32) ⊕ (Int32 × Int32)}  (G1 : ∀ s', u = Sum.inl s' → zG l E Γ 3 4 [(0, .ref (E.2.1 58)), (1, .int (s'.1)), (2, .int (s'.2))] [] mem4) (G2 : ∀ s', u = Sum.inr s' → zG l E Γ 3 42 [(1, .int (s'.1))] [] mem4) (h : fX7_ashes_j34  x2 k0 k1 mem4 = some u) : zG l E Γ 3 34 [(0, .ref (E.2.1 58)), (2, .int x2)] [.int k0, .int k1] mem4 := by
  unfold fX7_ashes_j34 at h
  refine z_ior C dX7_ashes_34 ?_
  refine z_istore_n [(0, .ref (E.2.1 58)), (2, .int x2)] C dX7_ashes_35 h rfl (by decide) rfl (fun v4 h => ?_)
  refine z_iinc [(1, .int v4), (0, .ref (E.2.1 58))] C dX7_ashes_36 zc1 h (j := 2) rfl (by decide) rfl (fun v5 h => ?_)
  refine z_goto 4 C dX7_ashes_39 (by decide) ?_
  refine z_pick [2, 1, 0] rfl ?_
  exact G1 _ (Option.some.inj h).symm
def fX7_ashes_b4   (mem4 : ZM) (x4_1 : Int32) (x4_2 : Int32) : Option ((Int32 × Int32) ⊕ (Int32 × Int32)) :=
  zgd (zin (0 : Int32) 38) (if (mem4 62 (0 : Int32).toNatClampNeg) ≤ x4_2 then (some (Sum.inr (x4_1, x4_2))) else (zgd (zin ((14 : Int32) + x4_2) 38) (if (mem4 62 ((14 : Int32) + x4_2).toNatClampNeg) = 0 then (fX7_ashes_j34  x4_2 ((1 : Int32) <<< (x4_2 &&& 31)) x4_1 mem4) else (fX7_ashes_j34  x4_2 (0 : Int32) x4_1 mem4))))
def fX7_ashes_l4   (mem4 : ZM) (s : Int32 × Int32) : Option (Int32 × Int32) := ziter (fun s => fX7_ashes_b4 mem4 s.1 s.2) 2000 s
set_option maxRecDepth 100000 in
set_option maxHeartbeats 4000000 in
theorem bX7_ashes_4 {l : Launch} {E : ZE} {Γ : ZG} (C : zC E Γ RX7 cX7_ashes 3 0)   {mem4 : ZM} {x4_1 : Int32} {x4_2 : Int32} {u : (Int32 × Int32) ⊕ (Int32 × Int32)} (G1 : ∀ s', u = Sum.inl s' → zG l E Γ 3 4 [(0, .ref (E.2.1 58)), (1, .int (s'.1)), (2, .int (s'.2))] [] mem4) (G2 : ∀ s', u = Sum.inr s' → zG l E Γ 3 42 [(1, .int (s'.1))] [] mem4) (h : fX7_ashes_b4 mem4 x4_1 x4_2 = some u) : zG l E Γ 3 4 [(0, .ref (E.2.1 58)), (1, .int x4_1), (2, .int x4_2)] [] mem4 := by
  unfold fX7_ashes_b4 at h
  refine z_iload_n C dX7_ashes_4 rfl (j := 2) rfl ?_
  refine z_aload_n C dX7_ashes_5 rfl (j := 0) rfl ?_
  refine zg7_5 C dX7_ashes_6 zw101 ?_
  refine z_iconst (v := 0) C dX7_ashes_9 zc0 ?_
  refine z_iald C dX7_ashes_10 zar62 h (fun h => ?_)
  refine z_icmp_ge 42 C dX7_ashes_11 (by decide) h (fun h => ?_) (fun h => ?_)
  · refine z_pick [1] rfl ?_
    exact G2 _ (Option.some.inj h).symm
  · refine z_iload_n C dX7_ashes_14 rfl (j := 1) rfl ?_
    refine z_aload_n C dX7_ashes_15 rfl (j := 0) rfl ?_
    refine zg7_5 C dX7_ashes_16 zw101 ?_
    refine z_bipush (v := 14) C dX7_ashes_19 zb14 ?_
    refine z_iload_n C dX7_ashes_21 rfl (j := 2) rfl ?_
    refine z_iadd C dX7_ashes_22 ?_
    refine z_iald C dX7_ashes_23 zar62 h (fun h => ?_)
    refine z_if_ne 33 C dX7_ashes_24 (by decide) h (fun h => ?_) (fun h => ?_)
    · refine z_iconst (v := 0) C dX7_ashes_33 zc0 ?_
      refine z_pick [0, 2] rfl ?_
      exact jX7_ashes_34 C   G1 G2 h
    · refine z_iconst (v := 1) C dX7_ashes_27 zc1 ?_
      refine z_iload_n C dX7_ashes_28 rfl (j := 2) rfl ?_
      refine z_ishl C dX7_ashes_29 ?_
      refine z_goto 34 C dX7_ashes_30 (by decide) ?_
      refine z_pick [0, 2] rfl ?_
      exact jX7_ashes_34 C   G1 G2 h
theorem lX7_ashes_4 {l : Launch} {E : ZE} {Γ : ZG} (C : zC E Γ RX7 cX7_ashes 3 0)   {mem4 : ZM} {s : Int32 × Int32} {r : Int32 × Int32} (h : fX7_ashes_l4 mem4 s = some r) (K1 : zG l E Γ 3 42 [(1, .int r.1)] [] mem4) : zG l E Γ 3 4 [(0, .ref (E.2.1 58)), (1, .int s.1), (2, .int s.2)] [] mem4 :=
  z_loop (body := fun s => fX7_ashes_b4 mem4 s.1 s.2) (fun s => zG l E Γ 3 4 [(0, .ref (E.2.1 58)), (1, .int s.1), (2, .int s.2)] [] mem4) (fun r => zG l E Γ 3 42 [(1, .int r.1)] [] mem4) (fun s u hb g1 g2 => bX7_ashes_4 C  g1 g2 hb) 2000 s r h K1
def fX7_ashes   (mem : ZM) : Option (Int32) :=
  zlet (0 : Int32) (fun v1 => zlet (0 : Int32) (fun v2 => Option.bind (fX7_ashes_l4 mem (v1, v2)) (fun r3 => some r3.1)))
set_option maxRecDepth 100000 in
set_option maxHeartbeats 4000000 in
theorem sX7_ashes {l : Launch} {E : ZE}   {mem : ZM} {t : Int32} (h : fX7_ashes mem = some t) : zMet l E yX7_ashes cX7_ashes 3 (some .int) 0 [.ref (E.2.1 58)] mem (some (.int t)) mem := by
  refine z_enter (by decide) (Nat.le_of_ble_eq_true rfl) (fun Γ C Rq => ?_)
  have C : zC E Γ RX7 cX7_ashes 3 0 := C
  show zG l E Γ 3 0 [(0, .ref (E.2.1 58))] [] mem
  unfold fX7_ashes at h
  refine z_iconst (v := 0) C dX7_ashes_0 zc0 ?_
  refine z_istore_n [(0, .ref (E.2.1 58))] C dX7_ashes_1 h rfl (by decide) rfl (fun v1 h => ?_)
  refine z_iconst (v := 0) C dX7_ashes_2 zc0 ?_
  refine z_istore_n [(1, .int v1), (0, .ref (E.2.1 58))] C dX7_ashes_3 h rfl (by decide) rfl (fun v2 h => ?_)
  obtain ⟨r3, h3, h⟩ := Option.bind_eq_some_iff.mp h
  refine z_pick [2, 1, 0] rfl ?_
  refine lX7_ashes_4 C  h3 ?_
  refine z_iload_n C dX7_ashes_42 rfl (j := 0) rfl ?_
  have e := Option.some.inj h; subst e; exact z_iret C dX7_ashes_43 Rq
-- X7_note
def fX7_note_b51   (x51_1 : Int32) (memb : ZM) : Option ((Int32 × ZM) ⊕ (Int32 × ZM)) :=
  if (38 : Int32) ≤ x51_1 then (some (Sum.inr (x51_1, memb))) else (zgd (zin x51_1 38) (zgd (zin (((38 : Int32) * (memb 58 19)) + x51_1) 912) (zlet (zst memb 67 (((38 : Int32) * (memb 58 19)) + x51_1).toNatClampNeg (memb 62 x51_1.toNatClampNeg)) (fun m3 => zlet (x51_1 + (1 : Int32)) (fun v4 => some (Sum.inl (v4, m3)))))))
def fX7_note_l51   (s : Int32 × ZM) : Option (Int32 × ZM) := ziter (fun s => fX7_note_b51  s.1 s.2) 2000 s
set_option maxRecDepth 100000 in
set_option maxHeartbeats 4000000 in
theorem bX7_note_51 {l : Launch} {E : ZE} {Γ : ZG} (C : zC E Γ RX7 cX7_note 2 0)   {x51_1 : Int32} {memb : ZM} {u : (Int32 × ZM) ⊕ (Int32 × ZM)} (G1 : ∀ s', u = Sum.inl s' → zG l E Γ 2 51 [(0, .ref (E.2.1 58)), (1, .int (s'.1))] [] s'.2) (G2 : ∀ s', u = Sum.inr s' → zG l E Γ 2 83 [(0, .ref (E.2.1 58))] [] s'.2) (h : fX7_note_b51  x51_1 memb = some u) : zG l E Γ 2 51 [(0, .ref (E.2.1 58)), (1, .int x51_1)] [] memb := by
  unfold fX7_note_b51 at h
  refine z_iload_n C dX7_note_51 rfl (j := 1) rfl ?_
  refine z_bipush (v := 38) C dX7_note_52 zb38 ?_
  refine z_icmp_ge 83 C dX7_note_54 (by decide) h (fun h => ?_) (fun h => ?_)
  · refine z_pick [0] rfl ?_
    exact G2 _ (Option.some.inj h).symm
  · refine z_aload_n C dX7_note_57 rfl (j := 0) rfl ?_
    refine zg7_18 C dX7_note_58 zw106 ?_
    refine z_bipush (v := 38) C dX7_note_61 zb38 ?_
    refine z_aload_n C dX7_note_63 rfl (j := 0) rfl ?_
    refine zg7_19 C dX7_note_64 zw369 ?_
    refine z_imul C dX7_note_67 ?_
    refine z_iload_n C dX7_note_68 rfl (j := 1) rfl ?_
    refine z_iadd C dX7_note_69 ?_
    refine z_aload_n C dX7_note_70 rfl (j := 0) rfl ?_
    refine zg7_5 C dX7_note_71 zw101 ?_
    refine z_iload_n C dX7_note_74 rfl (j := 1) rfl ?_
    refine z_iald C dX7_note_75 zar62 h (fun h => ?_)
    refine z_iast C dX7_note_76 zar67 h (fun m3 h => ?_)
    refine z_iinc [(0, .ref (E.2.1 58))] C dX7_note_77 zc1 h (j := 1) rfl (by decide) rfl (fun v4 h => ?_)
    refine z_goto 51 C dX7_note_80 (by decide) ?_
    refine z_pick [1, 0] rfl ?_
    exact G1 _ (Option.some.inj h).symm
theorem lX7_note_51 {l : Launch} {E : ZE} {Γ : ZG} (C : zC E Γ RX7 cX7_note 2 0)   {s : Int32 × ZM} {r : Int32 × ZM} (h : fX7_note_l51  s = some r) (K1 : zG l E Γ 2 83 [(0, .ref (E.2.1 58))] [] r.2) : zG l E Γ 2 51 [(0, .ref (E.2.1 58)), (1, .int s.1)] [] s.2 :=
  z_loop (body := fun s => fX7_note_b51  s.1 s.2) (fun s => zG l E Γ 2 51 [(0, .ref (E.2.1 58)), (1, .int s.1)] [] s.2) (fun r => zG l E Γ 2 83 [(0, .ref (E.2.1 58))] [] r.2) (fun s u hb g1 g2 => bX7_note_51 C  g1 g2 hb) 2000 s r h K1
def fX7_note_j49   (mem : ZM) : Option (ZM) :=
  zlet (0 : Int32) (fun v1 => Option.bind (fX7_note_l51 (v1, mem)) (fun r2 => zlet (zst r2.2 58 19 ((r2.2 58 19) + (1 : Int32))) (fun m5 => some m5)))
set_option maxRecDepth 100000 in
set_option maxHeartbeats 4000000 in
theorem jX7_note_49 {l : Launch} {E : ZE} {Γ : ZG} (C : zC E Γ RX7 cX7_note 2 0)    {mem : ZM}  {t : ZM}  (Rq : zRq E Γ none none t) (h : fX7_note_j49  mem = some t) : zG l E Γ 2 49 [(0, .ref (E.2.1 58))] [] mem := by
  unfold fX7_note_j49 at h
  refine z_iconst (v := 0) C dX7_note_49 zc0 ?_
  refine z_istore_n [(0, .ref (E.2.1 58))] C dX7_note_50 h rfl (by decide) rfl (fun v1 h => ?_)
  obtain ⟨r2, h2, h⟩ := Option.bind_eq_some_iff.mp h
  refine z_pick [1, 0] rfl ?_
  refine lX7_note_51 C  h2 ?_
  refine z_aload_n C dX7_note_83 rfl (j := 0) rfl ?_
  refine z_dup C dX7_note_84 rfl ?_
  refine zg7_19 C dX7_note_85 zw369 ?_
  refine z_iconst (v := 1) C dX7_note_88 zc1 ?_
  refine z_iadd C dX7_note_89 ?_
  refine zp7_19 C dX7_note_90 zw369 h (fun m5 h => ?_)
  have e := Option.some.inj h; subst e; exact z_vret C dX7_note_93 Rq
def fX7_note_b11   (x11_1 : Int32) (memb : ZM) : Option ((Int32 × ZM) ⊕ (Int32 × ZM)) :=
  if (874 : Int32) ≤ x11_1 then (some (Sum.inr (x11_1, memb))) else (zgd (zin (x11_1 + (38 : Int32)) 912) (zgd (zin x11_1 912) (zlet (zst memb 67 x11_1.toNatClampNeg (memb 67 (x11_1 + (38 : Int32)).toNatClampNeg)) (fun m8 => zlet (x11_1 + (1 : Int32)) (fun v9 => some (Sum.inl (v9, m8)))))))
def fX7_note_l11   (s : Int32 × ZM) : Option (Int32 × ZM) := ziter (fun s => fX7_note_b11  s.1 s.2) 2000 s
set_option maxRecDepth 100000 in
set_option maxHeartbeats 4000000 in
theorem bX7_note_11 {l : Launch} {E : ZE} {Γ : ZG} (C : zC E Γ RX7 cX7_note 2 0)   {x11_1 : Int32} {memb : ZM} {u : (Int32 × ZM) ⊕ (Int32 × ZM)} (G1 : ∀ s', u = Sum.inl s' → zG l E Γ 2 11 [(0, .ref (E.2.1 58)), (1, .int (s'.1))] [] s'.2) (G2 : ∀ s', u = Sum.inr s' → zG l E Γ 2 39 [(0, .ref (E.2.1 58))] [] s'.2) (h : fX7_note_b11  x11_1 memb = some u) : zG l E Γ 2 11 [(0, .ref (E.2.1 58)), (1, .int x11_1)] [] memb := by
  unfold fX7_note_b11 at h
  refine z_iload_n C dX7_note_11 rfl (j := 1) rfl ?_
  refine z_sipush (v := 874) C dX7_note_12 zs874 ?_
  refine z_icmp_ge 39 C dX7_note_15 (by decide) h (fun h => ?_) (fun h => ?_)
  · refine z_pick [0] rfl ?_
    exact G2 _ (Option.some.inj h).symm
  · refine z_aload_n C dX7_note_18 rfl (j := 0) rfl ?_
    refine zg7_18 C dX7_note_19 zw106 ?_
    refine z_iload_n C dX7_note_22 rfl (j := 1) rfl ?_
    refine z_aload_n C dX7_note_23 rfl (j := 0) rfl ?_
    refine zg7_18 C dX7_note_24 zw106 ?_
    refine z_iload_n C dX7_note_27 rfl (j := 1) rfl ?_
    refine z_bipush (v := 38) C dX7_note_28 zb38 ?_
    refine z_iadd C dX7_note_30 ?_
    refine z_iald C dX7_note_31 zar67 h (fun h => ?_)
    refine z_iast C dX7_note_32 zar67 h (fun m8 h => ?_)
    refine z_iinc [(0, .ref (E.2.1 58))] C dX7_note_33 zc1 h (j := 1) rfl (by decide) rfl (fun v9 h => ?_)
    refine z_goto 11 C dX7_note_36 (by decide) ?_
    refine z_pick [1, 0] rfl ?_
    exact G1 _ (Option.some.inj h).symm
theorem lX7_note_11 {l : Launch} {E : ZE} {Γ : ZG} (C : zC E Γ RX7 cX7_note 2 0)   {s : Int32 × ZM} {r : Int32 × ZM} (h : fX7_note_l11  s = some r) (K1 : zG l E Γ 2 39 [(0, .ref (E.2.1 58))] [] r.2) : zG l E Γ 2 11 [(0, .ref (E.2.1 58)), (1, .int s.1)] [] s.2 :=
  z_loop (body := fun s => fX7_note_b11  s.1 s.2) (fun s => zG l E Γ 2 11 [(0, .ref (E.2.1 58)), (1, .int s.1)] [] s.2) (fun r => zG l E Γ 2 39 [(0, .ref (E.2.1 58))] [] r.2) (fun s u hb g1 g2 => bX7_note_11 C  g1 g2 hb) 2000 s r h K1
def fX7_note   (mem : ZM) : Option (ZM) :=
  if (mem 58 19) = (24 : Int32) then (zlet (0 : Int32) (fun v6 => Option.bind (fX7_note_l11 (v6, mem)) (fun r7 => zlet (zst r7.2 58 19 ((r7.2 58 19) - (1 : Int32))) (fun m10 => fX7_note_j49  m10)))) else (fX7_note_j49  mem)
set_option maxRecDepth 100000 in
set_option maxHeartbeats 4000000 in
theorem sX7_note {l : Launch} {E : ZE}   {mem : ZM} {t : ZM} (h : fX7_note mem = some t) : zMet l E yX7_note cX7_note 2 none 0 [.ref (E.2.1 58)] mem none t := by
  refine z_enter (by decide) (Nat.le_of_ble_eq_true rfl) (fun Γ C Rq => ?_)
  have C : zC E Γ RX7 cX7_note 2 0 := C
  show zG l E Γ 2 0 [(0, .ref (E.2.1 58))] [] mem
  unfold fX7_note at h
  refine z_aload_n C dX7_note_0 rfl (j := 0) rfl ?_
  refine zg7_19 C dX7_note_1 zw369 ?_
  refine z_bipush (v := 24) C dX7_note_4 zb24 ?_
  refine z_icmp_ne 49 C dX7_note_6 (by decide) h (fun h => ?_) (fun h => ?_)
  · refine z_pick [0] rfl ?_
    exact jX7_note_49 C   Rq h
  · refine z_iconst (v := 0) C dX7_note_9 zc0 ?_
    refine z_istore_n [(0, .ref (E.2.1 58))] C dX7_note_10 h rfl (by decide) rfl (fun v6 h => ?_)
    obtain ⟨r7, h7, h⟩ := Option.bind_eq_some_iff.mp h
    refine z_pick [1, 0] rfl ?_
    refine lX7_note_11 C  h7 ?_
    refine z_aload_n C dX7_note_39 rfl (j := 0) rfl ?_
    refine z_dup C dX7_note_40 rfl ?_
    refine zg7_19 C dX7_note_41 zw369 ?_
    refine z_iconst (v := 1) C dX7_note_44 zc1 ?_
    refine z_isub C dX7_note_45 ?_
    refine zp7_19 C dX7_note_46 zw369 h (fun m10 h => ?_)
    refine z_pick [0] rfl ?_
    exact jX7_note_49 C   Rq h
-- X7_undo
def fX7_undo_b22   (x22_1 : Int32) (memb : ZM) : Option ((Int32 × ZM) ⊕ (Int32 × ZM)) :=
  if (38 : Int32) ≤ x22_1 then (some (Sum.inr (x22_1, memb))) else (zgd (zin (((38 : Int32) * (memb 58 19)) + x22_1) 912) (zgd (zin x22_1 38) (zlet (zst memb 62 x22_1.toNatClampNeg (memb 67 (((38 : Int32) * (memb 58 19)) + x22_1).toNatClampNeg)) (fun m4 => zlet (x22_1 + (1 : Int32)) (fun v5 => some (Sum.inl (v5, m4)))))))
def fX7_undo_l22   (s : Int32 × ZM) : Option (Int32 × ZM) := ziter (fun s => fX7_undo_b22  s.1 s.2) 2000 s
set_option maxRecDepth 100000 in
set_option maxHeartbeats 4000000 in
theorem bX7_undo_22 {l : Launch} {E : ZE} {Γ : ZG} (C : zC E Γ RX7 cX7_undo 2 0)   {x22_1 : Int32} {memb : ZM} {u : (Int32 × ZM) ⊕ (Int32 × ZM)} (G1 : ∀ s', u = Sum.inl s' → zG l E Γ 2 22 [(0, .ref (E.2.1 58)), (1, .int (s'.1))] [] s'.2) (G2 : ∀ s', u = Sum.inr s' → zG l E Γ 2 54 [(0, .ref (E.2.1 58))] [] s'.2) (h : fX7_undo_b22  x22_1 memb = some u) : zG l E Γ 2 22 [(0, .ref (E.2.1 58)), (1, .int x22_1)] [] memb := by
  unfold fX7_undo_b22 at h
  refine z_iload_n C dX7_undo_22 rfl (j := 1) rfl ?_
  refine z_bipush (v := 38) C dX7_undo_23 zb38 ?_
  refine z_icmp_ge 54 C dX7_undo_25 (by decide) h (fun h => ?_) (fun h => ?_)
  · refine z_pick [0] rfl ?_
    exact G2 _ (Option.some.inj h).symm
  · refine z_aload_n C dX7_undo_28 rfl (j := 0) rfl ?_
    refine zg7_5 C dX7_undo_29 zw101 ?_
    refine z_iload_n C dX7_undo_32 rfl (j := 1) rfl ?_
    refine z_aload_n C dX7_undo_33 rfl (j := 0) rfl ?_
    refine zg7_18 C dX7_undo_34 zw106 ?_
    refine z_bipush (v := 38) C dX7_undo_37 zb38 ?_
    refine z_aload_n C dX7_undo_39 rfl (j := 0) rfl ?_
    refine zg7_19 C dX7_undo_40 zw369 ?_
    refine z_imul C dX7_undo_43 ?_
    refine z_iload_n C dX7_undo_44 rfl (j := 1) rfl ?_
    refine z_iadd C dX7_undo_45 ?_
    refine z_iald C dX7_undo_46 zar67 h (fun h => ?_)
    refine z_iast C dX7_undo_47 zar62 h (fun m4 h => ?_)
    refine z_iinc [(0, .ref (E.2.1 58))] C dX7_undo_48 zc1 h (j := 1) rfl (by decide) rfl (fun v5 h => ?_)
    refine z_goto 22 C dX7_undo_51 (by decide) ?_
    refine z_pick [1, 0] rfl ?_
    exact G1 _ (Option.some.inj h).symm
theorem lX7_undo_22 {l : Launch} {E : ZE} {Γ : ZG} (C : zC E Γ RX7 cX7_undo 2 0)   {s : Int32 × ZM} {r : Int32 × ZM} (h : fX7_undo_l22  s = some r) (K1 : zG l E Γ 2 54 [(0, .ref (E.2.1 58))] [] r.2) : zG l E Γ 2 22 [(0, .ref (E.2.1 58)), (1, .int s.1)] [] s.2 :=
  z_loop (body := fun s => fX7_undo_b22  s.1 s.2) (fun s => zG l E Γ 2 22 [(0, .ref (E.2.1 58)), (1, .int s.1)] [] s.2) (fun r => zG l E Γ 2 54 [(0, .ref (E.2.1 58))] [] r.2) (fun s u hb g1 g2 => bX7_undo_22 C  g1 g2 hb) 2000 s r h K1
def fX7_undo   (mem : ZM) : Option (Int32 × ZM) :=
  if (mem 58 19) = 0 then (some ((-1000002 : Int32), mem)) else (zlet (zst mem 58 19 ((mem 58 19) - (1 : Int32))) (fun m1 => zlet (0 : Int32) (fun v2 => Option.bind (fX7_undo_l22 (v2, m1)) (fun r3 => some (r3.2 58 19, r3.2)))))
set_option maxRecDepth 100000 in
set_option maxHeartbeats 4000000 in
theorem sX7_undo {l : Launch} {E : ZE}   {mem : ZM} {t : Int32 × ZM} (h : fX7_undo mem = some t) : zMet l E yX7_undo cX7_undo 2 (some .int) 0 [.ref (E.2.1 58)] mem (some (.int t.1)) t.2 := by
  refine z_enter (by decide) (Nat.le_of_ble_eq_true rfl) (fun Γ C Rq => ?_)
  have C : zC E Γ RX7 cX7_undo 2 0 := C
  show zG l E Γ 2 0 [(0, .ref (E.2.1 58))] [] mem
  unfold fX7_undo at h
  refine z_aload_n C dX7_undo_0 rfl (j := 0) rfl ?_
  refine zg7_19 C dX7_undo_1 zw369 ?_
  refine z_if_ne 10 C dX7_undo_4 (by decide) h (fun h => ?_) (fun h => ?_)
  · refine z_aload_n C dX7_undo_10 rfl (j := 0) rfl ?_
    refine z_dup C dX7_undo_11 rfl ?_
    refine zg7_19 C dX7_undo_12 zw369 ?_
    refine z_iconst (v := 1) C dX7_undo_15 zc1 ?_
    refine z_isub C dX7_undo_16 ?_
    refine zp7_19 C dX7_undo_17 zw369 h (fun m1 h => ?_)
    refine z_iconst (v := 0) C dX7_undo_20 zc0 ?_
    refine z_istore_n [(0, .ref (E.2.1 58))] C dX7_undo_21 h rfl (by decide) rfl (fun v2 h => ?_)
    obtain ⟨r3, h3, h⟩ := Option.bind_eq_some_iff.mp h
    refine z_pick [1, 0] rfl ?_
    refine lX7_undo_22 C  h3 ?_
    refine z_aload_n C dX7_undo_54 rfl (j := 0) rfl ?_
    refine zg7_19 C dX7_undo_55 zw369 ?_
    have e := Option.some.inj h; subst e; exact z_iret C dX7_undo_58 Rq
  · refine z_ldc C dX7_undo_7 zw499 ?_
    have e := Option.some.inj h; subst e; exact z_iret C dX7_undo_9 Rq
-- X7_hours
def fX7_hours_b44  (y44_1 : Int32) (x44_2 : Int32) (memb : ZM) : Option ((Int32 × ZM) ⊕ (Int32 × ZM)) :=
  if y44_1 ≤ x44_2 then (some (Sum.inr (x44_2, memb))) else (Option.bind (fX7_note memb) (fun r4 => Option.bind (fX7_oneHour r4) (fun r5 => zlet (x44_2 + (1 : Int32)) (fun v6 => some (Sum.inl (v6, r5))))))
def fX7_hours_l44  (y44_1 : Int32) (s : Int32 × ZM) : Option (Int32 × ZM) := ziter (fun s => fX7_hours_b44 y44_1 s.1 s.2) 2000 s
set_option maxRecDepth 100000 in
set_option maxHeartbeats 4000000 in
theorem bX7_hours_44 {l : Launch} {E : ZE} {Γ : ZG} (C : zC E Γ RX7 cX7_hours 3 6)  {y44_1 : Int32} {x44_2 : Int32} {memb : ZM} {u : (Int32 × ZM) ⊕ (Int32 × ZM)} (G1 : ∀ s', u = Sum.inl s' → zG l E Γ 3 44 [(0, .ref (E.2.1 58)), (1, .int y44_1), (2, .int (s'.1))] [] s'.2) (G2 : ∀ s', u = Sum.inr s' → zG l E Γ 3 63 [(0, .ref (E.2.1 58))] [] s'.2) (h : fX7_hours_b44 y44_1 x44_2 memb = some u) : zG l E Γ 3 44 [(0, .ref (E.2.1 58)), (1, .int y44_1), (2, .int x44_2)] [] memb := by
  unfold fX7_hours_b44 at h
  refine z_iload_n C dX7_hours_44 rfl (j := 2) rfl ?_
  refine z_iload_n C dX7_hours_45 rfl (j := 1) rfl ?_
  refine z_icmp_ge 63 C dX7_hours_46 (by decide) h (fun h => ?_) (fun h => ?_)
  · refine z_pick [0] rfl ?_
    exact G2 _ (Option.some.inj h).symm
  · refine z_aload_n C dX7_hours_49 rfl (j := 0) rfl ?_
    obtain ⟨r4, h4, h⟩ := Option.bind_eq_some_iff.mp h
    refine z_callVv [] [] C dX7_hours_50 (by decide) zen_58 rfl zk_X7_174 zw502 zw503 ⟨⟨by decide, by decide⟩, rfl, Nat.le_of_ble_eq_true rfl⟩ rfl (sX7_note  h4) ?_
    refine z_aload_n C dX7_hours_53 rfl (j := 0) rfl ?_
    obtain ⟨r5, h5, h⟩ := Option.bind_eq_some_iff.mp h
    refine z_callVv [] [] C dX7_hours_54 (by decide) zen_58 rfl zk_X7_177 zw506 zw507 ⟨⟨by decide, by decide⟩, rfl, Nat.le_of_ble_eq_true rfl⟩ rfl (sX7_oneHour  h5) ?_
    refine z_iinc [(0, .ref (E.2.1 58)), (1, .int y44_1)] C dX7_hours_57 zc1 h (j := 2) rfl (by decide) rfl (fun v6 h => ?_)
    refine z_goto 44 C dX7_hours_60 (by decide) ?_
    refine z_pick [1, 2, 0] rfl ?_
    exact G1 _ (Option.some.inj h).symm
theorem lX7_hours_44 {l : Launch} {E : ZE} {Γ : ZG} (C : zC E Γ RX7 cX7_hours 3 6)  {y44_1 : Int32} {s : Int32 × ZM} {r : Int32 × ZM} (h : fX7_hours_l44 y44_1 s = some r) (K1 : zG l E Γ 3 63 [(0, .ref (E.2.1 58))] [] r.2) : zG l E Γ 3 44 [(0, .ref (E.2.1 58)), (1, .int y44_1), (2, .int s.1)] [] s.2 :=
  z_loop (body := fun s => fX7_hours_b44 y44_1 s.1 s.2) (fun s => zG l E Γ 3 44 [(0, .ref (E.2.1 58)), (1, .int y44_1), (2, .int s.1)] [] s.2) (fun r => zG l E Γ 3 63 [(0, .ref (E.2.1 58))] [] r.2) (fun s u hb g1 g2 => bX7_hours_44 C  g1 g2 hb) 2000 s r h K1
def fX7_hours  (a1 : Int32) (mem : ZM) : Option (Int32 × ZM) :=
  if (mem 58 4) = 0 then (some ((-1000002 : Int32), mem)) else (Option.bind (fX7_in a1.toInt64 (1 : Int64) (24 : Int64)) (fun r1 => if r1 = 0 then (some ((-1000001 : Int32), mem)) else (zgd (zin (1 : Int32) 38) (if ((mem 62 (1 : Int32).toNatClampNeg) + a1) ≤ (9999 : Int32) then (zlet (0 : Int32) (fun v2 => Option.bind (fX7_hours_l44 a1 (v2, mem)) (fun r3 => zgd (zin (4 : Int32) 38) (some (r3.2 62 (4 : Int32).toNatClampNeg, r3.2))))) else (some ((-1000003 : Int32), mem))))))
set_option maxRecDepth 100000 in
set_option maxHeartbeats 4000000 in
theorem sX7_hours {l : Launch} {E : ZE}  {a1 : Int32} {mem : ZM} {t : Int32 × ZM} (h : fX7_hours a1 mem = some t) : zMet l E yX7_hours cX7_hours 3 (some .int) 6 [.ref (E.2.1 58), .int a1] mem (some (.int t.1)) t.2 := by
  refine z_enter (by decide) (Nat.le_of_ble_eq_true rfl) (fun Γ C Rq => ?_)
  have C : zC E Γ RX7 cX7_hours 3 6 := C
  show zG l E Γ 3 0 [(0, .ref (E.2.1 58)), (1, .int a1)] [] mem
  unfold fX7_hours at h
  refine z_aload_n C dX7_hours_0 rfl (j := 0) rfl ?_
  refine zg7_4 C dX7_hours_1 zw368 ?_
  refine z_if_ne 10 C dX7_hours_4 (by decide) h (fun h => ?_) (fun h => ?_)
  · refine z_iload_n C dX7_hours_10 rfl (j := 1) rfl ?_
    refine z_i2l C dX7_hours_11 ?_
    refine z_lconst (v := 1) C dX7_hours_12 zl1 ?_
    refine z_ldc2 C dX7_hours_13 zw500 ?_
    obtain ⟨r1, h1, h⟩ := Option.bind_eq_some_iff.mp h
    refine z_callSi [.long a1.toInt64, .long (1 : Int64), .long (24 : Int64)] [] C dX7_hours_16 zk_X7_57 zw147 ⟨⟨by decide, by decide⟩, rfl, Nat.le_of_ble_eq_true rfl⟩ rfl (sX7_in  h1) ?_
    refine z_if_ne 25 C dX7_hours_19 (by decide) h (fun h => ?_) (fun h => ?_)
    · refine z_aload_n C dX7_hours_25 rfl (j := 0) rfl ?_
      refine zg7_5 C dX7_hours_26 zw101 ?_
      refine z_iconst (v := 1) C dX7_hours_29 zc1 ?_
      refine z_iald C dX7_hours_30 zar62 h (fun h => ?_)
      refine z_iload_n C dX7_hours_31 rfl (j := 1) rfl ?_
      refine z_iadd C dX7_hours_32 ?_
      refine z_sipush (v := 9999) C dX7_hours_33 zs9999 ?_
      refine z_icmp_le 42 C dX7_hours_36 (by decide) h (fun h => ?_) (fun h => ?_)
      · refine z_iconst (v := 0) C dX7_hours_42 zc0 ?_
        refine z_istore_n [(0, .ref (E.2.1 58)), (1, .int a1)] C dX7_hours_43 h rfl (by decide) rfl (fun v2 h => ?_)
        obtain ⟨r3, h3, h⟩ := Option.bind_eq_some_iff.mp h
        refine z_pick [1, 2, 0] rfl ?_
        refine lX7_hours_44 C  h3 ?_
        refine z_aload_n C dX7_hours_63 rfl (j := 0) rfl ?_
        refine zg7_5 C dX7_hours_64 zw101 ?_
        refine z_iconst (v := 4) C dX7_hours_67 zc4 ?_
        refine z_iald C dX7_hours_68 zar62 h (fun h => ?_)
        have e := Option.some.inj h; subst e; exact z_iret C dX7_hours_69 Rq
      · refine z_ldc C dX7_hours_39 zw225 ?_
        have e := Option.some.inj h; subst e; exact z_iret C dX7_hours_41 Rq
    · refine z_ldc C dX7_hours_22 zw141 ?_
      have e := Option.some.inj h; subst e; exact z_iret C dX7_hours_24 Rq
  · refine z_ldc C dX7_hours_7 zw499 ?_
    have e := Option.some.inj h; subst e; exact z_iret C dX7_hours_9 Rq
-- X7_mayLight
def fX7_mayLight  (a1 : Int32) (mem : ZM) : Option (Int32) :=
  zgd (zin (4 : Int32) 38) (zgd (zin (5 : Int32) 38) (Option.bind (fX7_has ((mem 62 (4 : Int32).toNatClampNeg) ||| (mem 62 (5 : Int32).toNatClampNeg)) a1) (fun r1 => if r1 = 0 then (zgd (zin ((6 : Int32) + a1) 38) (Option.bind (fX7_burns (mem 62 ((6 : Int32) + a1).toNatClampNeg)) (fun r2 => if r2 ≤ 0 then (some (0 : Int32)) else (zgd (zin ((14 : Int32) + a1) 38) (if (mem 62 ((14 : Int32) + a1).toNatClampNeg) ≤ 0 then (some (0 : Int32)) else (zgd (zin ((22 : Int32) + a1) 38) (if (mem 62 ((22 : Int32) + a1).toNatClampNeg) = 0 then (some (1 : Int32)) else (some (0 : Int32))))))))) else (some (0 : Int32)))))
set_option maxRecDepth 100000 in
set_option maxHeartbeats 4000000 in
theorem sX7_mayLight {l : Launch} {E : ZE}  {a1 : Int32} {mem : ZM} {t : Int32} (h : fX7_mayLight a1 mem = some t) : zMet l E yX7_mayLight cX7_mayLight 2 (some .boolean) 1 [.ref (E.2.1 58), .int a1] mem (some (.int t)) mem := by
  refine z_enter (by decide) (Nat.le_of_ble_eq_true rfl) (fun Γ C Rq => ?_)
  have C : zC E Γ RX7 cX7_mayLight 2 1 := C
  show zG l E Γ 2 0 [(0, .ref (E.2.1 58)), (1, .int a1)] [] mem
  unfold fX7_mayLight at h
  refine z_aload_n C dX7_mayLight_0 rfl (j := 0) rfl ?_
  refine zg7_5 C dX7_mayLight_1 zw101 ?_
  refine z_iconst (v := 4) C dX7_mayLight_4 zc4 ?_
  refine z_iald C dX7_mayLight_5 zar62 h (fun h => ?_)
  refine z_aload_n C dX7_mayLight_6 rfl (j := 0) rfl ?_
  refine zg7_5 C dX7_mayLight_7 zw101 ?_
  refine z_iconst (v := 5) C dX7_mayLight_10 zc5 ?_
  refine z_iald C dX7_mayLight_11 zar62 h (fun h => ?_)
  refine z_ior C dX7_mayLight_12 ?_
  refine z_iload_n C dX7_mayLight_13 rfl (j := 1) rfl ?_
  obtain ⟨r1, h1, h⟩ := Option.bind_eq_some_iff.mp h
  refine z_callSi [.int ((mem 62 (4 : Int32).toNatClampNeg) ||| (mem 62 (5 : Int32).toNatClampNeg)), .int a1] [] C dX7_mayLight_14 zk_X7_145 zw528 ⟨⟨by decide, by decide⟩, rfl, Nat.le_of_ble_eq_true rfl⟩ rfl (sX7_has  h1) ?_
  refine z_if_ne 63 C dX7_mayLight_17 (by decide) h (fun h => ?_) (fun h => ?_)
  · refine z_iconst (v := 0) C dX7_mayLight_63 zc0 ?_
    have e := Option.some.inj h; subst e; exact z_zret C dX7_mayLight_64 zbl0 Rq
  · refine z_aload_n C dX7_mayLight_20 rfl (j := 0) rfl ?_
    refine zg7_5 C dX7_mayLight_21 zw101 ?_
    refine z_bipush (v := 6) C dX7_mayLight_24 zb6 ?_
    refine z_iload_n C dX7_mayLight_26 rfl (j := 1) rfl ?_
    refine z_iadd C dX7_mayLight_27 ?_
    refine z_iald C dX7_mayLight_28 zar62 h (fun h => ?_)
    obtain ⟨r2, h2, h⟩ := Option.bind_eq_some_iff.mp h
    refine z_callSi [.int (mem 62 ((6 : Int32) + a1).toNatClampNeg)] [] C dX7_mayLight_29 zk_X7_164 zw535 ⟨⟨by decide, by decide⟩, rfl, Nat.le_of_ble_eq_true rfl⟩ rfl (sX7_burns  h2) ?_
    refine z_if_le 63 C dX7_mayLight_32 (by decide) h (fun h => ?_) (fun h => ?_)
    · refine z_iconst (v := 0) C dX7_mayLight_63 zc0 ?_
      have e := Option.some.inj h; subst e; exact z_zret C dX7_mayLight_64 zbl0 Rq
    · refine z_aload_n C dX7_mayLight_35 rfl (j := 0) rfl ?_
      refine zg7_5 C dX7_mayLight_36 zw101 ?_
      refine z_bipush (v := 14) C dX7_mayLight_39 zb14 ?_
      refine z_iload_n C dX7_mayLight_41 rfl (j := 1) rfl ?_
      refine z_iadd C dX7_mayLight_42 ?_
      refine z_iald C dX7_mayLight_43 zar62 h (fun h => ?_)
      refine z_if_le 63 C dX7_mayLight_44 (by decide) h (fun h => ?_) (fun h => ?_)
      · refine z_iconst (v := 0) C dX7_mayLight_63 zc0 ?_
        have e := Option.some.inj h; subst e; exact z_zret C dX7_mayLight_64 zbl0 Rq
      · refine z_aload_n C dX7_mayLight_47 rfl (j := 0) rfl ?_
        refine zg7_5 C dX7_mayLight_48 zw101 ?_
        refine z_bipush (v := 22) C dX7_mayLight_51 zb22 ?_
        refine z_iload_n C dX7_mayLight_53 rfl (j := 1) rfl ?_
        refine z_iadd C dX7_mayLight_54 ?_
        refine z_iald C dX7_mayLight_55 zar62 h (fun h => ?_)
        refine z_if_ne 63 C dX7_mayLight_56 (by decide) h (fun h => ?_) (fun h => ?_)
        · refine z_iconst (v := 0) C dX7_mayLight_63 zc0 ?_
          have e := Option.some.inj h; subst e; exact z_zret C dX7_mayLight_64 zbl0 Rq
        · refine z_iconst (v := 1) C dX7_mayLight_59 zc1 ?_
          refine z_goto 64 C dX7_mayLight_60 (by decide) ?_
          have e := Option.some.inj h; subst e; exact z_zret C dX7_mayLight_64 zbl1 Rq
-- X7_light
def fX7_light  (a1 : Int32) (mem : ZM) : Option (Int32 × ZM) :=
  Option.bind (fX7_isThing a1 mem) (fun r1 => if r1 = 0 then (some ((-1000001 : Int32), mem)) else (Option.bind (fX7_mayLight a1 mem) (fun r2 => if r2 = 0 then (some ((-1000002 : Int32), mem)) else (Option.bind (fX7_note mem) (fun r3 => zgd (zin (4 : Int32) 38) (zgd (zin (4 : Int32) 38) (zlet (zst r3 62 (4 : Int32).toNatClampNeg ((r3 62 (4 : Int32).toNatClampNeg) ||| ((1 : Int32) <<< (a1 &&& 31)))) (fun m4 => zgd (zin (4 : Int32) 38) (some (m4 62 (4 : Int32).toNatClampNeg, m4))))))))))
set_option maxRecDepth 100000 in
set_option maxHeartbeats 4000000 in
theorem sX7_light {l : Launch} {E : ZE}  {a1 : Int32} {mem : ZM} {t : Int32 × ZM} (h : fX7_light a1 mem = some t) : zMet l E yX7_light cX7_light 2 (some .int) 2 [.ref (E.2.1 58), .int a1] mem (some (.int t.1)) t.2 := by
  refine z_enter (by decide) (Nat.le_of_ble_eq_true rfl) (fun Γ C Rq => ?_)
  have C : zC E Γ RX7 cX7_light 2 2 := C
  show zG l E Γ 2 0 [(0, .ref (E.2.1 58)), (1, .int a1)] [] mem
  unfold fX7_light at h
  refine z_aload_n C dX7_light_0 rfl (j := 0) rfl ?_
  refine z_iload_n C dX7_light_1 rfl (j := 1) rfl ?_
  obtain ⟨r1, h1, h⟩ := Option.bind_eq_some_iff.mp h
  refine z_callVi [.int a1] [] C dX7_light_2 (by decide) zen_58 rfl zk_X7_180 zw558 zw559 ⟨⟨by decide, by decide⟩, rfl, Nat.le_of_ble_eq_true rfl⟩ rfl (sX7_isThing  h1) ?_
  refine z_if_ne 11 C dX7_light_5 (by decide) h (fun h => ?_) (fun h => ?_)
  · refine z_aload_n C dX7_light_11 rfl (j := 0) rfl ?_
    refine z_iload_n C dX7_light_12 rfl (j := 1) rfl ?_
    obtain ⟨r2, h2, h⟩ := Option.bind_eq_some_iff.mp h
    refine z_callVi [.int a1] [] C dX7_light_13 (by decide) zen_58 rfl zk_X7_183 zw562 zw563 ⟨⟨by decide, by decide⟩, rfl, Nat.le_of_ble_eq_true rfl⟩ rfl (sX7_mayLight  h2) ?_
    refine z_if_ne 22 C dX7_light_16 (by decide) h (fun h => ?_) (fun h => ?_)
    · refine z_aload_n C dX7_light_22 rfl (j := 0) rfl ?_
      obtain ⟨r3, h3, h⟩ := Option.bind_eq_some_iff.mp h
      refine z_callVv [] [] C dX7_light_23 (by decide) zen_58 rfl zk_X7_174 zw502 zw503 ⟨⟨by decide, by decide⟩, rfl, Nat.le_of_ble_eq_true rfl⟩ rfl (sX7_note  h3) ?_
      refine z_aload_n C dX7_light_26 rfl (j := 0) rfl ?_
      refine zg7_5 C dX7_light_27 zw101 ?_
      refine z_iconst (v := 4) C dX7_light_30 zc4 ?_
      refine z_dup2 C dX7_light_31 rfl rfl ?_
      refine z_iald C dX7_light_32 zar62 h (fun h => ?_)
      refine z_iconst (v := 1) C dX7_light_33 zc1 ?_
      refine z_iload_n C dX7_light_34 rfl (j := 1) rfl ?_
      refine z_ishl C dX7_light_35 ?_
      refine z_ior C dX7_light_36 ?_
      refine z_iast C dX7_light_37 zar62 h (fun m4 h => ?_)
      refine z_aload_n C dX7_light_38 rfl (j := 0) rfl ?_
      refine zg7_5 C dX7_light_39 zw101 ?_
      refine z_iconst (v := 4) C dX7_light_42 zc4 ?_
      refine z_iald C dX7_light_43 zar62 h (fun h => ?_)
      have e := Option.some.inj h; subst e; exact z_iret C dX7_light_44 Rq
    · refine z_ldc C dX7_light_19 zw499 ?_
      have e := Option.some.inj h; subst e; exact z_iret C dX7_light_21 Rq
  · refine z_ldc C dX7_light_8 zw141 ?_
    have e := Option.some.inj h; subst e; exact z_iret C dX7_light_10 Rq
