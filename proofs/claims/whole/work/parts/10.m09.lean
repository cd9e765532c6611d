-- X7_waterBy
def fX7_waterBy_j40  (x1 : Int32) (k0 : Int32) (k1 : Int32) (mem : ZM) : Option (ZM) :=
  zgd (zin k1 38) (zlet (zst mem 62 k1.toNatClampNeg k0) (fun m1 => zgd (zin (4 : Int32) 38) (zgd (zin (4 : Int32) 38) (zlet (zst m1 62 (4 : Int32).toNatClampNeg ((m1 62 (4 : Int32).toNatClampNeg) &&& (((1 : Int32) <<< (x1 &&& 31)) ^^^ (-1 : Int32)))) (fun m2 => some m2)))))
set_option maxRecDepth 100000 in
set_option maxHeartbeats 4000000 in
theorem jX7_waterBy_40 {l : Launch} {E : ZE} {Γ : ZG} (C : zC E Γ RX7 cX7_waterBy 3 0)  {x1 : Int32} {k0 : Int32} {k1 : Int32}  {mem : ZM}  {t : ZM}  (Rq : zRq E Γ none none t) (h : fX7_waterBy_j40  x1 k0 k1 mem = some t) : zG l E Γ 3 40 [(0, .ref (E.2.1 58)), (1, .int x1)] [.int k0, .int k1, .ref (E.2.1 62)] mem := by
  unfold fX7_waterBy_j40 at h
  refine z_iast C dX7_waterBy_40 zar62 h (fun m1 h => ?_)
  refine z_aload_n C dX7_waterBy_41 rfl (j := 0) rfl ?_
  refine zg7_5 C dX7_waterBy_42 zw101 ?_
  refine z_iconst (v := 4) C dX7_waterBy_45 zc4 ?_
  refine z_dup2 C dX7_waterBy_46 rfl rfl ?_
  refine z_iald C dX7_waterBy_47 zar62 h (fun h => ?_)
  refine z_iconst (v := 1) C dX7_waterBy_48 zc1 ?_
  refine z_iload_n C dX7_waterBy_49 rfl (j := 1) rfl ?_
  refine z_ishl C dX7_waterBy_50 ?_
  refine z_iconst (v := -1) C dX7_waterBy_51 zcm1 ?_
  refine z_ixor C dX7_waterBy_52 ?_
  refine z_iand C dX7_waterBy_53 ?_
  refine z_iast C dX7_waterBy_54 zar62 h (fun m2 h => ?_)
  have e := Option.some.inj h; subst e; exact z_vret C dX7_waterBy_55 Rq
def fX7_waterBy  (a1 : Int32) (a2 : Int32) (mem : ZM) : Option (ZM) :=
  zgd (zin ((22 : Int32) + a1) 38) (if ((mem 62 ((22 : Int32) + a1).toNatClampNeg) + a2) ≤ (20 : Int32) then (zgd (zin ((22 : Int32) + a1) 38) (fX7_waterBy_j40  a1 ((mem 62 ((22 : Int32) + a1).toNatClampNeg) + a2) ((22 : Int32) + a1) mem)) else (fX7_waterBy_j40  a1 (20 : Int32) ((22 : Int32) + a1) mem))
set_option maxRecDepth 100000 in
set_option maxHeartbeats 4000000 in
theorem sX7_waterBy {l : Launch} {E : ZE}  {a1 : Int32} {a2 : Int32} {mem : ZM} {t : ZM} (h : fX7_waterBy a1 a2 mem = some t) : zMet l E yX7_waterBy cX7_waterBy 3 none 0 [.ref (E.2.1 58), .int a1, .int a2] mem none t := by
  refine z_enter (by decide) (Nat.le_of_ble_eq_true rfl) (fun Γ C Rq => ?_)
  have C : zC E Γ RX7 cX7_waterBy 3 0 := C
  show zG l E Γ 3 0 [(0, .ref (E.2.1 58)), (1, .int a1), (2, .int a2)] [] mem
  unfold fX7_waterBy at h
  refine z_aload_n C dX7_waterBy_0 rfl (j := 0) rfl ?_
  refine zg7_5 C dX7_waterBy_1 zw101 ?_
  refine z_bipush (v := 22) C dX7_waterBy_4 zb22 ?_
  refine z_iload_n C dX7_waterBy_6 rfl (j := 1) rfl ?_
  refine z_iadd C dX7_waterBy_7 ?_
  refine z_aload_n C dX7_waterBy_8 rfl (j := 0) rfl ?_
  refine zg7_5 C dX7_waterBy_9 zw101 ?_
  refine z_bipush (v := 22) C dX7_waterBy_12 zb22 ?_
  refine z_iload_n C dX7_waterBy_14 rfl (j := 1) rfl ?_
  refine z_iadd C dX7_waterBy_15 ?_
  refine z_iald C dX7_waterBy_16 zar62 h (fun h => ?_)
  refine z_iload_n C dX7_waterBy_17 rfl (j := 2) rfl ?_
  refine z_iadd C dX7_waterBy_18 ?_
  refine z_bipush (v := 20) C dX7_waterBy_19 zb20 ?_
  refine z_icmp_le 29 C dX7_waterBy_21 (by decide) h (fun h => ?_) (fun h => ?_)
  · refine z_aload_n C dX7_waterBy_29 rfl (j := 0) rfl ?_
    refine zg7_5 C dX7_waterBy_30 zw101 ?_
    refine z_bipush (v := 22) C dX7_waterBy_33 zb22 ?_
    refine z_iload_n C dX7_waterBy_35 rfl (j := 1) rfl ?_
    refine z_iadd C dX7_waterBy_36 ?_
    refine z_iald C dX7_waterBy_37 zar62 h (fun h => ?_)
    refine z_iload_n C dX7_waterBy_38 rfl (j := 2) rfl ?_
    refine z_iadd C dX7_waterBy_39 ?_
    refine z_pick [0, 1] rfl ?_
    exact jX7_waterBy_40 C   Rq h
  · refine z_bipush (v := 20) C dX7_waterBy_24 zb20 ?_
    refine z_goto 40 C dX7_waterBy_26 (by decide) ?_
    refine z_pick [0, 1] rfl ?_
    exact jX7_waterBy_40 C   Rq h
-- X7_water
def fX7_water  (a1 : Int32) (a2 : Int32) (mem : ZM) : Option (Int32 × ZM) :=
  Option.bind (fX7_isThing a1 mem) (fun r1 => if r1 = 0 then (some ((-1000001 : Int32), mem)) else (Option.bind (fX7_in a2.toInt64 (1 : Int64) (20 : Int64)) (fun r2 => if r2 = 0 then (some ((-1000001 : Int32), mem)) else (zgd (zin (5 : Int32) 38) (Option.bind (fX7_has (mem 62 (5 : Int32).toNatClampNeg) a1) (fun r3 => if r3 = 0 then (Option.bind (fX7_note mem) (fun r4 => Option.bind (fX7_waterBy a1 a2 r4) (fun r5 => zgd (zin ((22 : Int32) + a1) 38) (some (r5 62 ((22 : Int32) + a1).toNatClampNeg, r5))))) else (some ((-1000002 : Int32), mem))))))))
set_option maxRecDepth 100000 in
set_option maxHeartbeats 4000000 in
theorem sX7_water {l : Launch} {E : ZE}  {a1 : Int32} {a2 : Int32} {mem : ZM} {t : Int32 × ZM} (h : fX7_water a1 a2 mem = some t) : zMet l E yX7_water cX7_water 3 (some .int) 2 [.ref (E.2.1 58), .int a1, .int a2] mem (some (.int t.1)) t.2 := by
  refine z_enter (by decide) (Nat.le_of_ble_eq_true rfl) (fun Γ C Rq => ?_)
  have C : zC E Γ RX7 cX7_water 3 2 := C
  show zG l E Γ 3 0 [(0, .ref (E.2.1 58)), (1, .int a1), (2, .int a2)] [] mem
  unfold fX7_water at h
  refine z_aload_n C dX7_water_0 rfl (j := 0) rfl ?_
  refine z_iload_n C dX7_water_1 rfl (j := 1) rfl ?_
  obtain ⟨r1, h1, h⟩ := Option.bind_eq_some_iff.mp h
  refine z_callVi [.int a1] [] C dX7_water_2 (by decide) zen_58 rfl zk_X7_180 zw558 zw559 ⟨⟨by decide, by decide⟩, rfl, Nat.le_of_ble_eq_true rfl⟩ rfl (sX7_isThing  h1) ?_
  refine z_if_eq 20 C dX7_water_5 (by decide) h (fun h => ?_) (fun h => ?_)
  · refine z_ldc C dX7_water_20 zw141 ?_
    have e := Option.some.inj h; subst e; exact z_iret C dX7_water_22 Rq
  · refine z_iload_n C dX7_water_8 rfl (j := 2) rfl ?_
    refine z_i2l C dX7_water_9 ?_
    refine z_lconst (v := 1) C dX7_water_10 zl1 ?_
    refine z_ldc2 C dX7_water_11 zw579 ?_
    obtain ⟨r2, h2, h⟩ := Option.bind_eq_some_iff.mp h
    refine z_callSi [.long a2.toInt64, .long (1 : Int64), .long (20 : Int64)] [] C dX7_water_14 zk_X7_57 zw147 ⟨⟨by decide, by decide⟩, rfl, Nat.le_of_ble_eq_true rfl⟩ rfl (sX7_in  h2) ?_
    refine z_if_ne 23 C dX7_water_17 (by decide) h (fun h => ?_) (fun h => ?_)
    · refine z_aload_n C dX7_water_23 rfl (j := 0) rfl ?_
      refine zg7_5 C dX7_water_24 zw101 ?_
      refine z_iconst (v := 5) C dX7_water_27 zc5 ?_
      refine z_iald C dX7_water_28 zar62 h (fun h => ?_)
      refine z_iload_n C dX7_water_29 rfl (j := 1) rfl ?_
      obtain ⟨r3, h3, h⟩ := Option.bind_eq_some_iff.mp h
      refine z_callSi [.int (mem 62 (5 : Int32).toNatClampNeg), .int a1] [] C dX7_water_30 zk_X7_145 zw528 ⟨⟨by decide, by decide⟩, rfl, Nat.le_of_ble_eq_true rfl⟩ rfl (sX7_has  h3) ?_
      refine z_if_eq 39 C dX7_water_33 (by decide) h (fun h => ?_) (fun h => ?_)
      · refine z_aload_n C dX7_water_39 rfl (j := 0) rfl ?_
        obtain ⟨r4, h4, h⟩ := Option.bind_eq_some_iff.mp h
        refine z_callVv [] [] C dX7_water_40 (by decide) zen_58 rfl zk_X7_174 zw502 zw503 ⟨⟨by decide, by decide⟩, rfl, Nat.le_of_ble_eq_true rfl⟩ rfl (sX7_note  h4) ?_
        refine z_aload_n C dX7_water_43 rfl (j := 0) rfl ?_
        refine z_iload_n C dX7_water_44 rfl (j := 1) rfl ?_
        refine z_iload_n C dX7_water_45 rfl (j := 2) rfl ?_
        obtain ⟨r5, h5, h⟩ := Option.bind_eq_some_iff.mp h
        refine z_callVv [.int a1, .int a2] [] C dX7_water_46 (by decide) zen_58 rfl zk_X7_188 zw581 zw582 ⟨⟨by decide, by decide⟩, rfl, Nat.le_of_ble_eq_true rfl⟩ rfl (sX7_waterBy  h5) ?_
        refine z_aload_n C dX7_water_49 rfl (j := 0) rfl ?_
        refine zg7_5 C dX7_water_50 zw101 ?_
        refine z_bipush (v := 22) C dX7_water_53 zb22 ?_
        refine z_iload_n C dX7_water_55 rfl (j := 1) rfl ?_
        refine z_iadd C dX7_water_56 ?_
        refine z_iald C dX7_water_57 zar62 h (fun h => ?_)
        have e := Option.some.inj h; subst e; exact z_iret C dX7_water_58 Rq
      · refine z_ldc C dX7_water_36 zw499 ?_
        have e := Option.some.inj h; subst e; exact z_iret C dX7_water_38 Rq
    · refine z_ldc C dX7_water_20 zw141 ?_
      have e := Option.some.inj h; subst e; exact z_iret C dX7_water_22 Rq
-- X7_rake
def fX7_rake_j41  (x1 : Int32) (k0 : Int32) (k1 : Int32) (mem : ZM) : Option (Int32 × ZM) :=
  if k1 = k0 then (some ((-1000002 : Int32), mem)) else (Option.bind (fX7_note mem) (fun r4 => zgd (zin (5 : Int32) 38) (zgd (zin (5 : Int32) 38) (zlet (zst r4 62 (5 : Int32).toNatClampNeg ((r4 62 (5 : Int32).toNatClampNeg) ^^^ ((1 : Int32) <<< (x1 &&& 31)))) (fun m5 => zgd (zin (4 : Int32) 38) (zgd (zin (4 : Int32) 38) (zlet (zst m5 62 (4 : Int32).toNatClampNeg ((m5 62 (4 : Int32).toNatClampNeg) &&& (((1 : Int32) <<< (x1 &&& 31)) ^^^ (-1 : Int32)))) (fun m6 => zgd (zin (5 : Int32) 38) (some (m6 62 (5 : Int32).toNatClampNeg, m6))))))))))
set_option maxRecDepth 100000 in
set_option maxHeartbeats 4000000 in
theorem jX7_rake_41 {l : Launch} {E : ZE} {Γ : ZG} (C : zC E Γ RX7 cX7_rake 3 2)  {x1 : Int32} {k0 : Int32} {k1 : Int32}  {mem : ZM}  {t : Int32 × ZM}  (Rq : zRq E Γ (some .int) (some (.int t.1)) t.2) (h : fX7_rake_j41  x1 k0 k1 mem = some t) : zG l E Γ 3 41 [(0, .ref (E.2.1 58)), (1, .int x1)] [.int k0, .int k1] mem := by
  unfold fX7_rake_j41 at h
  refine z_icmp_ne 47 C dX7_rake_41 (by decide) h (fun h => ?_) (fun h => ?_)
  · refine z_aload_n C dX7_rake_47 rfl (j := 0) rfl ?_
    obtain ⟨r4, h4, h⟩ := Option.bind_eq_some_iff.mp h
    refine z_callVv [] [] C dX7_rake_48 (by decide) zen_58 rfl zk_X7_174 zw502 zw503 ⟨⟨by decide, by decide⟩, rfl, Nat.le_of_ble_eq_true rfl⟩ rfl (sX7_note  h4) ?_
    refine z_aload_n C dX7_rake_51 rfl (j := 0) rfl ?_
    refine zg7_5 C dX7_rake_52 zw101 ?_
    refine z_iconst (v := 5) C dX7_rake_55 zc5 ?_
    refine z_dup2 C dX7_rake_56 rfl rfl ?_
    refine z_iald C dX7_rake_57 zar62 h (fun h => ?_)
    refine z_iconst (v := 1) C dX7_rake_58 zc1 ?_
    refine z_iload_n C dX7_rake_59 rfl (j := 1) rfl ?_
    refine z_ishl C dX7_rake_60 ?_
    refine z_ixor C dX7_rake_61 ?_
    refine z_iast C dX7_rake_62 zar62 h (fun m5 h => ?_)
    refine z_aload_n C dX7_rake_63 rfl (j := 0) rfl ?_
    refine zg7_5 C dX7_rake_64 zw101 ?_
    refine z_iconst (v := 4) C dX7_rake_67 zc4 ?_
    refine z_dup2 C dX7_rake_68 rfl rfl ?_
    refine z_iald C dX7_rake_69 zar62 h (fun h => ?_)
    refine z_iconst (v := 1) C dX7_rake_70 zc1 ?_
    refine z_iload_n C dX7_rake_71 rfl (j := 1) rfl ?_
    refine z_ishl C dX7_rake_72 ?_
    refine z_iconst (v := -1) C dX7_rake_73 zcm1 ?_
    refine z_ixor C dX7_rake_74 ?_
    refine z_iand C dX7_rake_75 ?_
    refine z_iast C dX7_rake_76 zar62 h (fun m6 h => ?_)
    refine z_aload_n C dX7_rake_77 rfl (j := 0) rfl ?_
    refine zg7_5 C dX7_rake_78 zw101 ?_
    refine z_iconst (v := 5) C dX7_rake_81 zc5 ?_
    refine z_iald C dX7_rake_82 zar62 h (fun h => ?_)
    have e := Option.some.inj h; subst e; exact z_iret C dX7_rake_83 Rq
  · refine z_ldc C dX7_rake_44 zw499 ?_
    have e := Option.some.inj h; subst e; exact z_iret C dX7_rake_46 Rq
def fX7_rake  (a1 : Int32) (a2 : Int32) (mem : ZM) : Option (Int32 × ZM) :=
  Option.bind (fX7_isThing a1 mem) (fun r1 => if r1 = 0 then (some ((-1000001 : Int32), mem)) else (Option.bind (fX7_in a2.toInt64 (0 : Int64) (1 : Int64)) (fun r2 => if r2 = 0 then (some ((-1000001 : Int32), mem)) else (zgd (zin (5 : Int32) 38) (Option.bind (fX7_has (mem 62 (5 : Int32).toNatClampNeg) a1) (fun r3 => if a2 = (1 : Int32) then (fX7_rake_j41  a1 (1 : Int32) r3 mem) else (fX7_rake_j41  a1 (0 : Int32) r3 mem)))))))
set_option maxRecDepth 100000 in
set_option maxHeartbeats 4000000 in
theorem sX7_rake {l : Launch} {E : ZE}  {a1 : Int32} {a2 : Int32} {mem : ZM} {t : Int32 × ZM} (h : fX7_rake a1 a2 mem = some t) : zMet l E yX7_rake cX7_rake 3 (some .int) 2 [.ref (E.2.1 58), .int a1, .int a2] mem (some (.int t.1)) t.2 := by
  refine z_enter (by decide) (Nat.le_of_ble_eq_true rfl) (fun Γ C Rq => ?_)
  have C : zC E Γ RX7 cX7_rake 3 2 := C
  show zG l E Γ 3 0 [(0, .ref (E.2.1 58)), (1, .int a1), (2, .int a2)] [] mem
  unfold fX7_rake at h
  refine z_aload_n C dX7_rake_0 rfl (j := 0) rfl ?_
  refine z_iload_n C dX7_rake_1 rfl (j := 1) rfl ?_
  obtain ⟨r1, h1, h⟩ := Option.bind_eq_some_iff.mp h
  refine z_callVi [.int a1] [] C dX7_rake_2 (by decide) zen_58 rfl zk_X7_180 zw558 zw559 ⟨⟨by decide, by decide⟩, rfl, Nat.le_of_ble_eq_true rfl⟩ rfl (sX7_isThing  h1) ?_
  refine z_if_eq 18 C dX7_rake_5 (by decide) h (fun h => ?_) (fun h => ?_)
  · refine z_ldc C dX7_rake_18 zw141 ?_
    have e := Option.some.inj h; subst e; exact z_iret C dX7_rake_20 Rq
  · refine z_iload_n C dX7_rake_8 rfl (j := 2) rfl ?_
    refine z_i2l C dX7_rake_9 ?_
    refine z_lconst (v := 0) C dX7_rake_10 zl0 ?_
    refine z_lconst (v := 1) C dX7_rake_11 zl1 ?_
    obtain ⟨r2, h2, h⟩ := Option.bind_eq_some_iff.mp h
    refine z_callSi [.long a2.toInt64, .long (0 : Int64), .long (1 : Int64)] [] C dX7_rake_12 zk_X7_57 zw147 ⟨⟨by decide, by decide⟩, rfl, Nat.le_of_ble_eq_true rfl⟩ rfl (sX7_in  h2) ?_
    refine z_if_ne 21 C dX7_rake_15 (by decide) h (fun h => ?_) (fun h => ?_)
    · refine z_aload_n C dX7_rake_21 rfl (j := 0) rfl ?_
      refine zg7_5 C dX7_rake_22 zw101 ?_
      refine z_iconst (v := 5) C dX7_rake_25 zc5 ?_
      refine z_iald C dX7_rake_26 zar62 h (fun h => ?_)
      refine z_iload_n C dX7_rake_27 rfl (j := 1) rfl ?_
      obtain ⟨r3, h3, h⟩ := Option.bind_eq_some_iff.mp h
      refine z_callSi [.int (mem 62 (5 : Int32).toNatClampNeg), .int a1] [] C dX7_rake_28 zk_X7_145 zw528 ⟨⟨by decide, by decide⟩, rfl, Nat.le_of_ble_eq_true rfl⟩ rfl (sX7_has  h3) ?_
      refine z_iload_n C dX7_rake_31 rfl (j := 2) rfl ?_
      refine z_iconst (v := 1) C dX7_rake_32 zc1 ?_
      refine z_icmp_ne 40 C dX7_rake_33 (by decide) h (fun h => ?_) (fun h => ?_)
      · refine z_iconst (v := 0) C dX7_rake_40 zc0 ?_
        refine z_pick [0, 1] rfl ?_
        exact jX7_rake_41 C   Rq h
      · refine z_iconst (v := 1) C dX7_rake_36 zc1 ?_
        refine z_goto 41 C dX7_rake_37 (by decide) ?_
        refine z_pick [0, 1] rfl ?_
        exact jX7_rake_41 C   Rq h
    · refine z_ldc C dX7_rake_18 zw141 ?_
      have e := Option.some.inj h; subst e; exact z_iret C dX7_rake_20 Rq
-- X7_exchange
def fX7_exchange  (a1 : Int32) (a2 : Int32) (mem : ZM) : Option (ZM) :=
  zgd (zin ((30 : Int32) + a1) 38) (zlet (mem 62 ((30 : Int32) + a1).toNatClampNeg) (fun v1 => zgd (zin ((30 : Int32) + a2) 38) (zgd (zin ((30 : Int32) + a1) 38) (zlet (zst mem 62 ((30 : Int32) + a1).toNatClampNeg (mem 62 ((30 : Int32) + a2).toNatClampNeg)) (fun m2 => zgd (zin ((30 : Int32) + a2) 38) (zlet (zst m2 62 ((30 : Int32) + a2).toNatClampNeg v1) (fun m3 => some m3)))))))
set_option maxRecDepth 100000 in
set_option maxHeartbeats 4000000 in
theorem sX7_exchange {l : Launch} {E : ZE}  {a1 : Int32} {a2 : Int32} {mem : ZM} {t : ZM} (h : fX7_exchange a1 a2 mem = some t) : zMet l E yX7_exchange cX7_exchange 4 none 0 [.ref (E.2.1 58), .int a1, .int a2] mem none t := by
  refine z_enter (by decide) (Nat.le_of_ble_eq_true rfl) (fun Γ C Rq => ?_)
  have C : zC E Γ RX7 cX7_exchange 4 0 := C
  show zG l E Γ 4 0 [(0, .ref (E.2.1 58)), (1, .int a1), (2, .int a2)] [] mem
  unfold fX7_exchange at h
  refine z_aload_n C dX7_exchange_0 rfl (j := 0) rfl ?_
  refine zg7_5 C dX7_exchange_1 zw101 ?_
  refine z_bipush (v := 30) C dX7_exchange_4 zb30 ?_
  refine z_iload_n C dX7_exchange_6 rfl (j := 1) rfl ?_
  refine z_iadd C dX7_exchange_7 ?_
  refine z_iald C dX7_exchange_8 zar62 h (fun h => ?_)
  refine z_istore_n [(0, .ref (E.2.1 58)), (1, .int a1), (2, .int a2)] C dX7_exchange_9 h rfl (by decide) rfl (fun v1 h => ?_)
  refine z_aload_n C dX7_exchange_10 rfl (j := 1) rfl ?_
  refine zg7_5 C dX7_exchange_11 zw101 ?_
  refine z_bipush (v := 30) C dX7_exchange_14 zb30 ?_
  refine z_iload_n C dX7_exchange_16 rfl (j := 2) rfl ?_
  refine z_iadd C dX7_exchange_17 ?_
  refine z_aload_n C dX7_exchange_18 rfl (j := 1) rfl ?_
  refine zg7_5 C dX7_exchange_19 zw101 ?_
  refine z_bipush (v := 30) C dX7_exchange_22 zb30 ?_
  refine z_iload_n C dX7_exchange_24 rfl (j := 3) rfl ?_
  refine z_iadd C dX7_exchange_25 ?_
  refine z_iald C dX7_exchange_26 zar62 h (fun h => ?_)
  refine z_iast C dX7_exchange_27 zar62 h (fun m2 h => ?_)
  refine z_aload_n C dX7_exchange_28 rfl (j := 1) rfl ?_
  refine zg7_5 C dX7_exchange_29 zw101 ?_
  refine z_bipush (v := 30) C dX7_exchange_32 zb30 ?_
  refine z_iload_n C dX7_exchange_34 rfl (j := 3) rfl ?_
  refine z_iadd C dX7_exchange_35 ?_
  refine z_iload_n C dX7_exchange_36 rfl (j := 0) rfl ?_
  refine z_iast C dX7_exchange_37 zar62 h (fun m3 h => ?_)
  have e := Option.some.inj h; subst e; exact z_vret C dX7_exchange_38 Rq
-- X7_swap
def fX7_swap  (a1 : Int32) (a2 : Int32) (mem : ZM) : Option (Int32 × ZM) :=
  Option.bind (fX7_isThing a1 mem) (fun r1 => if r1 = 0 then (some ((-1000001 : Int32), mem)) else (Option.bind (fX7_isThing a2 mem) (fun r2 => if r2 = 0 then (some ((-1000001 : Int32), mem)) else (if a1 = a2 then (some ((-1000001 : Int32), mem)) else (Option.bind (fX7_note mem) (fun r3 => Option.bind (fX7_exchange a1 a2 r3) (fun r4 => zgd (zin ((30 : Int32) + a1) 38) (some (r4 62 ((30 : Int32) + a1).toNatClampNeg, r4)))))))))
set_option maxRecDepth 100000 in
set_option maxHeartbeats 4000000 in
theorem sX7_swap {l : Launch} {E : ZE}  {a1 : Int32} {a2 : Int32} {mem : ZM} {t : Int32 × ZM} (h : fX7_swap a1 a2 mem = some t) : zMet l E yX7_swap cX7_swap 3 (some .int) 2 [.ref (E.2.1 58), .int a1, .int a2] mem (some (.int t.1)) t.2 := by
  refine z_enter (by decide) (Nat.le_of_ble_eq_true rfl) (fun Γ C Rq => ?_)
  have C : zC E Γ RX7 cX7_swap 3 2 := C
  show zG l E Γ 3 0 [(0, .ref (E.2.1 58)), (1, .int a1), (2, .int a2)] [] mem
  unfold fX7_swap at h
  refine z_aload_n C dX7_swap_0 rfl (j := 0) rfl ?_
  refine z_iload_n C dX7_swap_1 rfl (j := 1) rfl ?_
  obtain ⟨r1, h1, h⟩ := Option.bind_eq_some_iff.mp h
  refine z_callVi [.int a1] [] C dX7_swap_2 (by decide) zen_58 rfl zk_X7_180 zw558 zw559 ⟨⟨by decide, by decide⟩, rfl, Nat.le_of_ble_eq_true rfl⟩ rfl (sX7_isThing  h1) ?_
  refine z_if_eq 21 C dX7_swap_5 (by decide) h (fun h => ?_) (fun h => ?_)
  · refine z_ldc C dX7_swap_21 zw141 ?_
    have e := Option.some.inj h; subst e; exact z_iret C dX7_swap_23 Rq
  · refine z_aload_n C dX7_swap_8 rfl (j := 0) rfl ?_
    refine z_iload_n C dX7_swap_9 rfl (j := 2) rfl ?_
    obtain ⟨r2, h2, h⟩ := Option.bind_eq_some_iff.mp h
    refine z_callVi [.int a2] [] C dX7_swap_10 (by decide) zen_58 rfl zk_X7_180 zw558 zw559 ⟨⟨by decide, by decide⟩, rfl, Nat.le_of_ble_eq_true rfl⟩ rfl (sX7_isThing  h2) ?_
    refine z_if_eq 21 C dX7_swap_13 (by decide) h (fun h => ?_) (fun h => ?_)
    · refine z_ldc C dX7_swap_21 zw141 ?_
      have e := Option.some.inj h; subst e; exact z_iret C dX7_swap_23 Rq
    · refine z_iload_n C dX7_swap_16 rfl (j := 1) rfl ?_
      refine z_iload_n C dX7_swap_17 rfl (j := 2) rfl ?_
      refine z_icmp_ne 24 C dX7_swap_18 (by decide) h (fun h => ?_) (fun h => ?_)
      · refine z_aload_n C dX7_swap_24 rfl (j := 0) rfl ?_
        obtain ⟨r3, h3, h⟩ := Option.bind_eq_some_iff.mp h
        refine z_callVv [] [] C dX7_swap_25 (by decide) zen_58 rfl zk_X7_174 zw502 zw503 ⟨⟨by decide, by decide⟩, rfl, Nat.le_of_ble_eq_true rfl⟩ rfl (sX7_note  h3) ?_
        refine z_aload_n C dX7_swap_28 rfl (j := 0) rfl ?_
        refine z_iload_n C dX7_swap_29 rfl (j := 1) rfl ?_
        refine z_iload_n C dX7_swap_30 rfl (j := 2) rfl ?_
        obtain ⟨r4, h4, h⟩ := Option.bind_eq_some_iff.mp h
        refine z_callVv [.int a1, .int a2] [] C dX7_swap_31 (by decide) zen_58 rfl zk_X7_192 zw618 zw619 ⟨⟨by decide, by decide⟩, rfl, Nat.le_of_ble_eq_true rfl⟩ rfl (sX7_exchange  h4) ?_
        refine z_aload_n C dX7_swap_34 rfl (j := 0) rfl ?_
        refine zg7_5 C dX7_swap_35 zw101 ?_
        refine z_bipush (v := 30) C dX7_swap_38 zb30 ?_
        refine z_iload_n C dX7_swap_40 rfl (j := 1) rfl ?_
        refine z_iadd C dX7_swap_41 ?_
        refine z_iald C dX7_swap_42 zar62 h (fun h => ?_)
        have e := Option.some.inj h; subst e; exact z_iret C dX7_swap_43 Rq
      · refine z_ldc C dX7_swap_21 zw141 ?_
        have e := Option.some.inj h; subst e; exact z_iret C dX7_swap_23 Rq
-- X7_wind
def fX7_wind   (mem : ZM) : Option (Int32 × ZM) :=
  if (mem 58 4) = 0 then (some ((-1000002 : Int32), mem)) else (Option.bind (fX7_note mem) (fun r1 => zgd (zin (2 : Int32) 38) (zgd (zin (2 : Int32) 38) (zlet (zst r1 62 (2 : Int32).toNatClampNeg ((1 : Int32) - (r1 62 (2 : Int32).toNatClampNeg))) (fun m2 => zgd (zin (2 : Int32) 38) (some (m2 62 (2 : Int32).toNatClampNeg, m2)))))))
set_option maxRecDepth 100000 in
set_option maxHeartbeats 4000000 in
theorem sX7_wind {l : Launch} {E : ZE}   {mem : ZM} {t : Int32 × ZM} (h : fX7_wind mem = some t) : zMet l E yX7_wind cX7_wind 1 (some .int) 1 [.ref (E.2.1 58)] mem (some (.int t.1)) t.2 := by
  refine z_enter (by decide) (Nat.le_of_ble_eq_true rfl) (fun Γ C Rq => ?_)
  have C : zC E Γ RX7 cX7_wind 1 1 := C
  show zG l E Γ 1 0 [(0, .ref (E.2.1 58))] [] mem
  unfold fX7_wind at h
  refine z_aload_n C dX7_wind_0 rfl (j := 0) rfl ?_
  refine zg7_4 C dX7_wind_1 zw368 ?_
  refine z_if_ne 10 C dX7_wind_4 (by decide) h (fun h => ?_) (fun h => ?_)
  · refine z_aload_n C dX7_wind_10 rfl (j := 0) rfl ?_
    obtain ⟨r1, h1, h⟩ := Option.bind_eq_some_iff.mp h
    refine z_callVv [] [] C dX7_wind_11 (by decide) zen_58 rfl zk_X7_174 zw502 zw503 ⟨⟨by decide, by decide⟩, rfl, Nat.le_of_ble_eq_true rfl⟩ rfl (sX7_note  h1) ?_
    refine z_aload_n C dX7_wind_14 rfl (j := 0) rfl ?_
    refine zg7_5 C dX7_wind_15 zw101 ?_
    refine z_iconst (v := 2) C dX7_wind_18 zc2 ?_
    refine z_iconst (v := 1) C dX7_wind_19 zc1 ?_
    refine z_aload_n C dX7_wind_20 rfl (j := 0) rfl ?_
    refine zg7_5 C dX7_wind_21 zw101 ?_
    refine z_iconst (v := 2) C dX7_wind_24 zc2 ?_
    refine z_iald C dX7_wind_25 zar62 h (fun h => ?_)
    refine z_isub C dX7_wind_26 ?_
    refine z_iast C dX7_wind_27 zar62 h (fun m2 h => ?_)
    refine z_aload_n C dX7_wind_28 rfl (j := 0) rfl ?_
    refine zg7_5 C dX7_wind_29 zw101 ?_
    refine z_iconst (v := 2) C dX7_wind_32 zc2 ?_
    refine z_iald C dX7_wind_33 zar62 h (fun h => ?_)
    have e := Option.some.inj h; subst e; exact z_iret C dX7_wind_34 Rq
  · refine z_ldc C dX7_wind_7 zw499 ?_
    have e := Option.some.inj h; subst e; exact z_iret C dX7_wind_9 Rq
-- X7_thing
def fX7_thing  (a1 : Int32) (a2 : Int32) (mem : ZM) : Option (Int32) :=
  Option.bind (fX7_isThing a1 mem) (fun r1 => if r1 = 0 then (some (-1000001 : Int32)) else (if a2 = (0 : Int32) then (zgd (zin ((14 : Int32) + a1) 38) (some (mem 62 ((14 : Int32) + a1).toNatClampNeg))) else if a2 = (1 : Int32) then (zgd (zin ((22 : Int32) + a1) 38) (some (mem 62 ((22 : Int32) + a1).toNatClampNeg))) else if a2 = (2 : Int32) then (zgd (zin ((30 : Int32) + a1) 38) (some (mem 62 ((30 : Int32) + a1).toNatClampNeg))) else if a2 = (3 : Int32) then (zgd (zin (4 : Int32) 38) (Option.bind (fX7_has (mem 62 (4 : Int32).toNatClampNeg) a1) (fun r6 => if r6 = 0 then (some (0 : Int32)) else (some (1 : Int32))))) else if a2 = (4 : Int32) then (zgd (zin (5 : Int32) 38) (Option.bind (fX7_has (mem 62 (5 : Int32).toNatClampNeg) a1) (fun r8 => if r8 = 0 then (some (0 : Int32)) else (some (1 : Int32))))) else if a2 = (5 : Int32) then (Option.bind (fX7_heatOf a1 mem) (fun r10 => some r10)) else if a2 = (6 : Int32) then (zgd (zin ((14 : Int32) + a1) 38) (if (mem 62 ((14 : Int32) + a1).toNatClampNeg) = 0 then (some (1 : Int32)) else (some (0 : Int32)))) else (some (-1000001 : Int32))))
set_option maxRecDepth 100000 in
set_option maxHeartbeats 4000000 in
theorem sX7_thing {l : Launch} {E : ZE}  {a1 : Int32} {a2 : Int32} {mem : ZM} {t : Int32} (h : fX7_thing a1 a2 mem = some t) : zMet l E yX7_thing cX7_thing 3 (some .int) 5 [.ref (E.2.1 58), .int a1, .int a2] mem (some (.int t)) mem := by
  refine z_enter (by decide) (Nat.le_of_ble_eq_true rfl) (fun Γ C Rq => ?_)
  have C : zC E Γ RX7 cX7_thing 3 5 := C
  show zG l E Γ 3 0 [(0, .ref (E.2.1 58)), (1, .int a1), (2, .int a2)] [] mem
  unfold fX7_thing at h
  refine z_aload_n C dX7_thing_0 rfl (j := 0) rfl ?_
  refine z_iload_n C dX7_thing_1 rfl (j := 1) rfl ?_
  obtain ⟨r1, h1, h⟩ := Option.bind_eq_some_iff.mp h
  refine z_callVi [.int a1] [] C dX7_thing_2 (by decide) zen_58 rfl zk_X7_180 zw558 zw559 ⟨⟨by decide, by decide⟩, rfl, Nat.le_of_ble_eq_true rfl⟩ rfl (sX7_isThing  h1) ?_
  refine z_if_ne 11 C dX7_thing_5 (by decide) h (fun h => ?_) (fun h => ?_)
  · refine z_iload_n C dX7_thing_11 rfl (j := 2) rfl ?_
    by_cases c2 : a2 = (0 : Int32)
    · rw [if_pos c2] at h
      refine z_swIn (off := 44) 56 C dX7_thing_12 0 c2 (by decide) (by decide) (by decide) (by decide) ?_
      refine z_aload_n C dX7_thing_56 rfl (j := 0) rfl ?_
      refine zg7_5 C dX7_thing_57 zw101 ?_
      refine z_bipush (v := 14) C dX7_thing_60 zb14 ?_
      refine z_iload_n C dX7_thing_62 rfl (j := 1) rfl ?_
      refine z_iadd C dX7_thing_63 ?_
      refine z_iald C dX7_thing_64 zar62 h (fun h => ?_)
      have e := Option.some.inj h; subst e; exact z_iret C dX7_thing_65 Rq
    rw [if_neg c2] at h
    have nc2 : (a2).toInt ≠ 0 := zne c2
    by_cases c3 : a2 = (1 : Int32)
    · rw [if_pos c3] at h
      refine z_swIn (off := 54) 66 C dX7_thing_12 1 c3 (by decide) (by decide) (by decide) (by decide) ?_
      refine z_aload_n C dX7_thing_66 rfl (j := 0) rfl ?_
      refine zg7_5 C dX7_thing_67 zw101 ?_
      refine z_bipush (v := 22) C dX7_thing_70 zb22 ?_
      refine z_iload_n C dX7_thing_72 rfl (j := 1) rfl ?_
      refine z_iadd C dX7_thing_73 ?_
      refine z_iald C dX7_thing_74 zar62 h (fun h => ?_)
      have e := Option.some.inj h; subst e; exact z_iret C dX7_thing_75 Rq
    rw [if_neg c3] at h
    have nc3 : (a2).toInt ≠ 1 := zne c3
    by_cases c4 : a2 = (2 : Int32)
    · rw [if_pos c4] at h
      refine z_swIn (off := 64) 76 C dX7_thing_12 2 c4 (by decide) (by decide) (by decide) (by decide) ?_
      refine z_aload_n C dX7_thing_76 rfl (j := 0) rfl ?_
      refine zg7_5 C dX7_thing_77 zw101 ?_
      refine z_bipush (v := 30) C dX7_thing_80 zb30 ?_
      refine z_iload_n C dX7_thing_82 rfl (j := 1) rfl ?_
      refine z_iadd C dX7_thing_83 ?_
      refine z_iald C dX7_thing_84 zar62 h (fun h => ?_)
      have e := Option.some.inj h; subst e; exact z_iret C dX7_thing_85 Rq
    rw [if_neg c4] at h
    have nc4 : (a2).toInt ≠ 2 := zne c4
    by_cases c5 : a2 = (3 : Int32)
    · rw [if_pos c5] at h
      refine z_swIn (off := 74) 86 C dX7_thing_12 3 c5 (by decide) (by decide) (by decide) (by decide) ?_
      refine z_aload_n C dX7_thing_86 rfl (j := 0) rfl ?_
      refine zg7_5 C dX7_thing_87 zw101 ?_
      refine z_iconst (v := 4) C dX7_thing_90 zc4 ?_
      refine z_iald C dX7_thing_91 zar62 h (fun h => ?_)
      refine z_iload_n C dX7_thing_92 rfl (j := 1) rfl ?_
      obtain ⟨r6, h6, h⟩ := Option.bind_eq_some_iff.mp h
      refine z_callSi [.int (mem 62 (4 : Int32).toNatClampNeg), .int a1] [] C dX7_thing_93 zk_X7_145 zw528 ⟨⟨by decide, by decide⟩, rfl, Nat.le_of_ble_eq_true rfl⟩ rfl (sX7_has  h6) ?_
      refine z_if_eq 103 C dX7_thing_96 (by decide) h (fun h => ?_) (fun h => ?_)
      · refine z_iconst (v := 0) C dX7_thing_103 zc0 ?_
        have e := Option.some.inj h; subst e; exact z_iret C dX7_thing_104 Rq
      · refine z_iconst (v := 1) C dX7_thing_99 zc1 ?_
        refine z_goto 104 C dX7_thing_100 (by decide) ?_
        have e := Option.some.inj h; subst e; exact z_iret C dX7_thing_104 Rq
    rw [if_neg c5] at h
    have nc5 : (a2).toInt ≠ 3 := zne c5
    by_cases c7 : a2 = (4 : Int32)
    · rw [if_pos c7] at h
      refine z_swIn (off := 93) 105 C dX7_thing_12 4 c7 (by decide) (by decide) (by decide) (by decide) ?_
      refine z_aload_n C dX7_thing_105 rfl (j := 0) rfl ?_
      refine zg7_5 C dX7_thing_106 zw101 ?_
      refine z_iconst (v := 5) C dX7_thing_109 zc5 ?_
      refine z_iald C dX7_thing_110 zar62 h (fun h => ?_)
      refine z_iload_n C dX7_thing_111 rfl (j := 1) rfl ?_
      obtain ⟨r8, h8, h⟩ := Option.bind_eq_some_iff.mp h
      refine z_callSi [.int (mem 62 (5 : Int32).toNatClampNeg), .int a1] [] C dX7_thing_112 zk_X7_145 zw528 ⟨⟨by decide, by decide⟩, rfl, Nat.le_of_ble_eq_true rfl⟩ rfl (sX7_has  h8) ?_
      refine z_if_eq 122 C dX7_thing_115 (by decide) h (fun h => ?_) (fun h => ?_)
      · refine z_iconst (v := 0) C dX7_thing_122 zc0 ?_
        have e := Option.some.inj h; subst e; exact z_iret C dX7_thing_123 Rq
      · refine z_iconst (v := 1) C dX7_thing_118 zc1 ?_
        refine z_goto 123 C dX7_thing_119 (by decide) ?_
        have e := Option.some.inj h; subst e; exact z_iret C dX7_thing_123 Rq
    rw [if_neg c7] at h
    have nc7 : (a2).toInt ≠ 4 := zne c7
    by_cases c9 : a2 = (5 : Int32)
    · rw [if_pos c9] at h
      refine z_swIn (off := 112) 124 C dX7_thing_12 5 c9 (by decide) (by decide) (by decide) (by decide) ?_
      refine z_aload_n C dX7_thing_124 rfl (j := 0) rfl ?_
      refine z_iload_n C dX7_thing_125 rfl (j := 1) rfl ?_
      obtain ⟨r10, h10, h⟩ := Option.bind_eq_some_iff.mp h
      refine z_callVi [.int a1] [] C dX7_thing_126 (by decide) zen_58 rfl zk_X7_161 zw512 zw513 ⟨⟨by decide, by decide⟩, rfl, Nat.le_of_ble_eq_true rfl⟩ rfl (sX7_heatOf  h10) ?_
      have e := Option.some.inj h; subst e; exact z_iret C dX7_thing_129 Rq
    rw [if_neg c9] at h
    have nc9 : (a2).toInt ≠ 5 := zne c9
    by_cases c11 : a2 = (6 : Int32)
    · rw [if_pos c11] at h
      refine z_swIn (off := 118) 130 C dX7_thing_12 6 c11 (by decide) (by decide) (by decide) (by decide) ?_
      refine z_aload_n C dX7_thing_130 rfl (j := 0) rfl ?_
      refine zg7_5 C dX7_thing_131 zw101 ?_
      refine z_bipush (v := 14) C dX7_thing_134 zb14 ?_
      refine z_iload_n C dX7_thing_136 rfl (j := 1) rfl ?_
      refine z_iadd C dX7_thing_137 ?_
      refine z_iald C dX7_thing_138 zar62 h (fun h => ?_)
      refine z_if_ne 146 C dX7_thing_139 (by decide) h (fun h => ?_) (fun h => ?_)
      · refine z_iconst (v := 0) C dX7_thing_146 zc0 ?_
        have e := Option.some.inj h; subst e; exact z_iret C dX7_thing_147 Rq
      · refine z_iconst (v := 1) C dX7_thing_142 zc1 ?_
        refine z_goto 147 C dX7_thing_143 (by decide) ?_
        have e := Option.some.inj h; subst e; exact z_iret C dX7_thing_147 Rq
    rw [if_neg c11] at h
    have nc11 : (a2).toInt ≠ 6 := zne c11
    refine z_swOut 148 C dX7_thing_12 (by omega) (by decide) ?_
    refine z_ldc C dX7_thing_148 zw141 ?_
    have e := Option.some.inj h; subst e; exact z_iret C dX7_thing_150 Rq
  · refine z_ldc C dX7_thing_8 zw141 ?_
    have e := Option.some.inj h; subst e; exact z_iret C dX7_thing_10 Rq
-- X7_place
def fX7_place  (a1 : Int32) (mem : ZM) : Option (Int32) :=
  Option.bind (fX7_isThing a1 mem) (fun r1 => if r1 = 0 then (some (-1000001 : Int32)) else (Option.bind (fX7_thingIn a1 mem) (fun r2 => some r2)))
set_option maxRecDepth 100000 in
set_option maxHeartbeats 4000000 in
theorem sX7_place {l : Launch} {E : ZE}  {a1 : Int32} {mem : ZM} {t : Int32} (h : fX7_place a1 mem = some t) : zMet l E yX7_place cX7_place 2 (some .int) 2 [.ref (E.2.1 58), .int a1] mem (some (.int t)) mem := by
  refine z_enter (by decide) (Nat.le_of_ble_eq_true rfl) (fun Γ C Rq => ?_)
  have C : zC E Γ RX7 cX7_place 2 2 := C
  show zG l E Γ 2 0 [(0, .ref (E.2.1 58)), (1, .int a1)] [] mem
  unfold fX7_place at h
  refine z_aload_n C dX7_place_0 rfl (j := 0) rfl ?_
  refine z_iload_n C dX7_place_1 rfl (j := 1) rfl ?_
  obtain ⟨r1, h1, h⟩ := Option.bind_eq_some_iff.mp h
  refine z_callVi [.int a1] [] C dX7_place_2 (by decide) zen_58 rfl zk_X7_180 zw558 zw559 ⟨⟨by decide, by decide⟩, rfl, Nat.le_of_ble_eq_true rfl⟩ rfl (sX7_isThing  h1) ?_
  refine z_if_eq 16 C dX7_place_5 (by decide) h (fun h => ?_) (fun h => ?_)
  · refine z_ldc C dX7_place_16 zw141 ?_
    have e := Option.some.inj h; subst e; exact z_iret C dX7_place_18 Rq
  · refine z_aload_n C dX7_place_8 rfl (j := 0) rfl ?_
    refine z_iload_n C dX7_place_9 rfl (j := 1) rfl ?_
    obtain ⟨r2, h2, h⟩ := Option.bind_eq_some_iff.mp h
    refine z_callVi [.int a1] [] C dX7_place_10 (by decide) zen_58 rfl zk_X7_142 zw524 zw525 ⟨⟨by decide, by decide⟩, rfl, Nat.le_of_ble_eq_true rfl⟩ rfl (sX7_thingIn  h2) ?_
    refine z_goto 18 C dX7_place_13 (by decide) ?_
    have e := Option.some.inj h; subst e; exact z_iret C dX7_place_18 Rq
-- X7_putAside
def fX7_putAside_b2   (x2_1 : Int32) (memb : ZM) : Option ((Int32 × ZM) ⊕ (Int32 × ZM)) :=
  if (38 : Int32) ≤ x2_1 then (some (Sum.inr (x2_1, memb))) else (zgd (zin x2_1 38) (zgd (zin x2_1 38) (zlet (zst memb 68 x2_1.toNatClampNeg (memb 62 x2_1.toNatClampNeg)) (fun m3 => zlet (x2_1 + (1 : Int32)) (fun v4 => some (Sum.inl (v4, m3)))))))
def fX7_putAside_l2   (s : Int32 × ZM) : Option (Int32 × ZM) := ziter (fun s => fX7_putAside_b2  s.1 s.2) 2000 s
set_option maxRecDepth 100000 in
set_option maxHeartbeats 4000000 in
theorem bX7_putAside_2 {l : Launch} {E : ZE} {Γ : ZG} (C : zC E Γ RX7 cX7_putAside 2 0)   {x2_1 : Int32} {memb : ZM} {u : (Int32 × ZM) ⊕ (Int32 × ZM)} (G1 : ∀ s', u = Sum.inl s' → zG l E Γ 2 2 [(0, .ref (E.2.1 58)), (1, .int (s'.1))] [] s'.2) (G2 : ∀ s', u = Sum.inr s' → zG l E Γ 2 26 [] [] s'.2) (h : fX7_putAside_b2  x2_1 memb = some u) : zG l E Γ 2 2 [(0, .ref (E.2.1 58)), (1, .int x2_1)] [] memb := by
  unfold fX7_putAside_b2 at h
  refine z_iload_n C dX7_putAside_2 rfl (j := 1) rfl ?_
  refine z_bipush (v := 38) C dX7_putAside_3 zb38 ?_
  refine z_icmp_ge 26 C dX7_putAside_5 (by decide) h (fun h => ?_) (fun h => ?_)
  · refine z_pick [] rfl ?_
    exact G2 _ (Option.some.inj h).symm
  · refine z_aload_n C dX7_putAside_8 rfl (j := 0) rfl ?_
    refine zg7_20 C dX7_putAside_9 zw107 ?_
    refine z_iload_n C dX7_putAside_12 rfl (j := 1) rfl ?_
    refine z_aload_n C dX7_putAside_13 rfl (j := 0) rfl ?_
    refine zg7_5 C dX7_putAside_14 zw101 ?_
    refine z_iload_n C dX7_putAside_17 rfl (j := 1) rfl ?_
    refine z_iald C dX7_putAside_18 zar62 h (fun h => ?_)
    refine z_iast C dX7_putAside_19 zar68 h (fun m3 h => ?_)
    refine z_iinc [(0, .ref (E.2.1 58))] C dX7_putAside_20 zc1 h (j := 1) rfl (by decide) rfl (fun v4 h => ?_)
    refine z_goto 2 C dX7_putAside_23 (by decide) ?_
    refine z_pick [1, 0] rfl ?_
    exact G1 _ (Option.some.inj h).symm
theorem lX7_putAside_2 {l : Launch} {E : ZE} {Γ : ZG} (C : zC E Γ RX7 cX7_putAside 2 0)   {s : Int32 × ZM} {r : Int32 × ZM} (h : fX7_putAside_l2  s = some r) (K1 : zG l E Γ 2 26 [] [] r.2) : zG l E Γ 2 2 [(0, .ref (E.2.1 58)), (1, .int s.1)] [] s.2 :=
  z_loop (body := fun s => fX7_putAside_b2  s.1 s.2) (fun s => zG l E Γ 2 2 [(0, .ref (E.2.1 58)), (1, .int s.1)] [] s.2) (fun r => zG l E Γ 2 26 [] [] r.2) (fun s u hb g1 g2 => bX7_putAside_2 C  g1 g2 hb) 2000 s r h K1
def fX7_putAside   (mem : ZM) : Option (ZM) :=
  zlet (0 : Int32) (fun v1 => Option.bind (fX7_putAside_l2 (v1, mem)) (fun r2 => some r2.2))
set_option maxRecDepth 100000 in
set_option maxHeartbeats 4000000 in
theorem sX7_putAside {l : Launch} {E : ZE}   {mem : ZM} {t : ZM} (h : fX7_putAside mem = some t) : zMet l E yX7_putAside cX7_putAside 2 none 0 [.ref (E.2.1 58)] mem none t := by
  refine z_enter (by decide) (Nat.le_of_ble_eq_true rfl) (fun Γ C Rq => ?_)
  have C : zC E Γ RX7 cX7_putAside 2 0 := C
  show zG l E Γ 2 0 [(0, .ref (E.2.1 58))] [] mem
  unfold fX7_putAside at h
  refine z_iconst (v := 0) C dX7_putAside_0 zc0 ?_
  refine z_istore_n [(0, .ref (E.2.1 58))] C dX7_putAside_1 h rfl (by decide) rfl (fun v1 h => ?_)
  obtain ⟨r2, h2, h⟩ := Option.bind_eq_some_iff.mp h
  refine z_pick [1, 0] rfl ?_
  refine lX7_putAside_2 C  h2 ?_
  have e := Option.some.inj h; subst e; exact z_vret C dX7_putAside_26 Rq
-- X7_takeBack
def fX7_takeBack_b2   (x2_1 : Int32) (memb : ZM) : Option ((Int32 × ZM) ⊕ (Int32 × ZM)) :=
  if (38 : Int32) ≤ x2_1 then (some (Sum.inr (x2_1, memb))) else (zgd (zin x2_1 38) (zgd (zin x2_1 38) (zlet (zst memb 62 x2_1.toNatClampNeg (memb 68 x2_1.toNatClampNeg)) (fun m3 => zlet (x2_1 + (1 : Int32)) (fun v4 => some (Sum.inl (v4, m3)))))))
def fX7_takeBack_l2   (s : Int32 × ZM) : Option (Int32 × ZM) := ziter (fun s => fX7_takeBack_b2  s.1 s.2) 2000 s
set_option maxRecDepth 100000 in
set_option maxHeartbeats 4000000 in
theorem bX7_takeBack_2 {l : Launch} {E : ZE} {Γ : ZG} (C : zC E Γ RX7 cX7_takeBack 2 0)   {x2_1 : Int32} {memb : ZM} {u : (Int32 × ZM) ⊕ (Int32 × ZM)} (G1 : ∀ s', u = Sum.inl s' → zG l E Γ 2 2 [(0, .ref (E.2.1 58)), (1, .int (s'.1))] [] s'.2) (G2 : ∀ s', u = Sum.inr s' → zG l E Γ 2 26 [] [] s'.2) (h : fX7_takeBack_b2  x2_1 memb = some u) : zG l E Γ 2 2 [(0, .ref (E.2.1 58)), (1, .int x2_1)] [] memb := by
  unfold fX7_takeBack_b2 at h
  refine z_iload_n C dX7_takeBack_2 rfl (j := 1) rfl ?_
  refine z_bipush (v := 38) C dX7_takeBack_3 zb38 ?_
  refine z_icmp_ge 26 C dX7_takeBack_5 (by decide) h (fun h => ?_) (fun h => ?_)
  · refine z_pick [] rfl ?_
    exact G2 _ (Option.some.inj h).symm
  · refine z_aload_n C dX7_takeBack_8 rfl (j := 0) rfl ?_
    refine zg7_5 C dX7_takeBack_9 zw101 ?_
    refine z_iload_n C dX7_takeBack_12 rfl (j := 1) rfl ?_
    refine z_aload_n C dX7_takeBack_13 rfl (j := 0) rfl ?_
    refine zg7_20 C dX7_takeBack_14 zw107 ?_
    refine z_iload_n C dX7_takeBack_17 rfl (j := 1) rfl ?_
    refine z_iald C dX7_takeBack_18 zar68 h (fun h => ?_)
    refine z_iast C dX7_takeBack_19 zar62 h (fun m3 h => ?_)
    refine z_iinc [(0, .ref (E.2.1 58))] C dX7_takeBack_20 zc1 h (j := 1) rfl (by decide) rfl (fun v4 h => ?_)
    refine z_goto 2 C dX7_takeBack_23 (by decide) ?_
    refine z_pick [1, 0] rfl ?_
    exact G1 _ (Option.some.inj h).symm
theorem lX7_takeBack_2 {l : Launch} {E : ZE} {Γ : ZG} (C : zC E Γ RX7 cX7_takeBack 2 0)   {s : Int32 × ZM} {r : Int32 × ZM} (h : fX7_takeBack_l2  s = some r) (K1 : zG l E Γ 2 26 [] [] r.2) : zG l E Γ 2 2 [(0, .ref (E.2.1 58)), (1, .int s.1)] [] s.2 :=
  z_loop (body := fun s => fX7_takeBack_b2  s.1 s.2) (fun s => zG l E Γ 2 2 [(0, .ref (E.2.1 58)), (1, .int s.1)] [] s.2) (fun r => zG l E Γ 2 26 [] [] r.2) (fun s u hb g1 g2 => bX7_takeBack_2 C  g1 g2 hb) 2000 s r h K1
def fX7_takeBack   (mem : ZM) : Option (ZM) :=
  zlet (0 : Int32) (fun v1 => Option.bind (fX7_takeBack_l2 (v1, mem)) (fun r2 => some r2.2))
set_option maxRecDepth 100000 in
set_option maxHeartbeats 4000000 in
theorem sX7_takeBack {l : Launch} {E : ZE}   {mem : ZM} {t : ZM} (h : fX7_takeBack mem = some t) : zMet l E yX7_takeBack cX7_takeBack 2 none 0 [.ref (E.2.1 58)] mem none t := by
  refine z_enter (by decide) (Nat.le_of_ble_eq_true rfl) (fun Γ C Rq => ?_)
  have C : zC E Γ RX7 cX7_takeBack 2 0 := C
  show zG l E Γ 2 0 [(0, .ref (E.2.1 58))] [] mem
  unfold fX7_takeBack at h
  refine z_iconst (v := 0) C dX7_takeBack_0 zc0 ?_
  refine z_istore_n [(0, .ref (E.2.1 58))] C dX7_takeBack_1 h rfl (by decide) rfl (fun v1 h => ?_)
  obtain ⟨r2, h2, h⟩ := Option.bind_eq_some_iff.mp h
  refine z_pick [1, 0] rfl ?_
  refine lX7_takeBack_2 C  h2 ?_
  have e := Option.some.inj h; subst e; exact z_vret C dX7_takeBack_26 Rq
-- X7_goOn
def fX7_goOn_b2  (y2_1 : Int32) (x2_2 : Int32) (memb : ZM) : Option ((Int32 × ZM) ⊕ (Int32 × ZM)) :=
  if y2_1 ≤ x2_2 then (some (Sum.inr (x2_2, memb))) else (Option.bind (fX7_oneHour memb) (fun r3 => zlet (x2_2 + (1 : Int32)) (fun v4 => some (Sum.inl (v4, r3)))))
def fX7_goOn_l2  (y2_1 : Int32) (s : Int32 × ZM) : Option (Int32 × ZM) := ziter (fun s => fX7_goOn_b2 y2_1 s.1 s.2) 2000 s
set_option maxRecDepth 100000 in
set_option maxHeartbeats 4000000 in
theorem bX7_goOn_2 {l : Launch} {E : ZE} {Γ : ZG} (C : zC E Γ RX7 cX7_goOn 3 6)  {y2_1 : Int32} {x2_2 : Int32} {memb : ZM} {u : (Int32 × ZM) ⊕ (Int32 × ZM)} (G1 : ∀ s', u = Sum.inl s' → zG l E Γ 3 2 [(0, .ref (E.2.1 58)), (1, .int y2_1), (2, .int (s'.1))] [] s'.2) (G2 : ∀ s', u = Sum.inr s' → zG l E Γ 3 17 [] [] s'.2) (h : fX7_goOn_b2 y2_1 x2_2 memb = some u) : zG l E Γ 3 2 [(0, .ref (E.2.1 58)), (1, .int y2_1), (2, .int x2_2)] [] memb := by
  unfold fX7_goOn_b2 at h
  refine z_iload_n C dX7_goOn_2 rfl (j := 2) rfl ?_
  refine z_iload_n C dX7_goOn_3 rfl (j := 1) rfl ?_
  refine z_icmp_ge 17 C dX7_goOn_4 (by decide) h (fun h => ?_) (fun h => ?_)
  · refine z_pick [] rfl ?_
    exact G2 _ (Option.some.inj h).symm
  · refine z_aload_n C dX7_goOn_7 rfl (j := 0) rfl ?_
    obtain ⟨r3, h3, h⟩ := Option.bind_eq_some_iff.mp h
    refine z_callVv [] [] C dX7_goOn_8 (by decide) zen_58 rfl zk_X7_177 zw506 zw507 ⟨⟨by decide, by decide⟩, rfl, Nat.le_of_ble_eq_true rfl⟩ rfl (sX7_oneHour  h3) ?_
    refine z_iinc [(0, .ref (E.2.1 58)), (1, .int y2_1)] C dX7_goOn_11 zc1 h (j := 2) rfl (by decide) rfl (fun v4 h => ?_)
    refine z_goto 2 C dX7_goOn_14 (by decide) ?_
    refine z_pick [1, 2, 0] rfl ?_
    exact G1 _ (Option.some.inj h).symm
theorem lX7_goOn_2 {l : Launch} {E : ZE} {Γ : ZG} (C : zC E Γ RX7 cX7_goOn 3 6)  {y2_1 : Int32} {s : Int32 × ZM} {r : Int32 × ZM} (h : fX7_goOn_l2 y2_1 s = some r) (K1 : zG l E Γ 3 17 [] [] r.2) : zG l E Γ 3 2 [(0, .ref (E.2.1 58)), (1, .int y2_1), (2, .int s.1)] [] s.2 :=
  z_loop (body := fun s => fX7_goOn_b2 y2_1 s.1 s.2) (fun s => zG l E Γ 3 2 [(0, .ref (E.2.1 58)), (1, .int y2_1), (2, .int s.1)] [] s.2) (fun r => zG l E Γ 3 17 [] [] r.2) (fun s u hb g1 g2 => bX7_goOn_2 C  g1 g2 hb) 2000 s r h K1
def fX7_goOn  (a1 : Int32) (mem : ZM) : Option (ZM) :=
  zlet (0 : Int32) (fun v1 => Option.bind (fX7_goOn_l2 a1 (v1, mem)) (fun r2 => some r2.2))
set_option maxRecDepth 100000 in
set_option maxHeartbeats 4000000 in
theorem sX7_goOn {l : Launch} {E : ZE}  {a1 : Int32} {mem : ZM} {t : ZM} (h : fX7_goOn a1 mem = some t) : zMet l E yX7_goOn cX7_goOn 3 none 6 [.ref (E.2.1 58), .int a1] mem none t := by
  refine z_enter (by decide) (Nat.le_of_ble_eq_true rfl) (fun Γ C Rq => ?_)
  have C : zC E Γ RX7 cX7_goOn 3 6 := C
  show zG l E Γ 3 0 [(0, .ref (E.2.1 58)), (1, .int a1)] [] mem
  unfold fX7_goOn at h
  refine z_iconst (v := 0) C dX7_goOn_0 zc0 ?_
  refine z_istore_n [(0, .ref (E.2.1 58)), (1, .int a1)] C dX7_goOn_1 h rfl (by decide) rfl (fun v1 h => ?_)
  obtain ⟨r2, h2, h⟩ := Option.bind_eq_some_iff.mp h
  refine z_pick [1, 2, 0] rfl ?_
  refine lX7_goOn_2 C  h2 ?_
  have e := Option.some.inj h; subst e; exact z_vret C dX7_goOn_17 Rq
-- X7_isWhat
def fX7_isWhat  (a0 : Int32) : Option (Int32) :=
  Option.bind (fX7_in a0.toInt64 (0 : Int64) (1 : Int64)) (fun r1 => zgd (zbl r1) (some r1))
set_option maxRecDepth 100000 in
set_option maxHeartbeats 4000000 in
theorem sX7_isWhat {l : Launch} {E : ZE}  {a0 : Int32} {mem : ZM} {t : Int32} (h : fX7_isWhat a0 = some t) : zMet l E yX7_isWhat cX7_isWhat 1 (some .boolean) 1 [.int a0] mem (some (.int t)) mem := by
  refine z_enter (by decide) (Nat.le_of_ble_eq_true rfl) (fun Γ C Rq => ?_)
  have C : zC E Γ RX7 cX7_isWhat 1 1 := C
  show zG l E Γ 1 0 [(0, .int a0)] [] mem
  unfold fX7_isWhat at h
  refine z_iload_n C dX7_isWhat_0 rfl (j := 0) rfl ?_
  refine z_i2l C dX7_isWhat_1 ?_
  refine z_lconst (v := 0) C dX7_isWhat_2 zl0 ?_
  refine z_lconst (v := 1) C dX7_isWhat_3 zl1 ?_
  obtain ⟨r1, h1, h⟩ := Option.bind_eq_some_iff.mp h
  refine z_callSi [.long a0.toInt64, .long (0 : Int64), .long (1 : Int64)] [] C dX7_isWhat_4 zk_X7_57 zw147 ⟨⟨by decide, by decide⟩, rfl, Nat.le_of_ble_eq_true rfl⟩ rfl (sX7_in  h1) ?_
  obtain ⟨hg, h⟩ := zgd_some h
  have e := Option.some.inj h; subst e; exact z_zret C dX7_isWhat_7 hg Rq
-- X7_ahead
def fX7_ahead_j64  (k0 : Int32) (mem : ZM) : Option (Int32 × ZM) :=
  zlet k0 (fun v6 => Option.bind (fX7_takeBack mem) (fun r7 => some (v6, r7)))
set_option maxRecDepth 100000 in
set_option maxHeartbeats 4000000 in
theorem jX7_ahead_64 {l : Launch} {E : ZE} {Γ : ZG} (C : zC E Γ RX7 cX7_ahead 5 7)  {k0 : Int32}  {mem : ZM}  {t : Int32 × ZM}  (Rq : zRq E Γ (some .int) (some (.int t.1)) t.2) (h : fX7_ahead_j64  k0 mem = some t) : zG l E Γ 5 64 [(0, .ref (E.2.1 58))] [.int k0] mem := by
  unfold fX7_ahead_j64 at h
  refine z_istore [(0, .ref (E.2.1 58))] C dX7_ahead_64 h (by decide) rfl (fun v6 h => ?_)
  refine z_aload_n C dX7_ahead_66 rfl (j := 1) rfl ?_
  obtain ⟨r7, h7, h⟩ := Option.bind_eq_some_iff.mp h
  refine z_callVv [] [] C dX7_ahead_67 (by decide) zen_58 rfl zk_X7_207 zw702 zw703 ⟨⟨by decide, by decide⟩, rfl, Nat.le_of_ble_eq_true rfl⟩ rfl (sX7_takeBack  h7) ?_
  refine z_iload C dX7_ahead_70 (j := 0) rfl ?_
  have e := Option.some.inj h; subst e; exact z_iret C dX7_ahead_72 Rq
def fX7_ahead  (a1 : Int32) (a2 : Int32) (a3 : Int32) (mem : ZM) : Option (Int32 × ZM) :=
  Option.bind (fX7_isThing a1 mem) (fun r1 => if r1 = 0 then (some ((-1000001 : Int32), mem)) else (Option.bind (fX7_in a2.toInt64 (0 : Int64) (60 : Int64)) (fun r2 => if r2 = 0 then (some ((-1000001 : Int32), mem)) else (Option.bind (fX7_isWhat a3) (fun r3 => if r3 = 0 then (some ((-1000001 : Int32), mem)) else (Option.bind (fX7_putAside mem) (fun r4 => Option.bind (fX7_goOn a2 r4) (fun r5 => if a3 = 0 then (zgd (zin ((14 : Int32) + a1) 38) (fX7_ahead_j64  (r5 62 ((14 : Int32) + a1).toNatClampNeg) r5)) else (zgd (zin ((22 : Int32) + a1) 38) (fX7_ahead_j64  (r5 62 ((22 : Int32) + a1).toNatClampNeg) r5))))))))))
set_option maxRecDepth 100000 in
set_option maxHeartbeats 4000000 in
theorem sX7_ahead {l : Launch} {E : ZE}  {a1 : Int32} {a2 : Int32} {a3 : Int32} {mem : ZM} {t : Int32 × ZM} (h : fX7_ahead a1 a2 a3 mem = some t) : zMet l E yX7_ahead cX7_ahead 5 (some .int) 7 [.ref (E.2.1 58), .int a1, .int a2, .int a3] mem (some (.int t.1)) t.2 := by
  refine z_enter (by decide) (Nat.le_of_ble_eq_true rfl) (fun Γ C Rq => ?_)
  have C : zC E Γ RX7 cX7_ahead 5 7 := C
  show zG l E Γ 5 0 [(0, .ref (E.2.1 58)), (1, .int a1), (2, .int a2), (3, .int a3)] [] mem
  unfold fX7_ahead at h
  refine z_aload_n C dX7_ahead_0 rfl (j := 0) rfl ?_
  refine z_iload_n C dX7_ahead_1 rfl (j := 1) rfl ?_
  obtain ⟨r1, h1, h⟩ := Option.bind_eq_some_iff.mp h
  refine z_callVi [.int a1] [] C dX7_ahead_2 (by decide) zen_58 rfl zk_X7_180 zw558 zw559 ⟨⟨by decide, by decide⟩, rfl, Nat.le_of_ble_eq_true rfl⟩ rfl (sX7_isThing  h1) ?_
  refine z_if_eq 27 C dX7_ahead_5 (by decide) h (fun h => ?_) (fun h => ?_)
  · refine z_ldc C dX7_ahead_27 zw141 ?_
    have e := Option.some.inj h; subst e; exact z_iret C dX7_ahead_29 Rq
  · refine z_iload_n C dX7_ahead_8 rfl (j := 2) rfl ?_
    refine z_i2l C dX7_ahead_9 ?_
    refine z_lconst (v := 0) C dX7_ahead_10 zl0 ?_
    refine z_ldc2 C dX7_ahead_11 zw689 ?_
    obtain ⟨r2, h2, h⟩ := Option.bind_eq_some_iff.mp h
    refine z_callSi [.long a2.toInt64, .long (0 : Int64), .long (60 : Int64)] [] C dX7_ahead_14 zk_X7_57 zw147 ⟨⟨by decide, by decide⟩, rfl, Nat.le_of_ble_eq_true rfl⟩ rfl (sX7_in  h2) ?_
    refine z_if_eq 27 C dX7_ahead_17 (by decide) h (fun h => ?_) (fun h => ?_)
    · refine z_ldc C dX7_ahead_27 zw141 ?_
      have e := Option.some.inj h; subst e; exact z_iret C dX7_ahead_29 Rq
    · refine z_iload_n C dX7_ahead_20 rfl (j := 3) rfl ?_
      obtain ⟨r3, h3, h⟩ := Option.bind_eq_some_iff.mp h
      refine z_callSi [.int a3] [] C dX7_ahead_21 zk_X7_197 zw691 ⟨⟨by decide, by decide⟩, rfl, Nat.le_of_ble_eq_true rfl⟩ rfl (sX7_isWhat  h3) ?_
      refine z_if_ne 30 C dX7_ahead_24 (by decide) h (fun h => ?_) (fun h => ?_)
      · refine z_aload_n C dX7_ahead_30 rfl (j := 0) rfl ?_
        obtain ⟨r4, h4, h⟩ := Option.bind_eq_some_iff.mp h
        refine z_callVv [] [] C dX7_ahead_31 (by decide) zen_58 rfl zk_X7_200 zw694 zw695 ⟨⟨by decide, by decide⟩, rfl, Nat.le_of_ble_eq_true rfl⟩ rfl (sX7_putAside  h4) ?_
        refine z_aload_n C dX7_ahead_34 rfl (j := 0) rfl ?_
        refine z_iload_n C dX7_ahead_35 rfl (j := 2) rfl ?_
        obtain ⟨r5, h5, h⟩ := Option.bind_eq_some_iff.mp h
        refine z_callVv [.int a2] [] C dX7_ahead_36 (by decide) zen_58 rfl zk_X7_203 zw698 zw699 ⟨⟨by decide, by decide⟩, rfl, Nat.le_of_ble_eq_true rfl⟩ rfl (sX7_goOn  h5) ?_
        refine z_iload_n C dX7_ahead_39 rfl (j := 3) rfl ?_
        refine z_if_ne 55 C dX7_ahead_40 (by decide) h (fun h => ?_) (fun h => ?_)
        · refine z_aload_n C dX7_ahead_55 rfl (j := 0) rfl ?_
          refine zg7_5 C dX7_ahead_56 zw101 ?_
          refine z_bipush (v := 22) C dX7_ahead_59 zb22 ?_
          refine z_iload_n C dX7_ahead_61 rfl (j := 1) rfl ?_
          refine z_iadd C dX7_ahead_62 ?_
          refine z_iald C dX7_ahead_63 zar62 h (fun h => ?_)
          refine z_pick [0] rfl ?_
          exact jX7_ahead_64 C   Rq h
        · refine z_aload_n C dX7_ahead_43 rfl (j := 0) rfl ?_
          refine zg7_5 C dX7_ahead_44 zw101 ?_
          refine z_bipush (v := 14) C dX7_ahead_47 zb14 ?_
          refine z_iload_n C dX7_ahead_49 rfl (j := 1) rfl ?_
          refine z_iadd C dX7_ahead_50 ?_
          refine z_iald C dX7_ahead_51 zar62 h (fun h => ?_)
          refine z_goto 64 C dX7_ahead_52 (by decide) ?_
          refine z_pick [0] rfl ?_
          exact jX7_ahead_64 C   Rq h
      · refine z_ldc C dX7_ahead_27 zw141 ?_
        have e := Option.some.inj h; subst e; exact z_iret C dX7_ahead_29 Rq
-- X7_later
def fX7_later_j60  (k0 : Int32) (mem : ZM) : Option (Int32 × ZM) :=
  zlet k0 (fun v5 => Option.bind (fX7_takeBack mem) (fun r6 => some (v5, r6)))
set_option maxRecDepth 100000 in
set_option maxHeartbeats 4000000 in
theorem jX7_later_60 {l : Launch} {E : ZE} {Γ : ZG} (C : zC E Γ RX7 cX7_later 4 7)  {k0 : Int32}  {mem : ZM}  {t : Int32 × ZM}  (Rq : zRq E Γ (some .int) (some (.int t.1)) t.2) (h : fX7_later_j60  k0 mem = some t) : zG l E Γ 4 60 [(0, .ref (E.2.1 58))] [.int k0] mem := by
  unfold fX7_later_j60 at h
  refine z_istore_n [(0, .ref (E.2.1 58))] C dX7_later_60 h rfl (by decide) rfl (fun v5 h => ?_)
  refine z_aload_n C dX7_later_61 rfl (j := 1) rfl ?_
  obtain ⟨r6, h6, h⟩ := Option.bind_eq_some_iff.mp h
  refine z_callVv [] [] C dX7_later_62 (by decide) zen_58 rfl zk_X7_207 zw702 zw703 ⟨⟨by decide, by decide⟩, rfl, Nat.le_of_ble_eq_true rfl⟩ rfl (sX7_takeBack  h6) ?_
  refine z_iload_n C dX7_later_65 rfl (j := 0) rfl ?_
  have e := Option.some.inj h; subst e; exact z_iret C dX7_later_66 Rq
def fX7_later  (a1 : Int32) (a2 : Int32) (mem : ZM) : Option (Int32 × ZM) :=
  if (mem 58 4) = 0 then (some ((-1000002 : Int32), mem)) else (Option.bind (fX7_in a1.toInt64 (0 : Int64) (60 : Int64)) (fun r1 => if r1 = 0 then (some ((-1000001 : Int32), mem)) else (Option.bind (fX7_isWhat a2) (fun r2 => if r2 = 0 then (some ((-1000001 : Int32), mem)) else (Option.bind (fX7_putAside mem) (fun r3 => Option.bind (fX7_goOn a1 r3) (fun r4 => if a2 = 0 then (zgd (zin (4 : Int32) 38) (fX7_later_j60  (r4 62 (4 : Int32).toNatClampNeg) r4)) else (zgd (zin (3 : Int32) 38) (fX7_later_j60  (r4 62 (3 : Int32).toNatClampNeg) r4)))))))))
set_option maxRecDepth 100000 in
set_option maxHeartbeats 4000000 in
theorem sX7_later {l : Launch} {E : ZE}  {a1 : Int32} {a2 : Int32} {mem : ZM} {t : Int32 × ZM} (h : fX7_later a1 a2 mem = some t) : zMet l E yX7_later cX7_later 4 (some .int) 7 [.ref (E.2.1 58), .int a1, .int a2] mem (some (.int t.1)) t.2 := by
  refine z_enter (by decide) (Nat.le_of_ble_eq_true rfl) (fun Γ C Rq => ?_)
  have C : zC E Γ RX7 cX7_later 4 7 := C
  show zG l E Γ 4 0 [(0, .ref (E.2.1 58)), (1, .int a1), (2, .int a2)] [] mem
  unfold fX7_later at h
  refine z_aload_n C dX7_later_0 rfl (j := 0) rfl ?_
  refine zg7_4 C dX7_later_1 zw368 ?_
  refine z_if_ne 10 C dX7_later_4 (by decide) h (fun h => ?_) (fun h => ?_)
  · refine z_iload_n C dX7_later_10 rfl (j := 1) rfl ?_
    refine z_i2l C dX7_later_11 ?_
    refine z_lconst (v := 0) C dX7_later_12 zl0 ?_
    refine z_ldc2 C dX7_later_13 zw689 ?_
    obtain ⟨r1, h1, h⟩ := Option.bind_eq_some_iff.mp h
    refine z_callSi [.long a1.toInt64, .long (0 : Int64), .long (60 : Int64)] [] C dX7_later_16 zk_X7_57 zw147 ⟨⟨by decide, by decide⟩, rfl, Nat.le_of_ble_eq_true rfl⟩ rfl (sX7_in  h1) ?_
    refine z_if_eq 29 C dX7_later_19 (by decide) h (fun h => ?_) (fun h => ?_)
    · refine z_ldc C dX7_later_29 zw141 ?_
      have e := Option.some.inj h; subst e; exact z_iret C dX7_later_31 Rq
    · refine z_iload_n C dX7_later_22 rfl (j := 2) rfl ?_
      obtain ⟨r2, h2, h⟩ := Option.bind_eq_some_iff.mp h
      refine z_callSi [.int a2] [] C dX7_later_23 zk_X7_197 zw691 ⟨⟨by decide, by decide⟩, rfl, Nat.le_of_ble_eq_true rfl⟩ rfl (sX7_isWhat  h2) ?_
      refine z_if_ne 32 C dX7_later_26 (by decide) h (fun h => ?_) (fun h => ?_)
      · refine z_aload_n C dX7_later_32 rfl (j := 0) rfl ?_
        obtain ⟨r3, h3, h⟩ := Option.bind_eq_some_iff.mp h
        refine z_callVv [] [] C dX7_later_33 (by decide) zen_58 rfl zk_X7_200 zw694 zw695 ⟨⟨by decide, by decide⟩, rfl, Nat.le_of_ble_eq_true rfl⟩ rfl (sX7_putAside  h3) ?_
        refine z_aload_n C dX7_later_36 rfl (j := 0) rfl ?_
        refine z_iload_n C dX7_later_37 rfl (j := 1) rfl ?_
        obtain ⟨r4, h4, h⟩ := Option.bind_eq_some_iff.mp h
        refine z_callVv [.int a1] [] C dX7_later_38 (by decide) zen_58 rfl zk_X7_203 zw698 zw699 ⟨⟨by decide, by decide⟩, rfl, Nat.le_of_ble_eq_true rfl⟩ rfl (sX7_goOn  h4) ?_
        refine z_iload_n C dX7_later_41 rfl (j := 2) rfl ?_
        refine z_if_ne 54 C dX7_later_42 (by decide) h (fun h => ?_) (fun h => ?_)
        · refine z_aload_n C dX7_later_54 rfl (j := 0) rfl ?_
          refine zg7_5 C dX7_later_55 zw101 ?_
          refine z_iconst (v := 3) C dX7_later_58 zc3 ?_
          refine z_iald C dX7_later_59 zar62 h (fun h => ?_)
          refine z_pick [0] rfl ?_
          exact jX7_later_60 C   Rq h
        · refine z_aload_n C dX7_later_45 rfl (j := 0) rfl ?_
          refine zg7_5 C dX7_later_46 zw101 ?_
          refine z_iconst (v := 4) C dX7_later_49 zc4 ?_
          refine z_iald C dX7_later_50 zar62 h (fun h => ?_)
          refine z_goto 60 C dX7_later_51 (by decide) ?_
          refine z_pick [0] rfl ?_
          exact jX7_later_60 C   Rq h
      · refine z_ldc C dX7_later_29 zw141 ?_
        have e := Option.some.inj h; subst e; exact z_iret C dX7_later_31 Rq
  · refine z_ldc C dX7_later_7 zw499 ?_
    have e := Option.some.inj h; subst e; exact z_iret C dX7_later_9 Rq
-- X7_isNow
def fX7_isNow  (a1 : Int32) (a2 : Int32) (mem : ZM) : Option (Int32) :=
  if a2 = 0 then (zgd (zin (4 : Int32) 38) (Option.bind (fX7_has (mem 62 (4 : Int32).toNatClampNeg) a1) (fun r1 => zgd (zbl r1) (some r1)))) else (zgd (zin ((14 : Int32) + a1) 38) (if (mem 62 ((14 : Int32) + a1).toNatClampNeg) = 0 then (some (1 : Int32)) else (some (0 : Int32))))
set_option maxRecDepth 100000 in
set_option maxHeartbeats 4000000 in
theorem sX7_isNow {l : Launch} {E : ZE}  {a1 : Int32} {a2 : Int32} {mem : ZM} {t : Int32} (h : fX7_isNow a1 a2 mem = some t) : zMet l E yX7_isNow cX7_isNow 3 (some .boolean) 1 [.ref (E.2.1 58), .int a1, .int a2] mem (some (.int t)) mem := by
  refine z_enter (by decide) (Nat.le_of_ble_eq_true rfl) (fun Γ C Rq => ?_)
  have C : zC E Γ RX7 cX7_isNow 3 1 := C
  show zG l E Γ 3 0 [(0, .ref (E.2.1 58)), (1, .int a1), (2, .int a2)] [] mem
  unfold fX7_isNow at h
  refine z_iload_n C dX7_isNow_0 rfl (j := 2) rfl ?_
  refine z_if_ne 17 C dX7_isNow_1 (by decide) h (fun h => ?_) (fun h => ?_)
  · refine z_aload_n C dX7_isNow_17 rfl (j := 0) rfl ?_
    refine zg7_5 C dX7_isNow_18 zw101 ?_
    refine z_bipush (v := 14) C dX7_isNow_21 zb14 ?_
    refine z_iload_n C dX7_isNow_23 rfl (j := 1) rfl ?_
    refine z_iadd C dX7_isNow_24 ?_
    refine z_iald C dX7_isNow_25 zar62 h (fun h => ?_)
    refine z_if_ne 33 C dX7_isNow_26 (by decide) h (fun h => ?_) (fun h => ?_)
    · refine z_iconst (v := 0) C dX7_isNow_33 zc0 ?_
      have e := Option.some.inj h; subst e; exact z_zret C dX7_isNow_34 zbl0 Rq
    · refine z_iconst (v := 1) C dX7_isNow_29 zc1 ?_
      refine z_goto 34 C dX7_isNow_30 (by decide) ?_
      have e := Option.some.inj h; subst e; exact z_zret C dX7_isNow_34 zbl1 Rq
  · refine z_aload_n C dX7_isNow_4 rfl (j := 0) rfl ?_
    refine zg7_5 C dX7_isNow_5 zw101 ?_
    refine z_iconst (v := 4) C dX7_isNow_8 zc4 ?_
    refine z_iald C dX7_isNow_9 zar62 h (fun h => ?_)
    refine z_iload_n C dX7_isNow_10 rfl (j := 1) rfl ?_
    obtain ⟨r1, h1, h⟩ := Option.bind_eq_some_iff.mp h
    refine z_callSi [.int (mem 62 (4 : Int32).toNatClampNeg), .int a1] [] C dX7_isNow_11 zk_X7_145 zw528 ⟨⟨by decide, by decide⟩, rfl, Nat.le_of_ble_eq_true rfl⟩ rfl (sX7_has  h1) ?_
    refine z_goto 34 C dX7_isNow_14 (by decide) ?_
    obtain ⟨hg, h⟩ := zgd_some h
    have e := Option.some.inj h; subst e; exact z_zret C dX7_isNow_34 hg Rq
-- X7_when
def fX7_when_b24  (y24_1 : Int32) (y24_2 : Int32) (x24_3 : Int32) (memb : ZM) : Option ((Int32 × ZM) ⊕ (Int32 × ZM)) :=
  Option.bind (fX7_isNow y24_1 y24_2 memb) (fun r6 => if r6 = 0 then (if (60 : Int32) ≤ x24_3 then (some (Sum.inr (x24_3, memb))) else (Option.bind (fX7_oneHour memb) (fun r7 => zlet (x24_3 + (1 : Int32)) (fun v8 => some (Sum.inl (v8, r7)))))) else (some (Sum.inr (x24_3, memb))))
def fX7_when_l24  (y24_1 : Int32) (y24_2 : Int32) (s : Int32 × ZM) : Option (Int32 × ZM) := ziter (fun s => fX7_when_b24 y24_1 y24_2 s.1 s.2) 2000 s
set_option maxRecDepth 100000 in
set_option maxHeartbeats 4000000 in
theorem bX7_when_24 {l : Launch} {E : ZE} {Γ : ZG} (C : zC E Γ RX7 cX7_when 5 6)  {y24_1 : Int32} {y24_2 : Int32} {x24_3 : Int32} {memb : ZM} {u : (Int32 × ZM) ⊕ (Int32 × ZM)} (G1 : ∀ s', u = Sum.inl s' → zG l E Γ 5 24 [(0, .ref (E.2.1 58)), (1, .int y24_1), (2, .int y24_2), (3, .int (s'.1))] [] s'.2) (G2 : ∀ s', u = Sum.inr s' → zG l E Γ 5 49 [(0, .ref (E.2.1 58)), (1, .int y24_1), (2, .int y24_2), (3, .int (s'.1))] [] s'.2) (h : fX7_when_b24 y24_1 y24_2 x24_3 memb = some u) : zG l E Γ 5 24 [(0, .ref (E.2.1 58)), (1, .int y24_1), (2, .int y24_2), (3, .int x24_3)] [] memb := by
  unfold fX7_when_b24 at h
  refine z_aload_n C dX7_when_24 rfl (j := 0) rfl ?_
  refine z_iload_n C dX7_when_25 rfl (j := 1) rfl ?_
  refine z_iload_n C dX7_when_26 rfl (j := 2) rfl ?_
  obtain ⟨r6, h6, h⟩ := Option.bind_eq_some_iff.mp h
  refine z_callVi [.int y24_1, .int y24_2] [] C dX7_when_27 (by decide) zen_58 rfl zk_X7_210 zw739 zw740 ⟨⟨by decide, by decide⟩, rfl, Nat.le_of_ble_eq_true rfl⟩ rfl (sX7_isNow  h6) ?_
  refine z_if_ne 49 C dX7_when_30 (by decide) h (fun h => ?_) (fun h => ?_)
  · refine z_pick [0, 1, 2, 3] rfl ?_
    exact G2 _ (Option.some.inj h).symm
  · refine z_iload_n C dX7_when_33 rfl (j := 3) rfl ?_
    refine z_bipush (v := 60) C dX7_when_34 zb60 ?_
    refine z_icmp_ge 49 C dX7_when_36 (by decide) h (fun h => ?_) (fun h => ?_)
    · refine z_pick [0, 1, 2, 3] rfl ?_
      exact G2 _ (Option.some.inj h).symm
    · refine z_aload_n C dX7_when_39 rfl (j := 0) rfl ?_
      obtain ⟨r7, h7, h⟩ := Option.bind_eq_some_iff.mp h
      refine z_callVv [] [] C dX7_when_40 (by decide) zen_58 rfl zk_X7_177 zw506 zw507 ⟨⟨by decide, by decide⟩, rfl, Nat.le_of_ble_eq_true rfl⟩ rfl (sX7_oneHour  h7) ?_
      refine z_iinc [(0, .ref (E.2.1 58)), (1, .int y24_1), (2, .int y24_2)] C dX7_when_43 zc1 h (j := 3) rfl (by decide) rfl (fun v8 h => ?_)
      refine z_goto 24 C dX7_when_46 (by decide) ?_
      refine z_pick [1, 2, 3, 0] rfl ?_
      exact G1 _ (Option.some.inj h).symm
theorem lX7_when_24 {l : Launch} {E : ZE} {Γ : ZG} (C : zC E Γ RX7 cX7_when 5 6)  {y24_1 : Int32} {y24_2 : Int32} {s : Int32 × ZM} {r : Int32 × ZM} (h : fX7_when_l24 y24_1 y24_2 s = some r) (K1 : zG l E Γ 5 49 [(0, .ref (E.2.1 58)), (1, .int y24_1), (2, .int y24_2), (3, .int r.1)] [] r.2) : zG l E Γ 5 24 [(0, .ref (E.2.1 58)), (1, .int y24_1), (2, .int y24_2), (3, .int s.1)] [] s.2 :=
  z_loop (body := fun s => fX7_when_b24 y24_1 y24_2 s.1 s.2) (fun s => zG l E Γ 5 24 [(0, .ref (E.2.1 58)), (1, .int y24_1), (2, .int y24_2), (3, .int s.1)] [] s.2) (fun r => zG l E Γ 5 49 [(0, .ref (E.2.1 58)), (1, .int y24_1), (2, .int y24_2), (3, .int r.1)] [] r.2) (fun s u hb g1 g2 => bX7_when_24 C  g1 g2 hb) 2000 s r h K1
def fX7_when_j49  (x1 : Int32) (x2 : Int32) (x3 : Int32) (mem : ZM) : Option (Int32 × ZM) :=
  Option.bind (fX7_isNow x1 x2 mem) (fun r9 => zlet r9 (fun v10 => Option.bind (fX7_takeBack mem) (fun r11 => if v10 = 0 then (some ((-1000000 : Int32), r11)) else (some (x3, r11)))))
set_option maxRecDepth 100000 in
set_option maxHeartbeats 4000000 in
theorem jX7_when_49 {l : Launch} {E : ZE} {Γ : ZG} (C : zC E Γ RX7 cX7_when 5 6)  {x1 : Int32} {x2 : Int32} {x3 : Int32}  {mem : ZM}  {t : Int32 × ZM}  (Rq : zRq E Γ (some .int) (some (.int t.1)) t.2) (h : fX7_when_j49  x1 x2 x3 mem = some t) : zG l E Γ 5 49 [(0, .ref (E.2.1 58)), (1, .int x1), (2, .int x2), (3, .int x3)] [] mem := by
  unfold fX7_when_j49 at h
  refine z_aload_n C dX7_when_49 rfl (j := 0) rfl ?_
  refine z_iload_n C dX7_when_50 rfl (j := 1) rfl ?_
  refine z_iload_n C dX7_when_51 rfl (j := 2) rfl ?_
  obtain ⟨r9, h9, h⟩ := Option.bind_eq_some_iff.mp h
  refine z_callVi [.int x1, .int x2] [] C dX7_when_52 (by decide) zen_58 rfl zk_X7_210 zw739 zw740 ⟨⟨by decide, by decide⟩, rfl, Nat.le_of_ble_eq_true rfl⟩ rfl (sX7_isNow  h9) ?_
  refine z_istore [(0, .ref (E.2.1 58)), (1, .int x1), (2, .int x2), (3, .int x3)] C dX7_when_55 h (by decide) rfl (fun v10 h => ?_)
  refine z_aload_n C dX7_when_57 rfl (j := 1) rfl ?_
  obtain ⟨r11, h11, h⟩ := Option.bind_eq_some_iff.mp h
  refine z_callVv [] [] C dX7_when_58 (by decide) zen_58 rfl zk_X7_207 zw702 zw703 ⟨⟨by decide, by decide⟩, rfl, Nat.le_of_ble_eq_true rfl⟩ rfl (sX7_takeBack  h11) ?_
  refine z_iload C dX7_when_61 (j := 0) rfl ?_
  refine z_if_eq 70 C dX7_when_63 (by decide) h (fun h => ?_) (fun h => ?_)
  · refine z_ldc C dX7_when_70 zw737 ?_
    have e := Option.some.inj h; subst e; exact z_iret C dX7_when_72 Rq
  · refine z_iload_n C dX7_when_66 rfl (j := 4) rfl ?_
    refine z_goto 72 C dX7_when_67 (by decide) ?_
    have e := Option.some.inj h; subst e; exact z_iret C dX7_when_72 Rq
def fX7_when  (a1 : Int32) (a2 : Int32) (mem : ZM) : Option (Int32 × ZM) :=
  Option.bind (fX7_isThing a1 mem) (fun r1 => if r1 = 0 then (some ((-1000001 : Int32), mem)) else (Option.bind (fX7_isWhat a2) (fun r2 => if r2 = 0 then (some ((-1000001 : Int32), mem)) else (Option.bind (fX7_putAside mem) (fun r3 => zlet (0 : Int32) (fun v4 => Option.bind (fX7_when_l24 a1 a2 (v4, r3)) (fun r5 => fX7_when_j49  a1 a2 r5.1 r5.2)))))))
set_option maxRecDepth 100000 in
set_option maxHeartbeats 4000000 in
theorem sX7_when {l : Launch} {E : ZE}  {a1 : Int32} {a2 : Int32} {mem : ZM} {t : Int32 × ZM} (h : fX7_when a1 a2 mem = some t) : zMet l E yX7_when cX7_when 5 (some .int) 6 [.ref (E.2.1 58), .int a1, .int a2] mem (some (.int t.1)) t.2 := by
  refine z_enter (by decide) (Nat.le_of_ble_eq_true rfl) (fun Γ C Rq => ?_)
  have C : zC E Γ RX7 cX7_when 5 6 := C
  show zG l E Γ 5 0 [(0, .ref (E.2.1 58)), (1, .int a1), (2, .int a2)] [] mem
  unfold fX7_when at h
  refine z_aload_n C dX7_when_0 rfl (j := 0) rfl ?_
  refine z_iload_n C dX7_when_1 rfl (j := 1) rfl ?_
  obtain ⟨r1, h1, h⟩ := Option.bind_eq_some_iff.mp h
  refine z_callVi [.int a1] [] C dX7_when_2 (by decide) zen_58 rfl zk_X7_180 zw558 zw559 ⟨⟨by decide, by decide⟩, rfl, Nat.le_of_ble_eq_true rfl⟩ rfl (sX7_isThing  h1) ?_
  refine z_if_eq 15 C dX7_when_5 (by decide) h (fun h => ?_) (fun h => ?_)
  · refine z_ldc C dX7_when_15 zw141 ?_
    have e := Option.some.inj h; subst e; exact z_iret C dX7_when_17 Rq
  · refine z_iload_n C dX7_when_8 rfl (j := 2) rfl ?_
    obtain ⟨r2, h2, h⟩ := Option.bind_eq_some_iff.mp h
    refine z_callSi [.int a2] [] C dX7_when_9 zk_X7_197 zw691 ⟨⟨by decide, by decide⟩, rfl, Nat.le_of_ble_eq_true rfl⟩ rfl (sX7_isWhat  h2) ?_
    refine z_if_ne 18 C dX7_when_12 (by decide) h (fun h => ?_) (fun h => ?_)
    · refine z_aload_n C dX7_when_18 rfl (j := 0) rfl ?_
      obtain ⟨r3, h3, h⟩ := Option.bind_eq_some_iff.mp h
      refine z_callVv [] [] C dX7_when_19 (by decide) zen_58 rfl zk_X7_200 zw694 zw695 ⟨⟨by decide, by decide⟩, rfl, Nat.le_of_ble_eq_true rfl⟩ rfl (sX7_putAside  h3) ?_
      refine z_iconst (v := 0) C dX7_when_22 zc0 ?_
      refine z_istore_n [(0, .ref (E.2.1 58)), (1, .int a1), (2, .int a2)] C dX7_when_23 h rfl (by decide) rfl (fun v4 h => ?_)
      obtain ⟨r5, h5, h⟩ := Option.bind_eq_some_iff.mp h
      refine z_pick [1, 2, 3, 0] rfl ?_
      refine lX7_when_24 C  h5 ?_
      refine z_pick [0, 1, 2, 3] rfl ?_
      exact jX7_when_49 C   Rq h
    · refine z_ldc C dX7_when_15 zw141 ?_
      have e := Option.some.inj h; subst e; exact z_iret C dX7_when_17 Rq
-- X7_dead
def fX7_dead_b26  (y26_1 : Int32) (x26_2 : Int32) (memb : ZM) : Option ((Int32 × ZM) ⊕ (Int32 × ZM)) :=
  zgd (zin (4 : Int32) 38) (if (memb 62 (4 : Int32).toNatClampNeg) = 0 then (some (Sum.inr (x26_2, memb))) else (if (200 : Int32) ≤ x26_2 then (some (Sum.inr (x26_2, memb))) else (Option.bind (fX7_oneHour memb) (fun r5 => zlet (x26_2 + (1 : Int32)) (fun v6 => some (Sum.inl (v6, r5)))))))
def fX7_dead_l26  (y26_1 : Int32) (s : Int32 × ZM) : Option (Int32 × ZM) := ziter (fun s => fX7_dead_b26 y26_1 s.1 s.2) 2000 s
set_option maxRecDepth 100000 in
set_option maxHeartbeats 4000000 in
theorem bX7_dead_26 {l : Launch} {E : ZE} {Γ : ZG} (C : zC E Γ RX7 cX7_dead 5 6)  {y26_1 : Int32} {x26_2 : Int32} {memb : ZM} {u : (Int32 × ZM) ⊕ (Int32 × ZM)} (G1 : ∀ s', u = Sum.inl s' → zG l E Γ 5 26 [(0, .ref (E.2.1 58)), (1, .int y26_1), (2, .int (s'.1))] [] s'.2) (G2 : ∀ s', u = Sum.inr s' → zG l E Γ 5 52 [(0, .ref (E.2.1 58)), (1, .int y26_1), (2, .int (s'.1))] [] s'.2) (h : fX7_dead_b26 y26_1 x26_2 memb = some u) : zG l E Γ 5 26 [(0, .ref (E.2.1 58)), (1, .int y26_1), (2, .int x26_2)] [] memb := by
  unfold fX7_dead_b26 at h
  refine z_aload_n C dX7_dead_26 rfl (j := 0) rfl ?_
  refine zg7_5 C dX7_dead_27 zw101 ?_
  refine z_iconst (v := 4) C dX7_dead_30 zc4 ?_
  refine z_iald C dX7_dead_31 zar62 h (fun h => ?_)
  refine z_if_eq 52 C dX7_dead_32 (by decide) h (fun h => ?_) (fun h => ?_)
  · refine z_pick [0, 1, 2] rfl ?_
    exact G2 _ (Option.some.inj h).symm
  · refine z_iload_n C dX7_dead_35 rfl (j := 2) rfl ?_
    refine z_sipush (v := 200) C dX7_dead_36 zs200 ?_
    refine z_icmp_ge 52 C dX7_dead_39 (by decide) h (fun h => ?_) (fun h => ?_)
    · refine z_pick [0, 1, 2] rfl ?_
      exact G2 _ (Option.some.inj h).symm
    · refine z_aload_n C dX7_dead_42 rfl (j := 0) rfl ?_
      obtain ⟨r5, h5, h⟩ := Option.bind_eq_some_iff.mp h
      refine z_callVv [] [] C dX7_dead_43 (by decide) zen_58 rfl zk_X7_177 zw506 zw507 ⟨⟨by decide, by decide⟩, rfl, Nat.le_of_ble_eq_true rfl⟩ rfl (sX7_oneHour  h5) ?_
      refine z_iinc [(0, .ref (E.2.1 58)), (1, .int y26_1)] C dX7_dead_46 zc1 h (j := 2) rfl (by decide) rfl (fun v6 h => ?_)
      refine z_goto 26 C dX7_dead_49 (by decide) ?_
      refine z_pick [1, 2, 0] rfl ?_
      exact G1 _ (Option.some.inj h).symm
theorem lX7_dead_26 {l : Launch} {E : ZE} {Γ : ZG} (C : zC E Γ RX7 cX7_dead 5 6)  {y26_1 : Int32} {s : Int32 × ZM} {r : Int32 × ZM} (h : fX7_dead_l26 y26_1 s = some r) (K1 : zG l E Γ 5 52 [(0, .ref (E.2.1 58)), (1, .int y26_1), (2, .int r.1)] [] r.2) : zG l E Γ 5 26 [(0, .ref (E.2.1 58)), (1, .int y26_1), (2, .int s.1)] [] s.2 :=
  z_loop (body := fun s => fX7_dead_b26 y26_1 s.1 s.2) (fun s => zG l E Γ 5 26 [(0, .ref (E.2.1 58)), (1, .int y26_1), (2, .int s.1)] [] s.2) (fun r => zG l E Γ 5 52 [(0, .ref (E.2.1 58)), (1, .int y26_1), (2, .int r.1)] [] r.2) (fun s u hb g1 g2 => bX7_dead_26 C  g1 g2 hb) 2000 s r h K1
def fX7_dead_j66  (x1 : Int32) (x2 : Int32) (k0 : Int32) (mem : ZM) : Option (Int32 × ZM) :=
  zlet k0 (fun v7 => zgd (zin (0 : Int32) 38) (Option.bind (fX7_ashes mem) (fun r8 => zgd (zin (5 : Int32) 38) (zlet (((((1 : Int32) <<< ((mem 62 (0 : Int32).toNatClampNeg) &&& 31)) - (1 : Int32)) &&& (r8 ^^^ (-1 : Int32))) &&& ((mem 62 (5 : Int32).toNatClampNeg) ^^^ (-1 : Int32))) (fun v9 => Option.bind (fX7_takeBack mem) (fun r10 => if x1 = (1 : Int32) then (some (v9, r10)) else (if v7 = 0 then (some ((-1000000 : Int32), r10)) else (some (x2, r10)))))))))
set_option maxRecDepth 100000 in
set_option maxHeartbeats 4000000 in
theorem jX7_dead_66 {l : Launch} {E : ZE} {Γ : ZG} (C : zC E Γ RX7 cX7_dead 5 6)  {x1 : Int32} {x2 : Int32} {k0 : Int32}  {mem : ZM}  {t : Int32 × ZM}  (Rq : zRq E Γ (some .int) (some (.int t.1)) t.2) (h : fX7_dead_j66  x1 x2 k0 mem = some t) : zG l E Γ 5 66 [(0, .ref (E.2.1 58)), (1, .int x1), (2, .int x2)] [.int k0] mem := by
  unfold fX7_dead_j66 at h
  refine z_istore_n [(0, .ref (E.2.1 58)), (1, .int x1), (2, .int x2)] C dX7_dead_66 h rfl (by decide) rfl (fun v7 h => ?_)
  refine z_iconst (v := 1) C dX7_dead_67 zc1 ?_
  refine z_aload_n C dX7_dead_68 rfl (j := 1) rfl ?_
  refine zg7_5 C dX7_dead_69 zw101 ?_
  refine z_iconst (v := 0) C dX7_dead_72 zc0 ?_
  refine z_iald C dX7_dead_73 zar62 h (fun h => ?_)
  refine z_ishl C dX7_dead_74 ?_
  refine z_iconst (v := 1) C dX7_dead_75 zc1 ?_
  refine z_isub C dX7_dead_76 ?_
  refine z_aload_n C dX7_dead_77 rfl (j := 1) rfl ?_
  obtain ⟨r8, h8, h⟩ := Option.bind_eq_some_iff.mp h
  refine z_callVi [] [.int (((1 : Int32) <<< ((mem 62 (0 : Int32).toNatClampNeg) &&& 31)) - (1 : Int32))] C dX7_dead_78 (by decide) zen_58 rfl zk_X7_214 zw768 zw769 ⟨⟨by decide, by decide⟩, rfl, Nat.le_of_ble_eq_true rfl⟩ rfl (sX7_ashes  h8) ?_
  refine z_iconst (v := -1) C dX7_dead_81 zcm1 ?_
  refine z_ixor C dX7_dead_82 ?_
  refine z_iand C dX7_dead_83 ?_
  refine z_aload_n C dX7_dead_84 rfl (j := 1) rfl ?_
  refine zg7_5 C dX7_dead_85 zw101 ?_
  refine z_iconst (v := 5) C dX7_dead_88 zc5 ?_
  refine z_iald C dX7_dead_89 zar62 h (fun h => ?_)
  refine z_iconst (v := -1) C dX7_dead_90 zcm1 ?_
  refine z_ixor C dX7_dead_91 ?_
  refine z_iand C dX7_dead_92 ?_
  refine z_istore [(3, .int v7), (0, .ref (E.2.1 58)), (1, .int x1), (2, .int x2)] C dX7_dead_93 h (by decide) rfl (fun v9 h => ?_)
  refine z_aload_n C dX7_dead_95 rfl (j := 2) rfl ?_
  obtain ⟨r10, h10, h⟩ := Option.bind_eq_some_iff.mp h
  refine z_callVv [] [] C dX7_dead_96 (by decide) zen_58 rfl zk_X7_207 zw702 zw703 ⟨⟨by decide, by decide⟩, rfl, Nat.le_of_ble_eq_true rfl⟩ rfl (sX7_takeBack  h10) ?_
  refine z_iload_n C dX7_dead_99 rfl (j := 3) rfl ?_
  refine z_iconst (v := 1) C dX7_dead_100 zc1 ?_
  refine z_icmp_ne 109 C dX7_dead_101 (by decide) h (fun h => ?_) (fun h => ?_)
  · refine z_iload_n C dX7_dead_109 rfl (j := 1) rfl ?_
    refine z_if_eq 117 C dX7_dead_110 (by decide) h (fun h => ?_) (fun h => ?_)
    · refine z_ldc C dX7_dead_117 zw737 ?_
      have e := Option.some.inj h; subst e; exact z_iret C dX7_dead_119 Rq
    · refine z_iload_n C dX7_dead_113 rfl (j := 4) rfl ?_
      refine z_goto 119 C dX7_dead_114 (by decide) ?_
      have e := Option.some.inj h; subst e; exact z_iret C dX7_dead_119 Rq
  · refine z_iload C dX7_dead_104 (j := 0) rfl ?_
    refine z_goto 119 C dX7_dead_106 (by decide) ?_
    have e := Option.some.inj h; subst e; exact z_iret C dX7_dead_119 Rq
def fX7_dead_j52  (x1 : Int32) (x2 : Int32) (mem : ZM) : Option (Int32 × ZM) :=
  zgd (zin (4 : Int32) 38) (if (mem 62 (4 : Int32).toNatClampNeg) = 0 then (fX7_dead_j66  x1 x2 (1 : Int32) mem) else (fX7_dead_j66  x1 x2 (0 : Int32) mem))
set_option maxRecDepth 100000 in
set_option maxHeartbeats 4000000 in
theorem jX7_dead_52 {l : Launch} {E : ZE} {Γ : ZG} (C : zC E Γ RX7 cX7_dead 5 6)  {x1 : Int32} {x2 : Int32}  {mem : ZM}  {t : Int32 × ZM}  (Rq : zRq E Γ (some .int) (some (.int t.1)) t.2) (h : fX7_dead_j52  x1 x2 mem = some t) : zG l E Γ 5 52 [(0, .ref (E.2.1 58)), (1, .int x1), (2, .int x2)] [] mem := by
  unfold fX7_dead_j52 at h
  refine z_aload_n C dX7_dead_52 rfl (j := 0) rfl ?_
  refine zg7_5 C dX7_dead_53 zw101 ?_
  refine z_iconst (v := 4) C dX7_dead_56 zc4 ?_
  refine z_iald C dX7_dead_57 zar62 h (fun h => ?_)
  refine z_if_ne 65 C dX7_dead_58 (by decide) h (fun h => ?_) (fun h => ?_)
  · refine z_iconst (v := 0) C dX7_dead_65 zc0 ?_
    refine z_pick [0, 1, 2] rfl ?_
    exact jX7_dead_66 C   Rq h
  · refine z_iconst (v := 1) C dX7_dead_61 zc1 ?_
    refine z_goto 66 C dX7_dead_62 (by decide) ?_
    refine z_pick [0, 1, 2] rfl ?_
    exact jX7_dead_66 C   Rq h
def fX7_dead  (a1 : Int32) (mem : ZM) : Option (Int32 × ZM) :=
  if (mem 58 4) = 0 then (some ((-1000002 : Int32), mem)) else (Option.bind (fX7_isWhat a1) (fun r1 => if r1 = 0 then (some ((-1000001 : Int32), mem)) else (Option.bind (fX7_putAside mem) (fun r2 => zlet (0 : Int32) (fun v3 => Option.bind (fX7_dead_l26 a1 (v3, r2)) (fun r4 => fX7_dead_j52  a1 r4.1 r4.2))))))
set_option maxRecDepth 100000 in
set_option maxHeartbeats 4000000 in
theorem sX7_dead {l : Launch} {E : ZE}  {a1 : Int32} {mem : ZM} {t : Int32 × ZM} (h : fX7_dead a1 mem = some t) : zMet l E yX7_dead cX7_dead 5 (some .int) 6 [.ref (E.2.1 58), .int a1] mem (some (.int t.1)) t.2 := by
  refine z_enter (by decide) (Nat.le_of_ble_eq_true rfl) (fun Γ C Rq => ?_)
  have C : zC E Γ RX7 cX7_dead 5 6 := C
  show zG l E Γ 5 0 [(0, .ref (E.2.1 58)), (1, .int a1)] [] mem
  unfold fX7_dead at h
  refine z_aload_n C dX7_dead_0 rfl (j := 0) rfl ?_
  refine zg7_4 C dX7_dead_1 zw368 ?_
  refine z_if_ne 10 C dX7_dead_4 (by decide) h (fun h => ?_) (fun h => ?_)
  · refine z_iload_n C dX7_dead_10 rfl (j := 1) rfl ?_
    obtain ⟨r1, h1, h⟩ := Option.bind_eq_some_iff.mp h
    refine z_callSi [.int a1] [] C dX7_dead_11 zk_X7_197 zw691 ⟨⟨by decide, by decide⟩, rfl, Nat.le_of_ble_eq_true rfl⟩ rfl (sX7_isWhat  h1) ?_
    refine z_if_ne 20 C dX7_dead_14 (by decide) h (fun h => ?_) (fun h => ?_)
    · refine z_aload_n C dX7_dead_20 rfl (j := 0) rfl ?_
      obtain ⟨r2, h2, h⟩ := Option.bind_eq_some_iff.mp h
      refine z_callVv [] [] C dX7_dead_21 (by decide) zen_58 rfl zk_X7_200 zw694 zw695 ⟨⟨by decide, by decide⟩, rfl, Nat.le_of_ble_eq_true rfl⟩ rfl (sX7_putAside  h2) ?_
      refine z_iconst (v := 0) C dX7_dead_24 zc0 ?_
      refine z_istore_n [(0, .ref (E.2.1 58)), (1, .int a1)] C dX7_dead_25 h rfl (by decide) rfl (fun v3 h => ?_)
      obtain ⟨r4, h4, h⟩ := Option.bind_eq_some_iff.mp h
      refine z_pick [1, 2, 0] rfl ?_
      refine lX7_dead_26 C  h4 ?_
      refine z_pick [0, 1, 2] rfl ?_
      exact jX7_dead_52 C   Rq h
    · refine z_ldc C dX7_dead_17 zw141 ?_
      have e := Option.some.inj h; subst e; exact z_iret C dX7_dead_19 Rq
  · refine z_ldc C dX7_dead_7 zw499 ?_
    have e := Option.some.inj h; subst e; exact z_iret C dX7_dead_9 Rq
