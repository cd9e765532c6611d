-- X6_isEither
def fX6_isEither  (a0 : Int32) : Option (Int32) :=
  if a0 = 0 then (some (1 : Int32)) else (if a0 = (1 : Int32) then (some (1 : Int32)) else (some (0 : Int32)))
set_option maxRecDepth 100000 in
set_option maxHeartbeats 4000000 in
theorem sX6_isEither {l : Launch} {E : ZE}  {a0 : Int32} {mem : ZM} {t : Int32} (h : fX6_isEither a0 = some t) : zMet l E yX6_isEither cX6_isEither 1 (some .boolean) 0 [.int a0] mem (some (.int t)) mem := by
  refine z_enter (by decide) (Nat.le_of_ble_eq_true rfl) (fun Γ C Rq => ?_)
  have C : zC E Γ RX6 cX6_isEither 1 0 := C
  show zG l E Γ 1 0 [(0, .int a0)] [] mem
  unfold fX6_isEither at h
  refine z_iload_n C dX6_isEither_0 rfl (j := 0) rfl ?_
  refine z_if_eq 9 C dX6_isEither_1 (by decide) h (fun h => ?_) (fun h => ?_)
  · refine z_iconst (v := 1) C dX6_isEither_9 zc1 ?_
    refine z_goto 14 C dX6_isEither_10 (by decide) ?_
    have e := Option.some.inj h; subst e; exact z_zret C dX6_isEither_14 zbl1 Rq
  · refine z_iload_n C dX6_isEither_4 rfl (j := 0) rfl ?_
    refine z_iconst (v := 1) C dX6_isEither_5 zc1 ?_
    refine z_icmp_ne 13 C dX6_isEither_6 (by decide) h (fun h => ?_) (fun h => ?_)
    · refine z_iconst (v := 0) C dX6_isEither_13 zc0 ?_
      have e := Option.some.inj h; subst e; exact z_zret C dX6_isEither_14 zbl0 Rq
    · refine z_iconst (v := 1) C dX6_isEither_9 zc1 ?_
      refine z_goto 14 C dX6_isEither_10 (by decide) ?_
      have e := Option.some.inj h; subst e; exact z_zret C dX6_isEither_14 zbl1 Rq
-- X6_rake
def fX6_rake_j31  (x1 : Int32) (k0 : Int32) (mem : ZM) : Option (Int32 × ZM) :=
  zlet k0 (fun v3 => Option.bind (fX3_isOut 17 x1 mem) (fun r4 => if r4 = v3 then (some ((-1000002 : Int32), mem)) else (Option.bind (fX0_keep 17 mem) (fun r5 => if v3 = 0 then (Option.bind (fX3_layOn 17 x1 r5) (fun r6 => some (r6 17 6, r6))) else (Option.bind (fX3_rakeOut 17 x1 r5) (fun r7 => some (r7 17 6, r7)))))))
set_option maxRecDepth 100000 in
set_option maxHeartbeats 4000000 in
theorem jX6_rake_31 {l : Launch} {E : ZE} {Γ : ZG} (C : zC E Γ RX6 cX6_rake 4 2)  {x1 : Int32} {k0 : Int32}  {mem : ZM}  {t : Int32 × ZM}  (Rq : zRq E Γ (some .int) (some (.int t.1)) t.2) (h : fX6_rake_j31  x1 k0 mem = some t) : zG l E Γ 4 31 [(0, .ref (E.2.1 0)), (1, .int x1)] [.int k0] mem := by
  unfold fX6_rake_j31 at h
  refine z_istore_n [(0, .ref (E.2.1 0)), (1, .int x1)] C dX6_rake_31 h rfl (by decide) rfl (fun v3 h => ?_)
  refine z_aload_n C dX6_rake_32 rfl (j := 1) rfl ?_
  refine zg6_2 C dX6_rake_33 zw18 ?_
  refine z_iload_n C dX6_rake_36 rfl (j := 2) rfl ?_
  obtain ⟨r4, h4, h⟩ := Option.bind_eq_some_iff.mp h
  refine z_callVi [.int x1] [] C dX6_rake_37 (zH_lt zH17) (zH_ent zH17) rfl zk_X6_161 zw456 zw457 ⟨⟨by decide, by decide⟩, rfl, Nat.le_of_ble_eq_true rfl⟩ rfl (sX3_isOut zH17 h4) ?_
  refine z_iload_n C dX6_rake_40 rfl (j := 0) rfl ?_
  refine z_icmp_ne 47 C dX6_rake_41 (by decide) h (fun h => ?_) (fun h => ?_)
  · refine z_aload_n C dX6_rake_47 rfl (j := 1) rfl ?_
    refine zg6_5 C dX6_rake_48 zw27 ?_
    refine z_aload_n C dX6_rake_51 rfl (j := 1) rfl ?_
    refine zg6_2 C dX6_rake_52 zw18 ?_
    obtain ⟨r5, h5, h⟩ := Option.bind_eq_some_iff.mp h
    refine z_callVv [.ref (E.2.1 17)] [] C dX6_rake_55 (by decide) zen_5 rfl zk_X6_142 zw425 zw426 ⟨⟨by decide, by decide⟩, rfl, Nat.le_of_ble_eq_true rfl⟩ rfl (sX0_keep zH17 h5) ?_
    refine z_iload_n C dX6_rake_58 rfl (j := 0) rfl ?_
    refine z_if_eq 73 C dX6_rake_59 (by decide) h (fun h => ?_) (fun h => ?_)
    · refine z_aload_n C dX6_rake_73 rfl (j := 1) rfl ?_
      refine zg6_2 C dX6_rake_74 zw18 ?_
      refine z_iload_n C dX6_rake_77 rfl (j := 2) rfl ?_
      obtain ⟨r6, h6, h⟩ := Option.bind_eq_some_iff.mp h
      refine z_callVv [.int x1] [] C dX6_rake_78 (zH_lt zH17) (zH_ent zH17) rfl zk_X6_176 zw597 zw598 ⟨⟨by decide, by decide⟩, rfl, Nat.le_of_ble_eq_true rfl⟩ rfl (sX3_layOn zH17 h6) ?_
      refine z_aload_n C dX6_rake_81 rfl (j := 1) rfl ?_
      refine zg6_2 C dX6_rake_82 zw18 ?_
      refine zg3_6 C dX6_rake_85 zH17 zw588 ?_
      have e := Option.some.inj h; subst e; exact z_iret C dX6_rake_88 Rq
    · refine z_aload_n C dX6_rake_62 rfl (j := 1) rfl ?_
      refine zg6_2 C dX6_rake_63 zw18 ?_
      refine z_iload_n C dX6_rake_66 rfl (j := 2) rfl ?_
      obtain ⟨r7, h7, h⟩ := Option.bind_eq_some_iff.mp h
      refine z_callVv [.int x1] [] C dX6_rake_67 (zH_lt zH17) (zH_ent zH17) rfl zk_X6_173 zw593 zw594 ⟨⟨by decide, by decide⟩, rfl, Nat.le_of_ble_eq_true rfl⟩ rfl (sX3_rakeOut zH17 h7) ?_
      refine z_goto 81 C dX6_rake_70 (by decide) ?_
      refine z_aload_n C dX6_rake_81 rfl (j := 1) rfl ?_
      refine zg6_2 C dX6_rake_82 zw18 ?_
      refine zg3_6 C dX6_rake_85 zH17 zw588 ?_
      have e := Option.some.inj h; subst e; exact z_iret C dX6_rake_88 Rq
  · refine z_ldc C dX6_rake_44 zw417 ?_
    have e := Option.some.inj h; subst e; exact z_iret C dX6_rake_46 Rq
def fX6_rake  (a1 : Int32) (a2 : Int32) (mem : ZM) : Option (Int32 × ZM) :=
  Option.bind (fX3_hasThing 17 a1 mem) (fun r1 => if r1 = 0 then (some ((-1000001 : Int32), mem)) else (Option.bind (fX6_isEither a2) (fun r2 => if r2 = 0 then (some ((-1000001 : Int32), mem)) else (if a2 = (1 : Int32) then (fX6_rake_j31  a1 (1 : Int32) mem) else (fX6_rake_j31  a1 (0 : Int32) mem)))))
set_option maxRecDepth 100000 in
set_option maxHeartbeats 4000000 in
theorem sX6_rake {l : Launch} {E : ZE}  {a1 : Int32} {a2 : Int32} {mem : ZM} {t : Int32 × ZM} (h : fX6_rake a1 a2 mem = some t) : zMet l E yX6_rake cX6_rake 4 (some .int) 2 [.ref (E.2.1 0), .int a1, .int a2] mem (some (.int t.1)) t.2 := by
  refine z_enter (by decide) (Nat.le_of_ble_eq_true rfl) (fun Γ C Rq => ?_)
  have C : zC E Γ RX6 cX6_rake 4 2 := C
  show zG l E Γ 4 0 [(0, .ref (E.2.1 0)), (1, .int a1), (2, .int a2)] [] mem
  unfold fX6_rake at h
  refine z_aload_n C dX6_rake_0 rfl (j := 0) rfl ?_
  refine zg6_2 C dX6_rake_1 zw18 ?_
  refine z_iload_n C dX6_rake_4 rfl (j := 1) rfl ?_
  obtain ⟨r1, h1, h⟩ := Option.bind_eq_some_iff.mp h
  refine z_callVi [.int a1] [] C dX6_rake_5 (zH_lt zH17) (zH_ent zH17) rfl zk_X6_151 zw545 zw546 ⟨⟨by decide, by decide⟩, rfl, Nat.le_of_ble_eq_true rfl⟩ rfl (sX3_hasThing zH17 h1) ?_
  refine z_if_eq 18 C dX6_rake_8 (by decide) h (fun h => ?_) (fun h => ?_)
  · refine z_ldc C dX6_rake_18 zw116 ?_
    have e := Option.some.inj h; subst e; exact z_iret C dX6_rake_20 Rq
  · refine z_iload_n C dX6_rake_11 rfl (j := 2) rfl ?_
    obtain ⟨r2, h2, h⟩ := Option.bind_eq_some_iff.mp h
    refine z_callSi [.int a2] [] C dX6_rake_12 zk_X6_170 zw590 ⟨⟨by decide, by decide⟩, rfl, Nat.le_of_ble_eq_true rfl⟩ rfl (sX6_isEither  h2) ?_
    refine z_if_ne 21 C dX6_rake_15 (by decide) h (fun h => ?_) (fun h => ?_)
    · refine z_iload_n C dX6_rake_21 rfl (j := 2) rfl ?_
      refine z_iconst (v := 1) C dX6_rake_22 zc1 ?_
      refine z_icmp_ne 30 C dX6_rake_23 (by decide) h (fun h => ?_) (fun h => ?_)
      · refine z_iconst (v := 0) C dX6_rake_30 zc0 ?_
        refine z_pick [0, 1] rfl ?_
        exact jX6_rake_31 C   Rq h
      · refine z_iconst (v := 1) C dX6_rake_26 zc1 ?_
        refine z_goto 31 C dX6_rake_27 (by decide) ?_
        refine z_pick [0, 1] rfl ?_
        exact jX6_rake_31 C   Rq h
    · refine z_ldc C dX6_rake_18 zw116 ?_
      have e := Option.some.inj h; subst e; exact z_iret C dX6_rake_20 Rq
-- X6_swap
def fX6_swap  (a1 : Int32) (a2 : Int32) (mem : ZM) : Option (Int32 × ZM) :=
  Option.bind (fX3_hasThing 17 a1 mem) (fun r1 => if r1 = 0 then (some ((-1000001 : Int32), mem)) else (Option.bind (fX3_hasThing 17 a2 mem) (fun r2 => if r2 = 0 then (some ((-1000001 : Int32), mem)) else (if a1 = a2 then (some ((-1000001 : Int32), mem)) else (Option.bind (fX0_keep 17 mem) (fun r3 => Option.bind (fX3_changePlaces 17 a1 a2 r3) (fun r4 => zgd (zin a1 8) (some (r4 (17 + 4) a1.toNatClampNeg, r4)))))))))
set_option maxRecDepth 100000 in
set_option maxHeartbeats 4000000 in
theorem sX6_swap {l : Launch} {E : ZE}  {a1 : Int32} {a2 : Int32} {mem : ZM} {t : Int32 × ZM} (h : fX6_swap a1 a2 mem = some t) : zMet l E yX6_swap cX6_swap 3 (some .int) 2 [.ref (E.2.1 0), .int a1, .int a2] mem (some (.int t.1)) t.2 := by
  refine z_enter (by decide) (Nat.le_of_ble_eq_true rfl) (fun Γ C Rq => ?_)
  have C : zC E Γ RX6 cX6_swap 3 2 := C
  show zG l E Γ 3 0 [(0, .ref (E.2.1 0)), (1, .int a1), (2, .int a2)] [] mem
  unfold fX6_swap at h
  refine z_aload_n C dX6_swap_0 rfl (j := 0) rfl ?_
  refine zg6_2 C dX6_swap_1 zw18 ?_
  refine z_iload_n C dX6_swap_4 rfl (j := 1) rfl ?_
  obtain ⟨r1, h1, h⟩ := Option.bind_eq_some_iff.mp h
  refine z_callVi [.int a1] [] C dX6_swap_5 (zH_lt zH17) (zH_ent zH17) rfl zk_X6_151 zw545 zw546 ⟨⟨by decide, by decide⟩, rfl, Nat.le_of_ble_eq_true rfl⟩ rfl (sX3_hasThing zH17 h1) ?_
  refine z_if_eq 27 C dX6_swap_8 (by decide) h (fun h => ?_) (fun h => ?_)
  · refine z_ldc C dX6_swap_27 zw116 ?_
    have e := Option.some.inj h; subst e; exact z_iret C dX6_swap_29 Rq
  · refine z_aload_n C dX6_swap_11 rfl (j := 0) rfl ?_
    refine zg6_2 C dX6_swap_12 zw18 ?_
    refine z_iload_n C dX6_swap_15 rfl (j := 2) rfl ?_
    obtain ⟨r2, h2, h⟩ := Option.bind_eq_some_iff.mp h
    refine z_callVi [.int a2] [] C dX6_swap_16 (zH_lt zH17) (zH_ent zH17) rfl zk_X6_151 zw545 zw546 ⟨⟨by decide, by decide⟩, rfl, Nat.le_of_ble_eq_true rfl⟩ rfl (sX3_hasThing zH17 h2) ?_
    refine z_if_eq 27 C dX6_swap_19 (by decide) h (fun h => ?_) (fun h => ?_)
    · refine z_ldc C dX6_swap_27 zw116 ?_
      have e := Option.some.inj h; subst e; exact z_iret C dX6_swap_29 Rq
    · refine z_iload_n C dX6_swap_22 rfl (j := 1) rfl ?_
      refine z_iload_n C dX6_swap_23 rfl (j := 2) rfl ?_
      refine z_icmp_ne 30 C dX6_swap_24 (by decide) h (fun h => ?_) (fun h => ?_)
      · refine z_aload_n C dX6_swap_30 rfl (j := 0) rfl ?_
        refine zg6_5 C dX6_swap_31 zw27 ?_
        refine z_aload_n C dX6_swap_34 rfl (j := 0) rfl ?_
        refine zg6_2 C dX6_swap_35 zw18 ?_
        obtain ⟨r3, h3, h⟩ := Option.bind_eq_some_iff.mp h
        refine z_callVv [.ref (E.2.1 17)] [] C dX6_swap_38 (by decide) zen_5 rfl zk_X6_142 zw425 zw426 ⟨⟨by decide, by decide⟩, rfl, Nat.le_of_ble_eq_true rfl⟩ rfl (sX0_keep zH17 h3) ?_
        refine z_aload_n C dX6_swap_41 rfl (j := 0) rfl ?_
        refine zg6_2 C dX6_swap_42 zw18 ?_
        refine z_iload_n C dX6_swap_45 rfl (j := 1) rfl ?_
        refine z_iload_n C dX6_swap_46 rfl (j := 2) rfl ?_
        obtain ⟨r4, h4, h⟩ := Option.bind_eq_some_iff.mp h
        refine z_callVv [.int a1, .int a2] [] C dX6_swap_47 (zH_lt zH17) (zH_ent zH17) rfl zk_X6_182 zw610 zw611 ⟨⟨by decide, by decide⟩, rfl, Nat.le_of_ble_eq_true rfl⟩ rfl (sX3_changePlaces zH17 h4) ?_
        refine z_aload_n C dX6_swap_50 rfl (j := 0) rfl ?_
        refine zg6_2 C dX6_swap_51 zw18 ?_
        refine zg3_4 C dX6_swap_54 zH17 zw608 ?_
        refine z_iload_n C dX6_swap_57 rfl (j := 1) rfl ?_
        refine z_iald C dX6_swap_58 (zH_ar4 zH17) h (fun h => ?_)
        have e := Option.some.inj h; subst e; exact z_iret C dX6_swap_59 Rq
      · refine z_ldc C dX6_swap_27 zw116 ?_
        have e := Option.some.inj h; subst e; exact z_iret C dX6_swap_29 Rq
-- X6_wind
def fX6_wind   (mem : ZM) : Option (Int32 × ZM) :=
  Option.bind (fX3_isNone 17 mem) (fun r1 => if r1 = 0 then (Option.bind (fX0_keep 17 mem) (fun r2 => Option.bind (fX3_turnWind 17 r2) (fun r3 => some (r3 17 7, r3)))) else (some ((-1000002 : Int32), mem)))
set_option maxRecDepth 100000 in
set_option maxHeartbeats 4000000 in
theorem sX6_wind {l : Launch} {E : ZE}   {mem : ZM} {t : Int32 × ZM} (h : fX6_wind mem = some t) : zMet l E yX6_wind cX6_wind 1 (some .int) 2 [.ref (E.2.1 0)] mem (some (.int t.1)) t.2 := by
  refine z_enter (by decide) (Nat.le_of_ble_eq_true rfl) (fun Γ C Rq => ?_)
  have C : zC E Γ RX6 cX6_wind 1 2 := C
  show zG l E Γ 1 0 [(0, .ref (E.2.1 0))] [] mem
  unfold fX6_wind at h
  refine z_aload_n C dX6_wind_0 rfl (j := 0) rfl ?_
  refine zg6_2 C dX6_wind_1 zw18 ?_
  obtain ⟨r1, h1, h⟩ := Option.bind_eq_some_iff.mp h
  refine z_callVi [] [] C dX6_wind_4 (zH_lt zH17) (zH_ent zH17) rfl zk_X6_135 zw421 zw422 ⟨⟨by decide, by decide⟩, rfl, Nat.le_of_ble_eq_true rfl⟩ rfl (sX3_isNone zH17 h1) ?_
  refine z_if_eq 13 C dX6_wind_7 (by decide) h (fun h => ?_) (fun h => ?_)
  · refine z_aload_n C dX6_wind_13 rfl (j := 0) rfl ?_
    refine zg6_5 C dX6_wind_14 zw27 ?_
    refine z_aload_n C dX6_wind_17 rfl (j := 0) rfl ?_
    refine zg6_2 C dX6_wind_18 zw18 ?_
    obtain ⟨r2, h2, h⟩ := Option.bind_eq_some_iff.mp h
    refine z_callVv [.ref (E.2.1 17)] [] C dX6_wind_21 (by decide) zen_5 rfl zk_X6_142 zw425 zw426 ⟨⟨by decide, by decide⟩, rfl, Nat.le_of_ble_eq_true rfl⟩ rfl (sX0_keep zH17 h2) ?_
    refine z_aload_n C dX6_wind_24 rfl (j := 0) rfl ?_
    refine zg6_2 C dX6_wind_25 zw18 ?_
    obtain ⟨r3, h3, h⟩ := Option.bind_eq_some_iff.mp h
    refine z_callVv [] [] C dX6_wind_28 (zH_lt zH17) (zH_ent zH17) rfl zk_X6_188 zw627 zw628 ⟨⟨by decide, by decide⟩, rfl, Nat.le_of_ble_eq_true rfl⟩ rfl (sX3_turnWind zH17 h3) ?_
    refine z_aload_n C dX6_wind_31 rfl (j := 0) rfl ?_
    refine zg6_2 C dX6_wind_32 zw18 ?_
    refine zg3_7 C dX6_wind_35 zH17 zw625 ?_
    have e := Option.some.inj h; subst e; exact z_iret C dX6_wind_38 Rq
  · refine z_ldc C dX6_wind_10 zw417 ?_
    have e := Option.some.inj h; subst e; exact z_iret C dX6_wind_12 Rq
-- X6_undo
def fX6_undo   (mem : ZM) : Option (Int32 × ZM) :=
  if (mem 5 0) = 0 then (some ((-1000002 : Int32), mem)) else (Option.bind (fX0_takeBack 17 mem) (fun r1 => some (r1 5 0, r1)))
set_option maxRecDepth 100000 in
set_option maxHeartbeats 4000000 in
theorem sX6_undo {l : Launch} {E : ZE}   {mem : ZM} {t : Int32 × ZM} (h : fX6_undo mem = some t) : zMet l E yX6_undo cX6_undo 1 (some .int) 2 [.ref (E.2.1 0)] mem (some (.int t.1)) t.2 := by
  refine z_enter (by decide) (Nat.le_of_ble_eq_true rfl) (fun Γ C Rq => ?_)
  have C : zC E Γ RX6 cX6_undo 1 2 := C
  show zG l E Γ 1 0 [(0, .ref (E.2.1 0))] [] mem
  unfold fX6_undo at h
  refine z_aload_n C dX6_undo_0 rfl (j := 0) rfl ?_
  refine zg6_5 C dX6_undo_1 zw27 ?_
  refine zg0_0 C dX6_undo_4 zw638 ?_
  refine z_if_ne 13 C dX6_undo_7 (by decide) h (fun h => ?_) (fun h => ?_)
  · refine z_aload_n C dX6_undo_13 rfl (j := 0) rfl ?_
    refine zg6_5 C dX6_undo_14 zw27 ?_
    refine z_aload_n C dX6_undo_17 rfl (j := 0) rfl ?_
    refine zg6_2 C dX6_undo_18 zw18 ?_
    obtain ⟨r1, h1, h⟩ := Option.bind_eq_some_iff.mp h
    refine z_callVv [.ref (E.2.1 17)] [] C dX6_undo_21 (by decide) zen_5 rfl zk_X6_197 zw640 zw641 ⟨⟨by decide, by decide⟩, rfl, Nat.le_of_ble_eq_true rfl⟩ rfl (sX0_takeBack zH17 h1) ?_
    refine z_aload_n C dX6_undo_24 rfl (j := 0) rfl ?_
    refine zg6_5 C dX6_undo_25 zw27 ?_
    refine zg0_0 C dX6_undo_28 zw638 ?_
    have e := Option.some.inj h; subst e; exact z_iret C dX6_undo_31 Rq
  · refine z_ldc C dX6_undo_10 zw417 ?_
    have e := Option.some.inj h; subst e; exact z_iret C dX6_undo_12 Rq
-- X6_thing
def fX6_thing  (a1 : Int32) (a2 : Int32) (mem : ZM) : Option (Int32) :=
  Option.bind (fX3_hasThing 17 a1 mem) (fun r1 => if r1 = 0 then (some (-1000001 : Int32)) else (if a2 = (0 : Int32) then (zgd (zin a1 8) (some (mem (17 + 2) a1.toNatClampNeg))) else if a2 = (1 : Int32) then (zgd (zin a1 8) (some (mem (17 + 3) a1.toNatClampNeg))) else if a2 = (2 : Int32) then (zgd (zin a1 8) (some (mem (17 + 4) a1.toNatClampNeg))) else if a2 = (3 : Int32) then (Option.bind (fX3_isLit 17 a1 mem) (fun r6 => if r6 = 0 then (some (0 : Int32)) else (some (1 : Int32)))) else if a2 = (4 : Int32) then (Option.bind (fX3_isOut 17 a1 mem) (fun r8 => if r8 = 0 then (some (0 : Int32)) else (some (1 : Int32)))) else if a2 = (5 : Int32) then (Option.bind (fX3_heatOf 17 a1 mem) (fun r10 => some r10)) else if a2 = (6 : Int32) then (Option.bind (fX3_isAsh 17 a1 mem) (fun r12 => if r12 = 0 then (some (0 : Int32)) else (some (1 : Int32)))) else (some (-1000001 : Int32))))
set_option maxRecDepth 100000 in
set_option maxHeartbeats 4000000 in
theorem sX6_thing {l : Launch} {E : ZE}  {a1 : Int32} {a2 : Int32} {mem : ZM} {t : Int32} (h : fX6_thing a1 a2 mem = some t) : zMet l E yX6_thing cX6_thing 3 (some .int) 3 [.ref (E.2.1 0), .int a1, .int a2] mem (some (.int t)) mem := by
  refine z_enter (by decide) (Nat.le_of_ble_eq_true rfl) (fun Γ C Rq => ?_)
  have C : zC E Γ RX6 cX6_thing 3 3 := C
  show zG l E Γ 3 0 [(0, .ref (E.2.1 0)), (1, .int a1), (2, .int a2)] [] mem
  unfold fX6_thing at h
  refine z_aload_n C dX6_thing_0 rfl (j := 0) rfl ?_
  refine zg6_2 C dX6_thing_1 zw18 ?_
  refine z_iload_n C dX6_thing_4 rfl (j := 1) rfl ?_
  obtain ⟨r1, h1, h⟩ := Option.bind_eq_some_iff.mp h
  refine z_callVi [.int a1] [] C dX6_thing_5 (zH_lt zH17) (zH_ent zH17) rfl zk_X6_151 zw545 zw546 ⟨⟨by decide, by decide⟩, rfl, Nat.le_of_ble_eq_true rfl⟩ rfl (sX3_hasThing zH17 h1) ?_
  refine z_if_ne 14 C dX6_thing_8 (by decide) h (fun h => ?_) (fun h => ?_)
  · refine z_iload_n C dX6_thing_14 rfl (j := 2) rfl ?_
    by_cases c2 : a2 = (0 : Int32)
    · rw [if_pos c2] at h
      refine z_swIn (off := 41) 56 C dX6_thing_15 0 c2 (by decide) (by decide) (by decide) (by decide) ?_
      refine z_aload_n C dX6_thing_56 rfl (j := 0) rfl ?_
      refine zg6_2 C dX6_thing_57 zw18 ?_
      refine zg3_2 C dX6_thing_60 zH17 zw651 ?_
      refine z_iload_n C dX6_thing_63 rfl (j := 1) rfl ?_
      refine z_iald C dX6_thing_64 (zH_ar2 zH17) h (fun h => ?_)
      have e := Option.some.inj h; subst e; exact z_iret C dX6_thing_65 Rq
    rw [if_neg c2] at h
    have nc2 : (a2).toInt ≠ 0 := zne c2
    by_cases c3 : a2 = (1 : Int32)
    · rw [if_pos c3] at h
      refine z_swIn (off := 51) 66 C dX6_thing_15 1 c3 (by decide) (by decide) (by decide) (by decide) ?_
      refine z_aload_n C dX6_thing_66 rfl (j := 0) rfl ?_
      refine zg6_2 C dX6_thing_67 zw18 ?_
      refine zg3_3 C dX6_thing_70 zH17 zw569 ?_
      refine z_iload_n C dX6_thing_73 rfl (j := 1) rfl ?_
      refine z_iald C dX6_thing_74 (zH_ar3 zH17) h (fun h => ?_)
      have e := Option.some.inj h; subst e; exact z_iret C dX6_thing_75 Rq
    rw [if_neg c3] at h
    have nc3 : (a2).toInt ≠ 1 := zne c3
    by_cases c4 : a2 = (2 : Int32)
    · rw [if_pos c4] at h
      refine z_swIn (off := 61) 76 C dX6_thing_15 2 c4 (by decide) (by decide) (by decide) (by decide) ?_
      refine z_aload_n C dX6_thing_76 rfl (j := 0) rfl ?_
      refine zg6_2 C dX6_thing_77 zw18 ?_
      refine zg3_4 C dX6_thing_80 zH17 zw608 ?_
      refine z_iload_n C dX6_thing_83 rfl (j := 1) rfl ?_
      refine z_iald C dX6_thing_84 (zH_ar4 zH17) h (fun h => ?_)
      have e := Option.some.inj h; subst e; exact z_iret C dX6_thing_85 Rq
    rw [if_neg c4] at h
    have nc4 : (a2).toInt ≠ 2 := zne c4
    by_cases c5 : a2 = (3 : Int32)
    · rw [if_pos c5] at h
      refine z_swIn (off := 71) 86 C dX6_thing_15 3 c5 (by decide) (by decide) (by decide) (by decide) ?_
      refine z_aload_n C dX6_thing_86 rfl (j := 0) rfl ?_
      refine zg6_2 C dX6_thing_87 zw18 ?_
      refine z_iload_n C dX6_thing_90 rfl (j := 1) rfl ?_
      obtain ⟨r6, h6, h⟩ := Option.bind_eq_some_iff.mp h
      refine z_callVi [.int a1] [] C dX6_thing_91 (zH_lt zH17) (zH_ent zH17) rfl zk_X6_203 zw448 zw449 ⟨⟨by decide, by decide⟩, rfl, Nat.le_of_ble_eq_true rfl⟩ rfl (sX3_isLit zH17 h6) ?_
      refine z_if_eq 101 C dX6_thing_94 (by decide) h (fun h => ?_) (fun h => ?_)
      · refine z_iconst (v := 0) C dX6_thing_101 zc0 ?_
        have e := Option.some.inj h; subst e; exact z_iret C dX6_thing_102 Rq
      · refine z_iconst (v := 1) C dX6_thing_97 zc1 ?_
        refine z_goto 102 C dX6_thing_98 (by decide) ?_
        have e := Option.some.inj h; subst e; exact z_iret C dX6_thing_102 Rq
    rw [if_neg c5] at h
    have nc5 : (a2).toInt ≠ 3 := zne c5
    by_cases c7 : a2 = (4 : Int32)
    · rw [if_pos c7] at h
      refine z_swIn (off := 88) 103 C dX6_thing_15 4 c7 (by decide) (by decide) (by decide) (by decide) ?_
      refine z_aload_n C dX6_thing_103 rfl (j := 0) rfl ?_
      refine zg6_2 C dX6_thing_104 zw18 ?_
      refine z_iload_n C dX6_thing_107 rfl (j := 1) rfl ?_
      obtain ⟨r8, h8, h⟩ := Option.bind_eq_some_iff.mp h
      refine z_callVi [.int a1] [] C dX6_thing_108 (zH_lt zH17) (zH_ent zH17) rfl zk_X6_161 zw456 zw457 ⟨⟨by decide, by decide⟩, rfl, Nat.le_of_ble_eq_true rfl⟩ rfl (sX3_isOut zH17 h8) ?_
      refine z_if_eq 118 C dX6_thing_111 (by decide) h (fun h => ?_) (fun h => ?_)
      · refine z_iconst (v := 0) C dX6_thing_118 zc0 ?_
        have e := Option.some.inj h; subst e; exact z_iret C dX6_thing_119 Rq
      · refine z_iconst (v := 1) C dX6_thing_114 zc1 ?_
        refine z_goto 119 C dX6_thing_115 (by decide) ?_
        have e := Option.some.inj h; subst e; exact z_iret C dX6_thing_119 Rq
    rw [if_neg c7] at h
    have nc7 : (a2).toInt ≠ 4 := zne c7
    by_cases c9 : a2 = (5 : Int32)
    · rw [if_pos c9] at h
      refine z_swIn (off := 105) 120 C dX6_thing_15 5 c9 (by decide) (by decide) (by decide) (by decide) ?_
      refine z_aload_n C dX6_thing_120 rfl (j := 0) rfl ?_
      refine zg6_2 C dX6_thing_121 zw18 ?_
      refine z_iload_n C dX6_thing_124 rfl (j := 1) rfl ?_
      obtain ⟨r10, h10, h⟩ := Option.bind_eq_some_iff.mp h
      refine z_callVi [.int a1] [] C dX6_thing_125 (zH_lt zH17) (zH_ent zH17) rfl zk_X6_206 zw654 zw655 ⟨⟨by decide, by decide⟩, rfl, Nat.le_of_ble_eq_true rfl⟩ rfl (sX3_heatOf zH17 h10) ?_
      have e := Option.some.inj h; subst e; exact z_iret C dX6_thing_128 Rq
    rw [if_neg c9] at h
    have nc9 : (a2).toInt ≠ 5 := zne c9
    by_cases c11 : a2 = (6 : Int32)
    · rw [if_pos c11] at h
      refine z_swIn (off := 114) 129 C dX6_thing_15 6 c11 (by decide) (by decide) (by decide) (by decide) ?_
      refine z_aload_n C dX6_thing_129 rfl (j := 0) rfl ?_
      refine zg6_2 C dX6_thing_130 zw18 ?_
      refine z_iload_n C dX6_thing_133 rfl (j := 1) rfl ?_
      obtain ⟨r12, h12, h⟩ := Option.bind_eq_some_iff.mp h
      refine z_callVi [.int a1] [] C dX6_thing_134 (zH_lt zH17) (zH_ent zH17) rfl zk_X6_209 zw480 zw481 ⟨⟨by decide, by decide⟩, rfl, Nat.le_of_ble_eq_true rfl⟩ rfl (sX3_isAsh zH17 h12) ?_
      refine z_if_eq 144 C dX6_thing_137 (by decide) h (fun h => ?_) (fun h => ?_)
      · refine z_iconst (v := 0) C dX6_thing_144 zc0 ?_
        have e := Option.some.inj h; subst e; exact z_iret C dX6_thing_145 Rq
      · refine z_iconst (v := 1) C dX6_thing_140 zc1 ?_
        refine z_goto 145 C dX6_thing_141 (by decide) ?_
        have e := Option.some.inj h; subst e; exact z_iret C dX6_thing_145 Rq
    rw [if_neg c11] at h
    have nc11 : (a2).toInt ≠ 6 := zne c11
    refine z_swOut 146 C dX6_thing_15 (by omega) (by decide) ?_
    refine z_ldc C dX6_thing_146 zw116 ?_
    have e := Option.some.inj h; subst e; exact z_iret C dX6_thing_148 Rq
  · refine z_ldc C dX6_thing_11 zw116 ?_
    have e := Option.some.inj h; subst e; exact z_iret C dX6_thing_13 Rq
-- X6_place
def fX6_place_b2  (y2_1 : Int32) (mem2 : ZM) (x2_2 : Int32) : Option ((Int32) ⊕ ((Int32) ⊕ (Int32))) :=
  if (mem2 17 0) ≤ x2_2 then (some (Sum.inr (Sum.inl (x2_2)))) else (zgd (zin x2_2 8) (if (mem2 (17 + 4) x2_2.toNatClampNeg) = y2_1 then (some (Sum.inr (Sum.inr x2_2))) else (zlet (x2_2 + (1 : Int32)) (fun v3 => some (Sum.inl (v3))))))
def fX6_place_l2  (y2_1 : Int32) (mem2 : ZM) (s : Int32) : Option ((Int32) ⊕ (Int32)) := ziter (fun s => fX6_place_b2 y2_1 mem2 s) 2000 s
set_option maxRecDepth 100000 in
set_option maxHeartbeats 4000000 in
theorem bX6_place_2 {l : Launch} {E : ZE} {Γ : ZG} (C : zC E Γ RX6 cX6_place 3 0)  {y2_1 : Int32} {mem2 : ZM} {x2_2 : Int32} {u : (Int32) ⊕ ((Int32) ⊕ (Int32))} (G1 : ∀ s', u = Sum.inl s' → zG l E Γ 3 2 [(0, .ref (E.2.1 0)), (1, .int y2_1), (2, .int (s'))] [] mem2) (G2 : ∀ s', u = Sum.inr (Sum.inl s') → zG l E Γ 3 34 [] [] mem2) (G3 : ∀ t', u = Sum.inr (Sum.inr t') → zRq E Γ (some .int) (some (.int t')) mem2) (h : fX6_place_b2 y2_1 mem2 x2_2 = some u) : zG l E Γ 3 2 [(0, .ref (E.2.1 0)), (1, .int y2_1), (2, .int x2_2)] [] mem2 := by
  unfold fX6_place_b2 at h
  refine z_iload_n C dX6_place_2 rfl (j := 2) rfl ?_
  refine z_aload_n C dX6_place_3 rfl (j := 0) rfl ?_
  refine zg6_2 C dX6_place_4 zw18 ?_
  refine zg3_0 C dX6_place_7 zH17 zw232 ?_
  refine z_icmp_ge 34 C dX6_place_10 (by decide) h (fun h => ?_) (fun h => ?_)
  · refine z_pick [] rfl ?_
    exact G2 _ (Option.some.inj h).symm
  · refine z_aload_n C dX6_place_13 rfl (j := 0) rfl ?_
    refine zg6_2 C dX6_place_14 zw18 ?_
    refine zg3_4 C dX6_place_17 zH17 zw608 ?_
    refine z_iload_n C dX6_place_20 rfl (j := 2) rfl ?_
    refine z_iald C dX6_place_21 (zH_ar4 zH17) h (fun h => ?_)
    refine z_iload_n C dX6_place_22 rfl (j := 1) rfl ?_
    refine z_icmp_ne 28 C dX6_place_23 (by decide) h (fun h => ?_) (fun h => ?_)
    · refine z_iinc [(0, .ref (E.2.1 0)), (1, .int y2_1)] C dX6_place_28 zc1 h (j := 2) rfl (by decide) rfl (fun v3 h => ?_)
      refine z_goto 2 C dX6_place_31 (by decide) ?_
      refine z_pick [1, 2, 0] rfl ?_
      exact G1 _ (Option.some.inj h).symm
    · refine z_iload_n C dX6_place_26 rfl (j := 2) rfl ?_
      exact z_iret C dX6_place_27 (G3 _ (Option.some.inj h).symm)
theorem lX6_place_2 {l : Launch} {E : ZE} {Γ : ZG} (C : zC E Γ RX6 cX6_place 3 0)  {y2_1 : Int32} {mem2 : ZM} {s : Int32} {r : (Int32) ⊕ (Int32)} (h : fX6_place_l2 y2_1 mem2 s = some r) (K1 : ∀ s', r = Sum.inl s' → zG l E Γ 3 34 [] [] mem2) (K2 : ∀ t', r = Sum.inr t' → zRq E Γ (some .int) (some (.int t')) mem2) : zG l E Γ 3 2 [(0, .ref (E.2.1 0)), (1, .int y2_1), (2, .int s)] [] mem2 :=
  z_loop (body := fun s => fX6_place_b2 y2_1 mem2 s) (fun s => zG l E Γ 3 2 [(0, .ref (E.2.1 0)), (1, .int y2_1), (2, .int s)] [] mem2) (fun r => (∀ s', r = Sum.inl s' → zG l E Γ 3 34 [] [] mem2) ∧ (∀ t', r = Sum.inr t' → zRq E Γ (some .int) (some (.int t')) mem2)) (fun s u hb g1 g2 => bX6_place_2 C  g1 (fun s' e => (g2 _ e).1 _ rfl) (fun t' e => (g2 _ e).2 _ rfl) hb) 2000 s r h ⟨K1, K2⟩
def fX6_place  (a1 : Int32) (mem : ZM) : Option (Int32) :=
  zlet (0 : Int32) (fun v1 => Option.bind (fX6_place_l2 a1 mem (v1)) (fun r2 => Sum.elim (fun s2 => some (-1000001 : Int32)) (fun t2 => some t2) r2))
set_option maxRecDepth 100000 in
set_option maxHeartbeats 4000000 in
theorem sX6_place {l : Launch} {E : ZE}  {a1 : Int32} {mem : ZM} {t : Int32} (h : fX6_place a1 mem = some t) : zMet l E yX6_place cX6_place 3 (some .int) 0 [.ref (E.2.1 0), .int a1] mem (some (.int t)) mem := by
  refine z_enter (by decide) (Nat.le_of_ble_eq_true rfl) (fun Γ C Rq => ?_)
  have C : zC E Γ RX6 cX6_place 3 0 := C
  show zG l E Γ 3 0 [(0, .ref (E.2.1 0)), (1, .int a1)] [] mem
  unfold fX6_place at h
  refine z_iconst (v := 0) C dX6_place_0 zc0 ?_
  refine z_istore_n [(0, .ref (E.2.1 0)), (1, .int a1)] C dX6_place_1 h rfl (by decide) rfl (fun v1 h => ?_)
  obtain ⟨r2, h2, h⟩ := Option.bind_eq_some_iff.mp h
  refine z_pick [1, 2, 0] rfl ?_
  refine lX6_place_2 C  h2 (fun s2 e2 => ?_) (fun t2 e2 => ?_)
  · subst e2
    replace h := z_el h
    refine z_ldc C dX6_place_34 zw116 ?_
    have e := Option.some.inj h; subst e; exact z_iret C dX6_place_36 Rq
  · subst e2
    replace h := z_er h
    have e := Option.some.inj h; subst e; exact Rq
-- X6_ahead
def fX6_ahead  (a1 : Int32) (a2 : Int32) (a3 : Int32) (mem : ZM) : Option (Int32 × ZM) :=
  Option.bind (fX3_hasThing 17 a1 mem) (fun r1 => if r1 = 0 then (some ((-1000001 : Int32), mem)) else (Option.bind (fX6_isWithin a2 (0 : Int32) (60 : Int32)) (fun r2 => if r2 = 0 then (some ((-1000001 : Int32), mem)) else (Option.bind (fX6_isEither a3) (fun r3 => if r3 = 0 then (some ((-1000001 : Int32), mem)) else (Option.bind (fX2_hoursOn 17 a2 mem) (fun r4 => if a3 = 0 then (zgd (zin a1 8) (some (r4 (37 + 2) a1.toNatClampNeg, r4))) else (zgd (zin a1 8) (some (r4 (37 + 3) a1.toNatClampNeg, r4))))))))))
set_option maxRecDepth 100000 in
set_option maxHeartbeats 4000000 in
theorem sX6_ahead {l : Launch} {E : ZE}  {a1 : Int32} {a2 : Int32} {a3 : Int32} {mem : ZM} {t : Int32 × ZM} (h : fX6_ahead a1 a2 a3 mem = some t) : zMet l E yX6_ahead cX6_ahead 5 (some .int) 6 [.ref (E.2.1 0), .int a1, .int a2, .int a3] mem (some (.int t.1)) t.2 := by
  refine z_enter (by decide) (Nat.le_of_ble_eq_true rfl) (fun Γ C Rq => ?_)
  have C : zC E Γ RX6 cX6_ahead 5 6 := C
  show zG l E Γ 5 0 [(0, .ref (E.2.1 0)), (1, .int a1), (2, .int a2), (3, .int a3)] [] mem
  unfold fX6_ahead at h
  refine z_aload_n C dX6_ahead_0 rfl (j := 0) rfl ?_
  refine zg6_2 C dX6_ahead_1 zw18 ?_
  refine z_iload_n C dX6_ahead_4 rfl (j := 1) rfl ?_
  obtain ⟨r1, h1, h⟩ := Option.bind_eq_some_iff.mp h
  refine z_callVi [.int a1] [] C dX6_ahead_5 (zH_lt zH17) (zH_ent zH17) rfl zk_X6_151 zw545 zw546 ⟨⟨by decide, by decide⟩, rfl, Nat.le_of_ble_eq_true rfl⟩ rfl (sX3_hasThing zH17 h1) ?_
  refine z_if_eq 28 C dX6_ahead_8 (by decide) h (fun h => ?_) (fun h => ?_)
  · refine z_ldc C dX6_ahead_28 zw116 ?_
    have e := Option.some.inj h; subst e; exact z_iret C dX6_ahead_30 Rq
  · refine z_iload_n C dX6_ahead_11 rfl (j := 2) rfl ?_
    refine z_iconst (v := 0) C dX6_ahead_12 zc0 ?_
    refine z_bipush (v := 60) C dX6_ahead_13 zb60 ?_
    obtain ⟨r2, h2, h⟩ := Option.bind_eq_some_iff.mp h
    refine z_callSi [.int a2, .int (0 : Int32), .int (60 : Int32)] [] C dX6_ahead_15 zk_X6_212 zw121 ⟨⟨by decide, by decide⟩, rfl, Nat.le_of_ble_eq_true rfl⟩ rfl (sX6_isWithin  h2) ?_
    refine z_if_eq 28 C dX6_ahead_18 (by decide) h (fun h => ?_) (fun h => ?_)
    · refine z_ldc C dX6_ahead_28 zw116 ?_
      have e := Option.some.inj h; subst e; exact z_iret C dX6_ahead_30 Rq
    · refine z_iload_n C dX6_ahead_21 rfl (j := 3) rfl ?_
      obtain ⟨r3, h3, h⟩ := Option.bind_eq_some_iff.mp h
      refine z_callSi [.int a3] [] C dX6_ahead_22 zk_X6_170 zw590 ⟨⟨by decide, by decide⟩, rfl, Nat.le_of_ble_eq_true rfl⟩ rfl (sX6_isEither  h3) ?_
      refine z_if_ne 31 C dX6_ahead_25 (by decide) h (fun h => ?_) (fun h => ?_)
      · refine z_aload_n C dX6_ahead_31 rfl (j := 0) rfl ?_
        refine zg6_6 C dX6_ahead_32 zw31 ?_
        refine z_aload_n C dX6_ahead_35 rfl (j := 0) rfl ?_
        refine zg6_2 C dX6_ahead_36 zw18 ?_
        refine z_iload_n C dX6_ahead_39 rfl (j := 2) rfl ?_
        obtain ⟨r4, h4, h⟩ := Option.bind_eq_some_iff.mp h
        refine z_callVi [.ref (E.2.1 17), .int a2] [] C dX6_ahead_40 (by decide) zen_14 rfl zk_X6_216 zw675 zw676 ⟨⟨by decide, by decide⟩, rfl, Nat.le_of_ble_eq_true rfl⟩ rfl (sX2_hoursOn zH17 h4) ?_
        refine z_astore [(0, .ref (E.2.1 0)), (1, .int a1), (2, .int a2), (3, .int a3)] C dX6_ahead_43 (by decide) rfl ?_
        refine z_iload_n C dX6_ahead_45 rfl (j := 4) rfl ?_
        refine z_if_ne 59 C dX6_ahead_46 (by decide) h (fun h => ?_) (fun h => ?_)
        · refine z_aload C dX6_ahead_59 (j := 0) rfl ?_
          refine zg3_3 C dX6_ahead_61 zH37 zw569 ?_
          refine z_iload_n C dX6_ahead_64 rfl (j := 2) rfl ?_
          refine z_iald C dX6_ahead_65 (zH_ar3 zH37) h (fun h => ?_)
          have e := Option.some.inj h; subst e; exact z_iret C dX6_ahead_66 Rq
        · refine z_aload C dX6_ahead_49 (j := 0) rfl ?_
          refine zg3_2 C dX6_ahead_51 zH37 zw651 ?_
          refine z_iload_n C dX6_ahead_54 rfl (j := 2) rfl ?_
          refine z_iald C dX6_ahead_55 (zH_ar2 zH37) h (fun h => ?_)
          refine z_goto 66 C dX6_ahead_56 (by decide) ?_
          have e := Option.some.inj h; subst e; exact z_iret C dX6_ahead_66 Rq
      · refine z_ldc C dX6_ahead_28 zw116 ?_
        have e := Option.some.inj h; subst e; exact z_iret C dX6_ahead_30 Rq
-- X6_later
def fX6_later  (a1 : Int32) (a2 : Int32) (mem : ZM) : Option (Int32 × ZM) :=
  Option.bind (fX3_isNone 17 mem) (fun r1 => if r1 = 0 then (Option.bind (fX6_isWithin a1 (0 : Int32) (60 : Int32)) (fun r2 => if r2 = 0 then (some ((-1000001 : Int32), mem)) else (Option.bind (fX6_isEither a2) (fun r3 => if r3 = 0 then (some ((-1000001 : Int32), mem)) else (Option.bind (fX2_hoursOn 17 a1 mem) (fun r4 => if a2 = 0 then (some (r4 37 5, r4)) else (some (r4 37 8, r4)))))))) else (some ((-1000002 : Int32), mem)))
set_option maxRecDepth 100000 in
set_option maxHeartbeats 4000000 in
theorem sX6_later {l : Launch} {E : ZE}  {a1 : Int32} {a2 : Int32} {mem : ZM} {t : Int32 × ZM} (h : fX6_later a1 a2 mem = some t) : zMet l E yX6_later cX6_later 4 (some .int) 6 [.ref (E.2.1 0), .int a1, .int a2] mem (some (.int t.1)) t.2 := by
  refine z_enter (by decide) (Nat.le_of_ble_eq_true rfl) (fun Γ C Rq => ?_)
  have C : zC E Γ RX6 cX6_later 4 6 := C
  show zG l E Γ 4 0 [(0, .ref (E.2.1 0)), (1, .int a1), (2, .int a2)] [] mem
  unfold fX6_later at h
  refine z_aload_n C dX6_later_0 rfl (j := 0) rfl ?_
  refine zg6_2 C dX6_later_1 zw18 ?_
  obtain ⟨r1, h1, h⟩ := Option.bind_eq_some_iff.mp h
  refine z_callVi [] [] C dX6_later_4 (zH_lt zH17) (zH_ent zH17) rfl zk_X6_135 zw421 zw422 ⟨⟨by decide, by decide⟩, rfl, Nat.le_of_ble_eq_true rfl⟩ rfl (sX3_isNone zH17 h1) ?_
  refine z_if_eq 13 C dX6_later_7 (by decide) h (fun h => ?_) (fun h => ?_)
  · refine z_iload_n C dX6_later_13 rfl (j := 1) rfl ?_
    refine z_iconst (v := 0) C dX6_later_14 zc0 ?_
    refine z_bipush (v := 60) C dX6_later_15 zb60 ?_
    obtain ⟨r2, h2, h⟩ := Option.bind_eq_some_iff.mp h
    refine z_callSi [.int a1, .int (0 : Int32), .int (60 : Int32)] [] C dX6_later_17 zk_X6_212 zw121 ⟨⟨by decide, by decide⟩, rfl, Nat.le_of_ble_eq_true rfl⟩ rfl (sX6_isWithin  h2) ?_
    refine z_if_eq 30 C dX6_later_20 (by decide) h (fun h => ?_) (fun h => ?_)
    · refine z_ldc C dX6_later_30 zw116 ?_
      have e := Option.some.inj h; subst e; exact z_iret C dX6_later_32 Rq
    · refine z_iload_n C dX6_later_23 rfl (j := 2) rfl ?_
      obtain ⟨r3, h3, h⟩ := Option.bind_eq_some_iff.mp h
      refine z_callSi [.int a2] [] C dX6_later_24 zk_X6_170 zw590 ⟨⟨by decide, by decide⟩, rfl, Nat.le_of_ble_eq_true rfl⟩ rfl (sX6_isEither  h3) ?_
      refine z_if_ne 33 C dX6_later_27 (by decide) h (fun h => ?_) (fun h => ?_)
      · refine z_aload_n C dX6_later_33 rfl (j := 0) rfl ?_
        refine zg6_6 C dX6_later_34 zw31 ?_
        refine z_aload_n C dX6_later_37 rfl (j := 0) rfl ?_
        refine zg6_2 C dX6_later_38 zw18 ?_
        refine z_iload_n C dX6_later_41 rfl (j := 1) rfl ?_
        obtain ⟨r4, h4, h⟩ := Option.bind_eq_some_iff.mp h
        refine z_callVi [.ref (E.2.1 17), .int a1] [] C dX6_later_42 (by decide) zen_14 rfl zk_X6_216 zw675 zw676 ⟨⟨by decide, by decide⟩, rfl, Nat.le_of_ble_eq_true rfl⟩ rfl (sX2_hoursOn zH17 h4) ?_
        refine z_astore_n [(0, .ref (E.2.1 0)), (1, .int a1), (2, .int a2)] C dX6_later_45 rfl (by decide) rfl ?_
        refine z_iload_n C dX6_later_46 rfl (j := 3) rfl ?_
        refine z_if_ne 57 C dX6_later_47 (by decide) h (fun h => ?_) (fun h => ?_)
        · refine z_aload_n C dX6_later_57 rfl (j := 0) rfl ?_
          refine zg3_8 C dX6_later_58 zH37 zw709 ?_
          have e := Option.some.inj h; subst e; exact z_iret C dX6_later_61 Rq
        · refine z_aload_n C dX6_later_50 rfl (j := 0) rfl ?_
          refine zg3_5 C dX6_later_51 zH37 zw419 ?_
          refine z_goto 61 C dX6_later_54 (by decide) ?_
          have e := Option.some.inj h; subst e; exact z_iret C dX6_later_61 Rq
      · refine z_ldc C dX6_later_30 zw116 ?_
        have e := Option.some.inj h; subst e; exact z_iret C dX6_later_32 Rq
  · refine z_ldc C dX6_later_10 zw417 ?_
    have e := Option.some.inj h; subst e; exact z_iret C dX6_later_12 Rq
-- X6_when
def fX6_when  (a1 : Int32) (a2 : Int32) (mem : ZM) : Option (Int32 × ZM) :=
  Option.bind (fX3_hasThing 17 a1 mem) (fun r1 => if r1 = 0 then (some ((-1000001 : Int32), mem)) else (Option.bind (fX6_isEither a2) (fun r2 => if r2 = 0 then (some ((-1000001 : Int32), mem)) else (if a2 = 0 then (Option.bind (fX2_caughtBehind 17 a1 mem) (fun r4 => some (r4.1, r4.2))) else (Option.bind (fX2_ashBehind 17 a1 mem) (fun r3 => some (r3.1, r3.2)))))))
set_option maxRecDepth 100000 in
set_option maxHeartbeats 4000000 in
theorem sX6_when {l : Launch} {E : ZE}  {a1 : Int32} {a2 : Int32} {mem : ZM} {t : Int32 × ZM} (h : fX6_when a1 a2 mem = some t) : zMet l E yX6_when cX6_when 3 (some .int) 6 [.ref (E.2.1 0), .int a1, .int a2] mem (some (.int t.1)) t.2 := by
  refine z_enter (by decide) (Nat.le_of_ble_eq_true rfl) (fun Γ C Rq => ?_)
  have C : zC E Γ RX6 cX6_when 3 6 := C
  show zG l E Γ 3 0 [(0, .ref (E.2.1 0)), (1, .int a1), (2, .int a2)] [] mem
  unfold fX6_when at h
  refine z_aload_n C dX6_when_0 rfl (j := 0) rfl ?_
  refine zg6_2 C dX6_when_1 zw18 ?_
  refine z_iload_n C dX6_when_4 rfl (j := 1) rfl ?_
  obtain ⟨r1, h1, h⟩ := Option.bind_eq_some_iff.mp h
  refine z_callVi [.int a1] [] C dX6_when_5 (zH_lt zH17) (zH_ent zH17) rfl zk_X6_151 zw545 zw546 ⟨⟨by decide, by decide⟩, rfl, Nat.le_of_ble_eq_true rfl⟩ rfl (sX3_hasThing zH17 h1) ?_
  refine z_if_eq 18 C dX6_when_8 (by decide) h (fun h => ?_) (fun h => ?_)
  · refine z_ldc C dX6_when_18 zw116 ?_
    have e := Option.some.inj h; subst e; exact z_iret C dX6_when_20 Rq
  · refine z_iload_n C dX6_when_11 rfl (j := 2) rfl ?_
    obtain ⟨r2, h2, h⟩ := Option.bind_eq_some_iff.mp h
    refine z_callSi [.int a2] [] C dX6_when_12 zk_X6_170 zw590 ⟨⟨by decide, by decide⟩, rfl, Nat.le_of_ble_eq_true rfl⟩ rfl (sX6_isEither  h2) ?_
    refine z_if_ne 21 C dX6_when_15 (by decide) h (fun h => ?_) (fun h => ?_)
    · refine z_iload_n C dX6_when_21 rfl (j := 2) rfl ?_
      refine z_if_ne 40 C dX6_when_22 (by decide) h (fun h => ?_) (fun h => ?_)
      · refine z_aload_n C dX6_when_40 rfl (j := 0) rfl ?_
        refine zg6_6 C dX6_when_41 zw31 ?_
        refine z_aload_n C dX6_when_44 rfl (j := 0) rfl ?_
        refine zg6_2 C dX6_when_45 zw18 ?_
        refine z_iload_n C dX6_when_48 rfl (j := 1) rfl ?_
        obtain ⟨r3, h3, h⟩ := Option.bind_eq_some_iff.mp h
        refine z_callVi [.ref (E.2.1 17), .int a1] [] C dX6_when_49 (by decide) zen_14 rfl zk_X6_227 zw729 zw730 ⟨⟨by decide, by decide⟩, rfl, Nat.le_of_ble_eq_true rfl⟩ rfl (sX2_ashBehind zH17 h3) ?_
        have e := Option.some.inj h; subst e; exact z_iret C dX6_when_52 Rq
      · refine z_aload_n C dX6_when_25 rfl (j := 0) rfl ?_
        refine zg6_6 C dX6_when_26 zw31 ?_
        refine z_aload_n C dX6_when_29 rfl (j := 0) rfl ?_
        refine zg6_2 C dX6_when_30 zw18 ?_
        refine z_iload_n C dX6_when_33 rfl (j := 1) rfl ?_
        obtain ⟨r4, h4, h⟩ := Option.bind_eq_some_iff.mp h
        refine z_callVi [.ref (E.2.1 17), .int a1] [] C dX6_when_34 (by decide) zen_14 rfl zk_X6_223 zw719 zw720 ⟨⟨by decide, by decide⟩, rfl, Nat.le_of_ble_eq_true rfl⟩ rfl (sX2_caughtBehind zH17 h4) ?_
        refine z_goto 52 C dX6_when_37 (by decide) ?_
        have e := Option.some.inj h; subst e; exact z_iret C dX6_when_52 Rq
    · refine z_ldc C dX6_when_18 zw116 ?_
      have e := Option.some.inj h; subst e; exact z_iret C dX6_when_20 Rq
-- X6_dead
def fX6_dead  (a1 : Int32) (mem : ZM) : Option (Int32 × ZM) :=
  Option.bind (fX3_isNone 17 mem) (fun r1 => if r1 = 0 then (Option.bind (fX6_isEither a1) (fun r2 => if r2 = 0 then (some ((-1000001 : Int32), mem)) else (if a1 = 0 then (Option.bind (fX2_deadBehind 17 mem) (fun r4 => some (r4.1, r4.2))) else (Option.bind (fX2_leftWhenDead 17 mem) (fun r3 => some (r3.1, r3.2)))))) else (some ((-1000002 : Int32), mem)))
set_option maxRecDepth 100000 in
set_option maxHeartbeats 4000000 in
theorem sX6_dead {l : Launch} {E : ZE}  {a1 : Int32} {mem : ZM} {t : Int32 × ZM} (h : fX6_dead a1 mem = some t) : zMet l E yX6_dead cX6_dead 2 (some .int) 6 [.ref (E.2.1 0), .int a1] mem (some (.int t.1)) t.2 := by
  refine z_enter (by decide) (Nat.le_of_ble_eq_true rfl) (fun Γ C Rq => ?_)
  have C : zC E Γ RX6 cX6_dead 2 6 := C
  show zG l E Γ 2 0 [(0, .ref (E.2.1 0)), (1, .int a1)] [] mem
  unfold fX6_dead at h
  refine z_aload_n C dX6_dead_0 rfl (j := 0) rfl ?_
  refine zg6_2 C dX6_dead_1 zw18 ?_
  obtain ⟨r1, h1, h⟩ := Option.bind_eq_some_iff.mp h
  refine z_callVi [] [] C dX6_dead_4 (zH_lt zH17) (zH_ent zH17) rfl zk_X6_135 zw421 zw422 ⟨⟨by decide, by decide⟩, rfl, Nat.le_of_ble_eq_true rfl⟩ rfl (sX3_isNone zH17 h1) ?_
  refine z_if_eq 13 C dX6_dead_7 (by decide) h (fun h => ?_) (fun h => ?_)
  · refine z_iload_n C dX6_dead_13 rfl (j := 1) rfl ?_
    obtain ⟨r2, h2, h⟩ := Option.bind_eq_some_iff.mp h
    refine z_callSi [.int a1] [] C dX6_dead_14 zk_X6_170 zw590 ⟨⟨by decide, by decide⟩, rfl, Nat.le_of_ble_eq_true rfl⟩ rfl (sX6_isEither  h2) ?_
    refine z_if_ne 23 C dX6_dead_17 (by decide) h (fun h => ?_) (fun h => ?_)
    · refine z_iload_n C dX6_dead_23 rfl (j := 1) rfl ?_
      refine z_if_ne 41 C dX6_dead_24 (by decide) h (fun h => ?_) (fun h => ?_)
      · refine z_aload_n C dX6_dead_41 rfl (j := 0) rfl ?_
        refine zg6_6 C dX6_dead_42 zw31 ?_
        refine z_aload_n C dX6_dead_45 rfl (j := 0) rfl ?_
        refine zg6_2 C dX6_dead_46 zw18 ?_
        obtain ⟨r3, h3, h⟩ := Option.bind_eq_some_iff.mp h
        refine z_callVi [.ref (E.2.1 17)] [] C dX6_dead_49 (by decide) zen_14 rfl zk_X6_234 zw751 zw752 ⟨⟨by decide, by decide⟩, rfl, Nat.le_of_ble_eq_true rfl⟩ rfl (sX2_leftWhenDead zH17 h3) ?_
        have e := Option.some.inj h; subst e; exact z_iret C dX6_dead_52 Rq
      · refine z_aload_n C dX6_dead_27 rfl (j := 0) rfl ?_
        refine zg6_6 C dX6_dead_28 zw31 ?_
        refine z_aload_n C dX6_dead_31 rfl (j := 0) rfl ?_
        refine zg6_2 C dX6_dead_32 zw18 ?_
        obtain ⟨r4, h4, h⟩ := Option.bind_eq_some_iff.mp h
        refine z_callVi [.ref (E.2.1 17)] [] C dX6_dead_35 (by decide) zen_14 rfl zk_X6_230 zw747 zw748 ⟨⟨by decide, by decide⟩, rfl, Nat.le_of_ble_eq_true rfl⟩ rfl (sX2_deadBehind zH17 h4) ?_
        refine z_goto 52 C dX6_dead_38 (by decide) ?_
        have e := Option.some.inj h; subst e; exact z_iret C dX6_dead_52 Rq
    · refine z_ldc C dX6_dead_20 zw116 ?_
      have e := Option.some.inj h; subst e; exact z_iret C dX6_dead_22 Rq
  · refine z_ldc C dX6_dead_10 zw417 ?_
    have e := Option.some.inj h; subst e; exact z_iret C dX6_dead_12 Rq
-- X6_kindle
def fX6_kindle  (a1 : Int32) (a2 : Int32) (a3 : Int32) (mem : ZM) : Option (Int32 × ZM) :=
  Option.bind (fX3_isNone 17 mem) (fun r1 => if r1 = 0 then (Option.bind (fX3_allThings 17 mem) (fun r2 => Option.bind (fX6_isWithin a1 (0 : Int32) r2) (fun r3 => if r3 = 0 then (some ((-1000001 : Int32), mem)) else (Option.bind (fX6_isWithin a2 (1 : Int32) (60 : Int32)) (fun r4 => if r4 = 0 then (some ((-1000001 : Int32), mem)) else (Option.bind (fX6_isEither a3) (fun r5 => if r5 = 0 then (some ((-1000001 : Int32), mem)) else (Option.bind (fX2_fewestToLight 17 a1 a2 mem) (fun r6 => zlet r6.1 (fun v7 => if a3 = (1 : Int32) then (some (v7, r6.2)) else (if v7 = (-1000000 : Int32) then (some (v7, r6.2)) else (Option.bind (fJ6_bitCount_0f7a4 v7) (fun r8 => some (r8, r6.2)))))))))))))) else (some ((-1000002 : Int32), mem)))
set_option maxRecDepth 100000 in
set_option maxHeartbeats 4000000 in
theorem sX6_kindle {l : Launch} {E : ZE}  {a1 : Int32} {a2 : Int32} {a3 : Int32} {mem : ZM} {t : Int32 × ZM} (h : fX6_kindle a1 a2 a3 mem = some t) : zMet l E yX6_kindle cX6_kindle 5 (some .int) 7 [.ref (E.2.1 0), .int a1, .int a2, .int a3] mem (some (.int t.1)) t.2 := by
  refine z_enter (by decide) (Nat.le_of_ble_eq_true rfl) (fun Γ C Rq => ?_)
  have C : zC E Γ RX6 cX6_kindle 5 7 := C
  show zG l E Γ 5 0 [(0, .ref (E.2.1 0)), (1, .int a1), (2, .int a2), (3, .int a3)] [] mem
  unfold fX6_kindle at h
  refine z_aload_n C dX6_kindle_0 rfl (j := 0) rfl ?_
  refine zg6_2 C dX6_kindle_1 zw18 ?_
  obtain ⟨r1, h1, h⟩ := Option.bind_eq_some_iff.mp h
  refine z_callVi [] [] C dX6_kindle_4 (zH_lt zH17) (zH_ent zH17) rfl zk_X6_135 zw421 zw422 ⟨⟨by decide, by decide⟩, rfl, Nat.le_of_ble_eq_true rfl⟩ rfl (sX3_isNone zH17 h1) ?_
  refine z_if_eq 13 C dX6_kindle_7 (by decide) h (fun h => ?_) (fun h => ?_)
  · refine z_iload_n C dX6_kindle_13 rfl (j := 1) rfl ?_
    refine z_iconst (v := 0) C dX6_kindle_14 zc0 ?_
    refine z_aload_n C dX6_kindle_15 rfl (j := 0) rfl ?_
    refine zg6_2 C dX6_kindle_16 zw18 ?_
    obtain ⟨r2, h2, h⟩ := Option.bind_eq_some_iff.mp h
    refine z_callVi [] [.int (0 : Int32), .int a1] C dX6_kindle_19 (zH_lt zH17) (zH_ent zH17) rfl zk_X6_237 zw756 zw757 ⟨⟨by decide, by decide⟩, rfl, Nat.le_of_ble_eq_true rfl⟩ rfl (sX3_allThings zH17 h2) ?_
    obtain ⟨r3, h3, h⟩ := Option.bind_eq_some_iff.mp h
    refine z_callSi [.int a1, .int (0 : Int32), .int r2] [] C dX6_kindle_22 zk_X6_212 zw121 ⟨⟨by decide, by decide⟩, rfl, Nat.le_of_ble_eq_true rfl⟩ rfl (sX6_isWithin  h3) ?_
    refine z_if_eq 45 C dX6_kindle_25 (by decide) h (fun h => ?_) (fun h => ?_)
    · refine z_ldc C dX6_kindle_45 zw116 ?_
      have e := Option.some.inj h; subst e; exact z_iret C dX6_kindle_47 Rq
    · refine z_iload_n C dX6_kindle_28 rfl (j := 2) rfl ?_
      refine z_iconst (v := 1) C dX6_kindle_29 zc1 ?_
      refine z_bipush (v := 60) C dX6_kindle_30 zb60 ?_
      obtain ⟨r4, h4, h⟩ := Option.bind_eq_some_iff.mp h
      refine z_callSi [.int a2, .int (1 : Int32), .int (60 : Int32)] [] C dX6_kindle_32 zk_X6_212 zw121 ⟨⟨by decide, by decide⟩, rfl, Nat.le_of_ble_eq_true rfl⟩ rfl (sX6_isWithin  h4) ?_
      refine z_if_eq 45 C dX6_kindle_35 (by decide) h (fun h => ?_) (fun h => ?_)
      · refine z_ldc C dX6_kindle_45 zw116 ?_
        have e := Option.some.inj h; subst e; exact z_iret C dX6_kindle_47 Rq
      · refine z_iload_n C dX6_kindle_38 rfl (j := 3) rfl ?_
        obtain ⟨r5, h5, h⟩ := Option.bind_eq_some_iff.mp h
        refine z_callSi [.int a3] [] C dX6_kindle_39 zk_X6_170 zw590 ⟨⟨by decide, by decide⟩, rfl, Nat.le_of_ble_eq_true rfl⟩ rfl (sX6_isEither  h5) ?_
        refine z_if_ne 48 C dX6_kindle_42 (by decide) h (fun h => ?_) (fun h => ?_)
        · refine z_aload_n C dX6_kindle_48 rfl (j := 0) rfl ?_
          refine zg6_6 C dX6_kindle_49 zw31 ?_
          refine z_aload_n C dX6_kindle_52 rfl (j := 0) rfl ?_
          refine zg6_2 C dX6_kindle_53 zw18 ?_
          refine z_iload_n C dX6_kindle_56 rfl (j := 1) rfl ?_
          refine z_iload_n C dX6_kindle_57 rfl (j := 2) rfl ?_
          obtain ⟨r6, h6, h⟩ := Option.bind_eq_some_iff.mp h
          refine z_callVi [.ref (E.2.1 17), .int a1, .int a2] [] C dX6_kindle_58 (by decide) zen_14 rfl zk_X6_241 zw778 zw779 ⟨⟨by decide, by decide⟩, rfl, Nat.le_of_ble_eq_true rfl⟩ rfl (sX2_fewestToLight zH17 h6) ?_
          refine z_istore [(0, .ref (E.2.1 0)), (1, .int a1), (2, .int a2), (3, .int a3)] C dX6_kindle_61 h (by decide) rfl (fun v7 h => ?_)
          refine z_iload_n C dX6_kindle_63 rfl (j := 4) rfl ?_
          refine z_iconst (v := 1) C dX6_kindle_64 zc1 ?_
          refine z_icmp_eq 75 C dX6_kindle_65 (by decide) h (fun h => ?_) (fun h => ?_)
          · refine z_iload C dX6_kindle_75 (j := 0) rfl ?_
            refine z_goto 85 C dX6_kindle_77 (by decide) ?_
            have e := Option.some.inj h; subst e; exact z_iret C dX6_kindle_85 Rq
          · refine z_iload C dX6_kindle_68 (j := 0) rfl ?_
            refine z_ldc C dX6_kindle_70 zw775 ?_
            refine z_icmp_ne 80 C dX6_kindle_72 (by decide) h (fun h => ?_) (fun h => ?_)
            · refine z_iload C dX6_kindle_80 (j := 0) rfl ?_
              obtain ⟨r8, h8, h⟩ := Option.bind_eq_some_iff.mp h
              refine z_callSi [.int v7] [] C dX6_kindle_82 zk_X6_246 zw467 ⟨⟨by decide, by decide⟩, rfl, Nat.le_of_ble_eq_true rfl⟩ rfl (sJ6_bitCount_0f7a4  h8) ?_
              have e := Option.some.inj h; subst e; exact z_iret C dX6_kindle_85 Rq
            · refine z_iload C dX6_kindle_75 (j := 0) rfl ?_
              refine z_goto 85 C dX6_kindle_77 (by decide) ?_
              have e := Option.some.inj h; subst e; exact z_iret C dX6_kindle_85 Rq
        · refine z_ldc C dX6_kindle_45 zw116 ?_
          have e := Option.some.inj h; subst e; exact z_iret C dX6_kindle_47 Rq
  · refine z_ldc C dX6_kindle_10 zw417 ?_
    have e := Option.some.inj h; subst e; exact z_iret C dX6_kindle_12 Rq
-- X6_spare
def fX6_spare  (a1 : Int32) (a2 : Int32) (mem : ZM) : Option (Int32 × ZM) :=
  Option.bind (fX3_hasThing 17 a1 mem) (fun r1 => if r1 = 0 then (some ((-1000001 : Int32), mem)) else (Option.bind (fX6_isWithin a2 (1 : Int32) (30 : Int32)) (fun r2 => if r2 = 0 then (some ((-1000001 : Int32), mem)) else (Option.bind (fX3_isOut 17 a1 mem) (fun r3 => if r3 = 0 then (Option.bind (fX2_leastWater 17 a1 a2 mem) (fun r4 => some (r4.1, r4.2))) else (some ((-1000002 : Int32), mem)))))))
set_option maxRecDepth 100000 in
set_option maxHeartbeats 4000000 in
theorem sX6_spare {l : Launch} {E : ZE}  {a1 : Int32} {a2 : Int32} {mem : ZM} {t : Int32 × ZM} (h : fX6_spare a1 a2 mem = some t) : zMet l E yX6_spare cX6_spare 3 (some .int) 6 [.ref (E.2.1 0), .int a1, .int a2] mem (some (.int t.1)) t.2 := by
  refine z_enter (by decide) (Nat.le_of_ble_eq_true rfl) (fun Γ C Rq => ?_)
  have C : zC E Γ RX6 cX6_spare 3 6 := C
  show zG l E Γ 3 0 [(0, .ref (E.2.1 0)), (1, .int a1), (2, .int a2)] [] mem
  unfold fX6_spare at h
  refine z_aload_n C dX6_spare_0 rfl (j := 0) rfl ?_
  refine zg6_2 C dX6_spare_1 zw18 ?_
  refine z_iload_n C dX6_spare_4 rfl (j := 1) rfl ?_
  obtain ⟨r1, h1, h⟩ := Option.bind_eq_some_iff.mp h
  refine z_callVi [.int a1] [] C dX6_spare_5 (zH_lt zH17) (zH_ent zH17) rfl zk_X6_151 zw545 zw546 ⟨⟨by decide, by decide⟩, rfl, Nat.le_of_ble_eq_true rfl⟩ rfl (sX3_hasThing zH17 h1) ?_
  refine z_if_eq 21 C dX6_spare_8 (by decide) h (fun h => ?_) (fun h => ?_)
  · refine z_ldc C dX6_spare_21 zw116 ?_
    have e := Option.some.inj h; subst e; exact z_iret C dX6_spare_23 Rq
  · refine z_iload_n C dX6_spare_11 rfl (j := 2) rfl ?_
    refine z_iconst (v := 1) C dX6_spare_12 zc1 ?_
    refine z_bipush (v := 30) C dX6_spare_13 zb30 ?_
    obtain ⟨r2, h2, h⟩ := Option.bind_eq_some_iff.mp h
    refine z_callSi [.int a2, .int (1 : Int32), .int (30 : Int32)] [] C dX6_spare_15 zk_X6_212 zw121 ⟨⟨by decide, by decide⟩, rfl, Nat.le_of_ble_eq_true rfl⟩ rfl (sX6_isWithin  h2) ?_
    refine z_if_ne 24 C dX6_spare_18 (by decide) h (fun h => ?_) (fun h => ?_)
    · refine z_aload_n C dX6_spare_24 rfl (j := 0) rfl ?_
      refine zg6_2 C dX6_spare_25 zw18 ?_
      refine z_iload_n C dX6_spare_28 rfl (j := 1) rfl ?_
      obtain ⟨r3, h3, h⟩ := Option.bind_eq_some_iff.mp h
      refine z_callVi [.int a1] [] C dX6_spare_29 (zH_lt zH17) (zH_ent zH17) rfl zk_X6_161 zw456 zw457 ⟨⟨by decide, by decide⟩, rfl, Nat.le_of_ble_eq_true rfl⟩ rfl (sX3_isOut zH17 h3) ?_
      refine z_if_eq 38 C dX6_spare_32 (by decide) h (fun h => ?_) (fun h => ?_)
      · refine z_aload_n C dX6_spare_38 rfl (j := 0) rfl ?_
        refine zg6_6 C dX6_spare_39 zw31 ?_
        refine z_aload_n C dX6_spare_42 rfl (j := 0) rfl ?_
        refine zg6_2 C dX6_spare_43 zw18 ?_
        refine z_iload_n C dX6_spare_46 rfl (j := 1) rfl ?_
        refine z_iload_n C dX6_spare_47 rfl (j := 2) rfl ?_
        obtain ⟨r4, h4, h⟩ := Option.bind_eq_some_iff.mp h
        refine z_callVi [.ref (E.2.1 17), .int a1, .int a2] [] C dX6_spare_48 (by decide) zen_14 rfl zk_X6_251 zw811 zw812 ⟨⟨by decide, by decide⟩, rfl, Nat.le_of_ble_eq_true rfl⟩ rfl (sX2_leastWater zH17 h4) ?_
        have e := Option.some.inj h; subst e; exact z_iret C dX6_spare_51 Rq
      · refine z_ldc C dX6_spare_35 zw417 ?_
        have e := Option.some.inj h; subst e; exact z_iret C dX6_spare_37 Rq
    · refine z_ldc C dX6_spare_21 zw116 ?_
      have e := Option.some.inj h; subst e; exact z_iret C dX6_spare_23 Rq
-- X6_laying
def fX6_laying_j51  (k0 : Int32) (k1 : Int32) (mem : ZM) : Option (Int32 × ZM) :=
  Option.bind (fX2_bestLaying 17 k1 k0 mem) (fun r4 => some (r4.1, r4.2))
set_option maxRecDepth 100000 in
set_option maxHeartbeats 4000000 in
theorem jX6_laying_51 {l : Launch} {E : ZE} {Γ : ZG} (C : zC E Γ RX6 cX6_laying 3 6)  {k0 : Int32} {k1 : Int32}  {mem : ZM}  {t : Int32 × ZM}  (Rq : zRq E Γ (some .int) (some (.int t.1)) t.2) (h : fX6_laying_j51  k0 k1 mem = some t) : zG l E Γ 3 51 [] [.int k0, .int k1, .ref (E.2.1 17), .ref (E.2.1 14)] mem := by
  unfold fX6_laying_j51 at h
  obtain ⟨r4, h4, h⟩ := Option.bind_eq_some_iff.mp h
  refine z_callVi [.ref (E.2.1 17), .int k1, .int k0] [] C dX6_laying_51 (by decide) zen_14 rfl zk_X6_254 zw829 zw830 ⟨⟨by decide, by decide⟩, rfl, Nat.le_of_ble_eq_true rfl⟩ rfl (sX2_bestLaying zH17 h4) ?_
  have e := Option.some.inj h; subst e; exact z_iret C dX6_laying_54 Rq
def fX6_laying  (a1 : Int32) (a2 : Int32) (mem : ZM) : Option (Int32 × ZM) :=
  Option.bind (fX3_isNone 17 mem) (fun r1 => if r1 = 0 then (Option.bind (fX6_isWithin a1 (1 : Int32) (30 : Int32)) (fun r2 => if r2 = 0 then (some ((-1000001 : Int32), mem)) else (Option.bind (fX6_isEither a2) (fun r3 => if r3 = 0 then (some ((-1000001 : Int32), mem)) else (if a2 = 0 then (fX6_laying_j51  (1 : Int32) a1 mem) else (fX6_laying_j51  (0 : Int32) a1 mem)))))) else (some ((-1000002 : Int32), mem)))
set_option maxRecDepth 100000 in
set_option maxHeartbeats 4000000 in
theorem sX6_laying {l : Launch} {E : ZE}  {a1 : Int32} {a2 : Int32} {mem : ZM} {t : Int32 × ZM} (h : fX6_laying a1 a2 mem = some t) : zMet l E yX6_laying cX6_laying 3 (some .int) 6 [.ref (E.2.1 0), .int a1, .int a2] mem (some (.int t.1)) t.2 := by
  refine z_enter (by decide) (Nat.le_of_ble_eq_true rfl) (fun Γ C Rq => ?_)
  have C : zC E Γ RX6 cX6_laying 3 6 := C
  show zG l E Γ 3 0 [(0, .ref (E.2.1 0)), (1, .int a1), (2, .int a2)] [] mem
  unfold fX6_laying at h
  refine z_aload_n C dX6_laying_0 rfl (j := 0) rfl ?_
  refine zg6_2 C dX6_laying_1 zw18 ?_
  obtain ⟨r1, h1, h⟩ := Option.bind_eq_some_iff.mp h
  refine z_callVi [] [] C dX6_laying_4 (zH_lt zH17) (zH_ent zH17) rfl zk_X6_135 zw421 zw422 ⟨⟨by decide, by decide⟩, rfl, Nat.le_of_ble_eq_true rfl⟩ rfl (sX3_isNone zH17 h1) ?_
  refine z_if_eq 13 C dX6_laying_7 (by decide) h (fun h => ?_) (fun h => ?_)
  · refine z_iload_n C dX6_laying_13 rfl (j := 1) rfl ?_
    refine z_iconst (v := 1) C dX6_laying_14 zc1 ?_
    refine z_bipush (v := 30) C dX6_laying_15 zb30 ?_
    obtain ⟨r2, h2, h⟩ := Option.bind_eq_some_iff.mp h
    refine z_callSi [.int a1, .int (1 : Int32), .int (30 : Int32)] [] C dX6_laying_17 zk_X6_212 zw121 ⟨⟨by decide, by decide⟩, rfl, Nat.le_of_ble_eq_true rfl⟩ rfl (sX6_isWithin  h2) ?_
    refine z_if_eq 30 C dX6_laying_20 (by decide) h (fun h => ?_) (fun h => ?_)
    · refine z_ldc C dX6_laying_30 zw116 ?_
      have e := Option.some.inj h; subst e; exact z_iret C dX6_laying_32 Rq
    · refine z_iload_n C dX6_laying_23 rfl (j := 2) rfl ?_
      obtain ⟨r3, h3, h⟩ := Option.bind_eq_some_iff.mp h
      refine z_callSi [.int a2] [] C dX6_laying_24 zk_X6_170 zw590 ⟨⟨by decide, by decide⟩, rfl, Nat.le_of_ble_eq_true rfl⟩ rfl (sX6_isEither  h3) ?_
      refine z_if_ne 33 C dX6_laying_27 (by decide) h (fun h => ?_) (fun h => ?_)
      · refine z_aload_n C dX6_laying_33 rfl (j := 0) rfl ?_
        refine zg6_6 C dX6_laying_34 zw31 ?_
        refine z_aload_n C dX6_laying_37 rfl (j := 0) rfl ?_
        refine zg6_2 C dX6_laying_38 zw18 ?_
        refine z_iload_n C dX6_laying_41 rfl (j := 1) rfl ?_
        refine z_iload_n C dX6_laying_42 rfl (j := 2) rfl ?_
        refine z_if_ne 50 C dX6_laying_43 (by decide) h (fun h => ?_) (fun h => ?_)
        · refine z_iconst (v := 0) C dX6_laying_50 zc0 ?_
          refine z_pick [] rfl ?_
          exact jX6_laying_51 C   Rq h
        · refine z_iconst (v := 1) C dX6_laying_46 zc1 ?_
          refine z_goto 51 C dX6_laying_47 (by decide) ?_
          refine z_pick [] rfl ?_
          exact jX6_laying_51 C   Rq h
      · refine z_ldc C dX6_laying_30 zw116 ?_
        have e := Option.some.inj h; subst e; exact z_iret C dX6_laying_32 Rq
  · refine z_ldc C dX6_laying_10 zw417 ?_
    have e := Option.some.inj h; subst e; exact z_iret C dX6_laying_12 Rq
-- X6_fits
def fX6_fits  (a1 : Int32) (a2 : Int32) (a3 : Int32) (a4 : Int32) (a5 : Int32) (mem : ZM) : Option (Int32 × ZM) :=
  Option.bind (fX3_hasThing 17 a1 mem) (fun r1 => if r1 = 0 then (some ((-1000001 : Int32), mem)) else (Option.bind (fX6_isRow a2) (fun r2 => if r2 = 0 then (some ((-1000001 : Int32), mem)) else (Option.bind (fX6_isWithin a4 (1 : Int32) (12 : Int32)) (fun r3 => if r3 = 0 then (some ((-1000001 : Int32), mem)) else (Option.bind (fX6_isWithin a5 (0 : Int32) (3 : Int32)) (fun r4 => if r4 = 0 then (some ((-1000001 : Int32), mem)) else (zgd (zin a2 8) (Option.bind (fX4_isMissing (42 + 2 * a2.toNatClampNeg) mem) (fun r6 => if r6 = 0 then (zgd (zin a2 8) (Option.bind (fX4_holds (42 + 2 * a2.toNatClampNeg) a3 a4 mem) (fun r8 => if r8 = 0 then (Option.bind (fX6_found (2 : Int32) mem) (fun r12 => some (r12.1, r12.2))) else (zgd (zin a2 8) (Option.bind (fX2_whatFits 17 (42 + 2 * a2.toNatClampNeg) a1 a3 a4 a5 mem) (fun r10 => Option.bind (fX6_foundNothing r10.1 r10.2) (fun r11 => some (r11.1, r11.2)))))))) else (Option.bind (fX6_found (1 : Int32) mem) (fun r13 => some (r13.1, r13.2)))))))))))))
set_option maxRecDepth 100000 in
set_option maxHeartbeats 4000000 in
theorem sX6_fits {l : Launch} {E : ZE}  {a1 : Int32} {a2 : Int32} {a3 : Int32} {a4 : Int32} {a5 : Int32} {mem : ZM} {t : Int32 × ZM} (h : fX6_fits a1 a2 a3 a4 a5 mem = some t) : zMet l E yX6_fits cX6_fits 6 (some .int) 6 [.ref (E.2.1 0), .int a1, .int a2, .int a3, .int a4, .int a5] mem (some (.int t.1)) t.2 := by
  refine z_enter (by decide) (Nat.le_of_ble_eq_true rfl) (fun Γ C Rq => ?_)
  have C : zC E Γ RX6 cX6_fits 6 6 := C
  show zG l E Γ 6 0 [(0, .ref (E.2.1 0)), (1, .int a1), (2, .int a2), (3, .int a3), (4, .int a4), (5, .int a5)] [] mem
  unfold fX6_fits at h
  refine z_aload_n C dX6_fits_0 rfl (j := 0) rfl ?_
  refine zg6_2 C dX6_fits_1 zw18 ?_
  refine z_iload_n C dX6_fits_4 rfl (j := 1) rfl ?_
  obtain ⟨r1, h1, h⟩ := Option.bind_eq_some_iff.mp h
  refine z_callVi [.int a1] [] C dX6_fits_5 (zH_lt zH17) (zH_ent zH17) rfl zk_X6_151 zw545 zw546 ⟨⟨by decide, by decide⟩, rfl, Nat.le_of_ble_eq_true rfl⟩ rfl (sX3_hasThing zH17 h1) ?_
  refine z_if_eq 18 C dX6_fits_8 (by decide) h (fun h => ?_) (fun h => ?_)
  · refine z_ldc C dX6_fits_18 zw116 ?_
    have e := Option.some.inj h; subst e; exact z_iret C dX6_fits_20 Rq
  · refine z_iload_n C dX6_fits_11 rfl (j := 2) rfl ?_
    obtain ⟨r2, h2, h⟩ := Option.bind_eq_some_iff.mp h
    refine z_callSi [.int a2] [] C dX6_fits_12 zk_X6_62 zw118 ⟨⟨by decide, by decide⟩, rfl, Nat.le_of_ble_eq_true rfl⟩ rfl (sX6_isRow  h2) ?_
    refine z_if_ne 21 C dX6_fits_15 (by decide) h (fun h => ?_) (fun h => ?_)
    · refine z_iload C dX6_fits_21 (j := 4) rfl ?_
      refine z_iconst (v := 1) C dX6_fits_23 zc1 ?_
      refine z_bipush (v := 12) C dX6_fits_24 zb12 ?_
      obtain ⟨r3, h3, h⟩ := Option.bind_eq_some_iff.mp h
      refine z_callSi [.int a4, .int (1 : Int32), .int (12 : Int32)] [] C dX6_fits_26 zk_X6_212 zw121 ⟨⟨by decide, by decide⟩, rfl, Nat.le_of_ble_eq_true rfl⟩ rfl (sX6_isWithin  h3) ?_
      refine z_if_eq 42 C dX6_fits_29 (by decide) h (fun h => ?_) (fun h => ?_)
      · refine z_ldc C dX6_fits_42 zw116 ?_
        have e := Option.some.inj h; subst e; exact z_iret C dX6_fits_44 Rq
      · refine z_iload C dX6_fits_32 (j := 5) rfl ?_
        refine z_iconst (v := 0) C dX6_fits_34 zc0 ?_
        refine z_iconst (v := 3) C dX6_fits_35 zc3 ?_
        obtain ⟨r4, h4, h⟩ := Option.bind_eq_some_iff.mp h
        refine z_callSi [.int a5, .int (0 : Int32), .int (3 : Int32)] [] C dX6_fits_36 zk_X6_212 zw121 ⟨⟨by decide, by decide⟩, rfl, Nat.le_of_ble_eq_true rfl⟩ rfl (sX6_isWithin  h4) ?_
        refine z_if_ne 45 C dX6_fits_39 (by decide) h (fun h => ?_) (fun h => ?_)
        · refine z_aload_n C dX6_fits_45 rfl (j := 0) rfl ?_
          refine zg6_0 C dX6_fits_46 zw13 ?_
          refine z_iload_n C dX6_fits_49 rfl (j := 2) rfl ?_
          refine z_aldR C dX6_fits_50 h (fun hr5 h => ?_)
          obtain ⟨r6, h6, h⟩ := Option.bind_eq_some_iff.mp h
          refine z_callVi [] [] C dX6_fits_51 (zRw_lt hr5) (zRw_ent hr5) rfl zk_X6_78 zw164 zw165 ⟨⟨by decide, by decide⟩, rfl, Nat.le_of_ble_eq_true rfl⟩ rfl (sX4_isMissing hr5 h6) ?_
          refine z_if_eq 63 C dX6_fits_54 (by decide) h (fun h => ?_) (fun h => ?_)
          · refine z_aload_n C dX6_fits_63 rfl (j := 0) rfl ?_
            refine zg6_0 C dX6_fits_64 zw13 ?_
            refine z_iload_n C dX6_fits_67 rfl (j := 2) rfl ?_
            refine z_aldR C dX6_fits_68 h (fun hr7 h => ?_)
            refine z_iload_n C dX6_fits_69 rfl (j := 3) rfl ?_
            refine z_iload C dX6_fits_70 (j := 4) rfl ?_
            obtain ⟨r8, h8, h⟩ := Option.bind_eq_some_iff.mp h
            refine z_callVi [.int a3, .int a4] [] C dX6_fits_72 (zRw_lt hr7) (zRw_ent hr7) rfl zk_X6_82 zw168 zw169 ⟨⟨by decide, by decide⟩, rfl, Nat.le_of_ble_eq_true rfl⟩ rfl (sX4_holds hr7 h8) ?_
            refine z_if_ne 84 C dX6_fits_75 (by decide) h (fun h => ?_) (fun h => ?_)
            · refine z_aload_n C dX6_fits_84 rfl (j := 0) rfl ?_
              refine z_aload_n C dX6_fits_85 rfl (j := 0) rfl ?_
              refine zg6_6 C dX6_fits_86 zw31 ?_
              refine z_aload_n C dX6_fits_89 rfl (j := 0) rfl ?_
              refine zg6_2 C dX6_fits_90 zw18 ?_
              refine z_iload_n C dX6_fits_93 rfl (j := 1) rfl ?_
              refine z_aload_n C dX6_fits_94 rfl (j := 0) rfl ?_
              refine zg6_0 C dX6_fits_95 zw13 ?_
              refine z_iload_n C dX6_fits_98 rfl (j := 2) rfl ?_
              refine z_aldR C dX6_fits_99 h (fun hr9 h => ?_)
              refine z_iload_n C dX6_fits_100 rfl (j := 3) rfl ?_
              refine z_iload C dX6_fits_101 (j := 4) rfl ?_
              refine z_iload C dX6_fits_103 (j := 5) rfl ?_
              obtain ⟨r10, h10, h⟩ := Option.bind_eq_some_iff.mp h
              refine z_callVi [.ref (E.2.1 17), .int a1, .ref (E.2.1 (42 + 2 * a2.toNatClampNeg)), .int a3, .int a4, .int a5] [.ref (E.2.1 0)] C dX6_fits_105 (by decide) zen_14 rfl zk_X6_258 zw843 zw844 ⟨⟨by decide, by decide⟩, rfl, Nat.le_of_ble_eq_true rfl⟩ rfl (sX2_whatFits zH17 hr9 h10) ?_
              obtain ⟨r11, h11, h⟩ := Option.bind_eq_some_iff.mp h
              refine z_callVi [.int r10.1] [] C dX6_fits_108 (by decide) zen_0 rfl zk_X6_75 zw133 zw134 ⟨⟨by decide, by decide⟩, rfl, Nat.le_of_ble_eq_true rfl⟩ rfl (sX6_foundNothing  h11) ?_
              have e := Option.some.inj h; subst e; exact z_iret C dX6_fits_111 Rq
            · refine z_aload_n C dX6_fits_78 rfl (j := 0) rfl ?_
              refine z_iconst (v := 2) C dX6_fits_79 zc2 ?_
              obtain ⟨r12, h12, h⟩ := Option.bind_eq_some_iff.mp h
              refine z_callVi [.int (2 : Int32)] [] C dX6_fits_80 (by decide) zen_0 rfl zk_X6_67 zw124 zw125 ⟨⟨by decide, by decide⟩, rfl, Nat.le_of_ble_eq_true rfl⟩ rfl (sX6_found  h12) ?_
              have e := Option.some.inj h; subst e; exact z_iret C dX6_fits_83 Rq
          · refine z_aload_n C dX6_fits_57 rfl (j := 0) rfl ?_
            refine z_iconst (v := 1) C dX6_fits_58 zc1 ?_
            obtain ⟨r13, h13, h⟩ := Option.bind_eq_some_iff.mp h
            refine z_callVi [.int (1 : Int32)] [] C dX6_fits_59 (by decide) zen_0 rfl zk_X6_67 zw124 zw125 ⟨⟨by decide, by decide⟩, rfl, Nat.le_of_ble_eq_true rfl⟩ rfl (sX6_found  h13) ?_
            have e := Option.some.inj h; subst e; exact z_iret C dX6_fits_62 Rq
        · refine z_ldc C dX6_fits_42 zw116 ?_
          have e := Option.some.inj h; subst e; exact z_iret C dX6_fits_44 Rq
    · refine z_ldc C dX6_fits_18 zw116 ?_
      have e := Option.some.inj h; subst e; exact z_iret C dX6_fits_20 Rq
-- X6_rain
def fX6_rain_j66  (k0 : Int32) (k1 : Int32) (k2 : Int32) (k3 : Int32) (mem : ZM) : Option (Int32 × ZM) :=
  Option.bind (fX2_ashInRain 17 k3 k2 k1 k0 mem) (fun r5 => some (r5.1, r5.2))
set_option maxRecDepth 100000 in
set_option maxHeartbeats 4000000 in
theorem jX6_rain_66 {l : Launch} {E : ZE} {Γ : ZG} (C : zC E Γ RX6 cX6_rain 5 6)  {k0 : Int32} {k1 : Int32} {k2 : Int32} {k3 : Int32}  {mem : ZM}  {t : Int32 × ZM}  (Rq : zRq E Γ (some .int) (some (.int t.1)) t.2) (h : fX6_rain_j66  k0 k1 k2 k3 mem = some t) : zG l E Γ 5 66 [] [.int k0, .int k1, .int k2, .int k3, .ref (E.2.1 17), .ref (E.2.1 14)] mem := by
  unfold fX6_rain_j66 at h
  obtain ⟨r5, h5, h⟩ := Option.bind_eq_some_iff.mp h
  refine z_callVi [.ref (E.2.1 17), .int k3, .int k2, .int k1, .int k0] [] C dX6_rain_66 (by decide) zen_14 rfl zk_X6_262 zw884 zw885 ⟨⟨by decide, by decide⟩, rfl, Nat.le_of_ble_eq_true rfl⟩ rfl (sX2_ashInRain zH17 h5) ?_
  have e := Option.some.inj h; subst e; exact z_iret C dX6_rain_69 Rq
def fX6_rain  (a1 : Int32) (a2 : Int32) (a3 : Int32) (a4 : Int32) (mem : ZM) : Option (Int32 × ZM) :=
  Option.bind (fX3_hasThing 17 a1 mem) (fun r1 => if r1 = 0 then (some ((-1000001 : Int32), mem)) else (Option.bind (fX6_isWithin a2 (0 : Int32) (60 : Int32)) (fun r2 => if r2 = 0 then (some ((-1000001 : Int32), mem)) else (Option.bind (fX6_isWithin a3 (0 : Int32) (10 : Int32)) (fun r3 => if r3 = 0 then (some ((-1000001 : Int32), mem)) else (Option.bind (fX6_isEither a4) (fun r4 => if r4 = 0 then (some ((-1000001 : Int32), mem)) else (if a4 = 0 then (fX6_rain_j66  (1 : Int32) a3 a2 a1 mem) else (fX6_rain_j66  (0 : Int32) a3 a2 a1 mem)))))))))
set_option maxRecDepth 100000 in
set_option maxHeartbeats 4000000 in
theorem sX6_rain {l : Launch} {E : ZE}  {a1 : Int32} {a2 : Int32} {a3 : Int32} {a4 : Int32} {mem : ZM} {t : Int32 × ZM} (h : fX6_rain a1 a2 a3 a4 mem = some t) : zMet l E yX6_rain cX6_rain 5 (some .int) 6 [.ref (E.2.1 0), .int a1, .int a2, .int a3, .int a4] mem (some (.int t.1)) t.2 := by
  refine z_enter (by decide) (Nat.le_of_ble_eq_true rfl) (fun Γ C Rq => ?_)
  have C : zC E Γ RX6 cX6_rain 5 6 := C
  show zG l E Γ 5 0 [(0, .ref (E.2.1 0)), (1, .int a1), (2, .int a2), (3, .int a3), (4, .int a4)] [] mem
  unfold fX6_rain at h
  refine z_aload_n C dX6_rain_0 rfl (j := 0) rfl ?_
  refine zg6_2 C dX6_rain_1 zw18 ?_
  refine z_iload_n C dX6_rain_4 rfl (j := 1) rfl ?_
  obtain ⟨r1, h1, h⟩ := Option.bind_eq_some_iff.mp h
  refine z_callVi [.int a1] [] C dX6_rain_5 (zH_lt zH17) (zH_ent zH17) rfl zk_X6_151 zw545 zw546 ⟨⟨by decide, by decide⟩, rfl, Nat.le_of_ble_eq_true rfl⟩ rfl (sX3_hasThing zH17 h1) ?_
  refine z_if_eq 21 C dX6_rain_8 (by decide) h (fun h => ?_) (fun h => ?_)
  · refine z_ldc C dX6_rain_21 zw116 ?_
    have e := Option.some.inj h; subst e; exact z_iret C dX6_rain_23 Rq
  · refine z_iload_n C dX6_rain_11 rfl (j := 2) rfl ?_
    refine z_iconst (v := 0) C dX6_rain_12 zc0 ?_
    refine z_bipush (v := 60) C dX6_rain_13 zb60 ?_
    obtain ⟨r2, h2, h⟩ := Option.bind_eq_some_iff.mp h
    refine z_callSi [.int a2, .int (0 : Int32), .int (60 : Int32)] [] C dX6_rain_15 zk_X6_212 zw121 ⟨⟨by decide, by decide⟩, rfl, Nat.le_of_ble_eq_true rfl⟩ rfl (sX6_isWithin  h2) ?_
    refine z_if_ne 24 C dX6_rain_18 (by decide) h (fun h => ?_) (fun h => ?_)
    · refine z_iload_n C dX6_rain_24 rfl (j := 3) rfl ?_
      refine z_iconst (v := 0) C dX6_rain_25 zc0 ?_
      refine z_bipush (v := 10) C dX6_rain_26 zb10 ?_
      obtain ⟨r3, h3, h⟩ := Option.bind_eq_some_iff.mp h
      refine z_callSi [.int a3, .int (0 : Int32), .int (10 : Int32)] [] C dX6_rain_28 zk_X6_212 zw121 ⟨⟨by decide, by decide⟩, rfl, Nat.le_of_ble_eq_true rfl⟩ rfl (sX6_isWithin  h3) ?_
      refine z_if_eq 42 C dX6_rain_31 (by decide) h (fun h => ?_) (fun h => ?_)
      · refine z_ldc C dX6_rain_42 zw116 ?_
        have e := Option.some.inj h; subst e; exact z_iret C dX6_rain_44 Rq
      · refine z_iload C dX6_rain_34 (j := 4) rfl ?_
        obtain ⟨r4, h4, h⟩ := Option.bind_eq_some_iff.mp h
        refine z_callSi [.int a4] [] C dX6_rain_36 zk_X6_170 zw590 ⟨⟨by decide, by decide⟩, rfl, Nat.le_of_ble_eq_true rfl⟩ rfl (sX6_isEither  h4) ?_
        refine z_if_ne 45 C dX6_rain_39 (by decide) h (fun h => ?_) (fun h => ?_)
        · refine z_aload_n C dX6_rain_45 rfl (j := 0) rfl ?_
          refine zg6_6 C dX6_rain_46 zw31 ?_
          refine z_aload_n C dX6_rain_49 rfl (j := 0) rfl ?_
          refine zg6_2 C dX6_rain_50 zw18 ?_
          refine z_iload_n C dX6_rain_53 rfl (j := 1) rfl ?_
          refine z_iload_n C dX6_rain_54 rfl (j := 2) rfl ?_
          refine z_iload_n C dX6_rain_55 rfl (j := 3) rfl ?_
          refine z_iload C dX6_rain_56 (j := 4) rfl ?_
          refine z_if_ne 65 C dX6_rain_58 (by decide) h (fun h => ?_) (fun h => ?_)
          · refine z_iconst (v := 0) C dX6_rain_65 zc0 ?_
            refine z_pick [] rfl ?_
            exact jX6_rain_66 C   Rq h
          · refine z_iconst (v := 1) C dX6_rain_61 zc1 ?_
            refine z_goto 66 C dX6_rain_62 (by decide) ?_
            refine z_pick [] rfl ?_
            exact jX6_rain_66 C   Rq h
        · refine z_ldc C dX6_rain_42 zw116 ?_
          have e := Option.some.inj h; subst e; exact z_iret C dX6_rain_44 Rq
    · refine z_ldc C dX6_rain_21 zw116 ?_
      have e := Option.some.inj h; subst e; exact z_iret C dX6_rain_23 Rq
