-- X6_drawn
def fX6_drawn  (a1 : Int32) (a2 : Int32) (a3 : Int32) (mem : ZM) : Option (Int32 × ZM) :=
  Option.bind (fX3_isNone 17 mem) (fun r1 => if r1 = 0 then (Option.bind (fX6_isWithin a1 (0 : Int32) (60 : Int32)) (fun r2 => if r2 = 0 then (some ((-1000001 : Int32), mem)) else (Option.bind (fX6_isWithin a2 (1 : Int32) (999999 : Int32)) (fun r3 => if r3 = 0 then (some ((-1000001 : Int32), mem)) else (Option.bind (fX6_isEither a3) (fun r4 => if r4 = 0 then (some ((-1000001 : Int32), mem)) else (Option.bind (fX2_yearByDraws 17 a1 a2 mem) (fun r5 => if a3 = 0 then (Option.bind (fX3_ashes 37 r5) (fun r6 => Option.bind (fJ6_bitCount_0f7a4 r6) (fun r7 => some (r7, r5)))) else (some (r5 37 8, r5)))))))))) else (some ((-1000002 : Int32), mem)))
set_option maxRecDepth 100000 in
set_option maxHeartbeats 4000000 in
theorem sX6_drawn {l : Launch} {E : ZE}  {a1 : Int32} {a2 : Int32} {a3 : Int32} {mem : ZM} {t : Int32 × ZM} (h : fX6_drawn a1 a2 a3 mem = some t) : zMet l E yX6_drawn cX6_drawn 5 (some .int) 5 [.ref (E.2.1 0), .int a1, .int a2, .int a3] mem (some (.int t.1)) t.2 := by
  refine z_enter (by decide) (Nat.le_of_ble_eq_true rfl) (fun Γ C Rq => ?_)
  have C : zC E Γ RX6 cX6_drawn 5 5 := C
  show zG l E Γ 5 0 [(0, .ref (E.2.1 0)), (1, .int a1), (2, .int a2), (3, .int a3)] [] mem
  unfold fX6_drawn at h
  refine z_aload_n C dX6_drawn_0 rfl (j := 0) rfl ?_
  refine zg6_2 C dX6_drawn_1 zw18 ?_
  obtain ⟨r1, h1, h⟩ := Option.bind_eq_some_iff.mp h
  refine z_callVi [] [] C dX6_drawn_4 (zH_lt zH17) (zH_ent zH17) rfl zk_X6_135 zw421 zw422 ⟨⟨by decide, by decide⟩, rfl, Nat.le_of_ble_eq_true rfl⟩ rfl (sX3_isNone zH17 h1) ?_
  refine z_if_eq 13 C dX6_drawn_7 (by decide) h (fun h => ?_) (fun h => ?_)
  · refine z_iload_n C dX6_drawn_13 rfl (j := 1) rfl ?_
    refine z_iconst (v := 0) C dX6_drawn_14 zc0 ?_
    refine z_bipush (v := 60) C dX6_drawn_15 zb60 ?_
    obtain ⟨r2, h2, h⟩ := Option.bind_eq_some_iff.mp h
    refine z_callSi [.int a1, .int (0 : Int32), .int (60 : Int32)] [] C dX6_drawn_17 zk_X6_212 zw121 ⟨⟨by decide, by decide⟩, rfl, Nat.le_of_ble_eq_true rfl⟩ rfl (sX6_isWithin  h2) ?_
    refine z_if_eq 41 C dX6_drawn_20 (by decide) h (fun h => ?_) (fun h => ?_)
    · refine z_ldc C dX6_drawn_41 zw116 ?_
      have e := Option.some.inj h; subst e; exact z_iret C dX6_drawn_43 Rq
    · refine z_iload_n C dX6_drawn_23 rfl (j := 2) rfl ?_
      refine z_iconst (v := 1) C dX6_drawn_24 zc1 ?_
      refine z_ldcw C dX6_drawn_25 zw906 ?_
      obtain ⟨r3, h3, h⟩ := Option.bind_eq_some_iff.mp h
      refine z_callSi [.int a2, .int (1 : Int32), .int (999999 : Int32)] [] C dX6_drawn_28 zk_X6_212 zw121 ⟨⟨by decide, by decide⟩, rfl, Nat.le_of_ble_eq_true rfl⟩ rfl (sX6_isWithin  h3) ?_
      refine z_if_eq 41 C dX6_drawn_31 (by decide) h (fun h => ?_) (fun h => ?_)
      · refine z_ldc C dX6_drawn_41 zw116 ?_
        have e := Option.some.inj h; subst e; exact z_iret C dX6_drawn_43 Rq
      · refine z_iload_n C dX6_drawn_34 rfl (j := 3) rfl ?_
        obtain ⟨r4, h4, h⟩ := Option.bind_eq_some_iff.mp h
        refine z_callSi [.int a3] [] C dX6_drawn_35 zk_X6_170 zw590 ⟨⟨by decide, by decide⟩, rfl, Nat.le_of_ble_eq_true rfl⟩ rfl (sX6_isEither  h4) ?_
        refine z_if_ne 44 C dX6_drawn_38 (by decide) h (fun h => ?_) (fun h => ?_)
        · refine z_aload_n C dX6_drawn_44 rfl (j := 0) rfl ?_
          refine zg6_6 C dX6_drawn_45 zw31 ?_
          refine z_aload_n C dX6_drawn_48 rfl (j := 0) rfl ?_
          refine zg6_2 C dX6_drawn_49 zw18 ?_
          refine z_iload_n C dX6_drawn_52 rfl (j := 1) rfl ?_
          refine z_iload_n C dX6_drawn_53 rfl (j := 2) rfl ?_
          obtain ⟨r5, h5, h⟩ := Option.bind_eq_some_iff.mp h
          refine z_callVi [.ref (E.2.1 17), .int a1, .int a2] [] C dX6_drawn_54 (by decide) zen_14 rfl zk_X6_267 zw908 zw909 ⟨⟨by decide, by decide⟩, rfl, Nat.le_of_ble_eq_true rfl⟩ rfl (sX2_yearByDraws zH17 h5) ?_
          refine z_astore [(0, .ref (E.2.1 0)), (1, .int a1), (2, .int a2), (3, .int a3)] C dX6_drawn_57 (by decide) rfl ?_
          refine z_iload_n C dX6_drawn_59 rfl (j := 4) rfl ?_
          refine z_if_ne 74 C dX6_drawn_60 (by decide) h (fun h => ?_) (fun h => ?_)
          · refine z_aload C dX6_drawn_74 (j := 0) rfl ?_
            refine zg3_8 C dX6_drawn_76 zH37 zw709 ?_
            have e := Option.some.inj h; subst e; exact z_iret C dX6_drawn_79 Rq
          · refine z_aload C dX6_drawn_63 (j := 0) rfl ?_
            obtain ⟨r6, h6, h⟩ := Option.bind_eq_some_iff.mp h
            refine z_callVi [] [] C dX6_drawn_65 (zH_lt zH37) (zH_ent zH37) rfl zk_X6_271 zw760 zw761 ⟨⟨by decide, by decide⟩, rfl, Nat.le_of_ble_eq_true rfl⟩ rfl (sX3_ashes zH37 h6) ?_
            obtain ⟨r7, h7, h⟩ := Option.bind_eq_some_iff.mp h
            refine z_callSi [.int r6] [] C dX6_drawn_68 zk_X6_246 zw467 ⟨⟨by decide, by decide⟩, rfl, Nat.le_of_ble_eq_true rfl⟩ rfl (sJ6_bitCount_0f7a4  h7) ?_
            refine z_goto 79 C dX6_drawn_71 (by decide) ?_
            have e := Option.some.inj h; subst e; exact z_iret C dX6_drawn_79 Rq
        · refine z_ldc C dX6_drawn_41 zw116 ?_
          have e := Option.some.inj h; subst e; exact z_iret C dX6_drawn_43 Rq
  · refine z_ldc C dX6_drawn_10 zw417 ?_
    have e := Option.some.inj h; subst e; exact z_iret C dX6_drawn_12 Rq
-- X6_image
def fX6_image  (a1 : Int32) (mem : ZM) : Option (Int32 × ZM) :=
  Option.bind (fX6_isWithin a1 (0 : Int32) (1 : Int32)) (fun r1 => if r1 = 0 then (some ((-1000001 : Int32), mem)) else (Option.bind (fX3_isNone 17 mem) (fun r2 => if r2 = 0 then (zgd (zin a1 2) (Option.bind (fX3_takeFrom (27 + 5 * a1.toNatClampNeg) 17 mem) (fun r4 => some ((1 : Int32), r4)))) else (some ((-1000002 : Int32), mem)))))
set_option maxRecDepth 100000 in
set_option maxHeartbeats 4000000 in
theorem sX6_image {l : Launch} {E : ZE}  {a1 : Int32} {mem : ZM} {t : Int32 × ZM} (h : fX6_image a1 mem = some t) : zMet l E yX6_image cX6_image 2 (some .int) 2 [.ref (E.2.1 0), .int a1] mem (some (.int t.1)) t.2 := by
  refine z_enter (by decide) (Nat.le_of_ble_eq_true rfl) (fun Γ C Rq => ?_)
  have C : zC E Γ RX6 cX6_image 2 2 := C
  show zG l E Γ 2 0 [(0, .ref (E.2.1 0)), (1, .int a1)] [] mem
  unfold fX6_image at h
  refine z_iload_n C dX6_image_0 rfl (j := 1) rfl ?_
  refine z_iconst (v := 0) C dX6_image_1 zc0 ?_
  refine z_iconst (v := 1) C dX6_image_2 zc1 ?_
  obtain ⟨r1, h1, h⟩ := Option.bind_eq_some_iff.mp h
  refine z_callSi [.int a1, .int (0 : Int32), .int (1 : Int32)] [] C dX6_image_3 zk_X6_212 zw121 ⟨⟨by decide, by decide⟩, rfl, Nat.le_of_ble_eq_true rfl⟩ rfl (sX6_isWithin  h1) ?_
  refine z_if_ne 12 C dX6_image_6 (by decide) h (fun h => ?_) (fun h => ?_)
  · refine z_aload_n C dX6_image_12 rfl (j := 0) rfl ?_
    refine zg6_2 C dX6_image_13 zw18 ?_
    obtain ⟨r2, h2, h⟩ := Option.bind_eq_some_iff.mp h
    refine z_callVi [] [] C dX6_image_16 (zH_lt zH17) (zH_ent zH17) rfl zk_X6_135 zw421 zw422 ⟨⟨by decide, by decide⟩, rfl, Nat.le_of_ble_eq_true rfl⟩ rfl (sX3_isNone zH17 h2) ?_
    refine z_if_eq 25 C dX6_image_19 (by decide) h (fun h => ?_) (fun h => ?_)
    · refine z_aload_n C dX6_image_25 rfl (j := 0) rfl ?_
      refine zg6_1 C dX6_image_26 zw15 ?_
      refine z_iload_n C dX6_image_29 rfl (j := 1) rfl ?_
      refine z_aldH C dX6_image_30 h (fun hr3 h => ?_)
      refine z_aload_n C dX6_image_31 rfl (j := 0) rfl ?_
      refine zg6_2 C dX6_image_32 zw18 ?_
      obtain ⟨r4, h4, h⟩ := Option.bind_eq_some_iff.mp h
      refine z_callVv [.ref (E.2.1 17)] [] C dX6_image_35 (zH_lt hr3) (zH_ent hr3) rfl zk_X6_122 zw352 zw353 ⟨⟨by decide, by decide⟩, rfl, Nat.le_of_ble_eq_true rfl⟩ rfl (sX3_takeFrom hr3 zH17 h4) ?_
      refine z_iconst (v := 1) C dX6_image_38 zc1 ?_
      have e := Option.some.inj h; subst e; exact z_iret C dX6_image_39 Rq
    · refine z_ldc C dX6_image_22 zw417 ?_
      have e := Option.some.inj h; subst e; exact z_iret C dX6_image_24 Rq
  · refine z_ldc C dX6_image_9 zw116 ?_
    have e := Option.some.inj h; subst e; exact z_iret C dX6_image_11 Rq
-- X6_restore
def fX6_restore  (a1 : Int32) (mem : ZM) : Option (Int32 × ZM) :=
  Option.bind (fX6_isWithin a1 (0 : Int32) (1 : Int32)) (fun r1 => if r1 = 0 then (some ((-1000001 : Int32), mem)) else (zgd (zin a1 2) (Option.bind (fX3_isNone (27 + 5 * a1.toNatClampNeg) mem) (fun r3 => if r3 = 0 then (zgd (zin a1 2) (Option.bind (fX3_takeFrom 17 (27 + 5 * a1.toNatClampNeg) mem) (fun r5 => Option.bind (fX0_forget r5) (fun r6 => some ((1 : Int32), r6))))) else (some ((-1000002 : Int32), mem))))))
set_option maxRecDepth 100000 in
set_option maxHeartbeats 4000000 in
theorem sX6_restore {l : Launch} {E : ZE}  {a1 : Int32} {mem : ZM} {t : Int32 × ZM} (h : fX6_restore a1 mem = some t) : zMet l E yX6_restore cX6_restore 2 (some .int) 2 [.ref (E.2.1 0), .int a1] mem (some (.int t.1)) t.2 := by
  refine z_enter (by decide) (Nat.le_of_ble_eq_true rfl) (fun Γ C Rq => ?_)
  have C : zC E Γ RX6 cX6_restore 2 2 := C
  show zG l E Γ 2 0 [(0, .ref (E.2.1 0)), (1, .int a1)] [] mem
  unfold fX6_restore at h
  refine z_iload_n C dX6_restore_0 rfl (j := 1) rfl ?_
  refine z_iconst (v := 0) C dX6_restore_1 zc0 ?_
  refine z_iconst (v := 1) C dX6_restore_2 zc1 ?_
  obtain ⟨r1, h1, h⟩ := Option.bind_eq_some_iff.mp h
  refine z_callSi [.int a1, .int (0 : Int32), .int (1 : Int32)] [] C dX6_restore_3 zk_X6_212 zw121 ⟨⟨by decide, by decide⟩, rfl, Nat.le_of_ble_eq_true rfl⟩ rfl (sX6_isWithin  h1) ?_
  refine z_if_ne 12 C dX6_restore_6 (by decide) h (fun h => ?_) (fun h => ?_)
  · refine z_aload_n C dX6_restore_12 rfl (j := 0) rfl ?_
    refine zg6_1 C dX6_restore_13 zw15 ?_
    refine z_iload_n C dX6_restore_16 rfl (j := 1) rfl ?_
    refine z_aldH C dX6_restore_17 h (fun hr2 h => ?_)
    obtain ⟨r3, h3, h⟩ := Option.bind_eq_some_iff.mp h
    refine z_callVi [] [] C dX6_restore_18 (zH_lt hr2) (zH_ent hr2) rfl zk_X6_135 zw421 zw422 ⟨⟨by decide, by decide⟩, rfl, Nat.le_of_ble_eq_true rfl⟩ rfl (sX3_isNone hr2 h3) ?_
    refine z_if_eq 27 C dX6_restore_21 (by decide) h (fun h => ?_) (fun h => ?_)
    · refine z_aload_n C dX6_restore_27 rfl (j := 0) rfl ?_
      refine zg6_2 C dX6_restore_28 zw18 ?_
      refine z_aload_n C dX6_restore_31 rfl (j := 0) rfl ?_
      refine zg6_1 C dX6_restore_32 zw15 ?_
      refine z_iload_n C dX6_restore_35 rfl (j := 1) rfl ?_
      refine z_aldH C dX6_restore_36 h (fun hr4 h => ?_)
      obtain ⟨r5, h5, h⟩ := Option.bind_eq_some_iff.mp h
      refine z_callVv [.ref (E.2.1 (27 + 5 * a1.toNatClampNeg))] [] C dX6_restore_37 (zH_lt zH17) (zH_ent zH17) rfl zk_X6_122 zw352 zw353 ⟨⟨by decide, by decide⟩, rfl, Nat.le_of_ble_eq_true rfl⟩ rfl (sX3_takeFrom zH17 hr4 h5) ?_
      refine z_aload_n C dX6_restore_40 rfl (j := 0) rfl ?_
      refine zg6_5 C dX6_restore_41 zw27 ?_
      obtain ⟨r6, h6, h⟩ := Option.bind_eq_some_iff.mp h
      refine z_callVv [] [] C dX6_restore_44 (by decide) zen_5 rfl zk_X6_126 zw357 zw358 ⟨⟨by decide, by decide⟩, rfl, Nat.le_of_ble_eq_true rfl⟩ rfl (sX0_forget  h6) ?_
      refine z_iconst (v := 1) C dX6_restore_47 zc1 ?_
      have e := Option.some.inj h; subst e; exact z_iret C dX6_restore_48 Rq
    · refine z_ldc C dX6_restore_24 zw417 ?_
      have e := Option.some.inj h; subst e; exact z_iret C dX6_restore_26 Rq
  · refine z_ldc C dX6_restore_9 zw116 ?_
    have e := Option.some.inj h; subst e; exact z_iret C dX6_restore_11 Rq
-- X6_kind
def fX6_kind  (a1 : Int32) (mem : ZM) : Option (Int32) :=
  Option.bind (fX3_hasThing 17 a1 mem) (fun r1 => if r1 = 0 then (some (-1000001 : Int32)) else (zgd (zin a1 8) (some (mem (17 + 1) a1.toNatClampNeg))))
set_option maxRecDepth 100000 in
set_option maxHeartbeats 4000000 in
theorem sX6_kind {l : Launch} {E : ZE}  {a1 : Int32} {mem : ZM} {t : Int32} (h : fX6_kind a1 mem = some t) : zMet l E yX6_kind cX6_kind 2 (some .int) 1 [.ref (E.2.1 0), .int a1] mem (some (.int t)) mem := by
  refine z_enter (by decide) (Nat.le_of_ble_eq_true rfl) (fun Γ C Rq => ?_)
  have C : zC E Γ RX6 cX6_kind 2 1 := C
  show zG l E Γ 2 0 [(0, .ref (E.2.1 0)), (1, .int a1)] [] mem
  unfold fX6_kind at h
  refine z_aload_n C dX6_kind_0 rfl (j := 0) rfl ?_
  refine zg6_2 C dX6_kind_1 zw18 ?_
  refine z_iload_n C dX6_kind_4 rfl (j := 1) rfl ?_
  obtain ⟨r1, h1, h⟩ := Option.bind_eq_some_iff.mp h
  refine z_callVi [.int a1] [] C dX6_kind_5 (zH_lt zH17) (zH_ent zH17) rfl zk_X6_151 zw545 zw546 ⟨⟨by decide, by decide⟩, rfl, Nat.le_of_ble_eq_true rfl⟩ rfl (sX3_hasThing zH17 h1) ?_
  refine z_if_eq 23 C dX6_kind_8 (by decide) h (fun h => ?_) (fun h => ?_)
  · refine z_ldc C dX6_kind_23 zw116 ?_
    have e := Option.some.inj h; subst e; exact z_iret C dX6_kind_25 Rq
  · refine z_aload_n C dX6_kind_11 rfl (j := 0) rfl ?_
    refine zg6_2 C dX6_kind_12 zw18 ?_
    refine zg3_1 C dX6_kind_15 zH17 zw957 ?_
    refine z_iload_n C dX6_kind_18 rfl (j := 1) rfl ?_
    refine z_iald C dX6_kind_19 (zH_ar1 zH17) h (fun h => ?_)
    refine z_goto 25 C dX6_kind_20 (by decide) ?_
    have e := Option.some.inj h; subst e; exact z_iret C dX6_kind_25 Rq
-- X6_as
def fX6_as  (a1 : Int32) (a2 : Int32) (mem : ZM) : Option (Int32 × ZM) :=
  Option.bind (fX3_hasThing 17 a1 mem) (fun r1 => if r1 = 0 then (some ((-1000001 : Int32), mem)) else (Option.bind (fX6_isWithin a2 (0 : Int32) (5 : Int32)) (fun r2 => if r2 = 0 then (some ((-1000001 : Int32), mem)) else (zgd (zin a1 8) (Option.bind (fX6_isOfKind (mem (17 + 1) a1.toNatClampNeg) a2) (fun r3 => if r3 = 0 then (Option.bind (fX6_found (3 : Int32) mem) (fun r4 => some (r4.1, r4.2))) else (Option.bind (fX6_foundNothing a1 mem) (fun r5 => some (r5.1, r5.2)))))))))
set_option maxRecDepth 100000 in
set_option maxHeartbeats 4000000 in
theorem sX6_as {l : Launch} {E : ZE}  {a1 : Int32} {a2 : Int32} {mem : ZM} {t : Int32 × ZM} (h : fX6_as a1 a2 mem = some t) : zMet l E yX6_as cX6_as 3 (some .int) 2 [.ref (E.2.1 0), .int a1, .int a2] mem (some (.int t.1)) t.2 := by
  refine z_enter (by decide) (Nat.le_of_ble_eq_true rfl) (fun Γ C Rq => ?_)
  have C : zC E Γ RX6 cX6_as 3 2 := C
  show zG l E Γ 3 0 [(0, .ref (E.2.1 0)), (1, .int a1), (2, .int a2)] [] mem
  unfold fX6_as at h
  refine z_aload_n C dX6_as_0 rfl (j := 0) rfl ?_
  refine zg6_2 C dX6_as_1 zw18 ?_
  refine z_iload_n C dX6_as_4 rfl (j := 1) rfl ?_
  obtain ⟨r1, h1, h⟩ := Option.bind_eq_some_iff.mp h
  refine z_callVi [.int a1] [] C dX6_as_5 (zH_lt zH17) (zH_ent zH17) rfl zk_X6_151 zw545 zw546 ⟨⟨by decide, by decide⟩, rfl, Nat.le_of_ble_eq_true rfl⟩ rfl (sX3_hasThing zH17 h1) ?_
  refine z_if_eq 20 C dX6_as_8 (by decide) h (fun h => ?_) (fun h => ?_)
  · refine z_ldc C dX6_as_20 zw116 ?_
    have e := Option.some.inj h; subst e; exact z_iret C dX6_as_22 Rq
  · refine z_iload_n C dX6_as_11 rfl (j := 2) rfl ?_
    refine z_iconst (v := 0) C dX6_as_12 zc0 ?_
    refine z_iconst (v := 5) C dX6_as_13 zc5 ?_
    obtain ⟨r2, h2, h⟩ := Option.bind_eq_some_iff.mp h
    refine z_callSi [.int a2, .int (0 : Int32), .int (5 : Int32)] [] C dX6_as_14 zk_X6_212 zw121 ⟨⟨by decide, by decide⟩, rfl, Nat.le_of_ble_eq_true rfl⟩ rfl (sX6_isWithin  h2) ?_
    refine z_if_ne 23 C dX6_as_17 (by decide) h (fun h => ?_) (fun h => ?_)
    · refine z_aload_n C dX6_as_23 rfl (j := 0) rfl ?_
      refine zg6_2 C dX6_as_24 zw18 ?_
      refine zg3_1 C dX6_as_27 zH17 zw957 ?_
      refine z_iload_n C dX6_as_30 rfl (j := 1) rfl ?_
      refine z_iald C dX6_as_31 (zH_ar1 zH17) h (fun h => ?_)
      refine z_iload_n C dX6_as_32 rfl (j := 2) rfl ?_
      obtain ⟨r3, h3, h⟩ := Option.bind_eq_some_iff.mp h
      refine z_callSi [.int (mem (17 + 1) a1.toNatClampNeg), .int a2] [] C dX6_as_33 zk_X6_277 zw856 ⟨⟨by decide, by decide⟩, rfl, Nat.le_of_ble_eq_true rfl⟩ rfl (sX6_isOfKind  h3) ?_
      refine z_if_eq 47 C dX6_as_36 (by decide) h (fun h => ?_) (fun h => ?_)
      · refine z_aload_n C dX6_as_47 rfl (j := 0) rfl ?_
        refine z_iconst (v := 3) C dX6_as_48 zc3 ?_
        obtain ⟨r4, h4, h⟩ := Option.bind_eq_some_iff.mp h
        refine z_callVi [.int (3 : Int32)] [] C dX6_as_49 (by decide) zen_0 rfl zk_X6_67 zw124 zw125 ⟨⟨by decide, by decide⟩, rfl, Nat.le_of_ble_eq_true rfl⟩ rfl (sX6_found  h4) ?_
        have e := Option.some.inj h; subst e; exact z_iret C dX6_as_52 Rq
      · refine z_aload_n C dX6_as_39 rfl (j := 0) rfl ?_
        refine z_iload_n C dX6_as_40 rfl (j := 1) rfl ?_
        obtain ⟨r5, h5, h⟩ := Option.bind_eq_some_iff.mp h
        refine z_callVi [.int a1] [] C dX6_as_41 (by decide) zen_0 rfl zk_X6_75 zw133 zw134 ⟨⟨by decide, by decide⟩, rfl, Nat.le_of_ble_eq_true rfl⟩ rfl (sX6_foundNothing  h5) ?_
        refine z_goto 52 C dX6_as_44 (by decide) ?_
        have e := Option.some.inj h; subst e; exact z_iret C dX6_as_52 Rq
    · refine z_ldc C dX6_as_20 zw116 ?_
      have e := Option.some.inj h; subst e; exact z_iret C dX6_as_22 Rq
-- X6_ask
def fX6_ask_j39  (k0 : Int32) (k1 : Int32) (mem : ZM) : Option (Int32 × ZM) :=
  Option.bind (fX1_answer 17 k1 k0 mem) (fun r3 => some (r3.1, r3.2))
set_option maxRecDepth 100000 in
set_option maxHeartbeats 4000000 in
theorem jX6_ask_39 {l : Launch} {E : ZE} {Γ : ZG} (C : zC E Γ RX6 cX6_ask 3 10)  {k0 : Int32} {k1 : Int32}  {mem : ZM}  {t : Int32 × ZM}  (Rq : zRq E Γ (some .int) (some (.int t.1)) t.2) (h : fX6_ask_j39  k0 k1 mem = some t) : zG l E Γ 3 39 [] [.int k0, .int k1, .ref (E.2.1 17), .ref (E.2.1 15)] mem := by
  unfold fX6_ask_j39 at h
  obtain ⟨r3, h3, h⟩ := Option.bind_eq_some_iff.mp h
  refine z_callVi [.ref (E.2.1 17), .int k1, .int k0] [] C dX6_ask_39 (by decide) zen_15 rfl zk_X6_280 zw979 zw980 ⟨⟨by decide, by decide⟩, rfl, Nat.le_of_ble_eq_true rfl⟩ rfl (sX1_answer zH17 h3) ?_
  have e := Option.some.inj h; subst e; exact z_iret C dX6_ask_42 Rq
def fX6_ask  (a1 : Int32) (a2 : Int32) (mem : ZM) : Option (Int32 × ZM) :=
  Option.bind (fX3_hasThing 17 a1 mem) (fun r1 => if r1 = 0 then (some ((-1000001 : Int32), mem)) else (Option.bind (fX6_isEither a2) (fun r2 => if r2 = 0 then (some ((-1000001 : Int32), mem)) else (if a2 = 0 then (fX6_ask_j39  (1 : Int32) a1 mem) else (fX6_ask_j39  (0 : Int32) a1 mem)))))
set_option maxRecDepth 100000 in
set_option maxHeartbeats 4000000 in
theorem sX6_ask {l : Launch} {E : ZE}  {a1 : Int32} {a2 : Int32} {mem : ZM} {t : Int32 × ZM} (h : fX6_ask a1 a2 mem = some t) : zMet l E yX6_ask cX6_ask 3 (some .int) 10 [.ref (E.2.1 0), .int a1, .int a2] mem (some (.int t.1)) t.2 := by
  refine z_enter (by decide) (Nat.le_of_ble_eq_true rfl) (fun Γ C Rq => ?_)
  have C : zC E Γ RX6 cX6_ask 3 10 := C
  show zG l E Γ 3 0 [(0, .ref (E.2.1 0)), (1, .int a1), (2, .int a2)] [] mem
  unfold fX6_ask at h
  refine z_aload_n C dX6_ask_0 rfl (j := 0) rfl ?_
  refine zg6_2 C dX6_ask_1 zw18 ?_
  refine z_iload_n C dX6_ask_4 rfl (j := 1) rfl ?_
  obtain ⟨r1, h1, h⟩ := Option.bind_eq_some_iff.mp h
  refine z_callVi [.int a1] [] C dX6_ask_5 (zH_lt zH17) (zH_ent zH17) rfl zk_X6_151 zw545 zw546 ⟨⟨by decide, by decide⟩, rfl, Nat.le_of_ble_eq_true rfl⟩ rfl (sX3_hasThing zH17 h1) ?_
  refine z_if_eq 18 C dX6_ask_8 (by decide) h (fun h => ?_) (fun h => ?_)
  · refine z_ldc C dX6_ask_18 zw116 ?_
    have e := Option.some.inj h; subst e; exact z_iret C dX6_ask_20 Rq
  · refine z_iload_n C dX6_ask_11 rfl (j := 2) rfl ?_
    obtain ⟨r2, h2, h⟩ := Option.bind_eq_some_iff.mp h
    refine z_callSi [.int a2] [] C dX6_ask_12 zk_X6_170 zw590 ⟨⟨by decide, by decide⟩, rfl, Nat.le_of_ble_eq_true rfl⟩ rfl (sX6_isEither  h2) ?_
    refine z_if_ne 21 C dX6_ask_15 (by decide) h (fun h => ?_) (fun h => ?_)
    · refine z_aload_n C dX6_ask_21 rfl (j := 0) rfl ?_
      refine zg6_7 C dX6_ask_22 zw35 ?_
      refine z_aload_n C dX6_ask_25 rfl (j := 0) rfl ?_
      refine zg6_2 C dX6_ask_26 zw18 ?_
      refine z_iload_n C dX6_ask_29 rfl (j := 1) rfl ?_
      refine z_iload_n C dX6_ask_30 rfl (j := 2) rfl ?_
      refine z_if_ne 38 C dX6_ask_31 (by decide) h (fun h => ?_) (fun h => ?_)
      · refine z_iconst (v := 0) C dX6_ask_38 zc0 ?_
        refine z_pick [] rfl ?_
        exact jX6_ask_39 C   Rq h
      · refine z_iconst (v := 1) C dX6_ask_34 zc1 ?_
        refine z_goto 39 C dX6_ask_35 (by decide) ?_
        refine z_pick [] rfl ?_
        exact jX6_ask_39 C   Rq h
    · refine z_ldc C dX6_ask_18 zw116 ?_
      have e := Option.some.inj h; subst e; exact z_iret C dX6_ask_20 Rq
-- X6_trace
def fX6_trace  (a1 : Int32) (mem : ZM) : Option (Int32) :=
  Option.bind (fX6_isWithin a1 (0 : Int32) ((mem 15 1) - (1 : Int32))) (fun r1 => if r1 = 0 then (some (-1000000 : Int32)) else (zgd (zin a1 16) (some (mem 16 a1.toNatClampNeg))))
set_option maxRecDepth 100000 in
set_option maxHeartbeats 4000000 in
theorem sX6_trace {l : Launch} {E : ZE}  {a1 : Int32} {mem : ZM} {t : Int32} (h : fX6_trace a1 mem = some t) : zMet l E yX6_trace cX6_trace 2 (some .int) 1 [.ref (E.2.1 0), .int a1] mem (some (.int t)) mem := by
  refine z_enter (by decide) (Nat.le_of_ble_eq_true rfl) (fun Γ C Rq => ?_)
  have C : zC E Γ RX6 cX6_trace 2 1 := C
  show zG l E Γ 2 0 [(0, .ref (E.2.1 0)), (1, .int a1)] [] mem
  unfold fX6_trace at h
  refine z_iload_n C dX6_trace_0 rfl (j := 1) rfl ?_
  refine z_iconst (v := 0) C dX6_trace_1 zc0 ?_
  refine z_aload_n C dX6_trace_2 rfl (j := 0) rfl ?_
  refine zg6_7 C dX6_trace_3 zw35 ?_
  refine zg1_1 C dX6_trace_6 zw1078 ?_
  refine z_iconst (v := 1) C dX6_trace_9 zc1 ?_
  refine z_isub C dX6_trace_10 ?_
  obtain ⟨r1, h1, h⟩ := Option.bind_eq_some_iff.mp h
  refine z_callSi [.int a1, .int (0 : Int32), .int ((mem 15 1) - (1 : Int32))] [] C dX6_trace_11 zk_X6_212 zw121 ⟨⟨by decide, by decide⟩, rfl, Nat.le_of_ble_eq_true rfl⟩ rfl (sX6_isWithin  h1) ?_
  refine z_if_eq 29 C dX6_trace_14 (by decide) h (fun h => ?_) (fun h => ?_)
  · refine z_ldc C dX6_trace_29 zw775 ?_
    have e := Option.some.inj h; subst e; exact z_iret C dX6_trace_31 Rq
  · refine z_aload_n C dX6_trace_17 rfl (j := 0) rfl ?_
    refine zg6_7 C dX6_trace_18 zw35 ?_
    refine zg1_0 C dX6_trace_21 zw1079 ?_
    refine z_iload_n C dX6_trace_24 rfl (j := 1) rfl ?_
    refine z_iald C dX6_trace_25 zar16 h (fun h => ?_)
    refine z_goto 31 C dX6_trace_26 (by decide) ?_
    have e := Option.some.inj h; subst e; exact z_iret C dX6_trace_31 Rq
-- X6_rowsThere
def fX6_rowsThere_j25  (x1 : Int32) (x2 : Int32) (mem4 : ZM) : Option ((Int32 × Int32) ⊕ (Int32 × Int32)) :=
  zlet (x2 + (1 : Int32)) (fun v6 => some (Sum.inl (x1, v6)))
set_option maxRecDepth 100000 in
set_option maxHeartbeats 4000000 in
theorem jX6_rowsThere_25 {l : Launch} {E : ZE} {Γ : ZG} (C : zC E Γ RX6 cX6_rowsThere 3 1)  {x1 : Int32} {x2 : Int32}  {mem4 : ZM}  {u : (Int32 × Int32) ⊕ (Int32 × Int32)}  (G1 : ∀ s', u = Sum.inl s' → zG l E Γ 3 4 [(0, .ref (E.2.1 0)), (1, .int (s'.1)), (2, .int (s'.2))] [] mem4) (G2 : ∀ s', u = Sum.inr s' → zG l E Γ 3 31 [(1, .int (s'.1))] [] mem4) (h : fX6_rowsThere_j25  x1 x2 mem4 = some u) : zG l E Γ 3 25 [(0, .ref (E.2.1 0)), (1, .int x1), (2, .int x2)] [] mem4 := by
  unfold fX6_rowsThere_j25 at h
  refine z_iinc [(0, .ref (E.2.1 0)), (1, .int x1)] C dX6_rowsThere_25 zc1 h (j := 2) rfl (by decide) rfl (fun v6 h => ?_)
  refine z_goto 4 C dX6_rowsThere_28 (by decide) ?_
  refine z_pick [1, 2, 0] rfl ?_
  exact G1 _ (Option.some.inj h).symm
def fX6_rowsThere_b4   (mem4 : ZM) (x4_1 : Int32) (x4_2 : Int32) : Option ((Int32 × Int32) ⊕ (Int32 × Int32)) :=
  if (8 : Int32) ≤ x4_2 then (some (Sum.inr (x4_1, x4_2))) else (zgd (zin x4_2 8) (Option.bind (fX4_isMissing (42 + 2 * x4_2.toNatClampNeg) mem4) (fun r5 => if r5 = 0 then (zlet (x4_1 + (1 : Int32)) (fun v7 => fX6_rowsThere_j25  v7 x4_2 mem4)) else (fX6_rowsThere_j25  x4_1 x4_2 mem4))))
def fX6_rowsThere_l4   (mem4 : ZM) (s : Int32 × Int32) : Option (Int32 × Int32) := ziter (fun s => fX6_rowsThere_b4 mem4 s.1 s.2) 2000 s
set_option maxRecDepth 100000 in
set_option maxHeartbeats 4000000 in
theorem bX6_rowsThere_4 {l : Launch} {E : ZE} {Γ : ZG} (C : zC E Γ RX6 cX6_rowsThere 3 1)   {mem4 : ZM} {x4_1 : Int32} {x4_2 : Int32} {u : (Int32 × Int32) ⊕ (Int32 × Int32)} (G1 : ∀ s', u = Sum.inl s' → zG l E Γ 3 4 [(0, .ref (E.2.1 0)), (1, .int (s'.1)), (2, .int (s'.2))] [] mem4) (G2 : ∀ s', u = Sum.inr s' → zG l E Γ 3 31 [(1, .int (s'.1))] [] mem4) (h : fX6_rowsThere_b4 mem4 x4_1 x4_2 = some u) : zG l E Γ 3 4 [(0, .ref (E.2.1 0)), (1, .int x4_1), (2, .int x4_2)] [] mem4 := by
  unfold fX6_rowsThere_b4 at h
  refine z_iload_n C dX6_rowsThere_4 rfl (j := 2) rfl ?_
  refine z_bipush (v := 8) C dX6_rowsThere_5 zb8 ?_
  refine z_icmp_ge 31 C dX6_rowsThere_7 (by decide) h (fun h => ?_) (fun h => ?_)
  · refine z_pick [1] rfl ?_
    exact G2 _ (Option.some.inj h).symm
  · refine z_aload_n C dX6_rowsThere_10 rfl (j := 0) rfl ?_
    refine zg6_0 C dX6_rowsThere_11 zw13 ?_
    refine z_iload_n C dX6_rowsThere_14 rfl (j := 2) rfl ?_
    refine z_aldR C dX6_rowsThere_15 h (fun hr4 h => ?_)
    obtain ⟨r5, h5, h⟩ := Option.bind_eq_some_iff.mp h
    refine z_callVi [] [] C dX6_rowsThere_16 (zRw_lt hr4) (zRw_ent hr4) rfl zk_X6_78 zw164 zw165 ⟨⟨by decide, by decide⟩, rfl, Nat.le_of_ble_eq_true rfl⟩ rfl (sX4_isMissing hr4 h5) ?_
    refine z_if_ne 25 C dX6_rowsThere_19 (by decide) h (fun h => ?_) (fun h => ?_)
    · refine z_pick [0, 1, 2] rfl ?_
      exact jX6_rowsThere_25 C   G1 G2 h
    · refine z_iinc [(0, .ref (E.2.1 0)), (2, .int x4_2)] C dX6_rowsThere_22 zc1 h (j := 1) rfl (by decide) rfl (fun v7 h => ?_)
      refine z_pick [1, 0, 2] rfl ?_
      exact jX6_rowsThere_25 C   G1 G2 h
theorem lX6_rowsThere_4 {l : Launch} {E : ZE} {Γ : ZG} (C : zC E Γ RX6 cX6_rowsThere 3 1)   {mem4 : ZM} {s : Int32 × Int32} {r : Int32 × Int32} (h : fX6_rowsThere_l4 mem4 s = some r) (K1 : zG l E Γ 3 31 [(1, .int r.1)] [] mem4) : zG l E Γ 3 4 [(0, .ref (E.2.1 0)), (1, .int s.1), (2, .int s.2)] [] mem4 :=
  z_loop (body := fun s => fX6_rowsThere_b4 mem4 s.1 s.2) (fun s => zG l E Γ 3 4 [(0, .ref (E.2.1 0)), (1, .int s.1), (2, .int s.2)] [] mem4) (fun r => zG l E Γ 3 31 [(1, .int r.1)] [] mem4) (fun s u hb g1 g2 => bX6_rowsThere_4 C  g1 g2 hb) 2000 s r h K1
def fX6_rowsThere   (mem : ZM) : Option (Int32) :=
  zlet (0 : Int32) (fun v1 => zlet (0 : Int32) (fun v2 => Option.bind (fX6_rowsThere_l4 mem (v1, v2)) (fun r3 => some r3.1)))
set_option maxRecDepth 100000 in
set_option maxHeartbeats 4000000 in
theorem sX6_rowsThere {l : Launch} {E : ZE}   {mem : ZM} {t : Int32} (h : fX6_rowsThere mem = some t) : zMet l E yX6_rowsThere cX6_rowsThere 3 (some .int) 1 [.ref (E.2.1 0)] mem (some (.int t)) mem := by
  refine z_enter (by decide) (Nat.le_of_ble_eq_true rfl) (fun Γ C Rq => ?_)
  have C : zC E Γ RX6 cX6_rowsThere 3 1 := C
  show zG l E Γ 3 0 [(0, .ref (E.2.1 0))] [] mem
  unfold fX6_rowsThere at h
  refine z_iconst (v := 0) C dX6_rowsThere_0 zc0 ?_
  refine z_istore_n [(0, .ref (E.2.1 0))] C dX6_rowsThere_1 h rfl (by decide) rfl (fun v1 h => ?_)
  refine z_iconst (v := 0) C dX6_rowsThere_2 zc0 ?_
  refine z_istore_n [(1, .int v1), (0, .ref (E.2.1 0))] C dX6_rowsThere_3 h rfl (by decide) rfl (fun v2 h => ?_)
  obtain ⟨r3, h3, h⟩ := Option.bind_eq_some_iff.mp h
  refine z_pick [2, 1, 0] rfl ?_
  refine lX6_rowsThere_4 C  h3 ?_
  refine z_iload_n C dX6_rowsThere_31 rfl (j := 0) rfl ?_
  have e := Option.some.inj h; subst e; exact z_iret C dX6_rowsThere_32 Rq
-- X6_count
def fX6_count  (a1 : Int32) (mem : ZM) : Option (Int32) :=
  if a1 = (0 : Int32) then (Option.bind (fX6_rowsThere mem) (fun r2 => some r2)) else if a1 = (1 : Int32) then (some (mem 17 0)) else if a1 = (2 : Int32) then (some (mem 17 9)) else if a1 = (3 : Int32) then (some (mem 17 7)) else if a1 = (4 : Int32) then (some (mem 17 5)) else if a1 = (5 : Int32) then (some (mem 17 6)) else if a1 = (6 : Int32) then (Option.bind (fX3_ashes 17 mem) (fun r9 => some r9)) else if a1 = (7 : Int32) then (some (mem 17 8)) else if a1 = (8 : Int32) then (some (mem 5 0)) else if a1 = (9 : Int32) then (some (mem 3 1)) else (some (-1000001 : Int32))
set_option maxRecDepth 100000 in
set_option maxHeartbeats 4000000 in
theorem sX6_count {l : Launch} {E : ZE}  {a1 : Int32} {mem : ZM} {t : Int32} (h : fX6_count a1 mem = some t) : zMet l E yX6_count cX6_count 2 (some .int) 2 [.ref (E.2.1 0), .int a1] mem (some (.int t)) mem := by
  refine z_enter (by decide) (Nat.le_of_ble_eq_true rfl) (fun Γ C Rq => ?_)
  have C : zC E Γ RX6 cX6_count 2 2 := C
  show zG l E Γ 2 0 [(0, .ref (E.2.1 0)), (1, .int a1)] [] mem
  unfold fX6_count at h
  refine z_iload_n C dX6_count_0 rfl (j := 1) rfl ?_
  by_cases c1 : a1 = (0 : Int32)
  · rw [if_pos c1] at h
    refine z_swIn (off := 55) 56 C dX6_count_1 0 c1 (by decide) (by decide) (by decide) (by decide) ?_
    refine z_aload_n C dX6_count_56 rfl (j := 0) rfl ?_
    obtain ⟨r2, h2, h⟩ := Option.bind_eq_some_iff.mp h
    refine z_callVi [] [] C dX6_count_57 (by decide) zen_0 rfl zk_X6_289 zw1089 zw1090 ⟨⟨by decide, by decide⟩, rfl, Nat.le_of_ble_eq_true rfl⟩ rfl (sX6_rowsThere  h2) ?_
    have e := Option.some.inj h; subst e; exact z_iret C dX6_count_60 Rq
  rw [if_neg c1] at h
  have nc1 : (a1).toInt ≠ 0 := zne c1
  by_cases c3 : a1 = (1 : Int32)
  · rw [if_pos c3] at h
    refine z_swIn (off := 60) 61 C dX6_count_1 1 c3 (by decide) (by decide) (by decide) (by decide) ?_
    refine z_aload_n C dX6_count_61 rfl (j := 0) rfl ?_
    refine zg6_2 C dX6_count_62 zw18 ?_
    refine zg3_0 C dX6_count_65 zH17 zw232 ?_
    have e := Option.some.inj h; subst e; exact z_iret C dX6_count_68 Rq
  rw [if_neg c3] at h
  have nc3 : (a1).toInt ≠ 1 := zne c3
  by_cases c4 : a1 = (2 : Int32)
  · rw [if_pos c4] at h
    refine z_swIn (off := 68) 69 C dX6_count_1 2 c4 (by decide) (by decide) (by decide) (by decide) ?_
    refine z_aload_n C dX6_count_69 rfl (j := 0) rfl ?_
    refine zg6_2 C dX6_count_70 zw18 ?_
    refine zg3_9 C dX6_count_73 zH17 zw418 ?_
    have e := Option.some.inj h; subst e; exact z_iret C dX6_count_76 Rq
  rw [if_neg c4] at h
  have nc4 : (a1).toInt ≠ 2 := zne c4
  by_cases c5 : a1 = (3 : Int32)
  · rw [if_pos c5] at h
    refine z_swIn (off := 76) 77 C dX6_count_1 3 c5 (by decide) (by decide) (by decide) (by decide) ?_
    refine z_aload_n C dX6_count_77 rfl (j := 0) rfl ?_
    refine zg6_2 C dX6_count_78 zw18 ?_
    refine zg3_7 C dX6_count_81 zH17 zw625 ?_
    have e := Option.some.inj h; subst e; exact z_iret C dX6_count_84 Rq
  rw [if_neg c5] at h
  have nc5 : (a1).toInt ≠ 3 := zne c5
  by_cases c6 : a1 = (4 : Int32)
  · rw [if_pos c6] at h
    refine z_swIn (off := 84) 85 C dX6_count_1 4 c6 (by decide) (by decide) (by decide) (by decide) ?_
    refine z_aload_n C dX6_count_85 rfl (j := 0) rfl ?_
    refine zg6_2 C dX6_count_86 zw18 ?_
    refine zg3_5 C dX6_count_89 zH17 zw419 ?_
    have e := Option.some.inj h; subst e; exact z_iret C dX6_count_92 Rq
  rw [if_neg c6] at h
  have nc6 : (a1).toInt ≠ 4 := zne c6
  by_cases c7 : a1 = (5 : Int32)
  · rw [if_pos c7] at h
    refine z_swIn (off := 92) 93 C dX6_count_1 5 c7 (by decide) (by decide) (by decide) (by decide) ?_
    refine z_aload_n C dX6_count_93 rfl (j := 0) rfl ?_
    refine zg6_2 C dX6_count_94 zw18 ?_
    refine zg3_6 C dX6_count_97 zH17 zw588 ?_
    have e := Option.some.inj h; subst e; exact z_iret C dX6_count_100 Rq
  rw [if_neg c7] at h
  have nc7 : (a1).toInt ≠ 5 := zne c7
  by_cases c8 : a1 = (6 : Int32)
  · rw [if_pos c8] at h
    refine z_swIn (off := 100) 101 C dX6_count_1 6 c8 (by decide) (by decide) (by decide) (by decide) ?_
    refine z_aload_n C dX6_count_101 rfl (j := 0) rfl ?_
    refine zg6_2 C dX6_count_102 zw18 ?_
    obtain ⟨r9, h9, h⟩ := Option.bind_eq_some_iff.mp h
    refine z_callVi [] [] C dX6_count_105 (zH_lt zH17) (zH_ent zH17) rfl zk_X6_271 zw760 zw761 ⟨⟨by decide, by decide⟩, rfl, Nat.le_of_ble_eq_true rfl⟩ rfl (sX3_ashes zH17 h9) ?_
    have e := Option.some.inj h; subst e; exact z_iret C dX6_count_108 Rq
  rw [if_neg c8] at h
  have nc8 : (a1).toInt ≠ 6 := zne c8
  by_cases c10 : a1 = (7 : Int32)
  · rw [if_pos c10] at h
    refine z_swIn (off := 108) 109 C dX6_count_1 7 c10 (by decide) (by decide) (by decide) (by decide) ?_
    refine z_aload_n C dX6_count_109 rfl (j := 0) rfl ?_
    refine zg6_2 C dX6_count_110 zw18 ?_
    refine zg3_8 C dX6_count_113 zH17 zw709 ?_
    have e := Option.some.inj h; subst e; exact z_iret C dX6_count_116 Rq
  rw [if_neg c10] at h
  have nc10 : (a1).toInt ≠ 7 := zne c10
  by_cases c11 : a1 = (8 : Int32)
  · rw [if_pos c11] at h
    refine z_swIn (off := 116) 117 C dX6_count_1 8 c11 (by decide) (by decide) (by decide) (by decide) ?_
    refine z_aload_n C dX6_count_117 rfl (j := 0) rfl ?_
    refine zg6_5 C dX6_count_118 zw27 ?_
    refine zg0_0 C dX6_count_121 zw638 ?_
    have e := Option.some.inj h; subst e; exact z_iret C dX6_count_124 Rq
  rw [if_neg c11] at h
  have nc11 : (a1).toInt ≠ 8 := zne c11
  by_cases c12 : a1 = (9 : Int32)
  · rw [if_pos c12] at h
    refine z_swIn (off := 124) 125 C dX6_count_1 9 c12 (by decide) (by decide) (by decide) (by decide) ?_
    refine z_aload_n C dX6_count_125 rfl (j := 0) rfl ?_
    refine zg6_4 C dX6_count_126 zw23 ?_
    refine zg5_1 C dX6_count_129 zw213 ?_
    have e := Option.some.inj h; subst e; exact z_iret C dX6_count_132 Rq
  rw [if_neg c12] at h
  have nc12 : (a1).toInt ≠ 9 := zne c12
  refine z_swOut 133 C dX6_count_1 (by omega) (by decide) ?_
  refine z_ldc C dX6_count_133 zw116 ?_
  have e := Option.some.inj h; subst e; exact z_iret C dX6_count_135 Rq
-- X6_status
def fX6_status   (mem : ZM) : Option (Int32) :=
  some (mem 0 8)
set_option maxRecDepth 100000 in
set_option maxHeartbeats 4000000 in
theorem sX6_status {l : Launch} {E : ZE}   {mem : ZM} {t : Int32} (h : fX6_status mem = some t) : zMet l E yX6_status cX6_status 1 (some .int) 0 [.ref (E.2.1 0)] mem (some (.int t)) mem := by
  refine z_enter (by decide) (Nat.le_of_ble_eq_true rfl) (fun Γ C Rq => ?_)
  have C : zC E Γ RX6 cX6_status 1 0 := C
  show zG l E Γ 1 0 [(0, .ref (E.2.1 0))] [] mem
  unfold fX6_status at h
  refine z_aload_n C dX6_status_0 rfl (j := 0) rfl ?_
  refine zg6_8 C dX6_status_1 zw36 ?_
  have e := Option.some.inj h; subst e; exact z_iret C dX6_status_4 Rq
-- X7_in
def fX7_in  (a0 : Int64) (a2 : Int64) (a4 : Int64) : Option (Int32) :=
  if (lg_cmp a0 a2) < 0 then (some (0 : Int32)) else (if 0 < (lg_cmp a0 a4) then (some (0 : Int32)) else (some (1 : Int32)))
set_option maxRecDepth 100000 in
set_option maxHeartbeats 4000000 in
theorem sX7_in {l : Launch} {E : ZE}  {a0 : Int64} {a2 : Int64} {a4 : Int64} {mem : ZM} {t : Int32} (h : fX7_in a0 a2 a4 = some t) : zMet l E yX7_in cX7_in 6 (some .boolean) 0 [.long a0, .long a2, .long a4] mem (some (.int t)) mem := by
  refine z_enter (by decide) (Nat.le_of_ble_eq_true rfl) (fun Γ C Rq => ?_)
  have C : zC E Γ RX7 cX7_in 6 0 := C
  show zG l E Γ 6 0 [(0, .long a0), (2, .long a2), (4, .long a4)] [] mem
  unfold fX7_in at h
  refine z_lload_n C dX7_in_0 rfl (j := 0) rfl ?_
  refine z_lload_n C dX7_in_1 rfl (j := 1) rfl ?_
  refine z_lcmp C dX7_in_2 ?_
  refine z_if_lt 17 C dX7_in_3 (by decide) h (fun h => ?_) (fun h => ?_)
  · refine z_iconst (v := 0) C dX7_in_17 zc0 ?_
    have e := Option.some.inj h; subst e; exact z_zret C dX7_in_18 zbl0 Rq
  · refine z_lload_n C dX7_in_6 rfl (j := 0) rfl ?_
    refine z_lload C dX7_in_7 (j := 2) rfl ?_
    refine z_lcmp C dX7_in_9 ?_
    refine z_if_gt 17 C dX7_in_10 (by decide) h (fun h => ?_) (fun h => ?_)
    · refine z_iconst (v := 0) C dX7_in_17 zc0 ?_
      have e := Option.some.inj h; subst e; exact z_zret C dX7_in_18 zbl0 Rq
    · refine z_iconst (v := 1) C dX7_in_13 zc1 ?_
      refine z_goto 18 C dX7_in_14 (by decide) ?_
      have e := Option.some.inj h; subst e; exact z_zret C dX7_in_18 zbl1 Rq
-- X7_has
def fX7_has  (a0 : Int32) (a1 : Int32) : Option (Int32) :=
  if ((a0 >>> (a1 &&& 31)) &&& (1 : Int32)) = (1 : Int32) then (some (1 : Int32)) else (some (0 : Int32))
set_option maxRecDepth 100000 in
set_option maxHeartbeats 4000000 in
theorem sX7_has {l : Launch} {E : ZE}  {a0 : Int32} {a1 : Int32} {mem : ZM} {t : Int32} (h : fX7_has a0 a1 = some t) : zMet l E yX7_has cX7_has 2 (some .boolean) 0 [.int a0, .int a1] mem (some (.int t)) mem := by
  refine z_enter (by decide) (Nat.le_of_ble_eq_true rfl) (fun Γ C Rq => ?_)
  have C : zC E Γ RX7 cX7_has 2 0 := C
  show zG l E Γ 2 0 [(0, .int a0), (1, .int a1)] [] mem
  unfold fX7_has at h
  refine z_iload_n C dX7_has_0 rfl (j := 0) rfl ?_
  refine z_iload_n C dX7_has_1 rfl (j := 1) rfl ?_
  refine z_ishr C dX7_has_2 ?_
  refine z_iconst (v := 1) C dX7_has_3 zc1 ?_
  refine z_iand C dX7_has_4 ?_
  refine z_iconst (v := 1) C dX7_has_5 zc1 ?_
  refine z_icmp_ne 13 C dX7_has_6 (by decide) h (fun h => ?_) (fun h => ?_)
  · refine z_iconst (v := 0) C dX7_has_13 zc0 ?_
    have e := Option.some.inj h; subst e; exact z_zret C dX7_has_14 zbl0 Rq
  · refine z_iconst (v := 1) C dX7_has_9 zc1 ?_
    refine z_goto 14 C dX7_has_10 (by decide) ?_
    have e := Option.some.inj h; subst e; exact z_zret C dX7_has_14 zbl1 Rq
-- X7_ones
def fX7_ones_b4   (x4_1 : Int32) (x4_2 : Int32) : Option ((Int32 × Int32) ⊕ (Int32 × Int32)) :=
  if x4_2 = 0 then (some (Sum.inr (x4_1, x4_2))) else (zlet (x4_1 + (1 : Int32)) (fun v4 => zlet (x4_2 &&& (x4_2 - (1 : Int32))) (fun v5 => some (Sum.inl (v4, v5)))))
def fX7_ones_l4   (s : Int32 × Int32) : Option (Int32 × Int32) := ziter (fun s => fX7_ones_b4  s.1 s.2) 2000 s
set_option maxRecDepth 100000 in
set_option maxHeartbeats 4000000 in
theorem bX7_ones_4 {l : Launch} {E : ZE} {Γ : ZG} (C : zC E Γ RX7 cX7_ones 3 0)   {mem4 : ZM} {x4_1 : Int32} {x4_2 : Int32} {u : (Int32 × Int32) ⊕ (Int32 × Int32)} (G1 : ∀ s', u = Sum.inl s' → zG l E Γ 3 4 [(1, .int (s'.1)), (2, .int (s'.2))] [] mem4) (G2 : ∀ s', u = Sum.inr s' → zG l E Γ 3 20 [(1, .int (s'.1))] [] mem4) (h : fX7_ones_b4  x4_1 x4_2 = some u) : zG l E Γ 3 4 [(1, .int x4_1), (2, .int x4_2)] [] mem4 := by
  unfold fX7_ones_b4 at h
  refine z_iload_n C dX7_ones_4 rfl (j := 1) rfl ?_
  refine z_if_eq 20 C dX7_ones_5 (by decide) h (fun h => ?_) (fun h => ?_)
  · refine z_pick [0] rfl ?_
    exact G2 _ (Option.some.inj h).symm
  · refine z_iinc [(2, .int x4_2)] C dX7_ones_8 zc1 h (j := 0) rfl (by decide) rfl (fun v4 h => ?_)
    refine z_iload_n C dX7_ones_11 rfl (j := 1) rfl ?_
    refine z_iload_n C dX7_ones_12 rfl (j := 1) rfl ?_
    refine z_iconst (v := 1) C dX7_ones_13 zc1 ?_
    refine z_isub C dX7_ones_14 ?_
    refine z_iand C dX7_ones_15 ?_
    refine z_istore_n [(1, .int v4)] C dX7_ones_16 h rfl (by decide) rfl (fun v5 h => ?_)
    refine z_goto 4 C dX7_ones_17 (by decide) ?_
    refine z_pick [1, 0] rfl ?_
    exact G1 _ (Option.some.inj h).symm
theorem lX7_ones_4 {l : Launch} {E : ZE} {Γ : ZG} (C : zC E Γ RX7 cX7_ones 3 0)   {mem4 : ZM} {s : Int32 × Int32} {r : Int32 × Int32} (h : fX7_ones_l4  s = some r) (K1 : zG l E Γ 3 20 [(1, .int r.1)] [] mem4) : zG l E Γ 3 4 [(1, .int s.1), (2, .int s.2)] [] mem4 :=
  z_loop (body := fun s => fX7_ones_b4  s.1 s.2) (fun s => zG l E Γ 3 4 [(1, .int s.1), (2, .int s.2)] [] mem4) (fun r => zG l E Γ 3 20 [(1, .int r.1)] [] mem4) (fun s u hb g1 g2 => bX7_ones_4 C  g1 g2 hb) 2000 s r h K1
def fX7_ones  (a0 : Int32) : Option (Int32) :=
  zlet (0 : Int32) (fun v1 => zlet a0 (fun v2 => Option.bind (fX7_ones_l4 (v1, v2)) (fun r3 => some r3.1)))
set_option maxRecDepth 100000 in
set_option maxHeartbeats 4000000 in
theorem sX7_ones {l : Launch} {E : ZE}  {a0 : Int32} {mem : ZM} {t : Int32} (h : fX7_ones a0 = some t) : zMet l E yX7_ones cX7_ones 3 (some .int) 0 [.int a0] mem (some (.int t)) mem := by
  refine z_enter (by decide) (Nat.le_of_ble_eq_true rfl) (fun Γ C Rq => ?_)
  have C : zC E Γ RX7 cX7_ones 3 0 := C
  show zG l E Γ 3 0 [(0, .int a0)] [] mem
  unfold fX7_ones at h
  refine z_iconst (v := 0) C dX7_ones_0 zc0 ?_
  refine z_istore_n [(0, .int a0)] C dX7_ones_1 h rfl (by decide) rfl (fun v1 h => ?_)
  refine z_iload_n C dX7_ones_2 rfl (j := 1) rfl ?_
  refine z_istore_n [(1, .int v1), (0, .int a0)] C dX7_ones_3 h rfl (by decide) rfl (fun v2 h => ?_)
  obtain ⟨r3, h3, h⟩ := Option.bind_eq_some_iff.mp h
  refine z_pick [1, 0] rfl ?_
  refine lX7_ones_4 C  h3 ?_
  refine z_iload_n C dX7_ones_20 rfl (j := 0) rfl ?_
  have e := Option.some.inj h; subst e; exact z_iret C dX7_ones_21 Rq
-- X7_find
def fX7_find  (a1 : Int32) (mem : ZM) : Option (Int32 × ZM) :=
  zlet (zst mem 58 3 a1) (fun m1 => some (((-1000010 : Int32) - a1), m1))
set_option maxRecDepth 100000 in
set_option maxHeartbeats 4000000 in
theorem sX7_find {l : Launch} {E : ZE}  {a1 : Int32} {mem : ZM} {t : Int32 × ZM} (h : fX7_find a1 mem = some t) : zMet l E yX7_find cX7_find 2 (some .int) 0 [.ref (E.2.1 58), .int a1] mem (some (.int t.1)) t.2 := by
  refine z_enter (by decide) (Nat.le_of_ble_eq_true rfl) (fun Γ C Rq => ?_)
  have C : zC E Γ RX7 cX7_find 2 0 := C
  show zG l E Γ 2 0 [(0, .ref (E.2.1 58)), (1, .int a1)] [] mem
  unfold fX7_find at h
  refine z_aload_n C dX7_find_0 rfl (j := 0) rfl ?_
  refine z_iload_n C dX7_find_1 rfl (j := 1) rfl ?_
  refine zp7_3 C dX7_find_2 zw153 h (fun m1 h => ?_)
  refine z_ldc C dX7_find_5 zw154 ?_
  refine z_iload_n C dX7_find_7 rfl (j := 1) rfl ?_
  refine z_isub C dX7_find_8 ?_
  have e := Option.some.inj h; subst e; exact z_iret C dX7_find_9 Rq
-- X7_well
def fX7_well  (a1 : Int32) (mem : ZM) : Option (Int32 × ZM) :=
  zlet (zst mem 58 3 (0 : Int32)) (fun m1 => some (a1, m1))
set_option maxRecDepth 100000 in
set_option maxHeartbeats 4000000 in
theorem sX7_well {l : Launch} {E : ZE}  {a1 : Int32} {mem : ZM} {t : Int32 × ZM} (h : fX7_well a1 mem = some t) : zMet l E yX7_well cX7_well 2 (some .int) 0 [.ref (E.2.1 58), .int a1] mem (some (.int t.1)) t.2 := by
  refine z_enter (by decide) (Nat.le_of_ble_eq_true rfl) (fun Γ C Rq => ?_)
  have C : zC E Γ RX7 cX7_well 2 0 := C
  show zG l E Γ 2 0 [(0, .ref (E.2.1 58)), (1, .int a1)] [] mem
  unfold fX7_well at h
  refine z_aload_n C dX7_well_0 rfl (j := 0) rfl ?_
  refine z_iconst (v := 0) C dX7_well_1 zc0 ?_
  refine zp7_3 C dX7_well_2 zw153 h (fun m1 h => ?_)
  refine z_iload_n C dX7_well_5 rfl (j := 1) rfl ?_
  have e := Option.some.inj h; subst e; exact z_iret C dX7_well_6 Rq
-- X7_isRow
def fX7_isRow  (a0 : Int32) : Option (Int32) :=
  Option.bind (fX7_in a0.toInt64 (0 : Int64) (7 : Int64)) (fun r1 => zgd (zbl r1) (some r1))
set_option maxRecDepth 100000 in
set_option maxHeartbeats 4000000 in
theorem sX7_isRow {l : Launch} {E : ZE}  {a0 : Int32} {mem : ZM} {t : Int32} (h : fX7_isRow a0 = some t) : zMet l E yX7_isRow cX7_isRow 1 (some .boolean) 1 [.int a0] mem (some (.int t)) mem := by
  refine z_enter (by decide) (Nat.le_of_ble_eq_true rfl) (fun Γ C Rq => ?_)
  have C : zC E Γ RX7 cX7_isRow 1 1 := C
  show zG l E Γ 1 0 [(0, .int a0)] [] mem
  unfold fX7_isRow at h
  refine z_iload_n C dX7_isRow_0 rfl (j := 0) rfl ?_
  refine z_i2l C dX7_isRow_1 ?_
  refine z_lconst (v := 0) C dX7_isRow_2 zl0 ?_
  refine z_ldc2 C dX7_isRow_3 zw145 ?_
  obtain ⟨r1, h1, h⟩ := Option.bind_eq_some_iff.mp h
  refine z_callSi [.long a0.toInt64, .long (0 : Int64), .long (7 : Int64)] [] C dX7_isRow_6 zk_X7_57 zw147 ⟨⟨by decide, by decide⟩, rfl, Nat.le_of_ble_eq_true rfl⟩ rfl (sX7_in  h1) ?_
  obtain ⟨hg, h⟩ := zgd_some h
  have e := Option.some.inj h; subst e; exact z_zret C dX7_isRow_9 hg Rq
-- X7_row
def fX7_row_b55  (y55_1 : Int32) (y55_3 : Int32) (x55_4 : Int32) (memb : ZM) : Option ((Int32 × ZM) ⊕ (Int32 × ZM)) :=
  if (40 : Int32) ≤ x55_4 then (some (Sum.inr (x55_4, memb))) else (zgd (zin (((40 : Int32) * y55_1) + x55_4) 320) (zlet (zst memb 61 (((40 : Int32) * y55_1) + x55_4).toNatClampNeg (0 : Int32)) (fun m7 => zlet (x55_4 + (1 : Int32)) (fun v8 => some (Sum.inl (v8, m7))))))
def fX7_row_l55  (y55_1 : Int32) (y55_3 : Int32) (s : Int32 × ZM) : Option (Int32 × ZM) := ziter (fun s => fX7_row_b55 y55_1 y55_3 s.1 s.2) 2000 s
set_option maxRecDepth 100000 in
set_option maxHeartbeats 4000000 in
theorem bX7_row_55 {l : Launch} {E : ZE} {Γ : ZG} (C : zC E Γ RX7 cX7_row 5 2)  {y55_1 : Int32} {y55_3 : Int32} {x55_4 : Int32} {memb : ZM} {u : (Int32 × ZM) ⊕ (Int32 × ZM)} (G1 : ∀ s', u = Sum.inl s' → zG l E Γ 5 55 [(0, .ref (E.2.1 58)), (1, .int y55_1), (3, .int y55_3), (4, .int (s'.1))] [] s'.2) (G2 : ∀ s', u = Sum.inr s' → zG l E Γ 5 81 [(0, .ref (E.2.1 58)), (3, .int y55_3)] [] s'.2) (h : fX7_row_b55 y55_1 y55_3 x55_4 memb = some u) : zG l E Γ 5 55 [(0, .ref (E.2.1 58)), (1, .int y55_1), (3, .int y55_3), (4, .int x55_4)] [] memb := by
  unfold fX7_row_b55 at h
  refine z_iload C dX7_row_55 (j := 3) rfl ?_
  refine z_bipush (v := 40) C dX7_row_57 zb40 ?_
  refine z_icmp_ge 81 C dX7_row_59 (by decide) h (fun h => ?_) (fun h => ?_)
  · refine z_pick [0, 2] rfl ?_
    exact G2 _ (Option.some.inj h).symm
  · refine z_aload_n C dX7_row_62 rfl (j := 0) rfl ?_
    refine zg7_2 C dX7_row_63 zw100 ?_
    refine z_bipush (v := 40) C dX7_row_66 zb40 ?_
    refine z_iload_n C dX7_row_68 rfl (j := 1) rfl ?_
    refine z_imul C dX7_row_69 ?_
    refine z_iload C dX7_row_70 (j := 3) rfl ?_
    refine z_iadd C dX7_row_72 ?_
    refine z_iconst (v := 0) C dX7_row_73 zc0 ?_
    refine z_iast C dX7_row_74 zar61 h (fun m7 h => ?_)
    refine z_iinc [(0, .ref (E.2.1 58)), (1, .int y55_1), (3, .int y55_3)] C dX7_row_75 zc1 h (j := 3) rfl (by decide) rfl (fun v8 h => ?_)
    refine z_goto 55 C dX7_row_78 (by decide) ?_
    refine z_pick [1, 2, 3, 0] rfl ?_
    exact G1 _ (Option.some.inj h).symm
theorem lX7_row_55 {l : Launch} {E : ZE} {Γ : ZG} (C : zC E Γ RX7 cX7_row 5 2)  {y55_1 : Int32} {y55_3 : Int32} {s : Int32 × ZM} {r : Int32 × ZM} (h : fX7_row_l55 y55_1 y55_3 s = some r) (K1 : zG l E Γ 5 81 [(0, .ref (E.2.1 58)), (3, .int y55_3)] [] r.2) : zG l E Γ 5 55 [(0, .ref (E.2.1 58)), (1, .int y55_1), (3, .int y55_3), (4, .int s.1)] [] s.2 :=
  z_loop (body := fun s => fX7_row_b55 y55_1 y55_3 s.1 s.2) (fun s => zG l E Γ 5 55 [(0, .ref (E.2.1 58)), (1, .int y55_1), (3, .int y55_3), (4, .int s.1)] [] s.2) (fun r => zG l E Γ 5 81 [(0, .ref (E.2.1 58)), (3, .int y55_3)] [] r.2) (fun s u hb g1 g2 => bX7_row_55 C  g1 g2 hb) 2000 s r h K1
def fX7_row  (a1 : Int32) (a2 : Int32) (a3 : Int32) (mem : ZM) : Option (Int32 × ZM) :=
  Option.bind (fX7_isRow a1) (fun r1 => if r1 = 0 then (some ((-1000001 : Int32), mem)) else (Option.bind (fX7_in a2.toInt64 (0 : Int64) (2 : Int64)) (fun r2 => if r2 = 0 then (some ((-1000001 : Int32), mem)) else (if a3 ≤ (40 : Int32) then (if 0 ≤ a3 then (zgd (zin a1 8) (zlet (zst mem 59 a1.toNatClampNeg a2) (fun m3 => zgd (zin a1 8) (zlet (zst m3 60 a1.toNatClampNeg a3) (fun m4 => zlet (0 : Int32) (fun v5 => Option.bind (fX7_row_l55 a1 a3 (v5, m4)) (fun r6 => Option.bind (fX7_well a3 r6.2) (fun r9 => some (r9.1, r9.2))))))))) else (Option.bind (fX7_find (4 : Int32) mem) (fun r10 => some (r10.1, r10.2)))) else (some ((-1000001 : Int32), mem))))))
set_option maxRecDepth 100000 in
set_option maxHeartbeats 4000000 in
theorem sX7_row {l : Launch} {E : ZE}  {a1 : Int32} {a2 : Int32} {a3 : Int32} {mem : ZM} {t : Int32 × ZM} (h : fX7_row a1 a2 a3 mem = some t) : zMet l E yX7_row cX7_row 5 (some .int) 2 [.ref (E.2.1 58), .int a1, .int a2, .int a3] mem (some (.int t.1)) t.2 := by
  refine z_enter (by decide) (Nat.le_of_ble_eq_true rfl) (fun Γ C Rq => ?_)
  have C : zC E Γ RX7 cX7_row 5 2 := C
  show zG l E Γ 5 0 [(0, .ref (E.2.1 58)), (1, .int a1), (2, .int a2), (3, .int a3)] [] mem
  unfold fX7_row at h
  refine z_iload_n C dX7_row_0 rfl (j := 1) rfl ?_
  obtain ⟨r1, h1, h⟩ := Option.bind_eq_some_iff.mp h
  refine z_callSi [.int a1] [] C dX7_row_1 zk_X7_61 zw143 ⟨⟨by decide, by decide⟩, rfl, Nat.le_of_ble_eq_true rfl⟩ rfl (sX7_isRow  h1) ?_
  refine z_if_eq 25 C dX7_row_4 (by decide) h (fun h => ?_) (fun h => ?_)
  · refine z_ldc C dX7_row_25 zw141 ?_
    have e := Option.some.inj h; subst e; exact z_iret C dX7_row_27 Rq
  · refine z_iload_n C dX7_row_7 rfl (j := 2) rfl ?_
    refine z_i2l C dX7_row_8 ?_
    refine z_lconst (v := 0) C dX7_row_9 zl0 ?_
    refine z_ldc2 C dX7_row_10 zw140 ?_
    obtain ⟨r2, h2, h⟩ := Option.bind_eq_some_iff.mp h
    refine z_callSi [.long a2.toInt64, .long (0 : Int64), .long (2 : Int64)] [] C dX7_row_13 zk_X7_57 zw147 ⟨⟨by decide, by decide⟩, rfl, Nat.le_of_ble_eq_true rfl⟩ rfl (sX7_in  h2) ?_
    refine z_if_eq 25 C dX7_row_16 (by decide) h (fun h => ?_) (fun h => ?_)
    · refine z_ldc C dX7_row_25 zw141 ?_
      have e := Option.some.inj h; subst e; exact z_iret C dX7_row_27 Rq
    · refine z_iload_n C dX7_row_19 rfl (j := 3) rfl ?_
      refine z_bipush (v := 40) C dX7_row_20 zb40 ?_
      refine z_icmp_le 28 C dX7_row_22 (by decide) h (fun h => ?_) (fun h => ?_)
      · refine z_iload_n C dX7_row_28 rfl (j := 3) rfl ?_
        refine z_if_ge 38 C dX7_row_29 (by decide) h (fun h => ?_) (fun h => ?_)
        · refine z_aload_n C dX7_row_38 rfl (j := 0) rfl ?_
          refine zg7_0 C dX7_row_39 zw98 ?_
          refine z_iload_n C dX7_row_42 rfl (j := 1) rfl ?_
          refine z_iload_n C dX7_row_43 rfl (j := 2) rfl ?_
          refine z_iast C dX7_row_44 zar59 h (fun m3 h => ?_)
          refine z_aload_n C dX7_row_45 rfl (j := 0) rfl ?_
          refine zg7_1 C dX7_row_46 zw99 ?_
          refine z_iload_n C dX7_row_49 rfl (j := 1) rfl ?_
          refine z_iload_n C dX7_row_50 rfl (j := 3) rfl ?_
          refine z_iast C dX7_row_51 zar60 h (fun m4 h => ?_)
          refine z_iconst (v := 0) C dX7_row_52 zc0 ?_
          refine z_istore [(0, .ref (E.2.1 58)), (1, .int a1), (2, .int a2), (3, .int a3)] C dX7_row_53 h (by decide) rfl (fun v5 h => ?_)
          obtain ⟨r6, h6, h⟩ := Option.bind_eq_some_iff.mp h
          refine z_pick [1, 2, 4, 0] rfl ?_
          refine lX7_row_55 C  h6 ?_
          refine z_aload_n C dX7_row_81 rfl (j := 0) rfl ?_
          refine z_iload_n C dX7_row_82 rfl (j := 1) rfl ?_
          obtain ⟨r9, h9, h⟩ := Option.bind_eq_some_iff.mp h
          refine z_callVi [.int a3] [] C dX7_row_83 (by decide) zen_58 rfl zk_X7_72 zw156 zw157 ⟨⟨by decide, by decide⟩, rfl, Nat.le_of_ble_eq_true rfl⟩ rfl (sX7_well  h9) ?_
          have e := Option.some.inj h; subst e; exact z_iret C dX7_row_86 Rq
        · refine z_aload_n C dX7_row_32 rfl (j := 0) rfl ?_
          refine z_iconst (v := 4) C dX7_row_33 zc4 ?_
          obtain ⟨r10, h10, h⟩ := Option.bind_eq_some_iff.mp h
          refine z_callVi [.int (4 : Int32)] [] C dX7_row_34 (by decide) zen_58 rfl zk_X7_68 zw150 zw151 ⟨⟨by decide, by decide⟩, rfl, Nat.le_of_ble_eq_true rfl⟩ rfl (sX7_find  h10) ?_
          have e := Option.some.inj h; subst e; exact z_iret C dX7_row_37 Rq
      · refine z_ldc C dX7_row_25 zw141 ?_
        have e := Option.some.inj h; subst e; exact z_iret C dX7_row_27 Rq
-- X7_asLane
def fX7_asLane  (a0 : Int32) (a1 : Int32) : Option (Int32) :=
  if a0 = 0 then (some ((a1 <<< ((24 : Int32) &&& 31)) >>> ((24 : Int32) &&& 31))) else (if a0 = (1 : Int32) then (some ((a1 <<< ((16 : Int32) &&& 31)) >>> ((16 : Int32) &&& 31))) else (some a1))
set_option maxRecDepth 100000 in
set_option maxHeartbeats 4000000 in
theorem sX7_asLane {l : Launch} {E : ZE}  {a0 : Int32} {a1 : Int32} {mem : ZM} {t : Int32} (h : fX7_asLane a0 a1 = some t) : zMet l E yX7_asLane cX7_asLane 2 (some .int) 0 [.int a0, .int a1] mem (some (.int t)) mem := by
  refine z_enter (by decide) (Nat.le_of_ble_eq_true rfl) (fun Γ C Rq => ?_)
  have C : zC E Γ RX7 cX7_asLane 2 0 := C
  show zG l E Γ 2 0 [(0, .int a0), (1, .int a1)] [] mem
  unfold fX7_asLane at h
  refine z_iload_n C dX7_asLane_0 rfl (j := 0) rfl ?_
  refine z_if_ne 14 C dX7_asLane_1 (by decide) h (fun h => ?_) (fun h => ?_)
  · refine z_iload_n C dX7_asLane_14 rfl (j := 0) rfl ?_
    refine z_iconst (v := 1) C dX7_asLane_15 zc1 ?_
    refine z_icmp_ne 29 C dX7_asLane_16 (by decide) h (fun h => ?_) (fun h => ?_)
    · refine z_iload_n C dX7_asLane_29 rfl (j := 1) rfl ?_
      have e := Option.some.inj h; subst e; exact z_iret C dX7_asLane_30 Rq
    · refine z_iload_n C dX7_asLane_19 rfl (j := 1) rfl ?_
      refine z_bipush (v := 16) C dX7_asLane_20 zb16 ?_
      refine z_ishl C dX7_asLane_22 ?_
      refine z_bipush (v := 16) C dX7_asLane_23 zb16 ?_
      refine z_ishr C dX7_asLane_25 ?_
      refine z_goto 30 C dX7_asLane_26 (by decide) ?_
      have e := Option.some.inj h; subst e; exact z_iret C dX7_asLane_30 Rq
  · refine z_iload_n C dX7_asLane_4 rfl (j := 1) rfl ?_
    refine z_bipush (v := 24) C dX7_asLane_5 zb24 ?_
    refine z_ishl C dX7_asLane_7 ?_
    refine z_bipush (v := 24) C dX7_asLane_8 zb24 ?_
    refine z_ishr C dX7_asLane_10 ?_
    refine z_goto 30 C dX7_asLane_11 (by decide) ?_
    have e := Option.some.inj h; subst e; exact z_iret C dX7_asLane_30 Rq
-- X7_set
def fX7_set  (a1 : Int32) (a2 : Int32) (a3 : Int32) (mem : ZM) : Option (Int32 × ZM) :=
  Option.bind (fX7_isRow a1) (fun r1 => if r1 = 0 then (some ((-1000001 : Int32), mem)) else (zgd (zin a1 8) (if 0 ≤ (mem 60 a1.toNatClampNeg) then (zgd (zin a1 8) (Option.bind (fX7_in a2.toInt64 (0 : Int64) (((mem 60 a1.toNatClampNeg) - (1 : Int32)).toInt64)) (fun r2 => if r2 = 0 then (Option.bind (fX7_find (2 : Int32) mem) (fun r6 => some (r6.1, r6.2))) else (zgd (zin a1 8) (Option.bind (fX7_asLane (mem 59 a1.toNatClampNeg) a3) (fun r3 => zgd (zin (((40 : Int32) * a1) + a2) 320) (zlet (zst mem 61 (((40 : Int32) * a1) + a2).toNatClampNeg r3) (fun m4 => zgd (zin (((40 : Int32) * a1) + a2) 320) (Option.bind (fX7_well (m4 61 (((40 : Int32) * a1) + a2).toNatClampNeg) m4) (fun r5 => some (r5.1, r5.2))))))))))) else (Option.bind (fX7_find (1 : Int32) mem) (fun r7 => some (r7.1, r7.2))))))
set_option maxRecDepth 100000 in
set_option maxHeartbeats 4000000 in
theorem sX7_set {l : Launch} {E : ZE}  {a1 : Int32} {a2 : Int32} {a3 : Int32} {mem : ZM} {t : Int32 × ZM} (h : fX7_set a1 a2 a3 mem = some t) : zMet l E yX7_set cX7_set 4 (some .int) 2 [.ref (E.2.1 58), .int a1, .int a2, .int a3] mem (some (.int t.1)) t.2 := by
  refine z_enter (by decide) (Nat.le_of_ble_eq_true rfl) (fun Γ C Rq => ?_)
  have C : zC E Γ RX7 cX7_set 4 2 := C
  show zG l E Γ 4 0 [(0, .ref (E.2.1 58)), (1, .int a1), (2, .int a2), (3, .int a3)] [] mem
  unfold fX7_set at h
  refine z_iload_n C dX7_set_0 rfl (j := 1) rfl ?_
  obtain ⟨r1, h1, h⟩ := Option.bind_eq_some_iff.mp h
  refine z_callSi [.int a1] [] C dX7_set_1 zk_X7_61 zw143 ⟨⟨by decide, by decide⟩, rfl, Nat.le_of_ble_eq_true rfl⟩ rfl (sX7_isRow  h1) ?_
  refine z_if_ne 10 C dX7_set_4 (by decide) h (fun h => ?_) (fun h => ?_)
  · refine z_aload_n C dX7_set_10 rfl (j := 0) rfl ?_
    refine zg7_1 C dX7_set_11 zw99 ?_
    refine z_iload_n C dX7_set_14 rfl (j := 1) rfl ?_
    refine z_iald C dX7_set_15 zar60 h (fun h => ?_)
    refine z_if_ge 25 C dX7_set_16 (by decide) h (fun h => ?_) (fun h => ?_)
    · refine z_iload_n C dX7_set_25 rfl (j := 2) rfl ?_
      refine z_i2l C dX7_set_26 ?_
      refine z_lconst (v := 0) C dX7_set_27 zl0 ?_
      refine z_aload_n C dX7_set_28 rfl (j := 0) rfl ?_
      refine zg7_1 C dX7_set_29 zw99 ?_
      refine z_iload_n C dX7_set_32 rfl (j := 1) rfl ?_
      refine z_iald C dX7_set_33 zar60 h (fun h => ?_)
      refine z_iconst (v := 1) C dX7_set_34 zc1 ?_
      refine z_isub C dX7_set_35 ?_
      refine z_i2l C dX7_set_36 ?_
      obtain ⟨r2, h2, h⟩ := Option.bind_eq_some_iff.mp h
      refine z_callSi [.long a2.toInt64, .long (0 : Int64), .long (((mem 60 a1.toNatClampNeg) - (1 : Int32)).toInt64)] [] C dX7_set_37 zk_X7_57 zw147 ⟨⟨by decide, by decide⟩, rfl, Nat.le_of_ble_eq_true rfl⟩ rfl (sX7_in  h2) ?_
      refine z_if_ne 49 C dX7_set_40 (by decide) h (fun h => ?_) (fun h => ?_)
      · refine z_aload_n C dX7_set_49 rfl (j := 0) rfl ?_
        refine zg7_2 C dX7_set_50 zw100 ?_
        refine z_bipush (v := 40) C dX7_set_53 zb40 ?_
        refine z_iload_n C dX7_set_55 rfl (j := 1) rfl ?_
        refine z_imul C dX7_set_56 ?_
        refine z_iload_n C dX7_set_57 rfl (j := 2) rfl ?_
        refine z_iadd C dX7_set_58 ?_
        refine z_aload_n C dX7_set_59 rfl (j := 0) rfl ?_
        refine zg7_0 C dX7_set_60 zw98 ?_
        refine z_iload_n C dX7_set_63 rfl (j := 1) rfl ?_
        refine z_iald C dX7_set_64 zar59 h (fun h => ?_)
        refine z_iload_n C dX7_set_65 rfl (j := 3) rfl ?_
        obtain ⟨r3, h3, h⟩ := Option.bind_eq_some_iff.mp h
        refine z_callSi [.int (mem 59 a1.toNatClampNeg), .int a3] [.int (((40 : Int32) * a1) + a2), .ref (E.2.1 61)] C dX7_set_66 zk_X7_75 zw180 ⟨⟨by decide, by decide⟩, rfl, Nat.le_of_ble_eq_true rfl⟩ rfl (sX7_asLane  h3) ?_
        refine z_iast C dX7_set_69 zar61 h (fun m4 h => ?_)
        refine z_aload_n C dX7_set_70 rfl (j := 0) rfl ?_
        refine z_aload_n C dX7_set_71 rfl (j := 0) rfl ?_
        refine zg7_2 C dX7_set_72 zw100 ?_
        refine z_bipush (v := 40) C dX7_set_75 zb40 ?_
        refine z_iload_n C dX7_set_77 rfl (j := 1) rfl ?_
        refine z_imul C dX7_set_78 ?_
        refine z_iload_n C dX7_set_79 rfl (j := 2) rfl ?_
        refine z_iadd C dX7_set_80 ?_
        refine z_iald C dX7_set_81 zar61 h (fun h => ?_)
        obtain ⟨r5, h5, h⟩ := Option.bind_eq_some_iff.mp h
        refine z_callVi [.int (m4 61 (((40 : Int32) * a1) + a2).toNatClampNeg)] [] C dX7_set_82 (by decide) zen_58 rfl zk_X7_72 zw156 zw157 ⟨⟨by decide, by decide⟩, rfl, Nat.le_of_ble_eq_true rfl⟩ rfl (sX7_well  h5) ?_
        have e := Option.some.inj h; subst e; exact z_iret C dX7_set_85 Rq
      · refine z_aload_n C dX7_set_43 rfl (j := 0) rfl ?_
        refine z_iconst (v := 2) C dX7_set_44 zc2 ?_
        obtain ⟨r6, h6, h⟩ := Option.bind_eq_some_iff.mp h
        refine z_callVi [.int (2 : Int32)] [] C dX7_set_45 (by decide) zen_58 rfl zk_X7_68 zw150 zw151 ⟨⟨by decide, by decide⟩, rfl, Nat.le_of_ble_eq_true rfl⟩ rfl (sX7_find  h6) ?_
        have e := Option.some.inj h; subst e; exact z_iret C dX7_set_48 Rq
    · refine z_aload_n C dX7_set_19 rfl (j := 0) rfl ?_
      refine z_iconst (v := 1) C dX7_set_20 zc1 ?_
      obtain ⟨r7, h7, h⟩ := Option.bind_eq_some_iff.mp h
      refine z_callVi [.int (1 : Int32)] [] C dX7_set_21 (by decide) zen_58 rfl zk_X7_68 zw150 zw151 ⟨⟨by decide, by decide⟩, rfl, Nat.le_of_ble_eq_true rfl⟩ rfl (sX7_find  h7) ?_
      have e := Option.some.inj h; subst e; exact z_iret C dX7_set_24 Rq
  · refine z_ldc C dX7_set_7 zw141 ?_
    have e := Option.some.inj h; subst e; exact z_iret C dX7_set_9 Rq
-- X7_copy
def fX7_copy_j35   (mem : ZM) : Option (Int32 × ZM) :=
  Option.bind (fX7_find (1 : Int32) mem) (fun r3 => some (r3.1, r3.2))
set_option maxRecDepth 100000 in
set_option maxHeartbeats 4000000 in
theorem jX7_copy_35 {l : Launch} {E : ZE} {Γ : ZG} (C : zC E Γ RX7 cX7_copy 7 2)    {mem : ZM}  {t : Int32 × ZM}  (Rq : zRq E Γ (some .int) (some (.int t.1)) t.2) (h : fX7_copy_j35  mem = some t) : zG l E Γ 7 35 [(0, .ref (E.2.1 58))] [] mem := by
  unfold fX7_copy_j35 at h
  refine z_aload_n C dX7_copy_35 rfl (j := 0) rfl ?_
  refine z_iconst (v := 1) C dX7_copy_36 zc1 ?_
  obtain ⟨r3, h3, h⟩ := Option.bind_eq_some_iff.mp h
  refine z_callVi [.int (1 : Int32)] [] C dX7_copy_37 (by decide) zen_58 rfl zk_X7_68 zw150 zw151 ⟨⟨by decide, by decide⟩, rfl, Nat.le_of_ble_eq_true rfl⟩ rfl (sX7_find  h3) ?_
  have e := Option.some.inj h; subst e; exact z_iret C dX7_copy_40 Rq
def fX7_copy_j108   (mem : ZM) : Option (Int32 × ZM) :=
  Option.bind (fX7_find (2 : Int32) mem) (fun r4 => some (r4.1, r4.2))
set_option maxRecDepth 100000 in
set_option maxHeartbeats 4000000 in
theorem jX7_copy_108 {l : Launch} {E : ZE} {Γ : ZG} (C : zC E Γ RX7 cX7_copy 7 2)    {mem : ZM}  {t : Int32 × ZM}  (Rq : zRq E Γ (some .int) (some (.int t.1)) t.2) (h : fX7_copy_j108  mem = some t) : zG l E Γ 7 108 [(0, .ref (E.2.1 58))] [] mem := by
  unfold fX7_copy_j108 at h
  refine z_aload_n C dX7_copy_108 rfl (j := 0) rfl ?_
  refine z_iconst (v := 2) C dX7_copy_109 zc2 ?_
  obtain ⟨r4, h4, h⟩ := Option.bind_eq_some_iff.mp h
  refine z_callVi [.int (2 : Int32)] [] C dX7_copy_110 (by decide) zen_58 rfl zk_X7_68 zw150 zw151 ⟨⟨by decide, by decide⟩, rfl, Nat.le_of_ble_eq_true rfl⟩ rfl (sX7_find  h4) ?_
  have e := Option.some.inj h; subst e; exact z_iret C dX7_copy_113 Rq
def fX7_copy_b117  (y117_1 : Int32) (y117_2 : Int32) (y117_3 : Int32) (y117_4 : Int32) (y117_5 : Int32) (x117_6 : Int32) (memb : ZM) : Option ((Int32 × ZM) ⊕ (Int32 × ZM)) :=
  if y117_5 ≤ x117_6 then (some (Sum.inr (x117_6, memb))) else (zgd (zin ((((40 : Int32) * y117_1) + y117_2) + x117_6) 320) (zgd (zin x117_6 40) (zlet (zst memb 63 x117_6.toNatClampNeg (memb 61 ((((40 : Int32) * y117_1) + y117_2) + x117_6).toNatClampNeg)) (fun m9 => zlet (x117_6 + (1 : Int32)) (fun v10 => some (Sum.inl (v10, m9)))))))
def fX7_copy_l117  (y117_1 : Int32) (y117_2 : Int32) (y117_3 : Int32) (y117_4 : Int32) (y117_5 : Int32) (s : Int32 × ZM) : Option (Int32 × ZM) := ziter (fun s => fX7_copy_b117 y117_1 y117_2 y117_3 y117_4 y117_5 s.1 s.2) 2000 s
set_option maxRecDepth 100000 in
set_option maxHeartbeats 4000000 in
theorem bX7_copy_117 {l : Launch} {E : ZE} {Γ : ZG} (C : zC E Γ RX7 cX7_copy 7 2)  {y117_1 : Int32} {y117_2 : Int32} {y117_3 : Int32} {y117_4 : Int32} {y117_5 : Int32} {x117_6 : Int32} {memb : ZM} {u : (Int32 × ZM) ⊕ (Int32 × ZM)} (G1 : ∀ s', u = Sum.inl s' → zG l E Γ 7 117 [(0, .ref (E.2.1 58)), (1, .int y117_1), (2, .int y117_2), (3, .int y117_3), (4, .int y117_4), (5, .int y117_5), (6, .int (s'.1))] [] s'.2) (G2 : ∀ s', u = Sum.inr s' → zG l E Γ 7 151 [(0, .ref (E.2.1 58)), (3, .int y117_3), (4, .int y117_4), (5, .int y117_5)] [] s'.2) (h : fX7_copy_b117 y117_1 y117_2 y117_3 y117_4 y117_5 x117_6 memb = some u) : zG l E Γ 7 117 [(0, .ref (E.2.1 58)), (1, .int y117_1), (2, .int y117_2), (3, .int y117_3), (4, .int y117_4), (5, .int y117_5), (6, .int x117_6)] [] memb := by
  unfold fX7_copy_b117 at h
  refine z_iload C dX7_copy_117 (j := 6) rfl ?_
  refine z_iload C dX7_copy_119 (j := 5) rfl ?_
  refine z_icmp_ge 151 C dX7_copy_121 (by decide) h (fun h => ?_) (fun h => ?_)
  · refine z_pick [0, 3, 4, 5] rfl ?_
    exact G2 _ (Option.some.inj h).symm
  · refine z_aload_n C dX7_copy_124 rfl (j := 0) rfl ?_
    refine zg7_6 C dX7_copy_125 zw102 ?_
    refine z_iload C dX7_copy_128 (j := 6) rfl ?_
    refine z_aload_n C dX7_copy_130 rfl (j := 0) rfl ?_
    refine zg7_2 C dX7_copy_131 zw100 ?_
    refine z_bipush (v := 40) C dX7_copy_134 zb40 ?_
    refine z_iload_n C dX7_copy_136 rfl (j := 1) rfl ?_
    refine z_imul C dX7_copy_137 ?_
    refine z_iload_n C dX7_copy_138 rfl (j := 2) rfl ?_
    refine z_iadd C dX7_copy_139 ?_
    refine z_iload C dX7_copy_140 (j := 6) rfl ?_
    refine z_iadd C dX7_copy_142 ?_
    refine z_iald C dX7_copy_143 zar61 h (fun h => ?_)
    refine z_iast C dX7_copy_144 zar63 h (fun m9 h => ?_)
    refine z_iinc [(0, .ref (E.2.1 58)), (1, .int y117_1), (2, .int y117_2), (3, .int y117_3), (4, .int y117_4), (5, .int y117_5)] C dX7_copy_145 zc1 h (j := 6) rfl (by decide) rfl (fun v10 h => ?_)
    refine z_goto 117 C dX7_copy_148 (by decide) ?_
    refine z_pick [1, 2, 3, 4, 5, 6, 0] rfl ?_
    exact G1 _ (Option.some.inj h).symm
theorem lX7_copy_117 {l : Launch} {E : ZE} {Γ : ZG} (C : zC E Γ RX7 cX7_copy 7 2)  {y117_1 : Int32} {y117_2 : Int32} {y117_3 : Int32} {y117_4 : Int32} {y117_5 : Int32} {s : Int32 × ZM} {r : Int32 × ZM} (h : fX7_copy_l117 y117_1 y117_2 y117_3 y117_4 y117_5 s = some r) (K1 : zG l E Γ 7 151 [(0, .ref (E.2.1 58)), (3, .int y117_3), (4, .int y117_4), (5, .int y117_5)] [] r.2) : zG l E Γ 7 117 [(0, .ref (E.2.1 58)), (1, .int y117_1), (2, .int y117_2), (3, .int y117_3), (4, .int y117_4), (5, .int y117_5), (6, .int s.1)] [] s.2 :=
  z_loop (body := fun s => fX7_copy_b117 y117_1 y117_2 y117_3 y117_4 y117_5 s.1 s.2) (fun s => zG l E Γ 7 117 [(0, .ref (E.2.1 58)), (1, .int y117_1), (2, .int y117_2), (3, .int y117_3), (4, .int y117_4), (5, .int y117_5), (6, .int s.1)] [] s.2) (fun r => zG l E Γ 7 151 [(0, .ref (E.2.1 58)), (3, .int y117_3), (4, .int y117_4), (5, .int y117_5)] [] r.2) (fun s u hb g1 g2 => bX7_copy_117 C  g1 g2 hb) 2000 s r h K1
def fX7_copy_b154  (y154_3 : Int32) (y154_4 : Int32) (y154_5 : Int32) (x154_6 : Int32) (memb : ZM) : Option ((Int32 × ZM) ⊕ (Int32 × ZM)) :=
  if y154_5 ≤ x154_6 then (some (Sum.inr (x154_6, memb))) else (zgd (zin x154_6 40) (zgd (zin ((((40 : Int32) * y154_3) + y154_4) + x154_6) 320) (zlet (zst memb 61 ((((40 : Int32) * y154_3) + y154_4) + x154_6).toNatClampNeg (memb 63 x154_6.toNatClampNeg)) (fun m13 => zlet (x154_6 + (1 : Int32)) (fun v14 => some (Sum.inl (v14, m13)))))))
def fX7_copy_l154  (y154_3 : Int32) (y154_4 : Int32) (y154_5 : Int32) (s : Int32 × ZM) : Option (Int32 × ZM) := ziter (fun s => fX7_copy_b154 y154_3 y154_4 y154_5 s.1 s.2) 2000 s
set_option maxRecDepth 100000 in
set_option maxHeartbeats 4000000 in
theorem bX7_copy_154 {l : Launch} {E : ZE} {Γ : ZG} (C : zC E Γ RX7 cX7_copy 7 2)  {y154_3 : Int32} {y154_4 : Int32} {y154_5 : Int32} {x154_6 : Int32} {memb : ZM} {u : (Int32 × ZM) ⊕ (Int32 × ZM)} (G1 : ∀ s', u = Sum.inl s' → zG l E Γ 7 154 [(0, .ref (E.2.1 58)), (3, .int y154_3), (4, .int y154_4), (5, .int y154_5), (6, .int (s'.1))] [] s'.2) (G2 : ∀ s', u = Sum.inr s' → zG l E Γ 7 189 [(0, .ref (E.2.1 58)), (5, .int y154_5)] [] s'.2) (h : fX7_copy_b154 y154_3 y154_4 y154_5 x154_6 memb = some u) : zG l E Γ 7 154 [(0, .ref (E.2.1 58)), (3, .int y154_3), (4, .int y154_4), (5, .int y154_5), (6, .int x154_6)] [] memb := by
  unfold fX7_copy_b154 at h
  refine z_iload C dX7_copy_154 (j := 4) rfl ?_
  refine z_iload C dX7_copy_156 (j := 3) rfl ?_
  refine z_icmp_ge 189 C dX7_copy_158 (by decide) h (fun h => ?_) (fun h => ?_)
  · refine z_pick [0, 3] rfl ?_
    exact G2 _ (Option.some.inj h).symm
  · refine z_aload_n C dX7_copy_161 rfl (j := 0) rfl ?_
    refine zg7_2 C dX7_copy_162 zw100 ?_
    refine z_bipush (v := 40) C dX7_copy_165 zb40 ?_
    refine z_iload_n C dX7_copy_167 rfl (j := 1) rfl ?_
    refine z_imul C dX7_copy_168 ?_
    refine z_iload C dX7_copy_169 (j := 2) rfl ?_
    refine z_iadd C dX7_copy_171 ?_
    refine z_iload C dX7_copy_172 (j := 4) rfl ?_
    refine z_iadd C dX7_copy_174 ?_
    refine z_aload_n C dX7_copy_175 rfl (j := 0) rfl ?_
    refine zg7_6 C dX7_copy_176 zw102 ?_
    refine z_iload C dX7_copy_179 (j := 4) rfl ?_
    refine z_iald C dX7_copy_181 zar63 h (fun h => ?_)
    refine z_iast C dX7_copy_182 zar61 h (fun m13 h => ?_)
    refine z_iinc [(0, .ref (E.2.1 58)), (3, .int y154_3), (4, .int y154_4), (5, .int y154_5)] C dX7_copy_183 zc1 h (j := 4) rfl (by decide) rfl (fun v14 h => ?_)
    refine z_goto 154 C dX7_copy_186 (by decide) ?_
    refine z_pick [1, 2, 3, 4, 0] rfl ?_
    exact G1 _ (Option.some.inj h).symm
theorem lX7_copy_154 {l : Launch} {E : ZE} {Γ : ZG} (C : zC E Γ RX7 cX7_copy 7 2)  {y154_3 : Int32} {y154_4 : Int32} {y154_5 : Int32} {s : Int32 × ZM} {r : Int32 × ZM} (h : fX7_copy_l154 y154_3 y154_4 y154_5 s = some r) (K1 : zG l E Γ 7 189 [(0, .ref (E.2.1 58)), (5, .int y154_5)] [] r.2) : zG l E Γ 7 154 [(0, .ref (E.2.1 58)), (3, .int y154_3), (4, .int y154_4), (5, .int y154_5), (6, .int s.1)] [] s.2 :=
  z_loop (body := fun s => fX7_copy_b154 y154_3 y154_4 y154_5 s.1 s.2) (fun s => zG l E Γ 7 154 [(0, .ref (E.2.1 58)), (3, .int y154_3), (4, .int y154_4), (5, .int y154_5), (6, .int s.1)] [] s.2) (fun r => zG l E Γ 7 189 [(0, .ref (E.2.1 58)), (5, .int y154_5)] [] r.2) (fun s u hb g1 g2 => bX7_copy_154 C  g1 g2 hb) 2000 s r h K1
def fX7_copy  (a1 : Int32) (a2 : Int32) (a3 : Int32) (a4 : Int32) (a5 : Int32) (mem : ZM) : Option (Int32 × ZM) :=
  Option.bind (fX7_isRow a1) (fun r1 => if r1 = 0 then (some ((-1000001 : Int32), mem)) else (Option.bind (fX7_isRow a3) (fun r2 => if r2 = 0 then (some ((-1000001 : Int32), mem)) else (zgd (zin a1 8) (if (mem 60 a1.toNatClampNeg) < 0 then (fX7_copy_j35  mem) else (zgd (zin a3 8) (if 0 ≤ (mem 60 a3.toNatClampNeg) then (zgd (zin a1 8) (zgd (zin a3 8) (if (mem 59 a1.toNatClampNeg) = (mem 59 a3.toNatClampNeg) then (if a5 < 0 then (fX7_copy_j108  mem) else (zgd (zin a1 8) (Option.bind (fX7_in a2.toInt64 (0 : Int64) (((mem 60 a1.toNatClampNeg).toInt64) - a5.toInt64)) (fun r5 => if r5 = 0 then (fX7_copy_j108  mem) else (zgd (zin a3 8) (Option.bind (fX7_in a4.toInt64 (0 : Int64) (((mem 60 a3.toNatClampNeg).toInt64) - a5.toInt64)) (fun r6 => if r6 = 0 then (fX7_copy_j108  mem) else (zlet (0 : Int32) (fun v7 => Option.bind (fX7_copy_l117 a1 a2 a3 a4 a5 (v7, mem)) (fun r8 => zlet (0 : Int32) (fun v11 => Option.bind (fX7_copy_l154 a3 a4 a5 (v11, r8.2)) (fun r12 => Option.bind (fX7_well a5 r12.2) (fun r15 => some (r15.1, r15.2)))))))))))))) else (Option.bind (fX7_find (5 : Int32) mem) (fun r16 => some (r16.1, r16.2)))))) else (fX7_copy_j35  mem))))))))
set_option maxRecDepth 100000 in
set_option maxHeartbeats 4000000 in
theorem sX7_copy {l : Launch} {E : ZE}  {a1 : Int32} {a2 : Int32} {a3 : Int32} {a4 : Int32} {a5 : Int32} {mem : ZM} {t : Int32 × ZM} (h : fX7_copy a1 a2 a3 a4 a5 mem = some t) : zMet l E yX7_copy cX7_copy 7 (some .int) 2 [.ref (E.2.1 58), .int a1, .int a2, .int a3, .int a4, .int a5] mem (some (.int t.1)) t.2 := by
  refine z_enter (by decide) (Nat.le_of_ble_eq_true rfl) (fun Γ C Rq => ?_)
  have C : zC E Γ RX7 cX7_copy 7 2 := C
  show zG l E Γ 7 0 [(0, .ref (E.2.1 58)), (1, .int a1), (2, .int a2), (3, .int a3), (4, .int a4), (5, .int a5)] [] mem
  unfold fX7_copy at h
  refine z_iload_n C dX7_copy_0 rfl (j := 1) rfl ?_
  obtain ⟨r1, h1, h⟩ := Option.bind_eq_some_iff.mp h
  refine z_callSi [.int a1] [] C dX7_copy_1 zk_X7_61 zw143 ⟨⟨by decide, by decide⟩, rfl, Nat.le_of_ble_eq_true rfl⟩ rfl (sX7_isRow  h1) ?_
  refine z_if_eq 14 C dX7_copy_4 (by decide) h (fun h => ?_) (fun h => ?_)
  · refine z_ldc C dX7_copy_14 zw141 ?_
    have e := Option.some.inj h; subst e; exact z_iret C dX7_copy_16 Rq
  · refine z_iload_n C dX7_copy_7 rfl (j := 3) rfl ?_
    obtain ⟨r2, h2, h⟩ := Option.bind_eq_some_iff.mp h
    refine z_callSi [.int a3] [] C dX7_copy_8 zk_X7_61 zw143 ⟨⟨by decide, by decide⟩, rfl, Nat.le_of_ble_eq_true rfl⟩ rfl (sX7_isRow  h2) ?_
    refine z_if_ne 17 C dX7_copy_11 (by decide) h (fun h => ?_) (fun h => ?_)
    · refine z_aload_n C dX7_copy_17 rfl (j := 0) rfl ?_
      refine zg7_1 C dX7_copy_18 zw99 ?_
      refine z_iload_n C dX7_copy_21 rfl (j := 1) rfl ?_
      refine z_iald C dX7_copy_22 zar60 h (fun h => ?_)
      refine z_if_lt 35 C dX7_copy_23 (by decide) h (fun h => ?_) (fun h => ?_)
      · refine z_pick [0] rfl ?_
        exact jX7_copy_35 C   Rq h
      · refine z_aload_n C dX7_copy_26 rfl (j := 0) rfl ?_
        refine zg7_1 C dX7_copy_27 zw99 ?_
        refine z_iload_n C dX7_copy_30 rfl (j := 3) rfl ?_
        refine z_iald C dX7_copy_31 zar60 h (fun h => ?_)
        refine z_if_ge 41 C dX7_copy_32 (by decide) h (fun h => ?_) (fun h => ?_)
        · refine z_aload_n C dX7_copy_41 rfl (j := 0) rfl ?_
          refine zg7_0 C dX7_copy_42 zw98 ?_
          refine z_iload_n C dX7_copy_45 rfl (j := 1) rfl ?_
          refine z_iald C dX7_copy_46 zar59 h (fun h => ?_)
          refine z_aload_n C dX7_copy_47 rfl (j := 0) rfl ?_
          refine zg7_0 C dX7_copy_48 zw98 ?_
          refine z_iload_n C dX7_copy_51 rfl (j := 3) rfl ?_
          refine z_iald C dX7_copy_52 zar59 h (fun h => ?_)
          refine z_icmp_eq 62 C dX7_copy_53 (by decide) h (fun h => ?_) (fun h => ?_)
          · refine z_iload C dX7_copy_62 (j := 5) rfl ?_
            refine z_if_lt 108 C dX7_copy_64 (by decide) h (fun h => ?_) (fun h => ?_)
            · refine z_pick [0] rfl ?_
              exact jX7_copy_108 C   Rq h
            · refine z_iload_n C dX7_copy_67 rfl (j := 2) rfl ?_
              refine z_i2l C dX7_copy_68 ?_
              refine z_lconst (v := 0) C dX7_copy_69 zl0 ?_
              refine z_aload_n C dX7_copy_70 rfl (j := 0) rfl ?_
              refine zg7_1 C dX7_copy_71 zw99 ?_
              refine z_iload_n C dX7_copy_74 rfl (j := 1) rfl ?_
              refine z_iald C dX7_copy_75 zar60 h (fun h => ?_)
              refine z_i2l C dX7_copy_76 ?_
              refine z_iload C dX7_copy_77 (j := 5) rfl ?_
              refine z_i2l C dX7_copy_79 ?_
              refine z_lsub C dX7_copy_80 ?_
              obtain ⟨r5, h5, h⟩ := Option.bind_eq_some_iff.mp h
              refine z_callSi [.long a2.toInt64, .long (0 : Int64), .long (((mem 60 a1.toNatClampNeg).toInt64) - a5.toInt64)] [] C dX7_copy_81 zk_X7_57 zw147 ⟨⟨by decide, by decide⟩, rfl, Nat.le_of_ble_eq_true rfl⟩ rfl (sX7_in  h5) ?_
              refine z_if_eq 108 C dX7_copy_84 (by decide) h (fun h => ?_) (fun h => ?_)
              · refine z_pick [0] rfl ?_
                exact jX7_copy_108 C   Rq h
              · refine z_iload C dX7_copy_87 (j := 4) rfl ?_
                refine z_i2l C dX7_copy_89 ?_
                refine z_lconst (v := 0) C dX7_copy_90 zl0 ?_
                refine z_aload_n C dX7_copy_91 rfl (j := 0) rfl ?_
                refine zg7_1 C dX7_copy_92 zw99 ?_
                refine z_iload_n C dX7_copy_95 rfl (j := 3) rfl ?_
                refine z_iald C dX7_copy_96 zar60 h (fun h => ?_)
                refine z_i2l C dX7_copy_97 ?_
                refine z_iload C dX7_copy_98 (j := 5) rfl ?_
                refine z_i2l C dX7_copy_100 ?_
                refine z_lsub C dX7_copy_101 ?_
                obtain ⟨r6, h6, h⟩ := Option.bind_eq_some_iff.mp h
                refine z_callSi [.long a4.toInt64, .long (0 : Int64), .long (((mem 60 a3.toNatClampNeg).toInt64) - a5.toInt64)] [] C dX7_copy_102 zk_X7_57 zw147 ⟨⟨by decide, by decide⟩, rfl, Nat.le_of_ble_eq_true rfl⟩ rfl (sX7_in  h6) ?_
                refine z_if_ne 114 C dX7_copy_105 (by decide) h (fun h => ?_) (fun h => ?_)
                · refine z_iconst (v := 0) C dX7_copy_114 zc0 ?_
                  refine z_istore [(0, .ref (E.2.1 58)), (1, .int a1), (2, .int a2), (3, .int a3), (4, .int a4), (5, .int a5)] C dX7_copy_115 h (by decide) rfl (fun v7 h => ?_)
                  obtain ⟨r8, h8, h⟩ := Option.bind_eq_some_iff.mp h
                  refine z_pick [1, 2, 3, 4, 5, 6, 0] rfl ?_
                  refine lX7_copy_117 C  h8 ?_
                  refine z_iconst (v := 0) C dX7_copy_151 zc0 ?_
                  refine z_istore [(0, .ref (E.2.1 58)), (3, .int a3), (4, .int a4), (5, .int a5)] C dX7_copy_152 h (by decide) rfl (fun v11 h => ?_)
                  obtain ⟨r12, h12, h⟩ := Option.bind_eq_some_iff.mp h
                  refine z_pick [1, 2, 3, 4, 0] rfl ?_
                  refine lX7_copy_154 C  h12 ?_
                  refine z_aload_n C dX7_copy_189 rfl (j := 0) rfl ?_
                  refine z_iload C dX7_copy_190 (j := 1) rfl ?_
                  obtain ⟨r15, h15, h⟩ := Option.bind_eq_some_iff.mp h
                  refine z_callVi [.int a5] [] C dX7_copy_192 (by decide) zen_58 rfl zk_X7_72 zw156 zw157 ⟨⟨by decide, by decide⟩, rfl, Nat.le_of_ble_eq_true rfl⟩ rfl (sX7_well  h15) ?_
                  have e := Option.some.inj h; subst e; exact z_iret C dX7_copy_195 Rq
                · refine z_pick [0] rfl ?_
                  exact jX7_copy_108 C   Rq h
          · refine z_aload_n C dX7_copy_56 rfl (j := 0) rfl ?_
            refine z_iconst (v := 5) C dX7_copy_57 zc5 ?_
            obtain ⟨r16, h16, h⟩ := Option.bind_eq_some_iff.mp h
            refine z_callVi [.int (5 : Int32)] [] C dX7_copy_58 (by decide) zen_58 rfl zk_X7_68 zw150 zw151 ⟨⟨by decide, by decide⟩, rfl, Nat.le_of_ble_eq_true rfl⟩ rfl (sX7_find  h16) ?_
            have e := Option.some.inj h; subst e; exact z_iret C dX7_copy_61 Rq
        · refine z_pick [0] rfl ?_
          exact jX7_copy_35 C   Rq h
    · refine z_ldc C dX7_copy_14 zw141 ?_
      have e := Option.some.inj h; subst e; exact z_iret C dX7_copy_16 Rq
