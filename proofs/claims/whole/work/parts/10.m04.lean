-- X5_readNumber
def fX5_readNumber_b8  (y8_1 : Int32) (y8_2 : Int32) (mem8 : ZM) (x8_3 : Int32) (x8_4 : Int32) : Option ((Int32 × Int32) ⊕ (Int32 × Int32)) :=
  if (mem8 3 1) ≤ x8_3 then (some (Sum.inr (x8_3, x8_4))) else (if ((mem8 3 2) + (3 : Int32)) ≤ x8_3 then (some (Sum.inr (x8_3, x8_4))) else (zgd (zin x8_3 90) (Option.bind (fX6_isWithin (mem8 4 x8_3.toNatClampNeg) (48 : Int32) (57 : Int32)) (fun r4 => if r4 = 0 then (some (Sum.inr (x8_3, x8_4))) else (zgd (zin x8_3 90) (zlet ((((10 : Int32) * x8_4) + (mem8 4 x8_3.toNatClampNeg)) - (48 : Int32)) (fun v5 => zlet (x8_3 + (1 : Int32)) (fun v6 => some (Sum.inl (v6, v5))))))))))
def fX5_readNumber_l8  (y8_1 : Int32) (y8_2 : Int32) (mem8 : ZM) (s : Int32 × Int32) : Option (Int32 × Int32) := ziter (fun s => fX5_readNumber_b8 y8_1 y8_2 mem8 s.1 s.2) 2000 s
set_option maxRecDepth 100000 in
set_option maxHeartbeats 4000000 in
theorem bX5_readNumber_8 {l : Launch} {E : ZE} {Γ : ZG} (C : zC E Γ RX5 cX5_readNumber 5 1)  {y8_1 : Int32} {y8_2 : Int32} {mem8 : ZM} {x8_3 : Int32} {x8_4 : Int32} {u : (Int32 × Int32) ⊕ (Int32 × Int32)} (G1 : ∀ s', u = Sum.inl s' → zG l E Γ 5 8 [(0, .ref (E.2.1 3)), (1, .int y8_1), (2, .int y8_2), (3, .int (s'.1)), (4, .int (s'.2))] [] mem8) (G2 : ∀ s', u = Sum.inr s' → zG l E Γ 5 65 [(0, .ref (E.2.1 3)), (1, .int y8_1), (2, .int y8_2), (3, .int (s'.1)), (4, .int (s'.2))] [] mem8) (h : fX5_readNumber_b8 y8_1 y8_2 mem8 x8_3 x8_4 = some u) : zG l E Γ 5 8 [(0, .ref (E.2.1 3)), (1, .int y8_1), (2, .int y8_2), (3, .int x8_3), (4, .int x8_4)] [] mem8 := by
  unfold fX5_readNumber_b8 at h
  refine z_iload_n C dX5_readNumber_8 rfl (j := 3) rfl ?_
  refine z_aload_n C dX5_readNumber_9 rfl (j := 0) rfl ?_
  refine zg5_1 C dX5_readNumber_10 zw57 ?_
  refine z_icmp_ge 65 C dX5_readNumber_13 (by decide) h (fun h => ?_) (fun h => ?_)
  · refine z_pick [0, 1, 2, 3, 4] rfl ?_
    exact G2 _ (Option.some.inj h).symm
  · refine z_iload_n C dX5_readNumber_16 rfl (j := 3) rfl ?_
    refine z_aload_n C dX5_readNumber_17 rfl (j := 0) rfl ?_
    refine zg5_2 C dX5_readNumber_18 zw58 ?_
    refine z_iconst (v := 3) C dX5_readNumber_21 zc3 ?_
    refine z_iadd C dX5_readNumber_22 ?_
    refine z_icmp_ge 65 C dX5_readNumber_23 (by decide) h (fun h => ?_) (fun h => ?_)
    · refine z_pick [0, 1, 2, 3, 4] rfl ?_
      exact G2 _ (Option.some.inj h).symm
    · refine z_aload_n C dX5_readNumber_26 rfl (j := 0) rfl ?_
      refine zg5_0 C dX5_readNumber_27 zw56 ?_
      refine z_iload_n C dX5_readNumber_30 rfl (j := 3) rfl ?_
      refine z_iald C dX5_readNumber_31 zar4 h (fun h => ?_)
      refine z_bipush (v := 48) C dX5_readNumber_32 zb48 ?_
      refine z_bipush (v := 57) C dX5_readNumber_34 zb57 ?_
      obtain ⟨r4, h4, h⟩ := Option.bind_eq_some_iff.mp h
      refine z_callSNi (n := 3) [.int (mem8 4 x8_3.toNatClampNeg), .int (48 : Int32), .int (57 : Int32)] [] C dX5_readNumber_36 C.2.2.2.2.2.2.2.1.2.2.2.2.2.2.1.1 zw2 zw122 (by decide +kernel) zw121 ⟨⟨by decide, by decide⟩, rfl, Nat.le_of_ble_eq_true rfl⟩ rfl (sX6_isWithin  h4) ?_
      refine z_if_eq 65 C dX5_readNumber_39 (by decide) h (fun h => ?_) (fun h => ?_)
      · refine z_pick [0, 1, 2, 3, 4] rfl ?_
        exact G2 _ (Option.some.inj h).symm
      · refine z_bipush (v := 10) C dX5_readNumber_42 zb10 ?_
        refine z_iload C dX5_readNumber_44 (j := 4) rfl ?_
        refine z_imul C dX5_readNumber_46 ?_
        refine z_aload_n C dX5_readNumber_47 rfl (j := 0) rfl ?_
        refine zg5_0 C dX5_readNumber_48 zw56 ?_
        refine z_iload_n C dX5_readNumber_51 rfl (j := 3) rfl ?_
        refine z_iald C dX5_readNumber_52 zar4 h (fun h => ?_)
        refine z_iadd C dX5_readNumber_53 ?_
        refine z_bipush (v := 48) C dX5_readNumber_54 zb48 ?_
        refine z_isub C dX5_readNumber_56 ?_
        refine z_istore [(0, .ref (E.2.1 3)), (1, .int y8_1), (2, .int y8_2), (3, .int x8_3)] C dX5_readNumber_57 h (by decide) rfl (fun v5 h => ?_)
        refine z_iinc [(4, .int v5), (0, .ref (E.2.1 3)), (1, .int y8_1), (2, .int y8_2)] C dX5_readNumber_59 zc1 h (j := 4) rfl (by decide) rfl (fun v6 h => ?_)
        refine z_goto 8 C dX5_readNumber_62 (by decide) ?_
        refine z_pick [2, 3, 4, 0, 1] rfl ?_
        exact G1 _ (Option.some.inj h).symm
theorem lX5_readNumber_8 {l : Launch} {E : ZE} {Γ : ZG} (C : zC E Γ RX5 cX5_readNumber 5 1)  {y8_1 : Int32} {y8_2 : Int32} {mem8 : ZM} {s : Int32 × Int32} {r : Int32 × Int32} (h : fX5_readNumber_l8 y8_1 y8_2 mem8 s = some r) (K1 : zG l E Γ 5 65 [(0, .ref (E.2.1 3)), (1, .int y8_1), (2, .int y8_2), (3, .int r.1), (4, .int r.2)] [] mem8) : zG l E Γ 5 8 [(0, .ref (E.2.1 3)), (1, .int y8_1), (2, .int y8_2), (3, .int s.1), (4, .int s.2)] [] mem8 :=
  z_loop (body := fun s => fX5_readNumber_b8 y8_1 y8_2 mem8 s.1 s.2) (fun s => zG l E Γ 5 8 [(0, .ref (E.2.1 3)), (1, .int y8_1), (2, .int y8_2), (3, .int s.1), (4, .int s.2)] [] mem8) (fun r => zG l E Γ 5 65 [(0, .ref (E.2.1 3)), (1, .int y8_1), (2, .int y8_2), (3, .int r.1), (4, .int r.2)] [] mem8) (fun s u hb g1 g2 => bX5_readNumber_8 C  g1 g2 hb) 2000 s r h K1
def fX5_readNumber_j83   (mem : ZM) : Option (Int32 × ZM) :=
  Option.bind (fX5_failWith (1 : Int32) mem) (fun r7 => zgd (zbl r7.1) (some (r7.1, r7.2)))
set_option maxRecDepth 100000 in
set_option maxHeartbeats 4000000 in
theorem jX5_readNumber_83 {l : Launch} {E : ZE} {Γ : ZG} (C : zC E Γ RX5 cX5_readNumber 5 1)    {mem : ZM}  {t : Int32 × ZM}  (Rq : zRq E Γ (some .boolean) (some (.int t.1)) t.2) (h : fX5_readNumber_j83  mem = some t) : zG l E Γ 5 83 [(0, .ref (E.2.1 3))] [] mem := by
  unfold fX5_readNumber_j83 at h
  refine z_aload_n C dX5_readNumber_83 rfl (j := 0) rfl ?_
  refine z_iconst (v := 1) C dX5_readNumber_84 zc1 ?_
  obtain ⟨r7, h7, h⟩ := Option.bind_eq_some_iff.mp h
  refine z_callVi [.int (1 : Int32)] [] C dX5_readNumber_85 (by decide) zen_3 rfl zk_X5_54 zw242 zw243 ⟨⟨by decide, by decide⟩, rfl, Nat.le_of_ble_eq_true rfl⟩ rfl (sX5_failWith  h7) ?_
  obtain ⟨hg, h⟩ := zgd_some h
  have e := Option.some.inj h; subst e; exact z_zret C dX5_readNumber_88 hg Rq
def fX5_readNumber_j65  (x1 : Int32) (x2 : Int32) (x3 : Int32) (x4 : Int32) (mem : ZM) : Option (Int32 × ZM) :=
  if x3 = (mem 3 2) then (fX5_readNumber_j83  mem) else (if x3 = ((mem 3 2) + (3 : Int32)) then (fX5_readNumber_j83  mem) else (Option.bind (fX6_isWithin x4 x1 x2) (fun r8 => if r8 = 0 then (Option.bind (fX5_failWith (2 : Int32) mem) (fun r11 => zgd (zbl r11.1) (some (r11.1, r11.2)))) else (zlet (zst mem 3 4 x4) (fun m9 => zlet (zst m9 3 2 x3) (fun m10 => some ((1 : Int32), m10)))))))
set_option maxRecDepth 100000 in
set_option maxHeartbeats 4000000 in
theorem jX5_readNumber_65 {l : Launch} {E : ZE} {Γ : ZG} (C : zC E Γ RX5 cX5_readNumber 5 1)  {x1 : Int32} {x2 : Int32} {x3 : Int32} {x4 : Int32}  {mem : ZM}  {t : Int32 × ZM}  (Rq : zRq E Γ (some .boolean) (some (.int t.1)) t.2) (h : fX5_readNumber_j65  x1 x2 x3 x4 mem = some t) : zG l E Γ 5 65 [(0, .ref (E.2.1 3)), (1, .int x1), (2, .int x2), (3, .int x3), (4, .int x4)] [] mem := by
  unfold fX5_readNumber_j65 at h
  refine z_iload_n C dX5_readNumber_65 rfl (j := 3) rfl ?_
  refine z_aload_n C dX5_readNumber_66 rfl (j := 0) rfl ?_
  refine zg5_2 C dX5_readNumber_67 zw58 ?_
  refine z_icmp_eq 83 C dX5_readNumber_70 (by decide) h (fun h => ?_) (fun h => ?_)
  · refine z_pick [0] rfl ?_
    exact jX5_readNumber_83 C   Rq h
  · refine z_iload_n C dX5_readNumber_73 rfl (j := 3) rfl ?_
    refine z_aload_n C dX5_readNumber_74 rfl (j := 0) rfl ?_
    refine zg5_2 C dX5_readNumber_75 zw58 ?_
    refine z_iconst (v := 3) C dX5_readNumber_78 zc3 ?_
    refine z_iadd C dX5_readNumber_79 ?_
    refine z_icmp_ne 89 C dX5_readNumber_80 (by decide) h (fun h => ?_) (fun h => ?_)
    · refine z_iload C dX5_readNumber_89 (j := 4) rfl ?_
      refine z_iload_n C dX5_readNumber_91 rfl (j := 1) rfl ?_
      refine z_iload_n C dX5_readNumber_92 rfl (j := 2) rfl ?_
      obtain ⟨r8, h8, h⟩ := Option.bind_eq_some_iff.mp h
      refine z_callSNi (n := 3) [.int x4, .int x1, .int x2] [] C dX5_readNumber_93 C.2.2.2.2.2.2.2.1.2.2.2.2.2.2.1.1 zw2 zw122 (by decide +kernel) zw121 ⟨⟨by decide, by decide⟩, rfl, Nat.le_of_ble_eq_true rfl⟩ rfl (sX6_isWithin  h8) ?_
      refine z_if_ne 105 C dX5_readNumber_96 (by decide) h (fun h => ?_) (fun h => ?_)
      · refine z_aload_n C dX5_readNumber_105 rfl (j := 0) rfl ?_
        refine z_iload C dX5_readNumber_106 (j := 4) rfl ?_
        refine zp5_4 C dX5_readNumber_108 zw60 h (fun m9 h => ?_)
        refine z_aload_n C dX5_readNumber_111 rfl (j := 0) rfl ?_
        refine z_iload_n C dX5_readNumber_112 rfl (j := 3) rfl ?_
        refine zp5_2 C dX5_readNumber_113 zw58 h (fun m10 h => ?_)
        refine z_iconst (v := 1) C dX5_readNumber_116 zc1 ?_
        have e := Option.some.inj h; subst e; exact z_zret C dX5_readNumber_117 zbl1 Rq
      · refine z_aload_n C dX5_readNumber_99 rfl (j := 0) rfl ?_
        refine z_iconst (v := 2) C dX5_readNumber_100 zc2 ?_
        obtain ⟨r11, h11, h⟩ := Option.bind_eq_some_iff.mp h
        refine z_callVi [.int (2 : Int32)] [] C dX5_readNumber_101 (by decide) zen_3 rfl zk_X5_54 zw242 zw243 ⟨⟨by decide, by decide⟩, rfl, Nat.le_of_ble_eq_true rfl⟩ rfl (sX5_failWith  h11) ?_
        obtain ⟨hg, h⟩ := zgd_some h
        have e := Option.some.inj h; subst e; exact z_zret C dX5_readNumber_104 hg Rq
    · refine z_pick [0] rfl ?_
      exact jX5_readNumber_83 C   Rq h
def fX5_readNumber  (a1 : Int32) (a2 : Int32) (mem : ZM) : Option (Int32 × ZM) :=
  zlet (mem 3 2) (fun v1 => zlet (0 : Int32) (fun v2 => Option.bind (fX5_readNumber_l8 a1 a2 mem (v1, v2)) (fun r3 => fX5_readNumber_j65  a1 a2 r3.1 r3.2 mem)))
set_option maxRecDepth 100000 in
set_option maxHeartbeats 4000000 in
theorem sX5_readNumber {l : Launch} {E : ZE}  {a1 : Int32} {a2 : Int32} {mem : ZM} {t : Int32 × ZM} (h : fX5_readNumber a1 a2 mem = some t) : zMet l E yX5_readNumber cX5_readNumber 5 (some .boolean) 1 [.ref (E.2.1 3), .int a1, .int a2] mem (some (.int t.1)) t.2 := by
  refine z_enter (by decide) (Nat.le_of_ble_eq_true rfl) (fun Γ C Rq => ?_)
  have C : zC E Γ RX5 cX5_readNumber 5 1 := C
  show zG l E Γ 5 0 [(0, .ref (E.2.1 3)), (1, .int a1), (2, .int a2)] [] mem
  unfold fX5_readNumber at h
  refine z_aload_n C dX5_readNumber_0 rfl (j := 0) rfl ?_
  refine zg5_2 C dX5_readNumber_1 zw58 ?_
  refine z_istore_n [(0, .ref (E.2.1 3)), (1, .int a1), (2, .int a2)] C dX5_readNumber_4 h rfl (by decide) rfl (fun v1 h => ?_)
  refine z_iconst (v := 0) C dX5_readNumber_5 zc0 ?_
  refine z_istore [(3, .int v1), (0, .ref (E.2.1 3)), (1, .int a1), (2, .int a2)] C dX5_readNumber_6 h (by decide) rfl (fun v2 h => ?_)
  obtain ⟨r3, h3, h⟩ := Option.bind_eq_some_iff.mp h
  refine z_pick [2, 3, 4, 1, 0] rfl ?_
  refine lX5_readNumber_8 C  h3 ?_
  refine z_pick [0, 1, 2, 3, 4] rfl ?_
  exact jX5_readNumber_65 C   Rq h
-- X5_readThing
def fX5_readThing_j32 (q1 : Nat) (k0 : Int32) (mem : ZM) : Option (Int32 × ZM) :=
  zlet k0 (fun v1 => if v1 = 0 then (Option.bind (fX5_failWith (1 : Int32) mem) (fun r10 => zgd (zbl r10.1) (some (r10.1, r10.2)))) else (if (mem q1 0) < (8 : Int32) then (zlet (zst mem 3 2 ((mem 3 2) + (1 : Int32))) (fun m2 => Option.bind (fX5_readNumber (1 : Int32) (30 : Int32) m2) (fun r3 => if r3.1 = 0 then (some ((0 : Int32), r3.2)) else (Option.bind (fX5_readSign (44 : Int32) r3.2) (fun r4 => if r4.1 = 0 then (some ((0 : Int32), r4.2)) else (zlet (r4.2 3 4) (fun v5 => Option.bind (fX5_readNumber (0 : Int32) (20 : Int32) r4.2) (fun r6 => if r6.1 = 0 then (some ((0 : Int32), r6.2)) else (Option.bind (fX5_readSign (59 : Int32) r6.2) (fun r7 => if r7.1 = 0 then (some ((0 : Int32), r7.2)) else (Option.bind (fX3_layThing q1 v1 v5 (r7.2 3 4) r7.2) (fun r8 => some ((1 : Int32), r8))))))))))))) else (Option.bind (fX5_failWith (3 : Int32) mem) (fun r9 => zgd (zbl r9.1) (some (r9.1, r9.2))))))
set_option maxRecDepth 100000 in
set_option maxHeartbeats 4000000 in
theorem jX5_readThing_32 {l : Launch} {E : ZE} {Γ : ZG} (C : zC E Γ RX5 cX5_readThing 4 8) {q1 : Nat} (hq1 : zH q1) {k0 : Int32}  {mem : ZM}  {t : Int32 × ZM}  (Rq : zRq E Γ (some .boolean) (some (.int t.1)) t.2) (h : fX5_readThing_j32 q1 k0 mem = some t) : zG l E Γ 4 32 [(0, .ref (E.2.1 3)), (1, .ref (E.2.1 q1))] [.int k0] mem := by
  unfold fX5_readThing_j32 at h
  refine z_istore_n [(0, .ref (E.2.1 3)), (1, .ref (E.2.1 q1))] C dX5_readThing_32 h rfl (by decide) rfl (fun v1 h => ?_)
  refine z_iload_n C dX5_readThing_33 rfl (j := 0) rfl ?_
  refine z_if_ne 43 C dX5_readThing_34 (by decide) h (fun h => ?_) (fun h => ?_)
  · refine z_aload_n C dX5_readThing_43 rfl (j := 2) rfl ?_
    refine zg3_0 C dX5_readThing_44 hq1 zw257 ?_
    refine z_bipush (v := 8) C dX5_readThing_47 zb8 ?_
    refine z_icmp_lt 58 C dX5_readThing_49 (by decide) h (fun h => ?_) (fun h => ?_)
    · refine z_aload_n C dX5_readThing_58 rfl (j := 1) rfl ?_
      refine z_dup C dX5_readThing_59 rfl ?_
      refine zg5_2 C dX5_readThing_60 zw58 ?_
      refine z_iconst (v := 1) C dX5_readThing_63 zc1 ?_
      refine z_iadd C dX5_readThing_64 ?_
      refine zp5_2 C dX5_readThing_65 zw58 h (fun m2 h => ?_)
      refine z_aload_n C dX5_readThing_68 rfl (j := 1) rfl ?_
      refine z_iconst (v := 1) C dX5_readThing_69 zc1 ?_
      refine z_bipush (v := 30) C dX5_readThing_70 zb30 ?_
      obtain ⟨r3, h3, h⟩ := Option.bind_eq_some_iff.mp h
      refine z_callVi [.int (1 : Int32), .int (30 : Int32)] [] C dX5_readThing_72 (by decide) zen_3 rfl zk_X5_32 zw246 zw247 ⟨⟨by decide, by decide⟩, rfl, Nat.le_of_ble_eq_true rfl⟩ rfl (sX5_readNumber  h3) ?_
      refine z_if_eq 87 C dX5_readThing_75 (by decide) h (fun h => ?_) (fun h => ?_)
      · refine z_iconst (v := 0) C dX5_readThing_87 zc0 ?_
        have e := Option.some.inj h; subst e; exact z_zret C dX5_readThing_88 zbl0 Rq
      · refine z_aload_n C dX5_readThing_78 rfl (j := 1) rfl ?_
        refine z_bipush (v := 44) C dX5_readThing_79 zb44 ?_
        obtain ⟨r4, h4, h⟩ := Option.bind_eq_some_iff.mp h
        refine z_callVi [.int (44 : Int32)] [] C dX5_readThing_81 (by decide) zen_3 rfl zk_X5_28 zw238 zw239 ⟨⟨by decide, by decide⟩, rfl, Nat.le_of_ble_eq_true rfl⟩ rfl (sX5_readSign  h4) ?_
        refine z_if_ne 89 C dX5_readThing_84 (by decide) h (fun h => ?_) (fun h => ?_)
        · refine z_aload_n C dX5_readThing_89 rfl (j := 1) rfl ?_
          refine zg5_4 C dX5_readThing_90 zw60 ?_
          refine z_istore_n [(2, .int v1), (0, .ref (E.2.1 3)), (1, .ref (E.2.1 q1))] C dX5_readThing_93 h rfl (by decide) rfl (fun v5 h => ?_)
          refine z_aload_n C dX5_readThing_94 rfl (j := 2) rfl ?_
          refine z_iconst (v := 0) C dX5_readThing_95 zc0 ?_
          refine z_bipush (v := 20) C dX5_readThing_96 zb20 ?_
          obtain ⟨r6, h6, h⟩ := Option.bind_eq_some_iff.mp h
          refine z_callVi [.int (0 : Int32), .int (20 : Int32)] [] C dX5_readThing_98 (by decide) zen_3 rfl zk_X5_32 zw246 zw247 ⟨⟨by decide, by decide⟩, rfl, Nat.le_of_ble_eq_true rfl⟩ rfl (sX5_readNumber  h6) ?_
          refine z_if_eq 113 C dX5_readThing_101 (by decide) h (fun h => ?_) (fun h => ?_)
          · refine z_iconst (v := 0) C dX5_readThing_113 zc0 ?_
            have e := Option.some.inj h; subst e; exact z_zret C dX5_readThing_114 zbl0 Rq
          · refine z_aload_n C dX5_readThing_104 rfl (j := 2) rfl ?_
            refine z_bipush (v := 59) C dX5_readThing_105 zb59 ?_
            obtain ⟨r7, h7, h⟩ := Option.bind_eq_some_iff.mp h
            refine z_callVi [.int (59 : Int32)] [] C dX5_readThing_107 (by decide) zen_3 rfl zk_X5_28 zw238 zw239 ⟨⟨by decide, by decide⟩, rfl, Nat.le_of_ble_eq_true rfl⟩ rfl (sX5_readSign  h7) ?_
            refine z_if_ne 115 C dX5_readThing_110 (by decide) h (fun h => ?_) (fun h => ?_)
            · refine z_aload_n C dX5_readThing_115 rfl (j := 3) rfl ?_
              refine z_iload_n C dX5_readThing_116 rfl (j := 1) rfl ?_
              refine z_iload_n C dX5_readThing_117 rfl (j := 0) rfl ?_
              refine z_aload_n C dX5_readThing_118 rfl (j := 2) rfl ?_
              refine zg5_4 C dX5_readThing_119 zw60 ?_
              obtain ⟨r8, h8, h⟩ := Option.bind_eq_some_iff.mp h
              refine z_callVv [.int v1, .int v5, .int (r7.2 3 4)] [] C dX5_readThing_122 (zH_lt hq1) (zH_ent hq1) rfl zk_X5_60 zw348 zw349 ⟨⟨by decide, by decide⟩, rfl, Nat.le_of_ble_eq_true rfl⟩ rfl (sX3_layThing hq1 h8) ?_
              refine z_iconst (v := 1) C dX5_readThing_125 zc1 ?_
              have e := Option.some.inj h; subst e; exact z_zret C dX5_readThing_126 zbl1 Rq
            · refine z_iconst (v := 0) C dX5_readThing_113 zc0 ?_
              have e := Option.some.inj h; subst e; exact z_zret C dX5_readThing_114 zbl0 Rq
        · refine z_iconst (v := 0) C dX5_readThing_87 zc0 ?_
          have e := Option.some.inj h; subst e; exact z_zret C dX5_readThing_88 zbl0 Rq
    · refine z_aload_n C dX5_readThing_52 rfl (j := 1) rfl ?_
      refine z_iconst (v := 3) C dX5_readThing_53 zc3 ?_
      obtain ⟨r9, h9, h⟩ := Option.bind_eq_some_iff.mp h
      refine z_callVi [.int (3 : Int32)] [] C dX5_readThing_54 (by decide) zen_3 rfl zk_X5_54 zw242 zw243 ⟨⟨by decide, by decide⟩, rfl, Nat.le_of_ble_eq_true rfl⟩ rfl (sX5_failWith  h9) ?_
      obtain ⟨hg, h⟩ := zgd_some h
      have e := Option.some.inj h; subst e; exact z_zret C dX5_readThing_57 hg Rq
  · refine z_aload_n C dX5_readThing_37 rfl (j := 1) rfl ?_
    refine z_iconst (v := 1) C dX5_readThing_38 zc1 ?_
    obtain ⟨r10, h10, h⟩ := Option.bind_eq_some_iff.mp h
    refine z_callVi [.int (1 : Int32)] [] C dX5_readThing_39 (by decide) zen_3 rfl zk_X5_54 zw242 zw243 ⟨⟨by decide, by decide⟩, rfl, Nat.le_of_ble_eq_true rfl⟩ rfl (sX5_failWith  h10) ?_
    obtain ⟨hg, h⟩ := zgd_some h
    have e := Option.some.inj h; subst e; exact z_zret C dX5_readThing_42 hg Rq
def fX5_readThing (q1 : Nat)  (mem : ZM) : Option (Int32 × ZM) :=
  if (mem 3 1) ≤ (mem 3 2) then (fX5_readThing_j32 q1 (0 : Int32) mem) else (zgd (zin (mem 3 2) 90) (fX5_readThing_j32 q1 ((zidx (((mem 4 (mem 3 2).toNatClampNeg).toUInt32 % 65536).toInt32)) + (1 : Int32)) mem))
set_option maxRecDepth 100000 in
set_option maxHeartbeats 4000000 in
theorem sX5_readThing {l : Launch} {E : ZE} {q1 : Nat} (hq1 : zH q1)  {mem : ZM} {t : Int32 × ZM} (h : fX5_readThing q1 mem = some t) : zMet l E yX5_readThing cX5_readThing 4 (some .boolean) 8 [.ref (E.2.1 3), .ref (E.2.1 q1)] mem (some (.int t.1)) t.2 := by
  refine z_enter (by decide) (Nat.le_of_ble_eq_true rfl) (fun Γ C Rq => ?_)
  have C : zC E Γ RX5 cX5_readThing 4 8 := C
  show zG l E Γ 4 0 [(0, .ref (E.2.1 3)), (1, .ref (E.2.1 q1))] [] mem
  unfold fX5_readThing at h
  refine z_aload_n C dX5_readThing_0 rfl (j := 0) rfl ?_
  refine zg5_2 C dX5_readThing_1 zw58 ?_
  refine z_aload_n C dX5_readThing_4 rfl (j := 0) rfl ?_
  refine zg5_1 C dX5_readThing_5 zw57 ?_
  refine z_icmp_ge 31 C dX5_readThing_8 (by decide) h (fun h => ?_) (fun h => ?_)
  · refine z_iconst (v := 0) C dX5_readThing_31 zc0 ?_
    refine z_pick [0, 1] rfl ?_
    exact jX5_readThing_32 C hq1  Rq h
  · refine z_ldcS C dX5_readThing_11 C.2.2.2.2.2.2.2.1.2.2.2.2.2.1.1 ?_
    refine z_aload_n C dX5_readThing_13 rfl (j := 0) rfl ?_
    refine zg5_0 C dX5_readThing_14 zw56 ?_
    refine z_aload_n C dX5_readThing_17 rfl (j := 0) rfl ?_
    refine zg5_2 C dX5_readThing_18 zw58 ?_
    refine z_iald C dX5_readThing_21 zar4 h (fun h => ?_)
    refine z_i2c C dX5_readThing_22 ?_
    refine z_sidx C dX5_readThing_23 zw258 ⟨by decide, Nat.le_of_ble_eq_true rfl⟩ ?_
    refine z_iconst (v := 1) C dX5_readThing_26 zc1 ?_
    refine z_iadd C dX5_readThing_27 ?_
    refine z_goto 32 C dX5_readThing_28 (by decide) ?_
    refine z_pick [0, 1] rfl ?_
    exact jX5_readThing_32 C hq1  Rq h
-- X5_readInto
def fX5_readInto_j67 (q1 : Nat) (x2 : Int32) (mem : ZM) : Option ((Int32 × ZM) ⊕ ((Int32 × ZM) ⊕ (Int32 × ZM))) :=
  Option.bind (fX5_readThing q1 mem) (fun r8 => if r8.1 = 0 then (some (Sum.inr (Sum.inr ((0 : Int32), r8.2)))) else (zlet (x2 + (1 : Int32)) (fun v9 => some (Sum.inl (v9, r8.2)))))
set_option maxRecDepth 100000 in
set_option maxHeartbeats 4000000 in
theorem jX5_readInto_67 {l : Launch} {E : ZE} {Γ : ZG} (C : zC E Γ RX5 cX5_readInto 3 9) {q1 : Nat} (hq1 : zH q1) {x2 : Int32}  {mem : ZM}  {u : (Int32 × ZM) ⊕ ((Int32 × ZM) ⊕ (Int32 × ZM))}  (G1 : ∀ s', u = Sum.inl s' → zG l E Γ 3 44 [(0, .ref (E.2.1 3)), (1, .ref (E.2.1 q1)), (2, .int (s'.1))] [] s'.2) (G2 : ∀ s', u = Sum.inr (Sum.inl s') → zG l E Γ 3 83 [] [] s'.2) (G3 : ∀ t', u = Sum.inr (Sum.inr t') → zRq E Γ (some .boolean) (some (.int t'.1)) t'.2) (h : fX5_readInto_j67 q1 x2 mem = some u) : zG l E Γ 3 67 [(0, .ref (E.2.1 3)), (1, .ref (E.2.1 q1)), (2, .int x2)] [] mem := by
  unfold fX5_readInto_j67 at h
  refine z_aload_n C dX5_readInto_67 rfl (j := 0) rfl ?_
  refine z_aload_n C dX5_readInto_68 rfl (j := 1) rfl ?_
  obtain ⟨r8, h8, h⟩ := Option.bind_eq_some_iff.mp h
  refine z_callVi [.ref (E.2.1 q1)] [] C dX5_readInto_69 (by decide) zen_3 rfl zk_X5_42 zw254 zw255 ⟨⟨by decide, by decide⟩, rfl, Nat.le_of_ble_eq_true rfl⟩ rfl (sX5_readThing hq1 h8) ?_
  refine z_if_ne 77 C dX5_readInto_72 (by decide) h (fun h => ?_) (fun h => ?_)
  · refine z_iinc [(0, .ref (E.2.1 3)), (1, .ref (E.2.1 q1))] C dX5_readInto_77 zc1 h (j := 2) rfl (by decide) rfl (fun v9 h => ?_)
    refine z_goto 44 C dX5_readInto_80 (by decide) ?_
    refine z_pick [1, 2, 0] rfl ?_
    exact G1 _ (Option.some.inj h).symm
  · refine z_iconst (v := 0) C dX5_readInto_75 zc0 ?_
    exact z_zret C dX5_readInto_76 zbl0 (G3 _ (Option.some.inj h).symm)
def fX5_readInto_b44 (q1 : Nat)  (x44_2 : Int32) (memb : ZM) : Option ((Int32 × ZM) ⊕ ((Int32 × ZM) ⊕ (Int32 × ZM))) :=
  if (8 : Int32) < x44_2 then (some (Sum.inr (Sum.inl (x44_2, memb)))) else (if x44_2 ≤ 0 then (fX5_readInto_j67 q1 x44_2 memb) else (if (memb 3 2) = (memb 3 1) then (some (Sum.inr (Sum.inr ((1 : Int32), memb)))) else (fX5_readInto_j67 q1 x44_2 memb)))
def fX5_readInto_l44 (q1 : Nat)  (s : Int32 × ZM) : Option ((Int32 × ZM) ⊕ (Int32 × ZM)) := ziter (fun s => fX5_readInto_b44 q1 s.1 s.2) 2000 s
set_option maxRecDepth 100000 in
set_option maxHeartbeats 4000000 in
theorem bX5_readInto_44 {l : Launch} {E : ZE} {Γ : ZG} (C : zC E Γ RX5 cX5_readInto 3 9) {q1 : Nat} (hq1 : zH q1)  {x44_2 : Int32} {memb : ZM} {u : (Int32 × ZM) ⊕ ((Int32 × ZM) ⊕ (Int32 × ZM))} (G1 : ∀ s', u = Sum.inl s' → zG l E Γ 3 44 [(0, .ref (E.2.1 3)), (1, .ref (E.2.1 q1)), (2, .int (s'.1))] [] s'.2) (G2 : ∀ s', u = Sum.inr (Sum.inl s') → zG l E Γ 3 83 [] [] s'.2) (G3 : ∀ t', u = Sum.inr (Sum.inr t') → zRq E Γ (some .boolean) (some (.int t'.1)) t'.2) (h : fX5_readInto_b44 q1 x44_2 memb = some u) : zG l E Γ 3 44 [(0, .ref (E.2.1 3)), (1, .ref (E.2.1 q1)), (2, .int x44_2)] [] memb := by
  unfold fX5_readInto_b44 at h
  refine z_iload_n C dX5_readInto_44 rfl (j := 2) rfl ?_
  refine z_bipush (v := 8) C dX5_readInto_45 zb8 ?_
  refine z_icmp_gt 83 C dX5_readInto_47 (by decide) h (fun h => ?_) (fun h => ?_)
  · refine z_pick [] rfl ?_
    exact G2 _ (Option.some.inj h).symm
  · refine z_iload_n C dX5_readInto_50 rfl (j := 2) rfl ?_
    refine z_if_le 67 C dX5_readInto_51 (by decide) h (fun h => ?_) (fun h => ?_)
    · refine z_pick [0, 1, 2] rfl ?_
      exact jX5_readInto_67 C hq1  G1 G2 G3 h
    · refine z_aload_n C dX5_readInto_54 rfl (j := 0) rfl ?_
      refine zg5_2 C dX5_readInto_55 zw58 ?_
      refine z_aload_n C dX5_readInto_58 rfl (j := 0) rfl ?_
      refine zg5_1 C dX5_readInto_59 zw57 ?_
      refine z_icmp_ne 67 C dX5_readInto_62 (by decide) h (fun h => ?_) (fun h => ?_)
      · refine z_pick [0, 1, 2] rfl ?_
        exact jX5_readInto_67 C hq1  G1 G2 G3 h
      · refine z_iconst (v := 1) C dX5_readInto_65 zc1 ?_
        exact z_zret C dX5_readInto_66 zbl1 (G3 _ (Option.some.inj h).symm)
theorem lX5_readInto_44 {l : Launch} {E : ZE} {Γ : ZG} (C : zC E Γ RX5 cX5_readInto 3 9) {q1 : Nat} (hq1 : zH q1)  {s : Int32 × ZM} {r : (Int32 × ZM) ⊕ (Int32 × ZM)} (h : fX5_readInto_l44 q1 s = some r) (K1 : ∀ s', r = Sum.inl s' → zG l E Γ 3 83 [] [] s'.2) (K2 : ∀ t', r = Sum.inr t' → zRq E Γ (some .boolean) (some (.int t'.1)) t'.2) : zG l E Γ 3 44 [(0, .ref (E.2.1 3)), (1, .ref (E.2.1 q1)), (2, .int s.1)] [] s.2 :=
  z_loop (body := fun s => fX5_readInto_b44 q1 s.1 s.2) (fun s => zG l E Γ 3 44 [(0, .ref (E.2.1 3)), (1, .ref (E.2.1 q1)), (2, .int s.1)] [] s.2) (fun r => (∀ s', r = Sum.inl s' → zG l E Γ 3 83 [] [] s'.2) ∧ (∀ t', r = Sum.inr t' → zRq E Γ (some .boolean) (some (.int t'.1)) t'.2)) (fun s u hb g1 g2 => bX5_readInto_44 C hq1 g1 (fun s' e => (g2 _ e).1 _ rfl) (fun t' e => (g2 _ e).2 _ rfl) hb) 2000 s r h ⟨K1, K2⟩
def fX5_readInto (q1 : Nat)  (mem : ZM) : Option (Int32 × ZM) :=
  zlet (zst mem 3 2 (0 : Int32)) (fun m1 => Option.bind (fX5_readSign (98 : Int32) m1) (fun r2 => if r2.1 = 0 then (some ((0 : Int32), r2.2)) else (Option.bind (fX5_readNumber (0 : Int32) (1 : Int32) r2.2) (fun r3 => if r3.1 = 0 then (some ((0 : Int32), r3.2)) else (Option.bind (fX5_readSign (59 : Int32) r3.2) (fun r4 => if r4.1 = 0 then (some ((0 : Int32), r4.2)) else (Option.bind (fX3_begin q1 (r4.2 3 4) r4.2) (fun r5 => zlet (0 : Int32) (fun v6 => Option.bind (fX5_readInto_l44 q1 (v6, r5)) (fun r7 => Sum.elim (fun s7 => some ((1 : Int32), s7.2)) (fun t7 => some t7) r7))))))))))
set_option maxRecDepth 100000 in
set_option maxHeartbeats 4000000 in
theorem sX5_readInto {l : Launch} {E : ZE} {q1 : Nat} (hq1 : zH q1)  {mem : ZM} {t : Int32 × ZM} (h : fX5_readInto q1 mem = some t) : zMet l E yX5_readInto cX5_readInto 3 (some .boolean) 9 [.ref (E.2.1 3), .ref (E.2.1 q1)] mem (some (.int t.1)) t.2 := by
  refine z_enter (by decide) (Nat.le_of_ble_eq_true rfl) (fun Γ C Rq => ?_)
  have C : zC E Γ RX5 cX5_readInto 3 9 := C
  show zG l E Γ 3 0 [(0, .ref (E.2.1 3)), (1, .ref (E.2.1 q1))] [] mem
  unfold fX5_readInto at h
  refine z_aload_n C dX5_readInto_0 rfl (j := 0) rfl ?_
  refine z_iconst (v := 0) C dX5_readInto_1 zc0 ?_
  refine zp5_2 C dX5_readInto_2 zw58 h (fun m1 h => ?_)
  refine z_aload_n C dX5_readInto_5 rfl (j := 0) rfl ?_
  refine z_bipush (v := 98) C dX5_readInto_6 zb98 ?_
  obtain ⟨r2, h2, h⟩ := Option.bind_eq_some_iff.mp h
  refine z_callVi [.int (98 : Int32)] [] C dX5_readInto_8 (by decide) zen_3 rfl zk_X5_28 zw238 zw239 ⟨⟨by decide, by decide⟩, rfl, Nat.le_of_ble_eq_true rfl⟩ rfl (sX5_readSign  h2) ?_
  refine z_if_eq 32 C dX5_readInto_11 (by decide) h (fun h => ?_) (fun h => ?_)
  · refine z_iconst (v := 0) C dX5_readInto_32 zc0 ?_
    have e := Option.some.inj h; subst e; exact z_zret C dX5_readInto_33 zbl0 Rq
  · refine z_aload_n C dX5_readInto_14 rfl (j := 0) rfl ?_
    refine z_iconst (v := 0) C dX5_readInto_15 zc0 ?_
    refine z_iconst (v := 1) C dX5_readInto_16 zc1 ?_
    obtain ⟨r3, h3, h⟩ := Option.bind_eq_some_iff.mp h
    refine z_callVi [.int (0 : Int32), .int (1 : Int32)] [] C dX5_readInto_17 (by decide) zen_3 rfl zk_X5_32 zw246 zw247 ⟨⟨by decide, by decide⟩, rfl, Nat.le_of_ble_eq_true rfl⟩ rfl (sX5_readNumber  h3) ?_
    refine z_if_eq 32 C dX5_readInto_20 (by decide) h (fun h => ?_) (fun h => ?_)
    · refine z_iconst (v := 0) C dX5_readInto_32 zc0 ?_
      have e := Option.some.inj h; subst e; exact z_zret C dX5_readInto_33 zbl0 Rq
    · refine z_aload_n C dX5_readInto_23 rfl (j := 0) rfl ?_
      refine z_bipush (v := 59) C dX5_readInto_24 zb59 ?_
      obtain ⟨r4, h4, h⟩ := Option.bind_eq_some_iff.mp h
      refine z_callVi [.int (59 : Int32)] [] C dX5_readInto_26 (by decide) zen_3 rfl zk_X5_28 zw238 zw239 ⟨⟨by decide, by decide⟩, rfl, Nat.le_of_ble_eq_true rfl⟩ rfl (sX5_readSign  h4) ?_
      refine z_if_ne 34 C dX5_readInto_29 (by decide) h (fun h => ?_) (fun h => ?_)
      · refine z_aload_n C dX5_readInto_34 rfl (j := 1) rfl ?_
        refine z_aload_n C dX5_readInto_35 rfl (j := 0) rfl ?_
        refine zg5_4 C dX5_readInto_36 zw60 ?_
        obtain ⟨r5, h5, h⟩ := Option.bind_eq_some_iff.mp h
        refine z_callVv [.int (r4.2 3 4)] [] C dX5_readInto_39 (zH_lt hq1) (zH_ent hq1) rfl zk_X5_36 zw250 zw251 ⟨⟨by decide, by decide⟩, rfl, Nat.le_of_ble_eq_true rfl⟩ rfl (sX3_begin hq1 h5) ?_
        refine z_iconst (v := 0) C dX5_readInto_42 zc0 ?_
        refine z_istore_n [(0, .ref (E.2.1 3)), (1, .ref (E.2.1 q1))] C dX5_readInto_43 h rfl (by decide) rfl (fun v6 h => ?_)
        obtain ⟨r7, h7, h⟩ := Option.bind_eq_some_iff.mp h
        refine z_pick [1, 2, 0] rfl ?_
        refine lX5_readInto_44 C hq1 h7 (fun s7 e7 => ?_) (fun t7 e7 => ?_)
        · subst e7
          replace h := z_el h
          refine z_iconst (v := 1) C dX5_readInto_83 zc1 ?_
          have e := Option.some.inj h; subst e; exact z_zret C dX5_readInto_84 zbl1 Rq
        · subst e7
          replace h := z_er h
          have e := Option.some.inj h; subst e; exact Rq
      · refine z_iconst (v := 0) C dX5_readInto_32 zc0 ?_
        have e := Option.some.inj h; subst e; exact z_zret C dX5_readInto_33 zbl0 Rq
-- X6_isRow
def fX6_isRow  (a0 : Int32) : Option (Int32) :=
  Option.bind (fX6_isWithin a0 (0 : Int32) (7 : Int32)) (fun r1 => zgd (zbl r1) (some r1))
set_option maxRecDepth 100000 in
set_option maxHeartbeats 4000000 in
theorem sX6_isRow {l : Launch} {E : ZE}  {a0 : Int32} {mem : ZM} {t : Int32} (h : fX6_isRow a0 = some t) : zMet l E yX6_isRow cX6_isRow 1 (some .boolean) 1 [.int a0] mem (some (.int t)) mem := by
  refine z_enter (by decide) (Nat.le_of_ble_eq_true rfl) (fun Γ C Rq => ?_)
  have C : zC E Γ RX6 cX6_isRow 1 1 := C
  show zG l E Γ 1 0 [(0, .int a0)] [] mem
  unfold fX6_isRow at h
  refine z_iload_n C dX6_isRow_0 rfl (j := 0) rfl ?_
  refine z_iconst (v := 0) C dX6_isRow_1 zc0 ?_
  refine z_bipush (v := 7) C dX6_isRow_2 zb7 ?_
  obtain ⟨r1, h1, h⟩ := Option.bind_eq_some_iff.mp h
  refine z_callSi [.int a0, .int (0 : Int32), .int (7 : Int32)] [] C dX6_isRow_4 zk_X6_212 zw121 ⟨⟨by decide, by decide⟩, rfl, Nat.le_of_ble_eq_true rfl⟩ rfl (sX6_isWithin  h1) ?_
  obtain ⟨hg, h⟩ := zgd_some h
  have e := Option.some.inj h; subst e; exact z_zret C dX6_isRow_7 hg Rq
-- X6_found
def fX6_found  (a1 : Int32) (mem : ZM) : Option (Int32 × ZM) :=
  zlet (zst mem 0 8 a1) (fun m1 => some (((-1000010 : Int32) - a1), m1))
set_option maxRecDepth 100000 in
set_option maxHeartbeats 4000000 in
theorem sX6_found {l : Launch} {E : ZE}  {a1 : Int32} {mem : ZM} {t : Int32 × ZM} (h : fX6_found a1 mem = some t) : zMet l E yX6_found cX6_found 2 (some .int) 0 [.ref (E.2.1 0), .int a1] mem (some (.int t.1)) t.2 := by
  refine z_enter (by decide) (Nat.le_of_ble_eq_true rfl) (fun Γ C Rq => ?_)
  have C : zC E Γ RX6 cX6_found 2 0 := C
  show zG l E Γ 2 0 [(0, .ref (E.2.1 0)), (1, .int a1)] [] mem
  unfold fX6_found at h
  refine z_aload_n C dX6_found_0 rfl (j := 0) rfl ?_
  refine z_iload_n C dX6_found_1 rfl (j := 1) rfl ?_
  refine zp6_8 C dX6_found_2 zw36 h (fun m1 h => ?_)
  refine z_ldcw C dX6_found_5 zw127 ?_
  refine z_iload_n C dX6_found_8 rfl (j := 1) rfl ?_
  refine z_isub C dX6_found_9 ?_
  have e := Option.some.inj h; subst e; exact z_iret C dX6_found_10 Rq
-- X6_foundNothing
def fX6_foundNothing  (a1 : Int32) (mem : ZM) : Option (Int32 × ZM) :=
  zlet (zst mem 0 8 (0 : Int32)) (fun m1 => some (a1, m1))
set_option maxRecDepth 100000 in
set_option maxHeartbeats 4000000 in
theorem sX6_foundNothing {l : Launch} {E : ZE}  {a1 : Int32} {mem : ZM} {t : Int32 × ZM} (h : fX6_foundNothing a1 mem = some t) : zMet l E yX6_foundNothing cX6_foundNothing 2 (some .int) 0 [.ref (E.2.1 0), .int a1] mem (some (.int t.1)) t.2 := by
  refine z_enter (by decide) (Nat.le_of_ble_eq_true rfl) (fun Γ C Rq => ?_)
  have C : zC E Γ RX6 cX6_foundNothing 2 0 := C
  show zG l E Γ 2 0 [(0, .ref (E.2.1 0)), (1, .int a1)] [] mem
  unfold fX6_foundNothing at h
  refine z_aload_n C dX6_foundNothing_0 rfl (j := 0) rfl ?_
  refine z_iconst (v := 0) C dX6_foundNothing_1 zc0 ?_
  refine zp6_8 C dX6_foundNothing_2 zw36 h (fun m1 h => ?_)
  refine z_iload_n C dX6_foundNothing_5 rfl (j := 1) rfl ?_
  have e := Option.some.inj h; subst e; exact z_iret C dX6_foundNothing_6 Rq
-- X6_row
def fX6_row  (a1 : Int32) (a2 : Int32) (a3 : Int32) (mem : ZM) : Option (Int32 × ZM) :=
  Option.bind (fX6_isRow a1) (fun r1 => if r1 = 0 then (some ((-1000001 : Int32), mem)) else (if a2 < 0 then (some ((-1000001 : Int32), mem)) else (if (2 : Int32) < a2 then (some ((-1000001 : Int32), mem)) else (if a3 ≤ (40 : Int32) then (if 0 ≤ a3 then (zgd (zin a1 8) (Option.bind (fX4_begin (42 + 2 * a1.toNatClampNeg) a2 a3 mem) (fun r3 => Option.bind (fX6_foundNothing a3 r3) (fun r4 => some (r4.1, r4.2))))) else (Option.bind (fX6_found (4 : Int32) mem) (fun r5 => some (r5.1, r5.2)))) else (some ((-1000001 : Int32), mem))))))
set_option maxRecDepth 100000 in
set_option maxHeartbeats 4000000 in
theorem sX6_row {l : Launch} {E : ZE}  {a1 : Int32} {a2 : Int32} {a3 : Int32} {mem : ZM} {t : Int32 × ZM} (h : fX6_row a1 a2 a3 mem = some t) : zMet l E yX6_row cX6_row 4 (some .int) 2 [.ref (E.2.1 0), .int a1, .int a2, .int a3] mem (some (.int t.1)) t.2 := by
  refine z_enter (by decide) (Nat.le_of_ble_eq_true rfl) (fun Γ C Rq => ?_)
  have C : zC E Γ RX6 cX6_row 4 2 := C
  show zG l E Γ 4 0 [(0, .ref (E.2.1 0)), (1, .int a1), (2, .int a2), (3, .int a3)] [] mem
  unfold fX6_row at h
  refine z_iload_n C dX6_row_0 rfl (j := 1) rfl ?_
  obtain ⟨r1, h1, h⟩ := Option.bind_eq_some_iff.mp h
  refine z_callSi [.int a1] [] C dX6_row_1 zk_X6_62 zw118 ⟨⟨by decide, by decide⟩, rfl, Nat.le_of_ble_eq_true rfl⟩ rfl (sX6_isRow  h1) ?_
  refine z_if_eq 22 C dX6_row_4 (by decide) h (fun h => ?_) (fun h => ?_)
  · refine z_ldc C dX6_row_22 zw116 ?_
    have e := Option.some.inj h; subst e; exact z_iret C dX6_row_24 Rq
  · refine z_iload_n C dX6_row_7 rfl (j := 2) rfl ?_
    refine z_if_lt 22 C dX6_row_8 (by decide) h (fun h => ?_) (fun h => ?_)
    · refine z_ldc C dX6_row_22 zw116 ?_
      have e := Option.some.inj h; subst e; exact z_iret C dX6_row_24 Rq
    · refine z_iload_n C dX6_row_11 rfl (j := 2) rfl ?_
      refine z_iconst (v := 2) C dX6_row_12 zc2 ?_
      refine z_icmp_gt 22 C dX6_row_13 (by decide) h (fun h => ?_) (fun h => ?_)
      · refine z_ldc C dX6_row_22 zw116 ?_
        have e := Option.some.inj h; subst e; exact z_iret C dX6_row_24 Rq
      · refine z_iload_n C dX6_row_16 rfl (j := 3) rfl ?_
        refine z_bipush (v := 40) C dX6_row_17 zb40 ?_
        refine z_icmp_le 25 C dX6_row_19 (by decide) h (fun h => ?_) (fun h => ?_)
        · refine z_iload_n C dX6_row_25 rfl (j := 3) rfl ?_
          refine z_if_ge 35 C dX6_row_26 (by decide) h (fun h => ?_) (fun h => ?_)
          · refine z_aload_n C dX6_row_35 rfl (j := 0) rfl ?_
            refine zg6_0 C dX6_row_36 zw13 ?_
            refine z_iload_n C dX6_row_39 rfl (j := 1) rfl ?_
            refine z_aldR C dX6_row_40 h (fun hr2 h => ?_)
            refine z_iload_n C dX6_row_41 rfl (j := 2) rfl ?_
            refine z_iload_n C dX6_row_42 rfl (j := 3) rfl ?_
            obtain ⟨r3, h3, h⟩ := Option.bind_eq_some_iff.mp h
            refine z_callVv [.int a2, .int a3] [] C dX6_row_43 (zRw_lt hr2) (zRw_ent hr2) rfl zk_X6_71 zw129 zw130 ⟨⟨by decide, by decide⟩, rfl, Nat.le_of_ble_eq_true rfl⟩ rfl (sX4_begin hr2 h3) ?_
            refine z_aload_n C dX6_row_46 rfl (j := 0) rfl ?_
            refine z_iload_n C dX6_row_47 rfl (j := 3) rfl ?_
            obtain ⟨r4, h4, h⟩ := Option.bind_eq_some_iff.mp h
            refine z_callVi [.int a3] [] C dX6_row_48 (by decide) zen_0 rfl zk_X6_75 zw133 zw134 ⟨⟨by decide, by decide⟩, rfl, Nat.le_of_ble_eq_true rfl⟩ rfl (sX6_foundNothing  h4) ?_
            have e := Option.some.inj h; subst e; exact z_iret C dX6_row_51 Rq
          · refine z_aload_n C dX6_row_29 rfl (j := 0) rfl ?_
            refine z_iconst (v := 4) C dX6_row_30 zc4 ?_
            obtain ⟨r5, h5, h⟩ := Option.bind_eq_some_iff.mp h
            refine z_callVi [.int (4 : Int32)] [] C dX6_row_31 (by decide) zen_0 rfl zk_X6_67 zw124 zw125 ⟨⟨by decide, by decide⟩, rfl, Nat.le_of_ble_eq_true rfl⟩ rfl (sX6_found  h5) ?_
            have e := Option.some.inj h; subst e; exact z_iret C dX6_row_34 Rq
        · refine z_ldc C dX6_row_22 zw116 ?_
          have e := Option.some.inj h; subst e; exact z_iret C dX6_row_24 Rq
-- X6_set
def fX6_set  (a1 : Int32) (a2 : Int32) (a3 : Int32) (mem : ZM) : Option (Int32 × ZM) :=
  Option.bind (fX6_isRow a1) (fun r1 => if r1 = 0 then (some ((-1000001 : Int32), mem)) else (zgd (zin a1 8) (Option.bind (fX4_isMissing (42 + 2 * a1.toNatClampNeg) mem) (fun r3 => if r3 = 0 then (zgd (zin a1 8) (Option.bind (fX4_holds (42 + 2 * a1.toNatClampNeg) a2 (1 : Int32) mem) (fun r5 => if r5 = 0 then (Option.bind (fX6_found (2 : Int32) mem) (fun r9 => some (r9.1, r9.2))) else (zgd (zin a1 8) (Option.bind (fX4_put (42 + 2 * a1.toNatClampNeg) a2 a3 mem) (fun r7 => Option.bind (fX6_foundNothing r7.1 r7.2) (fun r8 => some (r8.1, r8.2)))))))) else (Option.bind (fX6_found (1 : Int32) mem) (fun r10 => some (r10.1, r10.2)))))))
set_option maxRecDepth 100000 in
set_option maxHeartbeats 4000000 in
theorem sX6_set {l : Launch} {E : ZE}  {a1 : Int32} {a2 : Int32} {a3 : Int32} {mem : ZM} {t : Int32 × ZM} (h : fX6_set a1 a2 a3 mem = some t) : zMet l E yX6_set cX6_set 4 (some .int) 2 [.ref (E.2.1 0), .int a1, .int a2, .int a3] mem (some (.int t.1)) t.2 := by
  refine z_enter (by decide) (Nat.le_of_ble_eq_true rfl) (fun Γ C Rq => ?_)
  have C : zC E Γ RX6 cX6_set 4 2 := C
  show zG l E Γ 4 0 [(0, .ref (E.2.1 0)), (1, .int a1), (2, .int a2), (3, .int a3)] [] mem
  unfold fX6_set at h
  refine z_iload_n C dX6_set_0 rfl (j := 1) rfl ?_
  obtain ⟨r1, h1, h⟩ := Option.bind_eq_some_iff.mp h
  refine z_callSi [.int a1] [] C dX6_set_1 zk_X6_62 zw118 ⟨⟨by decide, by decide⟩, rfl, Nat.le_of_ble_eq_true rfl⟩ rfl (sX6_isRow  h1) ?_
  refine z_if_ne 10 C dX6_set_4 (by decide) h (fun h => ?_) (fun h => ?_)
  · refine z_aload_n C dX6_set_10 rfl (j := 0) rfl ?_
    refine zg6_0 C dX6_set_11 zw13 ?_
    refine z_iload_n C dX6_set_14 rfl (j := 1) rfl ?_
    refine z_aldR C dX6_set_15 h (fun hr2 h => ?_)
    obtain ⟨r3, h3, h⟩ := Option.bind_eq_some_iff.mp h
    refine z_callVi [] [] C dX6_set_16 (zRw_lt hr2) (zRw_ent hr2) rfl zk_X6_78 zw164 zw165 ⟨⟨by decide, by decide⟩, rfl, Nat.le_of_ble_eq_true rfl⟩ rfl (sX4_isMissing hr2 h3) ?_
    refine z_if_eq 28 C dX6_set_19 (by decide) h (fun h => ?_) (fun h => ?_)
    · refine z_aload_n C dX6_set_28 rfl (j := 0) rfl ?_
      refine zg6_0 C dX6_set_29 zw13 ?_
      refine z_iload_n C dX6_set_32 rfl (j := 1) rfl ?_
      refine z_aldR C dX6_set_33 h (fun hr4 h => ?_)
      refine z_iload_n C dX6_set_34 rfl (j := 2) rfl ?_
      refine z_iconst (v := 1) C dX6_set_35 zc1 ?_
      obtain ⟨r5, h5, h⟩ := Option.bind_eq_some_iff.mp h
      refine z_callVi [.int a2, .int (1 : Int32)] [] C dX6_set_36 (zRw_lt hr4) (zRw_ent hr4) rfl zk_X6_82 zw168 zw169 ⟨⟨by decide, by decide⟩, rfl, Nat.le_of_ble_eq_true rfl⟩ rfl (sX4_holds hr4 h5) ?_
      refine z_if_ne 48 C dX6_set_39 (by decide) h (fun h => ?_) (fun h => ?_)
      · refine z_aload_n C dX6_set_48 rfl (j := 0) rfl ?_
        refine z_aload_n C dX6_set_49 rfl (j := 0) rfl ?_
        refine zg6_0 C dX6_set_50 zw13 ?_
        refine z_iload_n C dX6_set_53 rfl (j := 1) rfl ?_
        refine z_aldR C dX6_set_54 h (fun hr6 h => ?_)
        refine z_iload_n C dX6_set_55 rfl (j := 2) rfl ?_
        refine z_iload_n C dX6_set_56 rfl (j := 3) rfl ?_
        obtain ⟨r7, h7, h⟩ := Option.bind_eq_some_iff.mp h
        refine z_callVi [.int a2, .int a3] [.ref (E.2.1 0)] C dX6_set_57 (zRw_lt hr6) (zRw_ent hr6) rfl zk_X6_86 zw172 zw173 ⟨⟨by decide, by decide⟩, rfl, Nat.le_of_ble_eq_true rfl⟩ rfl (sX4_put hr6 h7) ?_
        obtain ⟨r8, h8, h⟩ := Option.bind_eq_some_iff.mp h
        refine z_callVi [.int r7.1] [] C dX6_set_60 (by decide) zen_0 rfl zk_X6_75 zw133 zw134 ⟨⟨by decide, by decide⟩, rfl, Nat.le_of_ble_eq_true rfl⟩ rfl (sX6_foundNothing  h8) ?_
        have e := Option.some.inj h; subst e; exact z_iret C dX6_set_63 Rq
      · refine z_aload_n C dX6_set_42 rfl (j := 0) rfl ?_
        refine z_iconst (v := 2) C dX6_set_43 zc2 ?_
        obtain ⟨r9, h9, h⟩ := Option.bind_eq_some_iff.mp h
        refine z_callVi [.int (2 : Int32)] [] C dX6_set_44 (by decide) zen_0 rfl zk_X6_67 zw124 zw125 ⟨⟨by decide, by decide⟩, rfl, Nat.le_of_ble_eq_true rfl⟩ rfl (sX6_found  h9) ?_
        have e := Option.some.inj h; subst e; exact z_iret C dX6_set_47 Rq
    · refine z_aload_n C dX6_set_22 rfl (j := 0) rfl ?_
      refine z_iconst (v := 1) C dX6_set_23 zc1 ?_
      obtain ⟨r10, h10, h⟩ := Option.bind_eq_some_iff.mp h
      refine z_callVi [.int (1 : Int32)] [] C dX6_set_24 (by decide) zen_0 rfl zk_X6_67 zw124 zw125 ⟨⟨by decide, by decide⟩, rfl, Nat.le_of_ble_eq_true rfl⟩ rfl (sX6_found  h10) ?_
      have e := Option.some.inj h; subst e; exact z_iret C dX6_set_27 Rq
  · refine z_ldc C dX6_set_7 zw116 ?_
    have e := Option.some.inj h; subst e; exact z_iret C dX6_set_9 Rq
-- X6_copy
def fX6_copy_j49   (mem : ZM) : Option (Int32 × ZM) :=
  Option.bind (fX6_found (1 : Int32) mem) (fun r6 => some (r6.1, r6.2))
set_option maxRecDepth 100000 in
set_option maxHeartbeats 4000000 in
theorem jX6_copy_49 {l : Launch} {E : ZE} {Γ : ZG} (C : zC E Γ RX6 cX6_copy 8 2)    {mem : ZM}  {t : Int32 × ZM}  (Rq : zRq E Γ (some .int) (some (.int t.1)) t.2) (h : fX6_copy_j49  mem = some t) : zG l E Γ 8 49 [(0, .ref (E.2.1 0))] [] mem := by
  unfold fX6_copy_j49 at h
  refine z_aload_n C dX6_copy_49 rfl (j := 0) rfl ?_
  refine z_iconst (v := 1) C dX6_copy_50 zc1 ?_
  obtain ⟨r6, h6, h⟩ := Option.bind_eq_some_iff.mp h
  refine z_callVi [.int (1 : Int32)] [] C dX6_copy_51 (by decide) zen_0 rfl zk_X6_67 zw124 zw125 ⟨⟨by decide, by decide⟩, rfl, Nat.le_of_ble_eq_true rfl⟩ rfl (sX6_found  h6) ?_
  have e := Option.some.inj h; subst e; exact z_iret C dX6_copy_54 Rq
def fX6_copy_j97   (mem : ZM) : Option (Int32 × ZM) :=
  Option.bind (fX6_found (2 : Int32) mem) (fun r9 => some (r9.1, r9.2))
set_option maxRecDepth 100000 in
set_option maxHeartbeats 4000000 in
theorem jX6_copy_97 {l : Launch} {E : ZE} {Γ : ZG} (C : zC E Γ RX6 cX6_copy 8 2)    {mem : ZM}  {t : Int32 × ZM}  (Rq : zRq E Γ (some .int) (some (.int t.1)) t.2) (h : fX6_copy_j97  mem = some t) : zG l E Γ 8 97 [(0, .ref (E.2.1 0))] [] mem := by
  unfold fX6_copy_j97 at h
  refine z_aload_n C dX6_copy_97 rfl (j := 0) rfl ?_
  refine z_iconst (v := 2) C dX6_copy_98 zc2 ?_
  obtain ⟨r9, h9, h⟩ := Option.bind_eq_some_iff.mp h
  refine z_callVi [.int (2 : Int32)] [] C dX6_copy_99 (by decide) zen_0 rfl zk_X6_67 zw124 zw125 ⟨⟨by decide, by decide⟩, rfl, Nat.le_of_ble_eq_true rfl⟩ rfl (sX6_found  h9) ?_
  have e := Option.some.inj h; subst e; exact z_iret C dX6_copy_102 Rq
def fX6_copy  (a1 : Int32) (a2 : Int32) (a3 : Int32) (a4 : Int32) (a5 : Int32) (mem : ZM) : Option (Int32 × ZM) :=
  Option.bind (fX6_isRow a1) (fun r1 => if r1 = 0 then (some ((-1000001 : Int32), mem)) else (Option.bind (fX6_isRow a3) (fun r2 => if r2 = 0 then (some ((-1000001 : Int32), mem)) else (zgd (zin a1 8) (zgd (zin a3 8) (Option.bind (fX4_isMissing (42 + 2 * a1.toNatClampNeg) mem) (fun r5 => if r5 = 0 then (Option.bind (fX4_isMissing (42 + 2 * a3.toNatClampNeg) mem) (fun r7 => if r7 = 0 then (if (mem (42 + 2 * a1.toNatClampNeg) 0) = (mem (42 + 2 * a3.toNatClampNeg) 0) then (Option.bind (fX4_holds (42 + 2 * a1.toNatClampNeg) a2 a5 mem) (fun r8 => if r8 = 0 then (fX6_copy_j97  mem) else (Option.bind (fX4_holds (42 + 2 * a3.toNatClampNeg) a4 a5 mem) (fun r10 => if r10 = 0 then (fX6_copy_j97  mem) else (zgd (zcpg a2 a4 a5 40 40) (zlet (zcp mem ((42 + 2 * a1.toNatClampNeg) + 1) a2.toNatClampNeg ((42 + 2 * a3.toNatClampNeg) + 1) a4.toNatClampNeg a5.toNatClampNeg) (fun m11 => Option.bind (fX6_foundNothing a5 m11) (fun r12 => some (r12.1, r12.2))))))))) else (Option.bind (fX6_found (5 : Int32) mem) (fun r13 => some (r13.1, r13.2)))) else (fX6_copy_j49  mem))) else (fX6_copy_j49  mem))))))))
set_option maxRecDepth 100000 in
set_option maxHeartbeats 4000000 in
theorem sX6_copy {l : Launch} {E : ZE}  {a1 : Int32} {a2 : Int32} {a3 : Int32} {a4 : Int32} {a5 : Int32} {mem : ZM} {t : Int32 × ZM} (h : fX6_copy a1 a2 a3 a4 a5 mem = some t) : zMet l E yX6_copy cX6_copy 8 (some .int) 2 [.ref (E.2.1 0), .int a1, .int a2, .int a3, .int a4, .int a5] mem (some (.int t.1)) t.2 := by
  refine z_enter (by decide) (Nat.le_of_ble_eq_true rfl) (fun Γ C Rq => ?_)
  have C : zC E Γ RX6 cX6_copy 8 2 := C
  show zG l E Γ 8 0 [(0, .ref (E.2.1 0)), (1, .int a1), (2, .int a2), (3, .int a3), (4, .int a4), (5, .int a5)] [] mem
  unfold fX6_copy at h
  refine z_iload_n C dX6_copy_0 rfl (j := 1) rfl ?_
  obtain ⟨r1, h1, h⟩ := Option.bind_eq_some_iff.mp h
  refine z_callSi [.int a1] [] C dX6_copy_1 zk_X6_62 zw118 ⟨⟨by decide, by decide⟩, rfl, Nat.le_of_ble_eq_true rfl⟩ rfl (sX6_isRow  h1) ?_
  refine z_if_eq 14 C dX6_copy_4 (by decide) h (fun h => ?_) (fun h => ?_)
  · refine z_ldc C dX6_copy_14 zw116 ?_
    have e := Option.some.inj h; subst e; exact z_iret C dX6_copy_16 Rq
  · refine z_iload_n C dX6_copy_7 rfl (j := 3) rfl ?_
    obtain ⟨r2, h2, h⟩ := Option.bind_eq_some_iff.mp h
    refine z_callSi [.int a3] [] C dX6_copy_8 zk_X6_62 zw118 ⟨⟨by decide, by decide⟩, rfl, Nat.le_of_ble_eq_true rfl⟩ rfl (sX6_isRow  h2) ?_
    refine z_if_ne 17 C dX6_copy_11 (by decide) h (fun h => ?_) (fun h => ?_)
    · refine z_aload_n C dX6_copy_17 rfl (j := 0) rfl ?_
      refine zg6_0 C dX6_copy_18 zw13 ?_
      refine z_iload_n C dX6_copy_21 rfl (j := 1) rfl ?_
      refine z_aldR C dX6_copy_22 h (fun hr3 h => ?_)
      refine z_astore [(0, .ref (E.2.1 0)), (1, .int a1), (2, .int a2), (3, .int a3), (4, .int a4), (5, .int a5)] C dX6_copy_23 (by decide) rfl ?_
      refine z_aload_n C dX6_copy_25 rfl (j := 1) rfl ?_
      refine zg6_0 C dX6_copy_26 zw13 ?_
      refine z_iload_n C dX6_copy_29 rfl (j := 4) rfl ?_
      refine z_aldR C dX6_copy_30 h (fun hr4 h => ?_)
      refine z_astore [(6, .ref (E.2.1 (42 + 2 * a1.toNatClampNeg))), (0, .ref (E.2.1 0)), (1, .int a1), (2, .int a2), (3, .int a3), (4, .int a4), (5, .int a5)] C dX6_copy_31 (by decide) rfl ?_
      refine z_aload C dX6_copy_33 (j := 1) rfl ?_
      obtain ⟨r5, h5, h⟩ := Option.bind_eq_some_iff.mp h
      refine z_callVi [] [] C dX6_copy_35 (zRw_lt hr3) (zRw_ent hr3) rfl zk_X6_78 zw164 zw165 ⟨⟨by decide, by decide⟩, rfl, Nat.le_of_ble_eq_true rfl⟩ rfl (sX4_isMissing hr3 h5) ?_
      refine z_if_ne 49 C dX6_copy_38 (by decide) h (fun h => ?_) (fun h => ?_)
      · refine z_pick [2] rfl ?_
        exact jX6_copy_49 C   Rq h
      · refine z_aload C dX6_copy_41 (j := 0) rfl ?_
        obtain ⟨r7, h7, h⟩ := Option.bind_eq_some_iff.mp h
        refine z_callVi [] [] C dX6_copy_43 (zRw_lt hr4) (zRw_ent hr4) rfl zk_X6_78 zw164 zw165 ⟨⟨by decide, by decide⟩, rfl, Nat.le_of_ble_eq_true rfl⟩ rfl (sX4_isMissing hr4 h7) ?_
        refine z_if_eq 55 C dX6_copy_46 (by decide) h (fun h => ?_) (fun h => ?_)
        · refine z_aload C dX6_copy_55 (j := 1) rfl ?_
          refine zg4_0 C dX6_copy_57 hr3 zw186 ?_
          refine z_aload C dX6_copy_60 (j := 0) rfl ?_
          refine zg4_0 C dX6_copy_62 hr4 zw186 ?_
          refine z_icmp_eq 74 C dX6_copy_65 (by decide) h (fun h => ?_) (fun h => ?_)
          · refine z_aload C dX6_copy_74 (j := 1) rfl ?_
            refine z_iload_n C dX6_copy_76 rfl (j := 4) rfl ?_
            refine z_iload C dX6_copy_77 (j := 7) rfl ?_
            obtain ⟨r8, h8, h⟩ := Option.bind_eq_some_iff.mp h
            refine z_callVi [.int a2, .int a5] [] C dX6_copy_79 (zRw_lt hr3) (zRw_ent hr3) rfl zk_X6_82 zw168 zw169 ⟨⟨by decide, by decide⟩, rfl, Nat.le_of_ble_eq_true rfl⟩ rfl (sX4_holds hr3 h8) ?_
            refine z_if_eq 97 C dX6_copy_82 (by decide) h (fun h => ?_) (fun h => ?_)
            · refine z_pick [2] rfl ?_
              exact jX6_copy_97 C   Rq h
            · refine z_aload C dX6_copy_85 (j := 0) rfl ?_
              refine z_iload C dX6_copy_87 (j := 6) rfl ?_
              refine z_iload C dX6_copy_89 (j := 7) rfl ?_
              obtain ⟨r10, h10, h⟩ := Option.bind_eq_some_iff.mp h
              refine z_callVi [.int a4, .int a5] [] C dX6_copy_91 (zRw_lt hr4) (zRw_ent hr4) rfl zk_X6_82 zw168 zw169 ⟨⟨by decide, by decide⟩, rfl, Nat.le_of_ble_eq_true rfl⟩ rfl (sX4_holds hr4 h10) ?_
              refine z_if_ne 103 C dX6_copy_94 (by decide) h (fun h => ?_) (fun h => ?_)
              · refine z_aload C dX6_copy_103 (j := 1) rfl ?_
                refine zg4_2 C dX6_copy_105 hr3 zw187 ?_
                refine z_iload_n C dX6_copy_108 rfl (j := 4) rfl ?_
                refine z_aload C dX6_copy_109 (j := 0) rfl ?_
                refine zg4_2 C dX6_copy_111 hr4 zw187 ?_
                refine z_iload C dX6_copy_114 (j := 6) rfl ?_
                refine z_iload C dX6_copy_116 (j := 7) rfl ?_
                refine z_acopy C dX6_copy_118 zw188 zw189 zw190 zw191 (zRw_ar hr3) (zRw_ar hr4) ⟨by decide, Nat.le_of_ble_eq_true rfl⟩ h (fun m11 h => ?_)
                refine z_aload_n C dX6_copy_121 rfl (j := 2) rfl ?_
                refine z_iload C dX6_copy_122 (j := 7) rfl ?_
                obtain ⟨r12, h12, h⟩ := Option.bind_eq_some_iff.mp h
                refine z_callVi [.int a5] [] C dX6_copy_124 (by decide) zen_0 rfl zk_X6_75 zw133 zw134 ⟨⟨by decide, by decide⟩, rfl, Nat.le_of_ble_eq_true rfl⟩ rfl (sX6_foundNothing  h12) ?_
                have e := Option.some.inj h; subst e; exact z_iret C dX6_copy_127 Rq
              · refine z_pick [2] rfl ?_
                exact jX6_copy_97 C   Rq h
          · refine z_aload_n C dX6_copy_68 rfl (j := 2) rfl ?_
            refine z_iconst (v := 5) C dX6_copy_69 zc5 ?_
            obtain ⟨r13, h13, h⟩ := Option.bind_eq_some_iff.mp h
            refine z_callVi [.int (5 : Int32)] [] C dX6_copy_70 (by decide) zen_0 rfl zk_X6_67 zw124 zw125 ⟨⟨by decide, by decide⟩, rfl, Nat.le_of_ble_eq_true rfl⟩ rfl (sX6_found  h13) ?_
            have e := Option.some.inj h; subst e; exact z_iret C dX6_copy_73 Rq
        · refine z_pick [2] rfl ?_
          exact jX6_copy_49 C   Rq h
    · refine z_ldc C dX6_copy_14 zw116 ?_
      have e := Option.some.inj h; subst e; exact z_iret C dX6_copy_16 Rq
-- X6_drop
def fX6_drop  (a1 : Int32) (mem : ZM) : Option (Int32 × ZM) :=
  Option.bind (fX6_isRow a1) (fun r1 => if r1 = 0 then (some ((-1000001 : Int32), mem)) else (zgd (zin a1 8) (Option.bind (fX4_isMissing (42 + 2 * a1.toNatClampNeg) mem) (fun r3 => if r3 = 0 then (zgd (zin a1 8) (zlet (mem (42 + 2 * a1.toNatClampNeg) 1) (fun v5 => zgd (zin a1 8) (Option.bind (fX4_lose (42 + 2 * a1.toNatClampNeg) mem) (fun r7 => Option.bind (fX6_foundNothing v5 r7) (fun r8 => some (r8.1, r8.2))))))) else (Option.bind (fX6_found (1 : Int32) mem) (fun r9 => some (r9.1, r9.2)))))))
set_option maxRecDepth 100000 in
set_option maxHeartbeats 4000000 in
theorem sX6_drop {l : Launch} {E : ZE}  {a1 : Int32} {mem : ZM} {t : Int32 × ZM} (h : fX6_drop a1 mem = some t) : zMet l E yX6_drop cX6_drop 3 (some .int) 2 [.ref (E.2.1 0), .int a1] mem (some (.int t.1)) t.2 := by
  refine z_enter (by decide) (Nat.le_of_ble_eq_true rfl) (fun Γ C Rq => ?_)
  have C : zC E Γ RX6 cX6_drop 3 2 := C
  show zG l E Γ 3 0 [(0, .ref (E.2.1 0)), (1, .int a1)] [] mem
  unfold fX6_drop at h
  refine z_iload_n C dX6_drop_0 rfl (j := 1) rfl ?_
  obtain ⟨r1, h1, h⟩ := Option.bind_eq_some_iff.mp h
  refine z_callSi [.int a1] [] C dX6_drop_1 zk_X6_62 zw118 ⟨⟨by decide, by decide⟩, rfl, Nat.le_of_ble_eq_true rfl⟩ rfl (sX6_isRow  h1) ?_
  refine z_if_ne 10 C dX6_drop_4 (by decide) h (fun h => ?_) (fun h => ?_)
  · refine z_aload_n C dX6_drop_10 rfl (j := 0) rfl ?_
    refine zg6_0 C dX6_drop_11 zw13 ?_
    refine z_iload_n C dX6_drop_14 rfl (j := 1) rfl ?_
    refine z_aldR C dX6_drop_15 h (fun hr2 h => ?_)
    obtain ⟨r3, h3, h⟩ := Option.bind_eq_some_iff.mp h
    refine z_callVi [] [] C dX6_drop_16 (zRw_lt hr2) (zRw_ent hr2) rfl zk_X6_78 zw164 zw165 ⟨⟨by decide, by decide⟩, rfl, Nat.le_of_ble_eq_true rfl⟩ rfl (sX4_isMissing hr2 h3) ?_
    refine z_if_eq 28 C dX6_drop_19 (by decide) h (fun h => ?_) (fun h => ?_)
    · refine z_aload_n C dX6_drop_28 rfl (j := 0) rfl ?_
      refine zg6_0 C dX6_drop_29 zw13 ?_
      refine z_iload_n C dX6_drop_32 rfl (j := 1) rfl ?_
      refine z_aldR C dX6_drop_33 h (fun hr4 h => ?_)
      refine zg4_1 C dX6_drop_34 hr4 zw200 ?_
      refine z_istore_n [(0, .ref (E.2.1 0)), (1, .int a1)] C dX6_drop_37 h rfl (by decide) rfl (fun v5 h => ?_)
      refine z_aload_n C dX6_drop_38 rfl (j := 1) rfl ?_
      refine zg6_0 C dX6_drop_39 zw13 ?_
      refine z_iload_n C dX6_drop_42 rfl (j := 2) rfl ?_
      refine z_aldR C dX6_drop_43 h (fun hr6 h => ?_)
      obtain ⟨r7, h7, h⟩ := Option.bind_eq_some_iff.mp h
      refine z_callVv [] [] C dX6_drop_44 (zRw_lt hr6) (zRw_ent hr6) rfl zk_X6_106 zw202 zw203 ⟨⟨by decide, by decide⟩, rfl, Nat.le_of_ble_eq_true rfl⟩ rfl (sX4_lose hr6 h7) ?_
      refine z_aload_n C dX6_drop_47 rfl (j := 1) rfl ?_
      refine z_iload_n C dX6_drop_48 rfl (j := 0) rfl ?_
      obtain ⟨r8, h8, h⟩ := Option.bind_eq_some_iff.mp h
      refine z_callVi [.int v5] [] C dX6_drop_49 (by decide) zen_0 rfl zk_X6_75 zw133 zw134 ⟨⟨by decide, by decide⟩, rfl, Nat.le_of_ble_eq_true rfl⟩ rfl (sX6_foundNothing  h8) ?_
      have e := Option.some.inj h; subst e; exact z_iret C dX6_drop_52 Rq
    · refine z_aload_n C dX6_drop_22 rfl (j := 0) rfl ?_
      refine z_iconst (v := 1) C dX6_drop_23 zc1 ?_
      obtain ⟨r9, h9, h⟩ := Option.bind_eq_some_iff.mp h
      refine z_callVi [.int (1 : Int32)] [] C dX6_drop_24 (by decide) zen_0 rfl zk_X6_67 zw124 zw125 ⟨⟨by decide, by decide⟩, rfl, Nat.le_of_ble_eq_true rfl⟩ rfl (sX6_found  h9) ?_
      have e := Option.some.inj h; subst e; exact z_iret C dX6_drop_27 Rq
  · refine z_ldc C dX6_drop_7 zw116 ?_
    have e := Option.some.inj h; subst e; exact z_iret C dX6_drop_9 Rq
-- X6_feed
def fX6_feed  (a1 : Int32) (mem : ZM) : Option (Int32 × ZM) :=
  if a1 < 0 then (some ((-1000001 : Int32), mem)) else (if a1 ≤ (255 : Int32) then (Option.bind (fX5_takeByte a1 mem) (fun r1 => if r1.1 = 0 then (some ((-1000003 : Int32), r1.2)) else (some (r1.2 3 1, r1.2)))) else (some ((-1000001 : Int32), mem)))
set_option maxRecDepth 100000 in
set_option maxHeartbeats 4000000 in
theorem sX6_feed {l : Launch} {E : ZE}  {a1 : Int32} {mem : ZM} {t : Int32 × ZM} (h : fX6_feed a1 mem = some t) : zMet l E yX6_feed cX6_feed 2 (some .int) 1 [.ref (E.2.1 0), .int a1] mem (some (.int t.1)) t.2 := by
  refine z_enter (by decide) (Nat.le_of_ble_eq_true rfl) (fun Γ C Rq => ?_)
  have C : zC E Γ RX6 cX6_feed 2 1 := C
  show zG l E Γ 2 0 [(0, .ref (E.2.1 0)), (1, .int a1)] [] mem
  unfold fX6_feed at h
  refine z_iload_n C dX6_feed_0 rfl (j := 1) rfl ?_
  refine z_if_lt 11 C dX6_feed_1 (by decide) h (fun h => ?_) (fun h => ?_)
  · refine z_ldc C dX6_feed_11 zw116 ?_
    have e := Option.some.inj h; subst e; exact z_iret C dX6_feed_13 Rq
  · refine z_iload_n C dX6_feed_4 rfl (j := 1) rfl ?_
    refine z_sipush (v := 255) C dX6_feed_5 zs255 ?_
    refine z_icmp_le 14 C dX6_feed_8 (by decide) h (fun h => ?_) (fun h => ?_)
    · refine z_aload_n C dX6_feed_14 rfl (j := 0) rfl ?_
      refine zg6_4 C dX6_feed_15 zw23 ?_
      refine z_iload_n C dX6_feed_18 rfl (j := 1) rfl ?_
      obtain ⟨r1, h1, h⟩ := Option.bind_eq_some_iff.mp h
      refine z_callVi [.int a1] [] C dX6_feed_19 (by decide) zen_3 rfl zk_X6_109 zw216 zw217 ⟨⟨by decide, by decide⟩, rfl, Nat.le_of_ble_eq_true rfl⟩ rfl (sX5_takeByte  h1) ?_
      refine z_if_eq 35 C dX6_feed_22 (by decide) h (fun h => ?_) (fun h => ?_)
      · refine z_ldc C dX6_feed_35 zw214 ?_
        have e := Option.some.inj h; subst e; exact z_iret C dX6_feed_37 Rq
      · refine z_aload_n C dX6_feed_25 rfl (j := 0) rfl ?_
        refine zg6_4 C dX6_feed_26 zw23 ?_
        refine zg5_1 C dX6_feed_29 zw213 ?_
        refine z_goto 37 C dX6_feed_32 (by decide) ?_
        have e := Option.some.inj h; subst e; exact z_iret C dX6_feed_37 Rq
    · refine z_ldc C dX6_feed_11 zw116 ?_
      have e := Option.some.inj h; subst e; exact z_iret C dX6_feed_13 Rq
-- X6_heap
def fX6_heap   (mem : ZM) : Option (Int32 × ZM) :=
  Option.bind (fX5_readInto 22 mem) (fun r1 => zlet r1.1 (fun v2 => zlet (r1.2 3 2) (fun v3 => zlet (zst r1.2 3 1 (0 : Int32)) (fun m4 => if v2 = 0 then (some (((-1000100 : Int32) - v3), m4)) else (Option.bind (fX3_takeFrom 17 22 m4) (fun r5 => Option.bind (fX0_forget r5) (fun r6 => some (r6 17 0, r6))))))))
set_option maxRecDepth 100000 in
set_option maxHeartbeats 4000000 in
theorem sX6_heap {l : Launch} {E : ZE}   {mem : ZM} {t : Int32 × ZM} (h : fX6_heap mem = some t) : zMet l E yX6_heap cX6_heap 3 (some .int) 10 [.ref (E.2.1 0)] mem (some (.int t.1)) t.2 := by
  refine z_enter (by decide) (Nat.le_of_ble_eq_true rfl) (fun Γ C Rq => ?_)
  have C : zC E Γ RX6 cX6_heap 3 10 := C
  show zG l E Γ 3 0 [(0, .ref (E.2.1 0))] [] mem
  unfold fX6_heap at h
  refine z_aload_n C dX6_heap_0 rfl (j := 0) rfl ?_
  refine zg6_4 C dX6_heap_1 zw23 ?_
  refine z_aload_n C dX6_heap_4 rfl (j := 0) rfl ?_
  refine zg6_3 C dX6_heap_5 zw19 ?_
  obtain ⟨r1, h1, h⟩ := Option.bind_eq_some_iff.mp h
  refine z_callVi [.ref (E.2.1 22)] [] C dX6_heap_8 (by decide) zen_3 rfl zk_X6_114 zw234 zw235 ⟨⟨by decide, by decide⟩, rfl, Nat.le_of_ble_eq_true rfl⟩ rfl (sX5_readInto zH22 h1) ?_
  refine z_istore_n [(0, .ref (E.2.1 0))] C dX6_heap_11 h rfl (by decide) rfl (fun v2 h => ?_)
  refine z_aload_n C dX6_heap_12 rfl (j := 1) rfl ?_
  refine zg6_4 C dX6_heap_13 zw23 ?_
  refine zg5_2 C dX6_heap_16 zw230 ?_
  refine z_istore_n [(1, .int v2), (0, .ref (E.2.1 0))] C dX6_heap_19 h rfl (by decide) rfl (fun v3 h => ?_)
  refine z_aload_n C dX6_heap_20 rfl (j := 2) rfl ?_
  refine zg6_4 C dX6_heap_21 zw23 ?_
  refine z_iconst (v := 0) C dX6_heap_24 zc0 ?_
  refine zp5_1 C dX6_heap_25 zw213 h (fun m4 h => ?_)
  refine z_iload_n C dX6_heap_28 rfl (j := 1) rfl ?_
  refine z_if_ne 37 C dX6_heap_29 (by decide) h (fun h => ?_) (fun h => ?_)
  · refine z_aload_n C dX6_heap_37 rfl (j := 2) rfl ?_
    refine zg6_2 C dX6_heap_38 zw18 ?_
    refine z_aload_n C dX6_heap_41 rfl (j := 2) rfl ?_
    refine zg6_3 C dX6_heap_42 zw19 ?_
    obtain ⟨r5, h5, h⟩ := Option.bind_eq_some_iff.mp h
    refine z_callVv [.ref (E.2.1 22)] [] C dX6_heap_45 (zH_lt zH17) (zH_ent zH17) rfl zk_X6_122 zw352 zw353 ⟨⟨by decide, by decide⟩, rfl, Nat.le_of_ble_eq_true rfl⟩ rfl (sX3_takeFrom zH17 zH22 h5) ?_
    refine z_aload_n C dX6_heap_48 rfl (j := 2) rfl ?_
    refine zg6_5 C dX6_heap_49 zw27 ?_
    obtain ⟨r6, h6, h⟩ := Option.bind_eq_some_iff.mp h
    refine z_callVv [] [] C dX6_heap_52 (by decide) zen_5 rfl zk_X6_126 zw357 zw358 ⟨⟨by decide, by decide⟩, rfl, Nat.le_of_ble_eq_true rfl⟩ rfl (sX0_forget  h6) ?_
    refine z_aload_n C dX6_heap_55 rfl (j := 2) rfl ?_
    refine zg6_2 C dX6_heap_56 zw18 ?_
    refine zg3_0 C dX6_heap_59 zH17 zw232 ?_
    have e := Option.some.inj h; subst e; exact z_iret C dX6_heap_62 Rq
  · refine z_ldc C dX6_heap_32 zw231 ?_
    refine z_iload_n C dX6_heap_34 rfl (j := 0) rfl ?_
    refine z_isub C dX6_heap_35 ?_
    have e := Option.some.inj h; subst e; exact z_iret C dX6_heap_36 Rq
-- X6_fault
def fX6_fault   (mem : ZM) : Option (Int32) :=
  some (mem 3 3)
set_option maxRecDepth 100000 in
set_option maxHeartbeats 4000000 in
theorem sX6_fault {l : Launch} {E : ZE}   {mem : ZM} {t : Int32} (h : fX6_fault mem = some t) : zMet l E yX6_fault cX6_fault 1 (some .int) 0 [.ref (E.2.1 0)] mem (some (.int t)) mem := by
  refine z_enter (by decide) (Nat.le_of_ble_eq_true rfl) (fun Γ C Rq => ?_)
  have C : zC E Γ RX6 cX6_fault 1 0 := C
  show zG l E Γ 1 0 [(0, .ref (E.2.1 0))] [] mem
  unfold fX6_fault at h
  refine z_aload_n C dX6_fault_0 rfl (j := 0) rfl ?_
  refine zg6_4 C dX6_fault_1 zw23 ?_
  refine zg5_3 C dX6_fault_4 zw408 ?_
  have e := Option.some.inj h; subst e; exact z_iret C dX6_fault_7 Rq
-- X6_hours
def fX6_hours_b47  (y47_1 : Int32) (x47_2 : Int32) (memb : ZM) : Option ((Int32 × ZM) ⊕ (Int32 × ZM)) :=
  if y47_1 ≤ x47_2 then (some (Sum.inr (x47_2, memb))) else (Option.bind (fX0_keep 17 memb) (fun r4 => Option.bind (fX3_passHour 17 r4) (fun r5 => zlet (x47_2 + (1 : Int32)) (fun v6 => some (Sum.inl (v6, r5))))))
def fX6_hours_l47  (y47_1 : Int32) (s : Int32 × ZM) : Option (Int32 × ZM) := ziter (fun s => fX6_hours_b47 y47_1 s.1 s.2) 2000 s
set_option maxRecDepth 100000 in
set_option maxHeartbeats 4000000 in
theorem bX6_hours_47 {l : Launch} {E : ZE} {Γ : ZG} (C : zC E Γ RX6 cX6_hours 3 4)  {y47_1 : Int32} {x47_2 : Int32} {memb : ZM} {u : (Int32 × ZM) ⊕ (Int32 × ZM)} (G1 : ∀ s', u = Sum.inl s' → zG l E Γ 3 47 [(0, .ref (E.2.1 0)), (1, .int y47_1), (2, .int (s'.1))] [] s'.2) (G2 : ∀ s', u = Sum.inr s' → zG l E Γ 3 76 [(0, .ref (E.2.1 0))] [] s'.2) (h : fX6_hours_b47 y47_1 x47_2 memb = some u) : zG l E Γ 3 47 [(0, .ref (E.2.1 0)), (1, .int y47_1), (2, .int x47_2)] [] memb := by
  unfold fX6_hours_b47 at h
  refine z_iload_n C dX6_hours_47 rfl (j := 2) rfl ?_
  refine z_iload_n C dX6_hours_48 rfl (j := 1) rfl ?_
  refine z_icmp_ge 76 C dX6_hours_49 (by decide) h (fun h => ?_) (fun h => ?_)
  · refine z_pick [0] rfl ?_
    exact G2 _ (Option.some.inj h).symm
  · refine z_aload_n C dX6_hours_52 rfl (j := 0) rfl ?_
    refine zg6_5 C dX6_hours_53 zw27 ?_
    refine z_aload_n C dX6_hours_56 rfl (j := 0) rfl ?_
    refine zg6_2 C dX6_hours_57 zw18 ?_
    obtain ⟨r4, h4, h⟩ := Option.bind_eq_some_iff.mp h
    refine z_callVv [.ref (E.2.1 17)] [] C dX6_hours_60 (by decide) zen_5 rfl zk_X6_142 zw425 zw426 ⟨⟨by decide, by decide⟩, rfl, Nat.le_of_ble_eq_true rfl⟩ rfl (sX0_keep zH17 h4) ?_
    refine z_aload_n C dX6_hours_63 rfl (j := 0) rfl ?_
    refine zg6_2 C dX6_hours_64 zw18 ?_
    obtain ⟨r5, h5, h⟩ := Option.bind_eq_some_iff.mp h
    refine z_callVv [] [] C dX6_hours_67 (zH_lt zH17) (zH_ent zH17) rfl zk_X6_145 zw439 zw440 ⟨⟨by decide, by decide⟩, rfl, Nat.le_of_ble_eq_true rfl⟩ rfl (sX3_passHour zH17 h5) ?_
    refine z_iinc [(0, .ref (E.2.1 0)), (1, .int y47_1)] C dX6_hours_70 zc1 h (j := 2) rfl (by decide) rfl (fun v6 h => ?_)
    refine z_goto 47 C dX6_hours_73 (by decide) ?_
    refine z_pick [1, 2, 0] rfl ?_
    exact G1 _ (Option.some.inj h).symm
theorem lX6_hours_47 {l : Launch} {E : ZE} {Γ : ZG} (C : zC E Γ RX6 cX6_hours 3 4)  {y47_1 : Int32} {s : Int32 × ZM} {r : Int32 × ZM} (h : fX6_hours_l47 y47_1 s = some r) (K1 : zG l E Γ 3 76 [(0, .ref (E.2.1 0))] [] r.2) : zG l E Γ 3 47 [(0, .ref (E.2.1 0)), (1, .int y47_1), (2, .int s.1)] [] s.2 :=
  z_loop (body := fun s => fX6_hours_b47 y47_1 s.1 s.2) (fun s => zG l E Γ 3 47 [(0, .ref (E.2.1 0)), (1, .int y47_1), (2, .int s.1)] [] s.2) (fun r => zG l E Γ 3 76 [(0, .ref (E.2.1 0))] [] r.2) (fun s u hb g1 g2 => bX6_hours_47 C  g1 g2 hb) 2000 s r h K1
def fX6_hours  (a1 : Int32) (mem : ZM) : Option (Int32 × ZM) :=
  Option.bind (fX3_isNone 17 mem) (fun r1 => if r1 = 0 then (if a1 < (1 : Int32) then (some ((-1000001 : Int32), mem)) else (if a1 ≤ (24 : Int32) then (if ((mem 17 9) + a1) ≤ (9999 : Int32) then (zlet (0 : Int32) (fun v2 => Option.bind (fX6_hours_l47 a1 (v2, mem)) (fun r3 => some (r3.2 17 5, r3.2)))) else (some ((-1000003 : Int32), mem))) else (some ((-1000001 : Int32), mem)))) else (some ((-1000002 : Int32), mem)))
set_option maxRecDepth 100000 in
set_option maxHeartbeats 4000000 in
theorem sX6_hours {l : Launch} {E : ZE}  {a1 : Int32} {mem : ZM} {t : Int32 × ZM} (h : fX6_hours a1 mem = some t) : zMet l E yX6_hours cX6_hours 3 (some .int) 4 [.ref (E.2.1 0), .int a1] mem (some (.int t.1)) t.2 := by
  refine z_enter (by decide) (Nat.le_of_ble_eq_true rfl) (fun Γ C Rq => ?_)
  have C : zC E Γ RX6 cX6_hours 3 4 := C
  show zG l E Γ 3 0 [(0, .ref (E.2.1 0)), (1, .int a1)] [] mem
  unfold fX6_hours at h
  refine z_aload_n C dX6_hours_0 rfl (j := 0) rfl ?_
  refine zg6_2 C dX6_hours_1 zw18 ?_
  obtain ⟨r1, h1, h⟩ := Option.bind_eq_some_iff.mp h
  refine z_callVi [] [] C dX6_hours_4 (zH_lt zH17) (zH_ent zH17) rfl zk_X6_135 zw421 zw422 ⟨⟨by decide, by decide⟩, rfl, Nat.le_of_ble_eq_true rfl⟩ rfl (sX3_isNone zH17 h1) ?_
  refine z_if_eq 13 C dX6_hours_7 (by decide) h (fun h => ?_) (fun h => ?_)
  · refine z_iload_n C dX6_hours_13 rfl (j := 1) rfl ?_
    refine z_iconst (v := 1) C dX6_hours_14 zc1 ?_
    refine z_icmp_lt 24 C dX6_hours_15 (by decide) h (fun h => ?_) (fun h => ?_)
    · refine z_ldc C dX6_hours_24 zw116 ?_
      have e := Option.some.inj h; subst e; exact z_iret C dX6_hours_26 Rq
    · refine z_iload_n C dX6_hours_18 rfl (j := 1) rfl ?_
      refine z_bipush (v := 24) C dX6_hours_19 zb24 ?_
      refine z_icmp_le 27 C dX6_hours_21 (by decide) h (fun h => ?_) (fun h => ?_)
      · refine z_aload_n C dX6_hours_27 rfl (j := 0) rfl ?_
        refine zg6_2 C dX6_hours_28 zw18 ?_
        refine zg3_9 C dX6_hours_31 zH17 zw418 ?_
        refine z_iload_n C dX6_hours_34 rfl (j := 1) rfl ?_
        refine z_iadd C dX6_hours_35 ?_
        refine z_sipush (v := 9999) C dX6_hours_36 zs9999 ?_
        refine z_icmp_le 45 C dX6_hours_39 (by decide) h (fun h => ?_) (fun h => ?_)
        · refine z_iconst (v := 0) C dX6_hours_45 zc0 ?_
          refine z_istore_n [(0, .ref (E.2.1 0)), (1, .int a1)] C dX6_hours_46 h rfl (by decide) rfl (fun v2 h => ?_)
          obtain ⟨r3, h3, h⟩ := Option.bind_eq_some_iff.mp h
          refine z_pick [1, 2, 0] rfl ?_
          refine lX6_hours_47 C  h3 ?_
          refine z_aload_n C dX6_hours_76 rfl (j := 0) rfl ?_
          refine zg6_2 C dX6_hours_77 zw18 ?_
          refine zg3_5 C dX6_hours_80 zH17 zw419 ?_
          have e := Option.some.inj h; subst e; exact z_iret C dX6_hours_83 Rq
        · refine z_ldc C dX6_hours_42 zw214 ?_
          have e := Option.some.inj h; subst e; exact z_iret C dX6_hours_44 Rq
      · refine z_ldc C dX6_hours_24 zw116 ?_
        have e := Option.some.inj h; subst e; exact z_iret C dX6_hours_26 Rq
  · refine z_ldc C dX6_hours_10 zw417 ?_
    have e := Option.some.inj h; subst e; exact z_iret C dX6_hours_12 Rq
-- X6_light
def fX6_light  (a1 : Int32) (mem : ZM) : Option (Int32 × ZM) :=
  Option.bind (fX3_hasThing 17 a1 mem) (fun r1 => if r1 = 0 then (some ((-1000001 : Int32), mem)) else (Option.bind (fX3_mayBeLit 17 a1 mem) (fun r2 => if r2 = 0 then (some ((-1000002 : Int32), mem)) else (Option.bind (fX0_keep 17 mem) (fun r3 => Option.bind (fX3_lightByHand 17 a1 r3) (fun r4 => some (r4 17 5, r4)))))))
set_option maxRecDepth 100000 in
set_option maxHeartbeats 4000000 in
theorem sX6_light {l : Launch} {E : ZE}  {a1 : Int32} {mem : ZM} {t : Int32 × ZM} (h : fX6_light a1 mem = some t) : zMet l E yX6_light cX6_light 2 (some .int) 3 [.ref (E.2.1 0), .int a1] mem (some (.int t.1)) t.2 := by
  refine z_enter (by decide) (Nat.le_of_ble_eq_true rfl) (fun Γ C Rq => ?_)
  have C : zC E Γ RX6 cX6_light 2 3 := C
  show zG l E Γ 2 0 [(0, .ref (E.2.1 0)), (1, .int a1)] [] mem
  unfold fX6_light at h
  refine z_aload_n C dX6_light_0 rfl (j := 0) rfl ?_
  refine zg6_2 C dX6_light_1 zw18 ?_
  refine z_iload_n C dX6_light_4 rfl (j := 1) rfl ?_
  obtain ⟨r1, h1, h⟩ := Option.bind_eq_some_iff.mp h
  refine z_callVi [.int a1] [] C dX6_light_5 (zH_lt zH17) (zH_ent zH17) rfl zk_X6_151 zw545 zw546 ⟨⟨by decide, by decide⟩, rfl, Nat.le_of_ble_eq_true rfl⟩ rfl (sX3_hasThing zH17 h1) ?_
  refine z_if_ne 14 C dX6_light_8 (by decide) h (fun h => ?_) (fun h => ?_)
  · refine z_aload_n C dX6_light_14 rfl (j := 0) rfl ?_
    refine zg6_2 C dX6_light_15 zw18 ?_
    refine z_iload_n C dX6_light_18 rfl (j := 1) rfl ?_
    obtain ⟨r2, h2, h⟩ := Option.bind_eq_some_iff.mp h
    refine z_callVi [.int a1] [] C dX6_light_19 (zH_lt zH17) (zH_ent zH17) rfl zk_X6_154 zw488 zw489 ⟨⟨by decide, by decide⟩, rfl, Nat.le_of_ble_eq_true rfl⟩ rfl (sX3_mayBeLit zH17 h2) ?_
    refine z_if_ne 28 C dX6_light_22 (by decide) h (fun h => ?_) (fun h => ?_)
    · refine z_aload_n C dX6_light_28 rfl (j := 0) rfl ?_
      refine zg6_5 C dX6_light_29 zw27 ?_
      refine z_aload_n C dX6_light_32 rfl (j := 0) rfl ?_
      refine zg6_2 C dX6_light_33 zw18 ?_
      obtain ⟨r3, h3, h⟩ := Option.bind_eq_some_iff.mp h
      refine z_callVv [.ref (E.2.1 17)] [] C dX6_light_36 (by decide) zen_5 rfl zk_X6_142 zw425 zw426 ⟨⟨by decide, by decide⟩, rfl, Nat.le_of_ble_eq_true rfl⟩ rfl (sX0_keep zH17 h3) ?_
      refine z_aload_n C dX6_light_39 rfl (j := 0) rfl ?_
      refine zg6_2 C dX6_light_40 zw18 ?_
      refine z_iload_n C dX6_light_43 rfl (j := 1) rfl ?_
      obtain ⟨r4, h4, h⟩ := Option.bind_eq_some_iff.mp h
      refine z_callVv [.int a1] [] C dX6_light_44 (zH_lt zH17) (zH_ent zH17) rfl zk_X6_157 zw550 zw551 ⟨⟨by decide, by decide⟩, rfl, Nat.le_of_ble_eq_true rfl⟩ rfl (sX3_lightByHand zH17 h4) ?_
      refine z_aload_n C dX6_light_47 rfl (j := 0) rfl ?_
      refine zg6_2 C dX6_light_48 zw18 ?_
      refine zg3_5 C dX6_light_51 zH17 zw419 ?_
      have e := Option.some.inj h; subst e; exact z_iret C dX6_light_54 Rq
    · refine z_ldc C dX6_light_25 zw417 ?_
      have e := Option.some.inj h; subst e; exact z_iret C dX6_light_27 Rq
  · refine z_ldc C dX6_light_11 zw116 ?_
    have e := Option.some.inj h; subst e; exact z_iret C dX6_light_13 Rq
-- X6_water
def fX6_water  (a1 : Int32) (a2 : Int32) (mem : ZM) : Option (Int32 × ZM) :=
  Option.bind (fX3_hasThing 17 a1 mem) (fun r1 => if r1 = 0 then (some ((-1000001 : Int32), mem)) else (if a2 < (1 : Int32) then (some ((-1000001 : Int32), mem)) else (if a2 ≤ (20 : Int32) then (Option.bind (fX3_isOut 17 a1 mem) (fun r2 => if r2 = 0 then (Option.bind (fX0_keep 17 mem) (fun r3 => Option.bind (fX3_pourOn 17 a1 a2 r3) (fun r4 => zgd (zin a1 8) (some (r4 (17 + 3) a1.toNatClampNeg, r4))))) else (some ((-1000002 : Int32), mem)))) else (some ((-1000001 : Int32), mem)))))
set_option maxRecDepth 100000 in
set_option maxHeartbeats 4000000 in
theorem sX6_water {l : Launch} {E : ZE}  {a1 : Int32} {a2 : Int32} {mem : ZM} {t : Int32 × ZM} (h : fX6_water a1 a2 mem = some t) : zMet l E yX6_water cX6_water 3 (some .int) 2 [.ref (E.2.1 0), .int a1, .int a2] mem (some (.int t.1)) t.2 := by
  refine z_enter (by decide) (Nat.le_of_ble_eq_true rfl) (fun Γ C Rq => ?_)
  have C : zC E Γ RX6 cX6_water 3 2 := C
  show zG l E Γ 3 0 [(0, .ref (E.2.1 0)), (1, .int a1), (2, .int a2)] [] mem
  unfold fX6_water at h
  refine z_aload_n C dX6_water_0 rfl (j := 0) rfl ?_
  refine zg6_2 C dX6_water_1 zw18 ?_
  refine z_iload_n C dX6_water_4 rfl (j := 1) rfl ?_
  obtain ⟨r1, h1, h⟩ := Option.bind_eq_some_iff.mp h
  refine z_callVi [.int a1] [] C dX6_water_5 (zH_lt zH17) (zH_ent zH17) rfl zk_X6_151 zw545 zw546 ⟨⟨by decide, by decide⟩, rfl, Nat.le_of_ble_eq_true rfl⟩ rfl (sX3_hasThing zH17 h1) ?_
  refine z_if_eq 22 C dX6_water_8 (by decide) h (fun h => ?_) (fun h => ?_)
  · refine z_ldc C dX6_water_22 zw116 ?_
    have e := Option.some.inj h; subst e; exact z_iret C dX6_water_24 Rq
  · refine z_iload_n C dX6_water_11 rfl (j := 2) rfl ?_
    refine z_iconst (v := 1) C dX6_water_12 zc1 ?_
    refine z_icmp_lt 22 C dX6_water_13 (by decide) h (fun h => ?_) (fun h => ?_)
    · refine z_ldc C dX6_water_22 zw116 ?_
      have e := Option.some.inj h; subst e; exact z_iret C dX6_water_24 Rq
    · refine z_iload_n C dX6_water_16 rfl (j := 2) rfl ?_
      refine z_bipush (v := 20) C dX6_water_17 zb20 ?_
      refine z_icmp_le 25 C dX6_water_19 (by decide) h (fun h => ?_) (fun h => ?_)
      · refine z_aload_n C dX6_water_25 rfl (j := 0) rfl ?_
        refine zg6_2 C dX6_water_26 zw18 ?_
        refine z_iload_n C dX6_water_29 rfl (j := 1) rfl ?_
        obtain ⟨r2, h2, h⟩ := Option.bind_eq_some_iff.mp h
        refine z_callVi [.int a1] [] C dX6_water_30 (zH_lt zH17) (zH_ent zH17) rfl zk_X6_161 zw456 zw457 ⟨⟨by decide, by decide⟩, rfl, Nat.le_of_ble_eq_true rfl⟩ rfl (sX3_isOut zH17 h2) ?_
        refine z_if_eq 39 C dX6_water_33 (by decide) h (fun h => ?_) (fun h => ?_)
        · refine z_aload_n C dX6_water_39 rfl (j := 0) rfl ?_
          refine zg6_5 C dX6_water_40 zw27 ?_
          refine z_aload_n C dX6_water_43 rfl (j := 0) rfl ?_
          refine zg6_2 C dX6_water_44 zw18 ?_
          obtain ⟨r3, h3, h⟩ := Option.bind_eq_some_iff.mp h
          refine z_callVv [.ref (E.2.1 17)] [] C dX6_water_47 (by decide) zen_5 rfl zk_X6_142 zw425 zw426 ⟨⟨by decide, by decide⟩, rfl, Nat.le_of_ble_eq_true rfl⟩ rfl (sX0_keep zH17 h3) ?_
          refine z_aload_n C dX6_water_50 rfl (j := 0) rfl ?_
          refine zg6_2 C dX6_water_51 zw18 ?_
          refine z_iload_n C dX6_water_54 rfl (j := 1) rfl ?_
          refine z_iload_n C dX6_water_55 rfl (j := 2) rfl ?_
          obtain ⟨r4, h4, h⟩ := Option.bind_eq_some_iff.mp h
          refine z_callVv [.int a1, .int a2] [] C dX6_water_56 (zH_lt zH17) (zH_ent zH17) rfl zk_X6_164 zw572 zw573 ⟨⟨by decide, by decide⟩, rfl, Nat.le_of_ble_eq_true rfl⟩ rfl (sX3_pourOn zH17 h4) ?_
          refine z_aload_n C dX6_water_59 rfl (j := 0) rfl ?_
          refine zg6_2 C dX6_water_60 zw18 ?_
          refine zg3_3 C dX6_water_63 zH17 zw569 ?_
          refine z_iload_n C dX6_water_66 rfl (j := 1) rfl ?_
          refine z_iald C dX6_water_67 (zH_ar3 zH17) h (fun h => ?_)
          have e := Option.some.inj h; subst e; exact z_iret C dX6_water_68 Rq
        · refine z_ldc C dX6_water_36 zw417 ?_
          have e := Option.some.inj h; subst e; exact z_iret C dX6_water_38 Rq
      · refine z_ldc C dX6_water_22 zw116 ?_
        have e := Option.some.inj h; subst e; exact z_iret C dX6_water_24 Rq
