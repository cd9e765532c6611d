-- X0_forget
def fX0_forget   (mem : ZM) : Option (ZM) :=
  zlet (zst mem 5 0 (0 : Int32)) (fun m1 => some m1)
set_option maxRecDepth 100000 in
set_option maxHeartbeats 4000000 in
theorem sX0_forget {l : Launch} {E : ZE}   {mem : ZM} {t : ZM} (h : fX0_forget mem = some t) : zMet l E yX0_forget cX0_forget 1 none 0 [.ref (E.2.1 5)] mem none t := by
  refine z_enter (by decide) (Nat.le_of_ble_eq_true rfl) (fun Γ C Rq => ?_)
  have C : zC E Γ RX0 cX0_forget 1 0 := C
  show zG l E Γ 1 0 [(0, .ref (E.2.1 5))] [] mem
  unfold fX0_forget at h
  refine z_aload_n C dX0_forget_0 rfl (j := 0) rfl ?_
  refine z_iconst (v := 0) C dX0_forget_1 zc0 ?_
  refine zp0_0 C dX0_forget_2 zw64 h (fun m1 h => ?_)
  have e := Option.some.inj h; subst e; exact z_vret C dX0_forget_5 Rq
-- X0_keep
def fX0_keep (q1 : Nat)  (mem : ZM) : Option (ZM) :=
  zgd (zcpg (0 : Int32) ((mem 5 1) * (8 : Int32)) (8 : Int32) 8 192) (zlet (zcp mem (q1 + 2) (0 : Int32).toNatClampNeg 6 ((mem 5 1) * (8 : Int32)).toNatClampNeg (8 : Int32).toNatClampNeg) (fun m1 => zgd (zcpg (0 : Int32) ((m1 5 1) * (8 : Int32)) (8 : Int32) 8 192) (zlet (zcp m1 (q1 + 3) (0 : Int32).toNatClampNeg 7 ((m1 5 1) * (8 : Int32)).toNatClampNeg (8 : Int32).toNatClampNeg) (fun m2 => zgd (zcpg (0 : Int32) ((m2 5 1) * (8 : Int32)) (8 : Int32) 8 192) (zlet (zcp m2 (q1 + 4) (0 : Int32).toNatClampNeg 8 ((m2 5 1) * (8 : Int32)).toNatClampNeg (8 : Int32).toNatClampNeg) (fun m3 => zgd (zin (m3 5 1) 24) (zlet (zst m3 9 (m3 5 1).toNatClampNeg (m3 q1 5)) (fun m4 => zgd (zin (m4 5 1) 24) (zlet (zst m4 10 (m4 5 1).toNatClampNeg (m4 q1 6)) (fun m5 => zgd (zin (m5 5 1) 24) (zlet (zst m5 11 (m5 5 1).toNatClampNeg (m5 q1 7)) (fun m6 => zgd (zin (m6 5 1) 24) (zlet (zst m6 12 (m6 5 1).toNatClampNeg (m6 q1 8)) (fun m7 => zgd (zin (m7 5 1) 24) (zlet (zst m7 13 (m7 5 1).toNatClampNeg (m7 q1 9)) (fun m8 => zlet (zst m8 5 1 (((m8 5 1) + (1 : Int32)) - ((m8 5 1) + (1 : Int32)) / (24 : Int32) * (24 : Int32))) (fun m9 => zlet (zst m9 5 0 (if ((m9 5 0) + (1 : Int32)) < (24 : Int32) then ((m9 5 0) + (1 : Int32)) else (24 : Int32))) (fun m10 => some m10))))))))))))))))))
set_option maxRecDepth 100000 in
set_option maxHeartbeats 4000000 in
theorem sX0_keep {l : Launch} {E : ZE} {q1 : Nat} (hq1 : zH q1)  {mem : ZM} {t : ZM} (h : fX0_keep q1 mem = some t) : zMet l E yX0_keep cX0_keep 2 none 1 [.ref (E.2.1 5), .ref (E.2.1 q1)] mem none t := by
  refine z_enter (by decide) (Nat.le_of_ble_eq_true rfl) (fun Γ C Rq => ?_)
  have C : zC E Γ RX0 cX0_keep 2 1 := C
  show zG l E Γ 2 0 [(0, .ref (E.2.1 5)), (1, .ref (E.2.1 q1))] [] mem
  unfold fX0_keep at h
  refine z_aload_n C dX0_keep_0 rfl (j := 1) rfl ?_
  refine zg3_2 C dX0_keep_1 hq1 zw428 ?_
  refine z_iconst (v := 0) C dX0_keep_4 zc0 ?_
  refine z_aload_n C dX0_keep_5 rfl (j := 0) rfl ?_
  refine zg0_2 C dX0_keep_6 zw66 ?_
  refine z_aload_n C dX0_keep_9 rfl (j := 0) rfl ?_
  refine zg0_1 C dX0_keep_10 zw65 ?_
  refine z_bipush (v := 8) C dX0_keep_13 zb8 ?_
  refine z_imul C dX0_keep_15 ?_
  refine z_bipush (v := 8) C dX0_keep_16 zb8 ?_
  refine z_acopy C dX0_keep_18 zw429 zw189 zw190 zw191 (zH_ar2 hq1) zar6 ⟨by decide, Nat.le_of_ble_eq_true rfl⟩ h (fun m1 h => ?_)
  refine z_aload_n C dX0_keep_21 rfl (j := 1) rfl ?_
  refine zg3_3 C dX0_keep_22 hq1 zw430 ?_
  refine z_iconst (v := 0) C dX0_keep_25 zc0 ?_
  refine z_aload_n C dX0_keep_26 rfl (j := 0) rfl ?_
  refine zg0_3 C dX0_keep_27 zw67 ?_
  refine z_aload_n C dX0_keep_30 rfl (j := 0) rfl ?_
  refine zg0_1 C dX0_keep_31 zw65 ?_
  refine z_bipush (v := 8) C dX0_keep_34 zb8 ?_
  refine z_imul C dX0_keep_36 ?_
  refine z_bipush (v := 8) C dX0_keep_37 zb8 ?_
  refine z_acopy C dX0_keep_39 zw429 zw189 zw190 zw191 (zH_ar3 hq1) zar7 ⟨by decide, Nat.le_of_ble_eq_true rfl⟩ h (fun m2 h => ?_)
  refine z_aload_n C dX0_keep_42 rfl (j := 1) rfl ?_
  refine zg3_4 C dX0_keep_43 hq1 zw431 ?_
  refine z_iconst (v := 0) C dX0_keep_46 zc0 ?_
  refine z_aload_n C dX0_keep_47 rfl (j := 0) rfl ?_
  refine zg0_4 C dX0_keep_48 zw68 ?_
  refine z_aload_n C dX0_keep_51 rfl (j := 0) rfl ?_
  refine zg0_1 C dX0_keep_52 zw65 ?_
  refine z_bipush (v := 8) C dX0_keep_55 zb8 ?_
  refine z_imul C dX0_keep_57 ?_
  refine z_bipush (v := 8) C dX0_keep_58 zb8 ?_
  refine z_acopy C dX0_keep_60 zw429 zw189 zw190 zw191 (zH_ar4 hq1) zar8 ⟨by decide, Nat.le_of_ble_eq_true rfl⟩ h (fun m3 h => ?_)
  refine z_aload_n C dX0_keep_63 rfl (j := 0) rfl ?_
  refine zg0_5 C dX0_keep_64 zw69 ?_
  refine z_aload_n C dX0_keep_67 rfl (j := 0) rfl ?_
  refine zg0_1 C dX0_keep_68 zw65 ?_
  refine z_aload_n C dX0_keep_71 rfl (j := 1) rfl ?_
  refine zg3_5 C dX0_keep_72 hq1 zw432 ?_
  refine z_iast C dX0_keep_75 zar9 h (fun m4 h => ?_)
  refine z_aload_n C dX0_keep_76 rfl (j := 0) rfl ?_
  refine zg0_6 C dX0_keep_77 zw70 ?_
  refine z_aload_n C dX0_keep_80 rfl (j := 0) rfl ?_
  refine zg0_1 C dX0_keep_81 zw65 ?_
  refine z_aload_n C dX0_keep_84 rfl (j := 1) rfl ?_
  refine zg3_6 C dX0_keep_85 hq1 zw433 ?_
  refine z_iast C dX0_keep_88 zar10 h (fun m5 h => ?_)
  refine z_aload_n C dX0_keep_89 rfl (j := 0) rfl ?_
  refine zg0_7 C dX0_keep_90 zw71 ?_
  refine z_aload_n C dX0_keep_93 rfl (j := 0) rfl ?_
  refine zg0_1 C dX0_keep_94 zw65 ?_
  refine z_aload_n C dX0_keep_97 rfl (j := 1) rfl ?_
  refine zg3_7 C dX0_keep_98 hq1 zw434 ?_
  refine z_iast C dX0_keep_101 zar11 h (fun m6 h => ?_)
  refine z_aload_n C dX0_keep_102 rfl (j := 0) rfl ?_
  refine zg0_8 C dX0_keep_103 zw72 ?_
  refine z_aload_n C dX0_keep_106 rfl (j := 0) rfl ?_
  refine zg0_1 C dX0_keep_107 zw65 ?_
  refine z_aload_n C dX0_keep_110 rfl (j := 1) rfl ?_
  refine zg3_8 C dX0_keep_111 hq1 zw435 ?_
  refine z_iast C dX0_keep_114 zar12 h (fun m7 h => ?_)
  refine z_aload_n C dX0_keep_115 rfl (j := 0) rfl ?_
  refine zg0_9 C dX0_keep_116 zw73 ?_
  refine z_aload_n C dX0_keep_119 rfl (j := 0) rfl ?_
  refine zg0_1 C dX0_keep_120 zw65 ?_
  refine z_aload_n C dX0_keep_123 rfl (j := 1) rfl ?_
  refine zg3_9 C dX0_keep_124 hq1 zw436 ?_
  refine z_iast C dX0_keep_127 zar13 h (fun m8 h => ?_)
  refine z_aload_n C dX0_keep_128 rfl (j := 0) rfl ?_
  refine z_aload_n C dX0_keep_129 rfl (j := 0) rfl ?_
  refine zg0_1 C dX0_keep_130 zw65 ?_
  refine z_iconst (v := 1) C dX0_keep_133 zc1 ?_
  refine z_iadd C dX0_keep_134 ?_
  refine z_bipush (v := 24) C dX0_keep_135 zb24 ?_
  refine z_irem0 C dX0_keep_137 (by decide) ?_
  refine zp0_1 C dX0_keep_138 zw65 h (fun m9 h => ?_)
  refine z_aload_n C dX0_keep_141 rfl (j := 0) rfl ?_
  refine z_bipush (v := 24) C dX0_keep_142 zb24 ?_
  refine z_aload_n C dX0_keep_144 rfl (j := 0) rfl ?_
  refine zg0_0 C dX0_keep_145 zw64 ?_
  refine z_iconst (v := 1) C dX0_keep_148 zc1 ?_
  refine z_iadd C dX0_keep_149 ?_
  refine z_mmin C dX0_keep_150 zw437 zw291 zw288 zw292 ⟨by decide, Nat.le_of_ble_eq_true rfl⟩ ?_
  refine zp0_0 C dX0_keep_153 zw64 h (fun m10 h => ?_)
  have e := Option.some.inj h; subst e; exact z_vret C dX0_keep_156 Rq
-- X0_takeBack
def fX0_takeBack (q1 : Nat)  (mem : ZM) : Option (ZM) :=
  if (mem 5 0) = 0 then (some mem) else (zlet (zst mem 5 1 ((((mem 5 1) + (24 : Int32)) - (1 : Int32)) - (((mem 5 1) + (24 : Int32)) - (1 : Int32)) / (24 : Int32) * (24 : Int32))) (fun m1 => zlet (zst m1 5 0 ((m1 5 0) - (1 : Int32))) (fun m2 => zgd (zcpg ((m2 5 1) * (8 : Int32)) (0 : Int32) (8 : Int32) 192 8) (zlet (zcp m2 6 ((m2 5 1) * (8 : Int32)).toNatClampNeg (q1 + 2) (0 : Int32).toNatClampNeg (8 : Int32).toNatClampNeg) (fun m3 => zgd (zcpg ((m3 5 1) * (8 : Int32)) (0 : Int32) (8 : Int32) 192 8) (zlet (zcp m3 7 ((m3 5 1) * (8 : Int32)).toNatClampNeg (q1 + 3) (0 : Int32).toNatClampNeg (8 : Int32).toNatClampNeg) (fun m4 => zgd (zcpg ((m4 5 1) * (8 : Int32)) (0 : Int32) (8 : Int32) 192 8) (zlet (zcp m4 8 ((m4 5 1) * (8 : Int32)).toNatClampNeg (q1 + 4) (0 : Int32).toNatClampNeg (8 : Int32).toNatClampNeg) (fun m5 => zgd (zin (m5 5 1) 24) (zlet (zst m5 q1 5 (m5 9 (m5 5 1).toNatClampNeg)) (fun m6 => zgd (zin (m6 5 1) 24) (zlet (zst m6 q1 6 (m6 10 (m6 5 1).toNatClampNeg)) (fun m7 => zgd (zin (m7 5 1) 24) (zlet (zst m7 q1 7 (m7 11 (m7 5 1).toNatClampNeg)) (fun m8 => zgd (zin (m8 5 1) 24) (zlet (zst m8 q1 8 (m8 12 (m8 5 1).toNatClampNeg)) (fun m9 => zgd (zin (m9 5 1) 24) (zlet (zst m9 q1 9 (m9 13 (m9 5 1).toNatClampNeg)) (fun m10 => some m10)))))))))))))))))))
set_option maxRecDepth 100000 in
set_option maxHeartbeats 4000000 in
theorem sX0_takeBack {l : Launch} {E : ZE} {q1 : Nat} (hq1 : zH q1)  {mem : ZM} {t : ZM} (h : fX0_takeBack q1 mem = some t) : zMet l E yX0_takeBack cX0_takeBack 2 none 1 [.ref (E.2.1 5), .ref (E.2.1 q1)] mem none t := by
  refine z_enter (by decide) (Nat.le_of_ble_eq_true rfl) (fun Γ C Rq => ?_)
  have C : zC E Γ RX0 cX0_takeBack 2 1 := C
  show zG l E Γ 2 0 [(0, .ref (E.2.1 5)), (1, .ref (E.2.1 q1))] [] mem
  unfold fX0_takeBack at h
  refine z_aload_n C dX0_takeBack_0 rfl (j := 0) rfl ?_
  refine zg0_0 C dX0_takeBack_1 zw64 ?_
  refine z_if_ne 8 C dX0_takeBack_4 (by decide) h (fun h => ?_) (fun h => ?_)
  · refine z_aload_n C dX0_takeBack_8 rfl (j := 0) rfl ?_
    refine z_aload_n C dX0_takeBack_9 rfl (j := 0) rfl ?_
    refine zg0_1 C dX0_takeBack_10 zw65 ?_
    refine z_bipush (v := 24) C dX0_takeBack_13 zb24 ?_
    refine z_iadd C dX0_takeBack_15 ?_
    refine z_iconst (v := 1) C dX0_takeBack_16 zc1 ?_
    refine z_isub C dX0_takeBack_17 ?_
    refine z_bipush (v := 24) C dX0_takeBack_18 zb24 ?_
    refine z_irem0 C dX0_takeBack_20 (by decide) ?_
    refine zp0_1 C dX0_takeBack_21 zw65 h (fun m1 h => ?_)
    refine z_aload_n C dX0_takeBack_24 rfl (j := 0) rfl ?_
    refine z_dup C dX0_takeBack_25 rfl ?_
    refine zg0_0 C dX0_takeBack_26 zw64 ?_
    refine z_iconst (v := 1) C dX0_takeBack_29 zc1 ?_
    refine z_isub C dX0_takeBack_30 ?_
    refine zp0_0 C dX0_takeBack_31 zw64 h (fun m2 h => ?_)
    refine z_aload_n C dX0_takeBack_34 rfl (j := 0) rfl ?_
    refine zg0_2 C dX0_takeBack_35 zw66 ?_
    refine z_aload_n C dX0_takeBack_38 rfl (j := 0) rfl ?_
    refine zg0_1 C dX0_takeBack_39 zw65 ?_
    refine z_bipush (v := 8) C dX0_takeBack_42 zb8 ?_
    refine z_imul C dX0_takeBack_44 ?_
    refine z_aload_n C dX0_takeBack_45 rfl (j := 1) rfl ?_
    refine zg3_2 C dX0_takeBack_46 hq1 zw428 ?_
    refine z_iconst (v := 0) C dX0_takeBack_49 zc0 ?_
    refine z_bipush (v := 8) C dX0_takeBack_50 zb8 ?_
    refine z_acopy C dX0_takeBack_52 zw429 zw189 zw190 zw191 zar6 (zH_ar2 hq1) ⟨by decide, Nat.le_of_ble_eq_true rfl⟩ h (fun m3 h => ?_)
    refine z_aload_n C dX0_takeBack_55 rfl (j := 0) rfl ?_
    refine zg0_3 C dX0_takeBack_56 zw67 ?_
    refine z_aload_n C dX0_takeBack_59 rfl (j := 0) rfl ?_
    refine zg0_1 C dX0_takeBack_60 zw65 ?_
    refine z_bipush (v := 8) C dX0_takeBack_63 zb8 ?_
    refine z_imul C dX0_takeBack_65 ?_
    refine z_aload_n C dX0_takeBack_66 rfl (j := 1) rfl ?_
    refine zg3_3 C dX0_takeBack_67 hq1 zw430 ?_
    refine z_iconst (v := 0) C dX0_takeBack_70 zc0 ?_
    refine z_bipush (v := 8) C dX0_takeBack_71 zb8 ?_
    refine z_acopy C dX0_takeBack_73 zw429 zw189 zw190 zw191 zar7 (zH_ar3 hq1) ⟨by decide, Nat.le_of_ble_eq_true rfl⟩ h (fun m4 h => ?_)
    refine z_aload_n C dX0_takeBack_76 rfl (j := 0) rfl ?_
    refine zg0_4 C dX0_takeBack_77 zw68 ?_
    refine z_aload_n C dX0_takeBack_80 rfl (j := 0) rfl ?_
    refine zg0_1 C dX0_takeBack_81 zw65 ?_
    refine z_bipush (v := 8) C dX0_takeBack_84 zb8 ?_
    refine z_imul C dX0_takeBack_86 ?_
    refine z_aload_n C dX0_takeBack_87 rfl (j := 1) rfl ?_
    refine zg3_4 C dX0_takeBack_88 hq1 zw431 ?_
    refine z_iconst (v := 0) C dX0_takeBack_91 zc0 ?_
    refine z_bipush (v := 8) C dX0_takeBack_92 zb8 ?_
    refine z_acopy C dX0_takeBack_94 zw429 zw189 zw190 zw191 zar8 (zH_ar4 hq1) ⟨by decide, Nat.le_of_ble_eq_true rfl⟩ h (fun m5 h => ?_)
    refine z_aload_n C dX0_takeBack_97 rfl (j := 1) rfl ?_
    refine z_aload_n C dX0_takeBack_98 rfl (j := 0) rfl ?_
    refine zg0_5 C dX0_takeBack_99 zw69 ?_
    refine z_aload_n C dX0_takeBack_102 rfl (j := 0) rfl ?_
    refine zg0_1 C dX0_takeBack_103 zw65 ?_
    refine z_iald C dX0_takeBack_106 zar9 h (fun h => ?_)
    refine zp3_5 C dX0_takeBack_107 hq1 zw432 h (fun m6 h => ?_)
    refine z_aload_n C dX0_takeBack_110 rfl (j := 1) rfl ?_
    refine z_aload_n C dX0_takeBack_111 rfl (j := 0) rfl ?_
    refine zg0_6 C dX0_takeBack_112 zw70 ?_
    refine z_aload_n C dX0_takeBack_115 rfl (j := 0) rfl ?_
    refine zg0_1 C dX0_takeBack_116 zw65 ?_
    refine z_iald C dX0_takeBack_119 zar10 h (fun h => ?_)
    refine zp3_6 C dX0_takeBack_120 hq1 zw433 h (fun m7 h => ?_)
    refine z_aload_n C dX0_takeBack_123 rfl (j := 1) rfl ?_
    refine z_aload_n C dX0_takeBack_124 rfl (j := 0) rfl ?_
    refine zg0_7 C dX0_takeBack_125 zw71 ?_
    refine z_aload_n C dX0_takeBack_128 rfl (j := 0) rfl ?_
    refine zg0_1 C dX0_takeBack_129 zw65 ?_
    refine z_iald C dX0_takeBack_132 zar11 h (fun h => ?_)
    refine zp3_7 C dX0_takeBack_133 hq1 zw434 h (fun m8 h => ?_)
    refine z_aload_n C dX0_takeBack_136 rfl (j := 1) rfl ?_
    refine z_aload_n C dX0_takeBack_137 rfl (j := 0) rfl ?_
    refine zg0_8 C dX0_takeBack_138 zw72 ?_
    refine z_aload_n C dX0_takeBack_141 rfl (j := 0) rfl ?_
    refine zg0_1 C dX0_takeBack_142 zw65 ?_
    refine z_iald C dX0_takeBack_145 zar12 h (fun h => ?_)
    refine zp3_8 C dX0_takeBack_146 hq1 zw435 h (fun m9 h => ?_)
    refine z_aload_n C dX0_takeBack_149 rfl (j := 1) rfl ?_
    refine z_aload_n C dX0_takeBack_150 rfl (j := 0) rfl ?_
    refine zg0_9 C dX0_takeBack_151 zw73 ?_
    refine z_aload_n C dX0_takeBack_154 rfl (j := 0) rfl ?_
    refine zg0_1 C dX0_takeBack_155 zw65 ?_
    refine z_iald C dX0_takeBack_158 zar13 h (fun h => ?_)
    refine zp3_9 C dX0_takeBack_159 hq1 zw436 h (fun m10 h => ?_)
    have e := Option.some.inj h; subst e; exact z_vret C dX0_takeBack_162 Rq
  · have e := Option.some.inj h; subst e; exact z_vret C dX0_takeBack_7 Rq
-- X1_leaveTrace
def fX1_leaveTrace  (a1 : Int32) (mem : ZM) : Option (ZM) :=
  if (16 : Int32) ≤ (mem 15 1) then (some mem) else (zgd (zin (mem 15 1) 16) (zlet (zst mem 16 (mem 15 1).toNatClampNeg a1) (fun m1 => zlet (zst m1 15 1 ((m1 15 1) + (1 : Int32))) (fun m2 => some m2))))
set_option maxRecDepth 100000 in
set_option maxHeartbeats 4000000 in
theorem sX1_leaveTrace {l : Launch} {E : ZE}  {a1 : Int32} {mem : ZM} {t : ZM} (h : fX1_leaveTrace a1 mem = some t) : zMet l E yX1_leaveTrace cX1_leaveTrace 2 none 0 [.ref (E.2.1 15), .int a1] mem none t := by
  refine z_enter (by decide) (Nat.le_of_ble_eq_true rfl) (fun Γ C Rq => ?_)
  have C : zC E Γ RX1 cX1_leaveTrace 2 0 := C
  show zG l E Γ 2 0 [(0, .ref (E.2.1 15)), (1, .int a1)] [] mem
  unfold fX1_leaveTrace at h
  refine z_aload_n C dX1_leaveTrace_0 rfl (j := 0) rfl ?_
  refine zg1_1 C dX1_leaveTrace_1 zw83 ?_
  refine z_bipush (v := 16) C dX1_leaveTrace_4 zb16 ?_
  refine z_icmp_ge 29 C dX1_leaveTrace_6 (by decide) h (fun h => ?_) (fun h => ?_)
  · have e := Option.some.inj h; subst e; exact z_vret C dX1_leaveTrace_29 Rq
  · refine z_aload_n C dX1_leaveTrace_9 rfl (j := 0) rfl ?_
    refine zg1_0 C dX1_leaveTrace_10 zw82 ?_
    refine z_aload_n C dX1_leaveTrace_13 rfl (j := 0) rfl ?_
    refine zg1_1 C dX1_leaveTrace_14 zw83 ?_
    refine z_iload_n C dX1_leaveTrace_17 rfl (j := 1) rfl ?_
    refine z_iast C dX1_leaveTrace_18 zar16 h (fun m1 h => ?_)
    refine z_aload_n C dX1_leaveTrace_19 rfl (j := 0) rfl ?_
    refine z_dup C dX1_leaveTrace_20 rfl ?_
    refine zg1_1 C dX1_leaveTrace_21 zw83 ?_
    refine z_iconst (v := 1) C dX1_leaveTrace_24 zc1 ?_
    refine z_iadd C dX1_leaveTrace_25 ?_
    refine zp1_1 C dX1_leaveTrace_26 zw83 h (fun m2 h => ?_)
    have e := Option.some.inj h; subst e; exact z_vret C dX1_leaveTrace_29 Rq
-- X1_body10
def fX1_body10   (mem : ZM) : Option (Int32 × ZM) :=
  Option.bind (fX1_leaveTrace (10 : Int32) mem) (fun r1 => some (r1 15 4, r1))
set_option maxRecDepth 100000 in
set_option maxHeartbeats 4000000 in
theorem sX1_body10 {l : Launch} {E : ZE}   {mem : ZM} {t : Int32 × ZM} (h : fX1_body10 mem = some t) : zMet l E yX1_body10 cX1_body10 1 (some .int) 1 [.ref (E.2.1 15)] mem (some (.int t.1)) t.2 := by
  refine z_enter (by decide) (Nat.le_of_ble_eq_true rfl) (fun Γ C Rq => ?_)
  have C : zC E Γ RX1 cX1_body10 1 1 := C
  show zG l E Γ 1 0 [(0, .ref (E.2.1 15))] [] mem
  unfold fX1_body10 at h
  refine z_aload_n C dX1_body10_0 rfl (j := 0) rfl ?_
  refine z_bipush (v := 10) C dX1_body10_1 zb10 ?_
  obtain ⟨r1, h1, h⟩ := Option.bind_eq_some_iff.mp h
  refine z_callVv [.int (10 : Int32)] [] C dX1_body10_3 (by decide) zen_15 rfl zk_X1_78 zw1000 zw1001 ⟨⟨by decide, by decide⟩, rfl, Nat.le_of_ble_eq_true rfl⟩ rfl (sX1_leaveTrace  h1) ?_
  refine z_aload_n C dX1_body10_6 rfl (j := 0) rfl ?_
  refine zg1_4 C dX1_body10_7 zw86 ?_
  have e := Option.some.inj h; subst e; exact z_iret C dX1_body10_10 Rq
-- X1_body20
def fX1_body20   (mem : ZM) : Option (Int32 × ZM) :=
  Option.bind (fX1_leaveTrace (20 : Int32) mem) (fun r1 => some (r1 15 2, r1))
set_option maxRecDepth 100000 in
set_option maxHeartbeats 4000000 in
theorem sX1_body20 {l : Launch} {E : ZE}   {mem : ZM} {t : Int32 × ZM} (h : fX1_body20 mem = some t) : zMet l E yX1_body20 cX1_body20 1 (some .int) 1 [.ref (E.2.1 15)] mem (some (.int t.1)) t.2 := by
  refine z_enter (by decide) (Nat.le_of_ble_eq_true rfl) (fun Γ C Rq => ?_)
  have C : zC E Γ RX1 cX1_body20 1 1 := C
  show zG l E Γ 1 0 [(0, .ref (E.2.1 15))] [] mem
  unfold fX1_body20 at h
  refine z_aload_n C dX1_body20_0 rfl (j := 0) rfl ?_
  refine z_bipush (v := 20) C dX1_body20_1 zb20 ?_
  obtain ⟨r1, h1, h⟩ := Option.bind_eq_some_iff.mp h
  refine z_callVv [.int (20 : Int32)] [] C dX1_body20_3 (by decide) zen_15 rfl zk_X1_78 zw1000 zw1001 ⟨⟨by decide, by decide⟩, rfl, Nat.le_of_ble_eq_true rfl⟩ rfl (sX1_leaveTrace  h1) ?_
  refine z_aload_n C dX1_body20_6 rfl (j := 0) rfl ?_
  refine zg1_2 C dX1_body20_7 zw84 ?_
  have e := Option.some.inj h; subst e; exact z_iret C dX1_body20_10 Rq
-- X1_body21
def fX1_body21   (mem : ZM) : Option (Int32 × ZM) :=
  Option.bind (fX1_leaveTrace (21 : Int32) mem) (fun r1 => Option.bind (fX1_body20 r1) (fun r2 => some ((r2.1 + (r2.2 15 5)), r2.2)))
set_option maxRecDepth 100000 in
set_option maxHeartbeats 4000000 in
theorem sX1_body21 {l : Launch} {E : ZE}   {mem : ZM} {t : Int32 × ZM} (h : fX1_body21 mem = some t) : zMet l E yX1_body21 cX1_body21 1 (some .int) 2 [.ref (E.2.1 15)] mem (some (.int t.1)) t.2 := by
  refine z_enter (by decide) (Nat.le_of_ble_eq_true rfl) (fun Γ C Rq => ?_)
  have C : zC E Γ RX1 cX1_body21 1 2 := C
  show zG l E Γ 1 0 [(0, .ref (E.2.1 15))] [] mem
  unfold fX1_body21 at h
  refine z_aload_n C dX1_body21_0 rfl (j := 0) rfl ?_
  refine z_bipush (v := 21) C dX1_body21_1 zb21 ?_
  obtain ⟨r1, h1, h⟩ := Option.bind_eq_some_iff.mp h
  refine z_callVv [.int (21 : Int32)] [] C dX1_body21_3 (by decide) zen_15 rfl zk_X1_78 zw1000 zw1001 ⟨⟨by decide, by decide⟩, rfl, Nat.le_of_ble_eq_true rfl⟩ rfl (sX1_leaveTrace  h1) ?_
  refine z_aload_n C dX1_body21_6 rfl (j := 0) rfl ?_
  obtain ⟨r2, h2, h⟩ := Option.bind_eq_some_iff.mp h
  refine z_callVi [] [] C dX1_body21_7 (by decide) zen_15 rfl zk_X1_75 zw1017 zw1018 ⟨⟨by decide, by decide⟩, rfl, Nat.le_of_ble_eq_true rfl⟩ rfl (sX1_body20  h2) ?_
  refine z_aload_n C dX1_body21_10 rfl (j := 0) rfl ?_
  refine zg1_5 C dX1_body21_11 zw87 ?_
  refine z_iadd C dX1_body21_14 ?_
  have e := Option.some.inj h; subst e; exact z_iret C dX1_body21_15 Rq
-- X1_body22
def fX1_body22   (mem : ZM) : Option (Int32 × ZM) :=
  Option.bind (fX1_leaveTrace (22 : Int32) mem) (fun r1 => Option.bind (fX1_body21 r1) (fun r2 => some ((r2.1 - (1000 : Int32)), r2.2)))
set_option maxRecDepth 100000 in
set_option maxHeartbeats 4000000 in
theorem sX1_body22 {l : Launch} {E : ZE}   {mem : ZM} {t : Int32 × ZM} (h : fX1_body22 mem = some t) : zMet l E yX1_body22 cX1_body22 1 (some .int) 3 [.ref (E.2.1 15)] mem (some (.int t.1)) t.2 := by
  refine z_enter (by decide) (Nat.le_of_ble_eq_true rfl) (fun Γ C Rq => ?_)
  have C : zC E Γ RX1 cX1_body22 1 3 := C
  show zG l E Γ 1 0 [(0, .ref (E.2.1 15))] [] mem
  unfold fX1_body22 at h
  refine z_aload_n C dX1_body22_0 rfl (j := 0) rfl ?_
  refine z_bipush (v := 22) C dX1_body22_1 zb22 ?_
  obtain ⟨r1, h1, h⟩ := Option.bind_eq_some_iff.mp h
  refine z_callVv [.int (22 : Int32)] [] C dX1_body22_3 (by decide) zen_15 rfl zk_X1_78 zw1000 zw1001 ⟨⟨by decide, by decide⟩, rfl, Nat.le_of_ble_eq_true rfl⟩ rfl (sX1_leaveTrace  h1) ?_
  refine z_aload_n C dX1_body22_6 rfl (j := 0) rfl ?_
  obtain ⟨r2, h2, h⟩ := Option.bind_eq_some_iff.mp h
  refine z_callVi [] [] C dX1_body22_7 (by decide) zen_15 rfl zk_X1_63 zw1013 zw1014 ⟨⟨by decide, by decide⟩, rfl, Nat.le_of_ble_eq_true rfl⟩ rfl (sX1_body21  h2) ?_
  refine z_sipush (v := 1000) C dX1_body22_10 zs1000 ?_
  refine z_isub C dX1_body22_13 ?_
  have e := Option.some.inj h; subst e; exact z_iret C dX1_body22_14 Rq
-- X1_body13
def fX1_body13   (mem : ZM) : Option (Int32 × ZM) :=
  Option.bind (fX1_leaveTrace (13 : Int32) mem) (fun r1 => Option.bind (fX1_body10 r1) (fun r2 => some ((r2.1 - (100 : Int32)), r2.2)))
set_option maxRecDepth 100000 in
set_option maxHeartbeats 4000000 in
theorem sX1_body13 {l : Launch} {E : ZE}   {mem : ZM} {t : Int32 × ZM} (h : fX1_body13 mem = some t) : zMet l E yX1_body13 cX1_body13 1 (some .int) 2 [.ref (E.2.1 15)] mem (some (.int t.1)) t.2 := by
  refine z_enter (by decide) (Nat.le_of_ble_eq_true rfl) (fun Γ C Rq => ?_)
  have C : zC E Γ RX1 cX1_body13 1 2 := C
  show zG l E Γ 1 0 [(0, .ref (E.2.1 15))] [] mem
  unfold fX1_body13 at h
  refine z_aload_n C dX1_body13_0 rfl (j := 0) rfl ?_
  refine z_bipush (v := 13) C dX1_body13_1 zb13 ?_
  obtain ⟨r1, h1, h⟩ := Option.bind_eq_some_iff.mp h
  refine z_callVv [.int (13 : Int32)] [] C dX1_body13_3 (by decide) zen_15 rfl zk_X1_78 zw1000 zw1001 ⟨⟨by decide, by decide⟩, rfl, Nat.le_of_ble_eq_true rfl⟩ rfl (sX1_leaveTrace  h1) ?_
  refine z_aload_n C dX1_body13_6 rfl (j := 0) rfl ?_
  obtain ⟨r2, h2, h⟩ := Option.bind_eq_some_iff.mp h
  refine z_callVi [] [] C dX1_body13_7 (by decide) zen_15 rfl zk_X1_60 zw1004 zw1005 ⟨⟨by decide, by decide⟩, rfl, Nat.le_of_ble_eq_true rfl⟩ rfl (sX1_body10  h2) ?_
  refine z_bipush (v := 100) C dX1_body13_10 zb100 ?_
  refine z_isub C dX1_body13_12 ?_
  have e := Option.some.inj h; subst e; exact z_iret C dX1_body13_13 Rq
-- X1_body14
def fX1_body14   (mem : ZM) : Option (Int32 × ZM) :=
  Option.bind (fX1_leaveTrace (14 : Int32) mem) (fun r1 => Option.bind (fX1_body13 r1) (fun r2 => some (((2 : Int32) * r2.1), r2.2)))
set_option maxRecDepth 100000 in
set_option maxHeartbeats 4000000 in
theorem sX1_body14 {l : Launch} {E : ZE}   {mem : ZM} {t : Int32 × ZM} (h : fX1_body14 mem = some t) : zMet l E yX1_body14 cX1_body14 1 (some .int) 3 [.ref (E.2.1 15)] mem (some (.int t.1)) t.2 := by
  refine z_enter (by decide) (Nat.le_of_ble_eq_true rfl) (fun Γ C Rq => ?_)
  have C : zC E Γ RX1 cX1_body14 1 3 := C
  show zG l E Γ 1 0 [(0, .ref (E.2.1 15))] [] mem
  unfold fX1_body14 at h
  refine z_aload_n C dX1_body14_0 rfl (j := 0) rfl ?_
  refine z_bipush (v := 14) C dX1_body14_1 zb14 ?_
  obtain ⟨r1, h1, h⟩ := Option.bind_eq_some_iff.mp h
  refine z_callVv [.int (14 : Int32)] [] C dX1_body14_3 (by decide) zen_15 rfl zk_X1_78 zw1000 zw1001 ⟨⟨by decide, by decide⟩, rfl, Nat.le_of_ble_eq_true rfl⟩ rfl (sX1_leaveTrace  h1) ?_
  refine z_iconst (v := 2) C dX1_body14_6 zc2 ?_
  refine z_aload_n C dX1_body14_7 rfl (j := 0) rfl ?_
  obtain ⟨r2, h2, h⟩ := Option.bind_eq_some_iff.mp h
  refine z_callVi [] [.int (2 : Int32)] C dX1_body14_8 (by decide) zen_15 rfl zk_X1_53 zw996 zw997 ⟨⟨by decide, by decide⟩, rfl, Nat.le_of_ble_eq_true rfl⟩ rfl (sX1_body13  h2) ?_
  refine z_imul C dX1_body14_11 ?_
  have e := Option.some.inj h; subst e; exact z_iret C dX1_body14_12 Rq
-- X1_askSize_0
def fX1_askSize_0  (a1 : Int32) (mem : ZM) : Option (Int32 × ZM) :=
  if a1 ≤ (16 : Int32) then (if (mem 15 3) = (1 : Int32) then (none) else if (mem 15 3) = (2 : Int32) then (none) else if (mem 15 3) = (3 : Int32) then (none) else if (mem 15 3) = (4 : Int32) then (Option.bind (fX1_body13 mem) (fun r5 => some (r5.1, r5.2))) else if (mem 15 3) = (5 : Int32) then (Option.bind (fX1_body14 mem) (fun r7 => some (r7.1, r7.2))) else (Option.bind (fX1_body10 mem) (fun r8 => some (r8.1, r8.2)))) else (some ((0 : Int32), mem))
set_option maxRecDepth 100000 in
set_option maxHeartbeats 4000000 in
theorem sX1_askSize_0 {l : Launch} {E : ZE}  {a1 : Int32} {mem : ZM} {t : Int32 × ZM} (h : fX1_askSize_0 a1 mem = some t) : zMet l E yX1_askSize cX1_askSize 2 (some .int) 4 [.ref (E.2.1 15), .int a1] mem (some (.int t.1)) t.2 := by
  refine z_enter (by decide) (Nat.le_of_ble_eq_true rfl) (fun Γ C Rq => ?_)
  have C : zC E Γ RX1 cX1_askSize 2 4 := C
  show zG l E Γ 2 0 [(0, .ref (E.2.1 15)), (1, .int a1)] [] mem
  unfold fX1_askSize_0 at h
  refine z_iload_n C dX1_askSize_0 rfl (j := 1) rfl ?_
  refine z_bipush (v := 16) C dX1_askSize_1 zb16 ?_
  refine z_icmp_le 8 C dX1_askSize_3 (by decide) h (fun h => ?_) (fun h => ?_)
  · refine z_aload_n C dX1_askSize_8 rfl (j := 0) rfl ?_
    refine zg1_3 C dX1_askSize_9 zw85 ?_
    by_cases c1 : (mem 15 3) = (1 : Int32)
    · rw [if_pos c1] at h
      refine z_swIn (off := 36) 48 C dX1_askSize_12 1 c1 (by decide) (by decide) (by decide) (by decide) ?_
      refine z_aload_n C dX1_askSize_48 rfl (j := 0) rfl ?_
      refine z_iload_n C dX1_askSize_49 rfl (j := 1) rfl ?_
      refine z_iconst (v := 1) C dX1_askSize_50 zc1 ?_
      refine z_iadd C dX1_askSize_51 ?_
      cases h
    rw [if_neg c1] at h
    have nc1 : ((mem 15 3)).toInt ≠ 1 := zne c1
    by_cases c2 : (mem 15 3) = (2 : Int32)
    · rw [if_pos c2] at h
      refine z_swIn (off := 44) 56 C dX1_askSize_12 2 c2 (by decide) (by decide) (by decide) (by decide) ?_
      refine z_aload_n C dX1_askSize_56 rfl (j := 0) rfl ?_
      refine z_iload_n C dX1_askSize_57 rfl (j := 1) rfl ?_
      refine z_iconst (v := 1) C dX1_askSize_58 zc1 ?_
      refine z_iadd C dX1_askSize_59 ?_
      cases h
    rw [if_neg c2] at h
    have nc2 : ((mem 15 3)).toInt ≠ 2 := zne c2
    by_cases c3 : (mem 15 3) = (3 : Int32)
    · rw [if_pos c3] at h
      refine z_swIn (off := 36) 48 C dX1_askSize_12 3 c3 (by decide) (by decide) (by decide) (by decide) ?_
      refine z_aload_n C dX1_askSize_48 rfl (j := 0) rfl ?_
      refine z_iload_n C dX1_askSize_49 rfl (j := 1) rfl ?_
      refine z_iconst (v := 1) C dX1_askSize_50 zc1 ?_
      refine z_iadd C dX1_askSize_51 ?_
      cases h
    rw [if_neg c3] at h
    have nc3 : ((mem 15 3)).toInt ≠ 3 := zne c3
    by_cases c4 : (mem 15 3) = (4 : Int32)
    · rw [if_pos c4] at h
      refine z_swIn (off := 52) 64 C dX1_askSize_12 4 c4 (by decide) (by decide) (by decide) (by decide) ?_
      refine z_aload_n C dX1_askSize_64 rfl (j := 0) rfl ?_
      obtain ⟨r5, h5, h⟩ := Option.bind_eq_some_iff.mp h
      refine z_callVi [] [] C dX1_askSize_65 (by decide) zen_15 rfl zk_X1_53 zw996 zw997 ⟨⟨by decide, by decide⟩, rfl, Nat.le_of_ble_eq_true rfl⟩ rfl (sX1_body13  h5) ?_
      have e := Option.some.inj h; subst e; exact z_iret C dX1_askSize_68 Rq
    rw [if_neg c4] at h
    have nc4 : ((mem 15 3)).toInt ≠ 4 := zne c4
    by_cases c6 : (mem 15 3) = (5 : Int32)
    · rw [if_pos c6] at h
      refine z_swIn (off := 57) 69 C dX1_askSize_12 5 c6 (by decide) (by decide) (by decide) (by decide) ?_
      refine z_aload_n C dX1_askSize_69 rfl (j := 0) rfl ?_
      obtain ⟨r7, h7, h⟩ := Option.bind_eq_some_iff.mp h
      refine z_callVi [] [] C dX1_askSize_70 (by decide) zen_15 rfl zk_X1_57 zw1008 zw1009 ⟨⟨by decide, by decide⟩, rfl, Nat.le_of_ble_eq_true rfl⟩ rfl (sX1_body14  h7) ?_
      have e := Option.some.inj h; subst e; exact z_iret C dX1_askSize_73 Rq
    rw [if_neg c6] at h
    have nc6 : ((mem 15 3)).toInt ≠ 5 := zne c6
    refine z_swOut 74 C dX1_askSize_12 (by omega) (by decide) ?_
    refine z_aload_n C dX1_askSize_74 rfl (j := 0) rfl ?_
    obtain ⟨r8, h8, h⟩ := Option.bind_eq_some_iff.mp h
    refine z_callVi [] [] C dX1_askSize_75 (by decide) zen_15 rfl zk_X1_60 zw1004 zw1005 ⟨⟨by decide, by decide⟩, rfl, Nat.le_of_ble_eq_true rfl⟩ rfl (sX1_body10  h8) ?_
    have e := Option.some.inj h; subst e; exact z_iret C dX1_askSize_78 Rq
  · refine z_iconst (v := 0) C dX1_askSize_6 zc0 ?_
    have e := Option.some.inj h; subst e; exact z_iret C dX1_askSize_7 Rq
-- X1_body23_1
def fX1_body23_1  (a1 : Int32) (mem : ZM) : Option (Int32 × ZM) :=
  Option.bind (fX1_leaveTrace (23 : Int32) mem) (fun r1 => Option.bind (fX1_body20 r1) (fun r2 => zlet r2.1 (fun v3 => Option.bind (fX1_askSize_0 a1 r2.2) (fun r4 => some ((v3 - r4.1), r4.2)))))
set_option maxRecDepth 100000 in
set_option maxHeartbeats 4000000 in
theorem sX1_body23_1 {l : Launch} {E : ZE}  {a1 : Int32} {mem : ZM} {t : Int32 × ZM} (h : fX1_body23_1 a1 mem = some t) : zMet l E yX1_body23 cX1_body23 3 (some .int) 5 [.ref (E.2.1 15), .int a1] mem (some (.int t.1)) t.2 := by
  refine z_enter (by decide) (Nat.le_of_ble_eq_true rfl) (fun Γ C Rq => ?_)
  have C : zC E Γ RX1 cX1_body23 3 5 := C
  show zG l E Γ 3 0 [(0, .ref (E.2.1 15)), (1, .int a1)] [] mem
  unfold fX1_body23_1 at h
  refine z_aload_n C dX1_body23_0 rfl (j := 0) rfl ?_
  refine z_bipush (v := 23) C dX1_body23_1 zb23 ?_
  obtain ⟨r1, h1, h⟩ := Option.bind_eq_some_iff.mp h
  refine z_callVv [.int (23 : Int32)] [] C dX1_body23_3 (by decide) zen_15 rfl zk_X1_78 zw1000 zw1001 ⟨⟨by decide, by decide⟩, rfl, Nat.le_of_ble_eq_true rfl⟩ rfl (sX1_leaveTrace  h1) ?_
  refine z_aload_n C dX1_body23_6 rfl (j := 0) rfl ?_
  obtain ⟨r2, h2, h⟩ := Option.bind_eq_some_iff.mp h
  refine z_callVi [] [] C dX1_body23_7 (by decide) zen_15 rfl zk_X1_75 zw1017 zw1018 ⟨⟨by decide, by decide⟩, rfl, Nat.le_of_ble_eq_true rfl⟩ rfl (sX1_body20  h2) ?_
  refine z_istore_n [(0, .ref (E.2.1 15)), (1, .int a1)] C dX1_body23_10 h rfl (by decide) rfl (fun v3 h => ?_)
  refine z_iload_n C dX1_body23_11 rfl (j := 0) rfl ?_
  refine z_aload_n C dX1_body23_12 rfl (j := 1) rfl ?_
  refine z_iload_n C dX1_body23_13 rfl (j := 2) rfl ?_
  obtain ⟨r4, h4, h⟩ := Option.bind_eq_some_iff.mp h
  refine z_callVi [.int a1] [.int v3] C dX1_body23_14 (by decide) zen_15 rfl zk_X1_40 zw986 zw987 ⟨⟨by decide, by decide⟩, rfl, Nat.le_of_ble_eq_true rfl⟩ rfl (sX1_askSize_0  h4) ?_
  refine z_isub C dX1_body23_17 ?_
  have e := Option.some.inj h; subst e; exact z_iret C dX1_body23_18 Rq
-- X1_body24
def fX1_body24   (mem : ZM) : Option (Int32 × ZM) :=
  Option.bind (fX1_leaveTrace (24 : Int32) mem) (fun r1 => Option.bind (fX1_body21 r1) (fun r2 => some (((2 : Int32) * r2.1), r2.2)))
set_option maxRecDepth 100000 in
set_option maxHeartbeats 4000000 in
theorem sX1_body24 {l : Launch} {E : ZE}   {mem : ZM} {t : Int32 × ZM} (h : fX1_body24 mem = some t) : zMet l E yX1_body24 cX1_body24 1 (some .int) 3 [.ref (E.2.1 15)] mem (some (.int t.1)) t.2 := by
  refine z_enter (by decide) (Nat.le_of_ble_eq_true rfl) (fun Γ C Rq => ?_)
  have C : zC E Γ RX1 cX1_body24 1 3 := C
  show zG l E Γ 1 0 [(0, .ref (E.2.1 15))] [] mem
  unfold fX1_body24 at h
  refine z_aload_n C dX1_body24_0 rfl (j := 0) rfl ?_
  refine z_bipush (v := 24) C dX1_body24_1 zb24 ?_
  obtain ⟨r1, h1, h⟩ := Option.bind_eq_some_iff.mp h
  refine z_callVv [.int (24 : Int32)] [] C dX1_body24_3 (by decide) zen_15 rfl zk_X1_78 zw1000 zw1001 ⟨⟨by decide, by decide⟩, rfl, Nat.le_of_ble_eq_true rfl⟩ rfl (sX1_leaveTrace  h1) ?_
  refine z_iconst (v := 2) C dX1_body24_6 zc2 ?_
  refine z_aload_n C dX1_body24_7 rfl (j := 0) rfl ?_
  obtain ⟨r2, h2, h⟩ := Option.bind_eq_some_iff.mp h
  refine z_callVi [] [.int (2 : Int32)] C dX1_body24_8 (by decide) zen_15 rfl zk_X1_63 zw1013 zw1014 ⟨⟨by decide, by decide⟩, rfl, Nat.le_of_ble_eq_true rfl⟩ rfl (sX1_body21  h2) ?_
  refine z_imul C dX1_body24_11 ?_
  have e := Option.some.inj h; subst e; exact z_iret C dX1_body24_12 Rq
-- X1_askMark_2
def fX1_askMark_2  (a1 : Int32) (mem : ZM) : Option (Int32 × ZM) :=
  if a1 ≤ (16 : Int32) then (if (mem 15 3) = (1 : Int32) then (Option.bind (fX1_body21 mem) (fun r2 => some (r2.1, r2.2))) else if (mem 15 3) = (2 : Int32) then (Option.bind (fX1_body24 mem) (fun r4 => some (r4.1, r4.2))) else if (mem 15 3) = (3 : Int32) then (Option.bind (fX1_body22 mem) (fun r6 => some (r6.1, r6.2))) else if (mem 15 3) = (4 : Int32) then (Option.bind (fX1_body23_1 (a1 + (1 : Int32)) mem) (fun r8 => some (r8.1, r8.2))) else if (mem 15 3) = (5 : Int32) then (Option.bind (fX1_body23_1 (a1 + (1 : Int32)) mem) (fun r10 => some (r10.1, r10.2))) else (Option.bind (fX1_body20 mem) (fun r11 => some (r11.1, r11.2)))) else (some ((0 : Int32), mem))
set_option maxRecDepth 100000 in
set_option maxHeartbeats 4000000 in
theorem sX1_askMark_2 {l : Launch} {E : ZE}  {a1 : Int32} {mem : ZM} {t : Int32 × ZM} (h : fX1_askMark_2 a1 mem = some t) : zMet l E yX1_askMark cX1_askMark 2 (some .int) 6 [.ref (E.2.1 15), .int a1] mem (some (.int t.1)) t.2 := by
  refine z_enter (by decide) (Nat.le_of_ble_eq_true rfl) (fun Γ C Rq => ?_)
  have C : zC E Γ RX1 cX1_askMark 2 6 := C
  show zG l E Γ 2 0 [(0, .ref (E.2.1 15)), (1, .int a1)] [] mem
  unfold fX1_askMark_2 at h
  refine z_iload_n C dX1_askMark_0 rfl (j := 1) rfl ?_
  refine z_bipush (v := 16) C dX1_askMark_1 zb16 ?_
  refine z_icmp_le 8 C dX1_askMark_3 (by decide) h (fun h => ?_) (fun h => ?_)
  · refine z_aload_n C dX1_askMark_8 rfl (j := 0) rfl ?_
    refine zg1_3 C dX1_askMark_9 zw85 ?_
    by_cases c1 : (mem 15 3) = (1 : Int32)
    · rw [if_pos c1] at h
      refine z_swIn (off := 36) 48 C dX1_askMark_12 1 c1 (by decide) (by decide) (by decide) (by decide) ?_
      refine z_aload_n C dX1_askMark_48 rfl (j := 0) rfl ?_
      obtain ⟨r2, h2, h⟩ := Option.bind_eq_some_iff.mp h
      refine z_callVi [] [] C dX1_askMark_49 (by decide) zen_15 rfl zk_X1_63 zw1013 zw1014 ⟨⟨by decide, by decide⟩, rfl, Nat.le_of_ble_eq_true rfl⟩ rfl (sX1_body21  h2) ?_
      have e := Option.some.inj h; subst e; exact z_iret C dX1_askMark_52 Rq
    rw [if_neg c1] at h
    have nc1 : ((mem 15 3)).toInt ≠ 1 := zne c1
    by_cases c3 : (mem 15 3) = (2 : Int32)
    · rw [if_pos c3] at h
      refine z_swIn (off := 54) 66 C dX1_askMark_12 2 c3 (by decide) (by decide) (by decide) (by decide) ?_
      refine z_aload_n C dX1_askMark_66 rfl (j := 0) rfl ?_
      obtain ⟨r4, h4, h⟩ := Option.bind_eq_some_iff.mp h
      refine z_callVi [] [] C dX1_askMark_67 (by decide) zen_15 rfl zk_X1_72 zw1028 zw1029 ⟨⟨by decide, by decide⟩, rfl, Nat.le_of_ble_eq_true rfl⟩ rfl (sX1_body24  h4) ?_
      have e := Option.some.inj h; subst e; exact z_iret C dX1_askMark_70 Rq
    rw [if_neg c3] at h
    have nc3 : ((mem 15 3)).toInt ≠ 2 := zne c3
    by_cases c5 : (mem 15 3) = (3 : Int32)
    · rw [if_pos c5] at h
      refine z_swIn (off := 41) 53 C dX1_askMark_12 3 c5 (by decide) (by decide) (by decide) (by decide) ?_
      refine z_aload_n C dX1_askMark_53 rfl (j := 0) rfl ?_
      obtain ⟨r6, h6, h⟩ := Option.bind_eq_some_iff.mp h
      refine z_callVi [] [] C dX1_askMark_54 (by decide) zen_15 rfl zk_X1_66 zw1021 zw1022 ⟨⟨by decide, by decide⟩, rfl, Nat.le_of_ble_eq_true rfl⟩ rfl (sX1_body22  h6) ?_
      have e := Option.some.inj h; subst e; exact z_iret C dX1_askMark_57 Rq
    rw [if_neg c5] at h
    have nc5 : ((mem 15 3)).toInt ≠ 3 := zne c5
    by_cases c7 : (mem 15 3) = (4 : Int32)
    · rw [if_pos c7] at h
      refine z_swIn (off := 46) 58 C dX1_askMark_12 4 c7 (by decide) (by decide) (by decide) (by decide) ?_
      refine z_aload_n C dX1_askMark_58 rfl (j := 0) rfl ?_
      refine z_iload_n C dX1_askMark_59 rfl (j := 1) rfl ?_
      refine z_iconst (v := 1) C dX1_askMark_60 zc1 ?_
      refine z_iadd C dX1_askMark_61 ?_
      obtain ⟨r8, h8, h⟩ := Option.bind_eq_some_iff.mp h
      refine z_callVi [.int (a1 + (1 : Int32))] [] C dX1_askMark_62 (by decide) zen_15 rfl zk_X1_69 zw1025 zw1026 ⟨⟨by decide, by decide⟩, rfl, Nat.le_of_ble_eq_true rfl⟩ rfl (sX1_body23_1  h8) ?_
      have e := Option.some.inj h; subst e; exact z_iret C dX1_askMark_65 Rq
    rw [if_neg c7] at h
    have nc7 : ((mem 15 3)).toInt ≠ 4 := zne c7
    by_cases c9 : (mem 15 3) = (5 : Int32)
    · rw [if_pos c9] at h
      refine z_swIn (off := 46) 58 C dX1_askMark_12 5 c9 (by decide) (by decide) (by decide) (by decide) ?_
      refine z_aload_n C dX1_askMark_58 rfl (j := 0) rfl ?_
      refine z_iload_n C dX1_askMark_59 rfl (j := 1) rfl ?_
      refine z_iconst (v := 1) C dX1_askMark_60 zc1 ?_
      refine z_iadd C dX1_askMark_61 ?_
      obtain ⟨r10, h10, h⟩ := Option.bind_eq_some_iff.mp h
      refine z_callVi [.int (a1 + (1 : Int32))] [] C dX1_askMark_62 (by decide) zen_15 rfl zk_X1_69 zw1025 zw1026 ⟨⟨by decide, by decide⟩, rfl, Nat.le_of_ble_eq_true rfl⟩ rfl (sX1_body23_1  h10) ?_
      have e := Option.some.inj h; subst e; exact z_iret C dX1_askMark_65 Rq
    rw [if_neg c9] at h
    have nc9 : ((mem 15 3)).toInt ≠ 5 := zne c9
    refine z_swOut 71 C dX1_askMark_12 (by omega) (by decide) ?_
    refine z_aload_n C dX1_askMark_71 rfl (j := 0) rfl ?_
    obtain ⟨r11, h11, h⟩ := Option.bind_eq_some_iff.mp h
    refine z_callVi [] [] C dX1_askMark_72 (by decide) zen_15 rfl zk_X1_75 zw1017 zw1018 ⟨⟨by decide, by decide⟩, rfl, Nat.le_of_ble_eq_true rfl⟩ rfl (sX1_body20  h11) ?_
    have e := Option.some.inj h; subst e; exact z_iret C dX1_askMark_75 Rq
  · refine z_iconst (v := 0) C dX1_askMark_6 zc0 ?_
    have e := Option.some.inj h; subst e; exact z_iret C dX1_askMark_7 Rq
-- X1_body11_3
def fX1_body11_3  (a1 : Int32) (mem : ZM) : Option (Int32 × ZM) :=
  Option.bind (fX1_leaveTrace (11 : Int32) mem) (fun r1 => Option.bind (fX1_body10 r1) (fun r2 => zlet r2.1 (fun v3 => Option.bind (fX1_askMark_2 a1 r2.2) (fun r4 => some ((v3 + r4.1), r4.2)))))
set_option maxRecDepth 100000 in
set_option maxHeartbeats 4000000 in
theorem sX1_body11_3 {l : Launch} {E : ZE}  {a1 : Int32} {mem : ZM} {t : Int32 × ZM} (h : fX1_body11_3 a1 mem = some t) : zMet l E yX1_body11 cX1_body11 3 (some .int) 7 [.ref (E.2.1 15), .int a1] mem (some (.int t.1)) t.2 := by
  refine z_enter (by decide) (Nat.le_of_ble_eq_true rfl) (fun Γ C Rq => ?_)
  have C : zC E Γ RX1 cX1_body11 3 7 := C
  show zG l E Γ 3 0 [(0, .ref (E.2.1 15)), (1, .int a1)] [] mem
  unfold fX1_body11_3 at h
  refine z_aload_n C dX1_body11_0 rfl (j := 0) rfl ?_
  refine z_bipush (v := 11) C dX1_body11_1 zb11 ?_
  obtain ⟨r1, h1, h⟩ := Option.bind_eq_some_iff.mp h
  refine z_callVv [.int (11 : Int32)] [] C dX1_body11_3 (by decide) zen_15 rfl zk_X1_78 zw1000 zw1001 ⟨⟨by decide, by decide⟩, rfl, Nat.le_of_ble_eq_true rfl⟩ rfl (sX1_leaveTrace  h1) ?_
  refine z_aload_n C dX1_body11_6 rfl (j := 0) rfl ?_
  obtain ⟨r2, h2, h⟩ := Option.bind_eq_some_iff.mp h
  refine z_callVi [] [] C dX1_body11_7 (by decide) zen_15 rfl zk_X1_60 zw1004 zw1005 ⟨⟨by decide, by decide⟩, rfl, Nat.le_of_ble_eq_true rfl⟩ rfl (sX1_body10  h2) ?_
  refine z_istore_n [(0, .ref (E.2.1 15)), (1, .int a1)] C dX1_body11_10 h rfl (by decide) rfl (fun v3 h => ?_)
  refine z_iload_n C dX1_body11_11 rfl (j := 0) rfl ?_
  refine z_aload_n C dX1_body11_12 rfl (j := 1) rfl ?_
  refine z_iload_n C dX1_body11_13 rfl (j := 2) rfl ?_
  obtain ⟨r4, h4, h⟩ := Option.bind_eq_some_iff.mp h
  refine z_callVi [.int a1] [.int v3] C dX1_body11_14 (by decide) zen_15 rfl zk_X1_44 zw1033 zw1034 ⟨⟨by decide, by decide⟩, rfl, Nat.le_of_ble_eq_true rfl⟩ rfl (sX1_askMark_2  h4) ?_
  refine z_iadd C dX1_body11_17 ?_
  have e := Option.some.inj h; subst e; exact z_iret C dX1_body11_18 Rq
-- X1_body23_0
def fX1_body23_0  (a1 : Int32) (mem : ZM) : Option (Int32 × ZM) :=
  Option.bind (fX1_leaveTrace (23 : Int32) mem) (fun r1 => Option.bind (fX1_body20 r1) (fun r2 => zlet r2.1 (fun v3 => none)))
set_option maxRecDepth 100000 in
set_option maxHeartbeats 4000000 in
theorem sX1_body23_0 {l : Launch} {E : ZE}  {a1 : Int32} {mem : ZM} {t : Int32 × ZM} (h : fX1_body23_0 a1 mem = some t) : zMet l E yX1_body23 cX1_body23 3 (some .int) 2 [.ref (E.2.1 15), .int a1] mem (some (.int t.1)) t.2 := by
  refine z_enter (by decide) (Nat.le_of_ble_eq_true rfl) (fun Γ C Rq => ?_)
  have C : zC E Γ RX1 cX1_body23 3 2 := C
  show zG l E Γ 3 0 [(0, .ref (E.2.1 15)), (1, .int a1)] [] mem
  unfold fX1_body23_0 at h
  refine z_aload_n C dX1_body23_0 rfl (j := 0) rfl ?_
  refine z_bipush (v := 23) C dX1_body23_1 zb23 ?_
  obtain ⟨r1, h1, h⟩ := Option.bind_eq_some_iff.mp h
  refine z_callVv [.int (23 : Int32)] [] C dX1_body23_3 (by decide) zen_15 rfl zk_X1_78 zw1000 zw1001 ⟨⟨by decide, by decide⟩, rfl, Nat.le_of_ble_eq_true rfl⟩ rfl (sX1_leaveTrace  h1) ?_
  refine z_aload_n C dX1_body23_6 rfl (j := 0) rfl ?_
  obtain ⟨r2, h2, h⟩ := Option.bind_eq_some_iff.mp h
  refine z_callVi [] [] C dX1_body23_7 (by decide) zen_15 rfl zk_X1_75 zw1017 zw1018 ⟨⟨by decide, by decide⟩, rfl, Nat.le_of_ble_eq_true rfl⟩ rfl (sX1_body20  h2) ?_
  refine z_istore_n [(0, .ref (E.2.1 15)), (1, .int a1)] C dX1_body23_10 h rfl (by decide) rfl (fun v3 h => ?_)
  refine z_iload_n C dX1_body23_11 rfl (j := 0) rfl ?_
  refine z_aload_n C dX1_body23_12 rfl (j := 1) rfl ?_
  refine z_iload_n C dX1_body23_13 rfl (j := 2) rfl ?_
  cases h
-- X1_askMark_1
def fX1_askMark_1  (a1 : Int32) (mem : ZM) : Option (Int32 × ZM) :=
  if a1 ≤ (16 : Int32) then (if (mem 15 3) = (1 : Int32) then (Option.bind (fX1_body21 mem) (fun r2 => some (r2.1, r2.2))) else if (mem 15 3) = (2 : Int32) then (Option.bind (fX1_body24 mem) (fun r4 => some (r4.1, r4.2))) else if (mem 15 3) = (3 : Int32) then (Option.bind (fX1_body22 mem) (fun r6 => some (r6.1, r6.2))) else if (mem 15 3) = (4 : Int32) then (Option.bind (fX1_body23_0 (a1 + (1 : Int32)) mem) (fun r8 => some (r8.1, r8.2))) else if (mem 15 3) = (5 : Int32) then (Option.bind (fX1_body23_0 (a1 + (1 : Int32)) mem) (fun r10 => some (r10.1, r10.2))) else (Option.bind (fX1_body20 mem) (fun r11 => some (r11.1, r11.2)))) else (some ((0 : Int32), mem))
set_option maxRecDepth 100000 in
set_option maxHeartbeats 4000000 in
theorem sX1_askMark_1 {l : Launch} {E : ZE}  {a1 : Int32} {mem : ZM} {t : Int32 × ZM} (h : fX1_askMark_1 a1 mem = some t) : zMet l E yX1_askMark cX1_askMark 2 (some .int) 4 [.ref (E.2.1 15), .int a1] mem (some (.int t.1)) t.2 := by
  refine z_enter (by decide) (Nat.le_of_ble_eq_true rfl) (fun Γ C Rq => ?_)
  have C : zC E Γ RX1 cX1_askMark 2 4 := C
  show zG l E Γ 2 0 [(0, .ref (E.2.1 15)), (1, .int a1)] [] mem
  unfold fX1_askMark_1 at h
  refine z_iload_n C dX1_askMark_0 rfl (j := 1) rfl ?_
  refine z_bipush (v := 16) C dX1_askMark_1 zb16 ?_
  refine z_icmp_le 8 C dX1_askMark_3 (by decide) h (fun h => ?_) (fun h => ?_)
  · refine z_aload_n C dX1_askMark_8 rfl (j := 0) rfl ?_
    refine zg1_3 C dX1_askMark_9 zw85 ?_
    by_cases c1 : (mem 15 3) = (1 : Int32)
    · rw [if_pos c1] at h
      refine z_swIn (off := 36) 48 C dX1_askMark_12 1 c1 (by decide) (by decide) (by decide) (by decide) ?_
      refine z_aload_n C dX1_askMark_48 rfl (j := 0) rfl ?_
      obtain ⟨r2, h2, h⟩ := Option.bind_eq_some_iff.mp h
      refine z_callVi [] [] C dX1_askMark_49 (by decide) zen_15 rfl zk_X1_63 zw1013 zw1014 ⟨⟨by decide, by decide⟩, rfl, Nat.le_of_ble_eq_true rfl⟩ rfl (sX1_body21  h2) ?_
      have e := Option.some.inj h; subst e; exact z_iret C dX1_askMark_52 Rq
    rw [if_neg c1] at h
    have nc1 : ((mem 15 3)).toInt ≠ 1 := zne c1
    by_cases c3 : (mem 15 3) = (2 : Int32)
    · rw [if_pos c3] at h
      refine z_swIn (off := 54) 66 C dX1_askMark_12 2 c3 (by decide) (by decide) (by decide) (by decide) ?_
      refine z_aload_n C dX1_askMark_66 rfl (j := 0) rfl ?_
      obtain ⟨r4, h4, h⟩ := Option.bind_eq_some_iff.mp h
      refine z_callVi [] [] C dX1_askMark_67 (by decide) zen_15 rfl zk_X1_72 zw1028 zw1029 ⟨⟨by decide, by decide⟩, rfl, Nat.le_of_ble_eq_true rfl⟩ rfl (sX1_body24  h4) ?_
      have e := Option.some.inj h; subst e; exact z_iret C dX1_askMark_70 Rq
    rw [if_neg c3] at h
    have nc3 : ((mem 15 3)).toInt ≠ 2 := zne c3
    by_cases c5 : (mem 15 3) = (3 : Int32)
    · rw [if_pos c5] at h
      refine z_swIn (off := 41) 53 C dX1_askMark_12 3 c5 (by decide) (by decide) (by decide) (by decide) ?_
      refine z_aload_n C dX1_askMark_53 rfl (j := 0) rfl ?_
      obtain ⟨r6, h6, h⟩ := Option.bind_eq_some_iff.mp h
      refine z_callVi [] [] C dX1_askMark_54 (by decide) zen_15 rfl zk_X1_66 zw1021 zw1022 ⟨⟨by decide, by decide⟩, rfl, Nat.le_of_ble_eq_true rfl⟩ rfl (sX1_body22  h6) ?_
      have e := Option.some.inj h; subst e; exact z_iret C dX1_askMark_57 Rq
    rw [if_neg c5] at h
    have nc5 : ((mem 15 3)).toInt ≠ 3 := zne c5
    by_cases c7 : (mem 15 3) = (4 : Int32)
    · rw [if_pos c7] at h
      refine z_swIn (off := 46) 58 C dX1_askMark_12 4 c7 (by decide) (by decide) (by decide) (by decide) ?_
      refine z_aload_n C dX1_askMark_58 rfl (j := 0) rfl ?_
      refine z_iload_n C dX1_askMark_59 rfl (j := 1) rfl ?_
      refine z_iconst (v := 1) C dX1_askMark_60 zc1 ?_
      refine z_iadd C dX1_askMark_61 ?_
      obtain ⟨r8, h8, h⟩ := Option.bind_eq_some_iff.mp h
      refine z_callVi [.int (a1 + (1 : Int32))] [] C dX1_askMark_62 (by decide) zen_15 rfl zk_X1_69 zw1025 zw1026 ⟨⟨by decide, by decide⟩, rfl, Nat.le_of_ble_eq_true rfl⟩ rfl (sX1_body23_0  h8) ?_
      have e := Option.some.inj h; subst e; exact z_iret C dX1_askMark_65 Rq
    rw [if_neg c7] at h
    have nc7 : ((mem 15 3)).toInt ≠ 4 := zne c7
    by_cases c9 : (mem 15 3) = (5 : Int32)
    · rw [if_pos c9] at h
      refine z_swIn (off := 46) 58 C dX1_askMark_12 5 c9 (by decide) (by decide) (by decide) (by decide) ?_
      refine z_aload_n C dX1_askMark_58 rfl (j := 0) rfl ?_
      refine z_iload_n C dX1_askMark_59 rfl (j := 1) rfl ?_
      refine z_iconst (v := 1) C dX1_askMark_60 zc1 ?_
      refine z_iadd C dX1_askMark_61 ?_
      obtain ⟨r10, h10, h⟩ := Option.bind_eq_some_iff.mp h
      refine z_callVi [.int (a1 + (1 : Int32))] [] C dX1_askMark_62 (by decide) zen_15 rfl zk_X1_69 zw1025 zw1026 ⟨⟨by decide, by decide⟩, rfl, Nat.le_of_ble_eq_true rfl⟩ rfl (sX1_body23_0  h10) ?_
      have e := Option.some.inj h; subst e; exact z_iret C dX1_askMark_65 Rq
    rw [if_neg c9] at h
    have nc9 : ((mem 15 3)).toInt ≠ 5 := zne c9
    refine z_swOut 71 C dX1_askMark_12 (by omega) (by decide) ?_
    refine z_aload_n C dX1_askMark_71 rfl (j := 0) rfl ?_
    obtain ⟨r11, h11, h⟩ := Option.bind_eq_some_iff.mp h
    refine z_callVi [] [] C dX1_askMark_72 (by decide) zen_15 rfl zk_X1_75 zw1017 zw1018 ⟨⟨by decide, by decide⟩, rfl, Nat.le_of_ble_eq_true rfl⟩ rfl (sX1_body20  h11) ?_
    have e := Option.some.inj h; subst e; exact z_iret C dX1_askMark_75 Rq
  · refine z_iconst (v := 0) C dX1_askMark_6 zc0 ?_
    have e := Option.some.inj h; subst e; exact z_iret C dX1_askMark_7 Rq
-- X1_body11_2
def fX1_body11_2  (a1 : Int32) (mem : ZM) : Option (Int32 × ZM) :=
  Option.bind (fX1_leaveTrace (11 : Int32) mem) (fun r1 => Option.bind (fX1_body10 r1) (fun r2 => zlet r2.1 (fun v3 => Option.bind (fX1_askMark_1 a1 r2.2) (fun r4 => some ((v3 + r4.1), r4.2)))))
set_option maxRecDepth 100000 in
set_option maxHeartbeats 4000000 in
theorem sX1_body11_2 {l : Launch} {E : ZE}  {a1 : Int32} {mem : ZM} {t : Int32 × ZM} (h : fX1_body11_2 a1 mem = some t) : zMet l E yX1_body11 cX1_body11 3 (some .int) 5 [.ref (E.2.1 15), .int a1] mem (some (.int t.1)) t.2 := by
  refine z_enter (by decide) (Nat.le_of_ble_eq_true rfl) (fun Γ C Rq => ?_)
  have C : zC E Γ RX1 cX1_body11 3 5 := C
  show zG l E Γ 3 0 [(0, .ref (E.2.1 15)), (1, .int a1)] [] mem
  unfold fX1_body11_2 at h
  refine z_aload_n C dX1_body11_0 rfl (j := 0) rfl ?_
  refine z_bipush (v := 11) C dX1_body11_1 zb11 ?_
  obtain ⟨r1, h1, h⟩ := Option.bind_eq_some_iff.mp h
  refine z_callVv [.int (11 : Int32)] [] C dX1_body11_3 (by decide) zen_15 rfl zk_X1_78 zw1000 zw1001 ⟨⟨by decide, by decide⟩, rfl, Nat.le_of_ble_eq_true rfl⟩ rfl (sX1_leaveTrace  h1) ?_
  refine z_aload_n C dX1_body11_6 rfl (j := 0) rfl ?_
  obtain ⟨r2, h2, h⟩ := Option.bind_eq_some_iff.mp h
  refine z_callVi [] [] C dX1_body11_7 (by decide) zen_15 rfl zk_X1_60 zw1004 zw1005 ⟨⟨by decide, by decide⟩, rfl, Nat.le_of_ble_eq_true rfl⟩ rfl (sX1_body10  h2) ?_
  refine z_istore_n [(0, .ref (E.2.1 15)), (1, .int a1)] C dX1_body11_10 h rfl (by decide) rfl (fun v3 h => ?_)
  refine z_iload_n C dX1_body11_11 rfl (j := 0) rfl ?_
  refine z_aload_n C dX1_body11_12 rfl (j := 1) rfl ?_
  refine z_iload_n C dX1_body11_13 rfl (j := 2) rfl ?_
  obtain ⟨r4, h4, h⟩ := Option.bind_eq_some_iff.mp h
  refine z_callVi [.int a1] [.int v3] C dX1_body11_14 (by decide) zen_15 rfl zk_X1_44 zw1033 zw1034 ⟨⟨by decide, by decide⟩, rfl, Nat.le_of_ble_eq_true rfl⟩ rfl (sX1_askMark_1  h4) ?_
  refine z_iadd C dX1_body11_17 ?_
  have e := Option.some.inj h; subst e; exact z_iret C dX1_body11_18 Rq
-- X1_body12_3
def fX1_body12_3  (a1 : Int32) (mem : ZM) : Option (Int32 × ZM) :=
  Option.bind (fX1_leaveTrace (12 : Int32) mem) (fun r1 => Option.bind (fX1_body11_2 a1 r1) (fun r2 => some ((-r2.1), r2.2)))
set_option maxRecDepth 100000 in
set_option maxHeartbeats 4000000 in
theorem sX1_body12_3 {l : Launch} {E : ZE}  {a1 : Int32} {mem : ZM} {t : Int32 × ZM} (h : fX1_body12_3 a1 mem = some t) : zMet l E yX1_body12 cX1_body12 2 (some .int) 6 [.ref (E.2.1 15), .int a1] mem (some (.int t.1)) t.2 := by
  refine z_enter (by decide) (Nat.le_of_ble_eq_true rfl) (fun Γ C Rq => ?_)
  have C : zC E Γ RX1 cX1_body12 2 6 := C
  show zG l E Γ 2 0 [(0, .ref (E.2.1 15)), (1, .int a1)] [] mem
  unfold fX1_body12_3 at h
  refine z_aload_n C dX1_body12_0 rfl (j := 0) rfl ?_
  refine z_bipush (v := 12) C dX1_body12_1 zb12 ?_
  obtain ⟨r1, h1, h⟩ := Option.bind_eq_some_iff.mp h
  refine z_callVv [.int (12 : Int32)] [] C dX1_body12_3 (by decide) zen_15 rfl zk_X1_78 zw1000 zw1001 ⟨⟨by decide, by decide⟩, rfl, Nat.le_of_ble_eq_true rfl⟩ rfl (sX1_leaveTrace  h1) ?_
  refine z_aload_n C dX1_body12_6 rfl (j := 0) rfl ?_
  refine z_iload_n C dX1_body12_7 rfl (j := 1) rfl ?_
  obtain ⟨r2, h2, h⟩ := Option.bind_eq_some_iff.mp h
  refine z_callVi [.int a1] [] C dX1_body12_8 (by decide) zen_15 rfl zk_X1_47 zw990 zw991 ⟨⟨by decide, by decide⟩, rfl, Nat.le_of_ble_eq_true rfl⟩ rfl (sX1_body11_2  h2) ?_
  refine z_ineg C dX1_body12_11 ?_
  have e := Option.some.inj h; subst e; exact z_iret C dX1_body12_12 Rq
-- X1_askSize_4
def fX1_askSize_4  (a1 : Int32) (mem : ZM) : Option (Int32 × ZM) :=
  if a1 ≤ (16 : Int32) then (if (mem 15 3) = (1 : Int32) then (Option.bind (fX1_body11_3 (a1 + (1 : Int32)) mem) (fun r2 => some (r2.1, r2.2))) else if (mem 15 3) = (2 : Int32) then (Option.bind (fX1_body12_3 (a1 + (1 : Int32)) mem) (fun r4 => some (r4.1, r4.2))) else if (mem 15 3) = (3 : Int32) then (Option.bind (fX1_body11_3 (a1 + (1 : Int32)) mem) (fun r6 => some (r6.1, r6.2))) else if (mem 15 3) = (4 : Int32) then (Option.bind (fX1_body13 mem) (fun r8 => some (r8.1, r8.2))) else if (mem 15 3) = (5 : Int32) then (Option.bind (fX1_body14 mem) (fun r10 => some (r10.1, r10.2))) else (Option.bind (fX1_body10 mem) (fun r11 => some (r11.1, r11.2)))) else (some ((0 : Int32), mem))
set_option maxRecDepth 100000 in
set_option maxHeartbeats 4000000 in
theorem sX1_askSize_4 {l : Launch} {E : ZE}  {a1 : Int32} {mem : ZM} {t : Int32 × ZM} (h : fX1_askSize_4 a1 mem = some t) : zMet l E yX1_askSize cX1_askSize 2 (some .int) 8 [.ref (E.2.1 15), .int a1] mem (some (.int t.1)) t.2 := by
  refine z_enter (by decide) (Nat.le_of_ble_eq_true rfl) (fun Γ C Rq => ?_)
  have C : zC E Γ RX1 cX1_askSize 2 8 := C
  show zG l E Γ 2 0 [(0, .ref (E.2.1 15)), (1, .int a1)] [] mem
  unfold fX1_askSize_4 at h
  refine z_iload_n C dX1_askSize_0 rfl (j := 1) rfl ?_
  refine z_bipush (v := 16) C dX1_askSize_1 zb16 ?_
  refine z_icmp_le 8 C dX1_askSize_3 (by decide) h (fun h => ?_) (fun h => ?_)
  · refine z_aload_n C dX1_askSize_8 rfl (j := 0) rfl ?_
    refine zg1_3 C dX1_askSize_9 zw85 ?_
    by_cases c1 : (mem 15 3) = (1 : Int32)
    · rw [if_pos c1] at h
      refine z_swIn (off := 36) 48 C dX1_askSize_12 1 c1 (by decide) (by decide) (by decide) (by decide) ?_
      refine z_aload_n C dX1_askSize_48 rfl (j := 0) rfl ?_
      refine z_iload_n C dX1_askSize_49 rfl (j := 1) rfl ?_
      refine z_iconst (v := 1) C dX1_askSize_50 zc1 ?_
      refine z_iadd C dX1_askSize_51 ?_
      obtain ⟨r2, h2, h⟩ := Option.bind_eq_some_iff.mp h
      refine z_callVi [.int (a1 + (1 : Int32))] [] C dX1_askSize_52 (by decide) zen_15 rfl zk_X1_47 zw990 zw991 ⟨⟨by decide, by decide⟩, rfl, Nat.le_of_ble_eq_true rfl⟩ rfl (sX1_body11_3  h2) ?_
      have e := Option.some.inj h; subst e; exact z_iret C dX1_askSize_55 Rq
    rw [if_neg c1] at h
    have nc1 : ((mem 15 3)).toInt ≠ 1 := zne c1
    by_cases c3 : (mem 15 3) = (2 : Int32)
    · rw [if_pos c3] at h
      refine z_swIn (off := 44) 56 C dX1_askSize_12 2 c3 (by decide) (by decide) (by decide) (by decide) ?_
      refine z_aload_n C dX1_askSize_56 rfl (j := 0) rfl ?_
      refine z_iload_n C dX1_askSize_57 rfl (j := 1) rfl ?_
      refine z_iconst (v := 1) C dX1_askSize_58 zc1 ?_
      refine z_iadd C dX1_askSize_59 ?_
      obtain ⟨r4, h4, h⟩ := Option.bind_eq_some_iff.mp h
      refine z_callVi [.int (a1 + (1 : Int32))] [] C dX1_askSize_60 (by decide) zen_15 rfl zk_X1_50 zw993 zw994 ⟨⟨by decide, by decide⟩, rfl, Nat.le_of_ble_eq_true rfl⟩ rfl (sX1_body12_3  h4) ?_
      have e := Option.some.inj h; subst e; exact z_iret C dX1_askSize_63 Rq
    rw [if_neg c3] at h
    have nc3 : ((mem 15 3)).toInt ≠ 2 := zne c3
    by_cases c5 : (mem 15 3) = (3 : Int32)
    · rw [if_pos c5] at h
      refine z_swIn (off := 36) 48 C dX1_askSize_12 3 c5 (by decide) (by decide) (by decide) (by decide) ?_
      refine z_aload_n C dX1_askSize_48 rfl (j := 0) rfl ?_
      refine z_iload_n C dX1_askSize_49 rfl (j := 1) rfl ?_
      refine z_iconst (v := 1) C dX1_askSize_50 zc1 ?_
      refine z_iadd C dX1_askSize_51 ?_
      obtain ⟨r6, h6, h⟩ := Option.bind_eq_some_iff.mp h
      refine z_callVi [.int (a1 + (1 : Int32))] [] C dX1_askSize_52 (by decide) zen_15 rfl zk_X1_47 zw990 zw991 ⟨⟨by decide, by decide⟩, rfl, Nat.le_of_ble_eq_true rfl⟩ rfl (sX1_body11_3  h6) ?_
      have e := Option.some.inj h; subst e; exact z_iret C dX1_askSize_55 Rq
    rw [if_neg c5] at h
    have nc5 : ((mem 15 3)).toInt ≠ 3 := zne c5
    by_cases c7 : (mem 15 3) = (4 : Int32)
    · rw [if_pos c7] at h
      refine z_swIn (off := 52) 64 C dX1_askSize_12 4 c7 (by decide) (by decide) (by decide) (by decide) ?_
      refine z_aload_n C dX1_askSize_64 rfl (j := 0) rfl ?_
      obtain ⟨r8, h8, h⟩ := Option.bind_eq_some_iff.mp h
      refine z_callVi [] [] C dX1_askSize_65 (by decide) zen_15 rfl zk_X1_53 zw996 zw997 ⟨⟨by decide, by decide⟩, rfl, Nat.le_of_ble_eq_true rfl⟩ rfl (sX1_body13  h8) ?_
      have e := Option.some.inj h; subst e; exact z_iret C dX1_askSize_68 Rq
    rw [if_neg c7] at h
    have nc7 : ((mem 15 3)).toInt ≠ 4 := zne c7
    by_cases c9 : (mem 15 3) = (5 : Int32)
    · rw [if_pos c9] at h
      refine z_swIn (off := 57) 69 C dX1_askSize_12 5 c9 (by decide) (by decide) (by decide) (by decide) ?_
      refine z_aload_n C dX1_askSize_69 rfl (j := 0) rfl ?_
      obtain ⟨r10, h10, h⟩ := Option.bind_eq_some_iff.mp h
      refine z_callVi [] [] C dX1_askSize_70 (by decide) zen_15 rfl zk_X1_57 zw1008 zw1009 ⟨⟨by decide, by decide⟩, rfl, Nat.le_of_ble_eq_true rfl⟩ rfl (sX1_body14  h10) ?_
      have e := Option.some.inj h; subst e; exact z_iret C dX1_askSize_73 Rq
    rw [if_neg c9] at h
    have nc9 : ((mem 15 3)).toInt ≠ 5 := zne c9
    refine z_swOut 74 C dX1_askSize_12 (by omega) (by decide) ?_
    refine z_aload_n C dX1_askSize_74 rfl (j := 0) rfl ?_
    obtain ⟨r11, h11, h⟩ := Option.bind_eq_some_iff.mp h
    refine z_callVi [] [] C dX1_askSize_75 (by decide) zen_15 rfl zk_X1_60 zw1004 zw1005 ⟨⟨by decide, by decide⟩, rfl, Nat.le_of_ble_eq_true rfl⟩ rfl (sX1_body10  h11) ?_
    have e := Option.some.inj h; subst e; exact z_iret C dX1_askSize_78 Rq
  · refine z_iconst (v := 0) C dX1_askSize_6 zc0 ?_
    have e := Option.some.inj h; subst e; exact z_iret C dX1_askSize_7 Rq
-- X1_askMark_0
def fX1_askMark_0  (a1 : Int32) (mem : ZM) : Option (Int32 × ZM) :=
  if a1 ≤ (16 : Int32) then (if (mem 15 3) = (1 : Int32) then (Option.bind (fX1_body21 mem) (fun r2 => some (r2.1, r2.2))) else if (mem 15 3) = (2 : Int32) then (Option.bind (fX1_body24 mem) (fun r4 => some (r4.1, r4.2))) else if (mem 15 3) = (3 : Int32) then (Option.bind (fX1_body22 mem) (fun r6 => some (r6.1, r6.2))) else if (mem 15 3) = (4 : Int32) then (none) else if (mem 15 3) = (5 : Int32) then (none) else (Option.bind (fX1_body20 mem) (fun r9 => some (r9.1, r9.2)))) else (some ((0 : Int32), mem))
set_option maxRecDepth 100000 in
set_option maxHeartbeats 4000000 in
theorem sX1_askMark_0 {l : Launch} {E : ZE}  {a1 : Int32} {mem : ZM} {t : Int32 × ZM} (h : fX1_askMark_0 a1 mem = some t) : zMet l E yX1_askMark cX1_askMark 2 (some .int) 4 [.ref (E.2.1 15), .int a1] mem (some (.int t.1)) t.2 := by
  refine z_enter (by decide) (Nat.le_of_ble_eq_true rfl) (fun Γ C Rq => ?_)
  have C : zC E Γ RX1 cX1_askMark 2 4 := C
  show zG l E Γ 2 0 [(0, .ref (E.2.1 15)), (1, .int a1)] [] mem
  unfold fX1_askMark_0 at h
  refine z_iload_n C dX1_askMark_0 rfl (j := 1) rfl ?_
  refine z_bipush (v := 16) C dX1_askMark_1 zb16 ?_
  refine z_icmp_le 8 C dX1_askMark_3 (by decide) h (fun h => ?_) (fun h => ?_)
  · refine z_aload_n C dX1_askMark_8 rfl (j := 0) rfl ?_
    refine zg1_3 C dX1_askMark_9 zw85 ?_
    by_cases c1 : (mem 15 3) = (1 : Int32)
    · rw [if_pos c1] at h
      refine z_swIn (off := 36) 48 C dX1_askMark_12 1 c1 (by decide) (by decide) (by decide) (by decide) ?_
      refine z_aload_n C dX1_askMark_48 rfl (j := 0) rfl ?_
      obtain ⟨r2, h2, h⟩ := Option.bind_eq_some_iff.mp h
      refine z_callVi [] [] C dX1_askMark_49 (by decide) zen_15 rfl zk_X1_63 zw1013 zw1014 ⟨⟨by decide, by decide⟩, rfl, Nat.le_of_ble_eq_true rfl⟩ rfl (sX1_body21  h2) ?_
      have e := Option.some.inj h; subst e; exact z_iret C dX1_askMark_52 Rq
    rw [if_neg c1] at h
    have nc1 : ((mem 15 3)).toInt ≠ 1 := zne c1
    by_cases c3 : (mem 15 3) = (2 : Int32)
    · rw [if_pos c3] at h
      refine z_swIn (off := 54) 66 C dX1_askMark_12 2 c3 (by decide) (by decide) (by decide) (by decide) ?_
      refine z_aload_n C dX1_askMark_66 rfl (j := 0) rfl ?_
      obtain ⟨r4, h4, h⟩ := Option.bind_eq_some_iff.mp h
      refine z_callVi [] [] C dX1_askMark_67 (by decide) zen_15 rfl zk_X1_72 zw1028 zw1029 ⟨⟨by decide, by decide⟩, rfl, Nat.le_of_ble_eq_true rfl⟩ rfl (sX1_body24  h4) ?_
      have e := Option.some.inj h; subst e; exact z_iret C dX1_askMark_70 Rq
    rw [if_neg c3] at h
    have nc3 : ((mem 15 3)).toInt ≠ 2 := zne c3
    by_cases c5 : (mem 15 3) = (3 : Int32)
    · rw [if_pos c5] at h
      refine z_swIn (off := 41) 53 C dX1_askMark_12 3 c5 (by decide) (by decide) (by decide) (by decide) ?_
      refine z_aload_n C dX1_askMark_53 rfl (j := 0) rfl ?_
      obtain ⟨r6, h6, h⟩ := Option.bind_eq_some_iff.mp h
      refine z_callVi [] [] C dX1_askMark_54 (by decide) zen_15 rfl zk_X1_66 zw1021 zw1022 ⟨⟨by decide, by decide⟩, rfl, Nat.le_of_ble_eq_true rfl⟩ rfl (sX1_body22  h6) ?_
      have e := Option.some.inj h; subst e; exact z_iret C dX1_askMark_57 Rq
    rw [if_neg c5] at h
    have nc5 : ((mem 15 3)).toInt ≠ 3 := zne c5
    by_cases c7 : (mem 15 3) = (4 : Int32)
    · rw [if_pos c7] at h
      refine z_swIn (off := 46) 58 C dX1_askMark_12 4 c7 (by decide) (by decide) (by decide) (by decide) ?_
      refine z_aload_n C dX1_askMark_58 rfl (j := 0) rfl ?_
      refine z_iload_n C dX1_askMark_59 rfl (j := 1) rfl ?_
      refine z_iconst (v := 1) C dX1_askMark_60 zc1 ?_
      refine z_iadd C dX1_askMark_61 ?_
      cases h
    rw [if_neg c7] at h
    have nc7 : ((mem 15 3)).toInt ≠ 4 := zne c7
    by_cases c8 : (mem 15 3) = (5 : Int32)
    · rw [if_pos c8] at h
      refine z_swIn (off := 46) 58 C dX1_askMark_12 5 c8 (by decide) (by decide) (by decide) (by decide) ?_
      refine z_aload_n C dX1_askMark_58 rfl (j := 0) rfl ?_
      refine z_iload_n C dX1_askMark_59 rfl (j := 1) rfl ?_
      refine z_iconst (v := 1) C dX1_askMark_60 zc1 ?_
      refine z_iadd C dX1_askMark_61 ?_
      cases h
    rw [if_neg c8] at h
    have nc8 : ((mem 15 3)).toInt ≠ 5 := zne c8
    refine z_swOut 71 C dX1_askMark_12 (by omega) (by decide) ?_
    refine z_aload_n C dX1_askMark_71 rfl (j := 0) rfl ?_
    obtain ⟨r9, h9, h⟩ := Option.bind_eq_some_iff.mp h
    refine z_callVi [] [] C dX1_askMark_72 (by decide) zen_15 rfl zk_X1_75 zw1017 zw1018 ⟨⟨by decide, by decide⟩, rfl, Nat.le_of_ble_eq_true rfl⟩ rfl (sX1_body20  h9) ?_
    have e := Option.some.inj h; subst e; exact z_iret C dX1_askMark_75 Rq
  · refine z_iconst (v := 0) C dX1_askMark_6 zc0 ?_
    have e := Option.some.inj h; subst e; exact z_iret C dX1_askMark_7 Rq
-- X1_body11_1
def fX1_body11_1  (a1 : Int32) (mem : ZM) : Option (Int32 × ZM) :=
  Option.bind (fX1_leaveTrace (11 : Int32) mem) (fun r1 => Option.bind (fX1_body10 r1) (fun r2 => zlet r2.1 (fun v3 => Option.bind (fX1_askMark_0 a1 r2.2) (fun r4 => some ((v3 + r4.1), r4.2)))))
set_option maxRecDepth 100000 in
set_option maxHeartbeats 4000000 in
theorem sX1_body11_1 {l : Launch} {E : ZE}  {a1 : Int32} {mem : ZM} {t : Int32 × ZM} (h : fX1_body11_1 a1 mem = some t) : zMet l E yX1_body11 cX1_body11 3 (some .int) 5 [.ref (E.2.1 15), .int a1] mem (some (.int t.1)) t.2 := by
  refine z_enter (by decide) (Nat.le_of_ble_eq_true rfl) (fun Γ C Rq => ?_)
  have C : zC E Γ RX1 cX1_body11 3 5 := C
  show zG l E Γ 3 0 [(0, .ref (E.2.1 15)), (1, .int a1)] [] mem
  unfold fX1_body11_1 at h
  refine z_aload_n C dX1_body11_0 rfl (j := 0) rfl ?_
  refine z_bipush (v := 11) C dX1_body11_1 zb11 ?_
  obtain ⟨r1, h1, h⟩ := Option.bind_eq_some_iff.mp h
  refine z_callVv [.int (11 : Int32)] [] C dX1_body11_3 (by decide) zen_15 rfl zk_X1_78 zw1000 zw1001 ⟨⟨by decide, by decide⟩, rfl, Nat.le_of_ble_eq_true rfl⟩ rfl (sX1_leaveTrace  h1) ?_
  refine z_aload_n C dX1_body11_6 rfl (j := 0) rfl ?_
  obtain ⟨r2, h2, h⟩ := Option.bind_eq_some_iff.mp h
  refine z_callVi [] [] C dX1_body11_7 (by decide) zen_15 rfl zk_X1_60 zw1004 zw1005 ⟨⟨by decide, by decide⟩, rfl, Nat.le_of_ble_eq_true rfl⟩ rfl (sX1_body10  h2) ?_
  refine z_istore_n [(0, .ref (E.2.1 15)), (1, .int a1)] C dX1_body11_10 h rfl (by decide) rfl (fun v3 h => ?_)
  refine z_iload_n C dX1_body11_11 rfl (j := 0) rfl ?_
  refine z_aload_n C dX1_body11_12 rfl (j := 1) rfl ?_
  refine z_iload_n C dX1_body11_13 rfl (j := 2) rfl ?_
  obtain ⟨r4, h4, h⟩ := Option.bind_eq_some_iff.mp h
  refine z_callVi [.int a1] [.int v3] C dX1_body11_14 (by decide) zen_15 rfl zk_X1_44 zw1033 zw1034 ⟨⟨by decide, by decide⟩, rfl, Nat.le_of_ble_eq_true rfl⟩ rfl (sX1_askMark_0  h4) ?_
  refine z_iadd C dX1_body11_17 ?_
  have e := Option.some.inj h; subst e; exact z_iret C dX1_body11_18 Rq
-- X1_body11_0
def fX1_body11_0  (a1 : Int32) (mem : ZM) : Option (Int32 × ZM) :=
  Option.bind (fX1_leaveTrace (11 : Int32) mem) (fun r1 => Option.bind (fX1_body10 r1) (fun r2 => zlet r2.1 (fun v3 => none)))
set_option maxRecDepth 100000 in
set_option maxHeartbeats 4000000 in
theorem sX1_body11_0 {l : Launch} {E : ZE}  {a1 : Int32} {mem : ZM} {t : Int32 × ZM} (h : fX1_body11_0 a1 mem = some t) : zMet l E yX1_body11 cX1_body11 3 (some .int) 2 [.ref (E.2.1 15), .int a1] mem (some (.int t.1)) t.2 := by
  refine z_enter (by decide) (Nat.le_of_ble_eq_true rfl) (fun Γ C Rq => ?_)
  have C : zC E Γ RX1 cX1_body11 3 2 := C
  show zG l E Γ 3 0 [(0, .ref (E.2.1 15)), (1, .int a1)] [] mem
  unfold fX1_body11_0 at h
  refine z_aload_n C dX1_body11_0 rfl (j := 0) rfl ?_
  refine z_bipush (v := 11) C dX1_body11_1 zb11 ?_
  obtain ⟨r1, h1, h⟩ := Option.bind_eq_some_iff.mp h
  refine z_callVv [.int (11 : Int32)] [] C dX1_body11_3 (by decide) zen_15 rfl zk_X1_78 zw1000 zw1001 ⟨⟨by decide, by decide⟩, rfl, Nat.le_of_ble_eq_true rfl⟩ rfl (sX1_leaveTrace  h1) ?_
  refine z_aload_n C dX1_body11_6 rfl (j := 0) rfl ?_
  obtain ⟨r2, h2, h⟩ := Option.bind_eq_some_iff.mp h
  refine z_callVi [] [] C dX1_body11_7 (by decide) zen_15 rfl zk_X1_60 zw1004 zw1005 ⟨⟨by decide, by decide⟩, rfl, Nat.le_of_ble_eq_true rfl⟩ rfl (sX1_body10  h2) ?_
  refine z_istore_n [(0, .ref (E.2.1 15)), (1, .int a1)] C dX1_body11_10 h rfl (by decide) rfl (fun v3 h => ?_)
  refine z_iload_n C dX1_body11_11 rfl (j := 0) rfl ?_
  refine z_aload_n C dX1_body11_12 rfl (j := 1) rfl ?_
  refine z_iload_n C dX1_body11_13 rfl (j := 2) rfl ?_
  cases h
-- X1_body12_1
def fX1_body12_1  (a1 : Int32) (mem : ZM) : Option (Int32 × ZM) :=
  Option.bind (fX1_leaveTrace (12 : Int32) mem) (fun r1 => Option.bind (fX1_body11_0 a1 r1) (fun r2 => some ((-r2.1), r2.2)))
set_option maxRecDepth 100000 in
set_option maxHeartbeats 4000000 in
theorem sX1_body12_1 {l : Launch} {E : ZE}  {a1 : Int32} {mem : ZM} {t : Int32 × ZM} (h : fX1_body12_1 a1 mem = some t) : zMet l E yX1_body12 cX1_body12 2 (some .int) 3 [.ref (E.2.1 15), .int a1] mem (some (.int t.1)) t.2 := by
  refine z_enter (by decide) (Nat.le_of_ble_eq_true rfl) (fun Γ C Rq => ?_)
  have C : zC E Γ RX1 cX1_body12 2 3 := C
  show zG l E Γ 2 0 [(0, .ref (E.2.1 15)), (1, .int a1)] [] mem
  unfold fX1_body12_1 at h
  refine z_aload_n C dX1_body12_0 rfl (j := 0) rfl ?_
  refine z_bipush (v := 12) C dX1_body12_1 zb12 ?_
  obtain ⟨r1, h1, h⟩ := Option.bind_eq_some_iff.mp h
  refine z_callVv [.int (12 : Int32)] [] C dX1_body12_3 (by decide) zen_15 rfl zk_X1_78 zw1000 zw1001 ⟨⟨by decide, by decide⟩, rfl, Nat.le_of_ble_eq_true rfl⟩ rfl (sX1_leaveTrace  h1) ?_
  refine z_aload_n C dX1_body12_6 rfl (j := 0) rfl ?_
  refine z_iload_n C dX1_body12_7 rfl (j := 1) rfl ?_
  obtain ⟨r2, h2, h⟩ := Option.bind_eq_some_iff.mp h
  refine z_callVi [.int a1] [] C dX1_body12_8 (by decide) zen_15 rfl zk_X1_47 zw990 zw991 ⟨⟨by decide, by decide⟩, rfl, Nat.le_of_ble_eq_true rfl⟩ rfl (sX1_body11_0  h2) ?_
  refine z_ineg C dX1_body12_11 ?_
  have e := Option.some.inj h; subst e; exact z_iret C dX1_body12_12 Rq
-- X1_askSize_2
def fX1_askSize_2  (a1 : Int32) (mem : ZM) : Option (Int32 × ZM) :=
  if a1 ≤ (16 : Int32) then (if (mem 15 3) = (1 : Int32) then (Option.bind (fX1_body11_1 (a1 + (1 : Int32)) mem) (fun r2 => some (r2.1, r2.2))) else if (mem 15 3) = (2 : Int32) then (Option.bind (fX1_body12_1 (a1 + (1 : Int32)) mem) (fun r4 => some (r4.1, r4.2))) else if (mem 15 3) = (3 : Int32) then (Option.bind (fX1_body11_1 (a1 + (1 : Int32)) mem) (fun r6 => some (r6.1, r6.2))) else if (mem 15 3) = (4 : Int32) then (Option.bind (fX1_body13 mem) (fun r8 => some (r8.1, r8.2))) else if (mem 15 3) = (5 : Int32) then (Option.bind (fX1_body14 mem) (fun r10 => some (r10.1, r10.2))) else (Option.bind (fX1_body10 mem) (fun r11 => some (r11.1, r11.2)))) else (some ((0 : Int32), mem))
set_option maxRecDepth 100000 in
set_option maxHeartbeats 4000000 in
theorem sX1_askSize_2 {l : Launch} {E : ZE}  {a1 : Int32} {mem : ZM} {t : Int32 × ZM} (h : fX1_askSize_2 a1 mem = some t) : zMet l E yX1_askSize cX1_askSize 2 (some .int) 6 [.ref (E.2.1 15), .int a1] mem (some (.int t.1)) t.2 := by
  refine z_enter (by decide) (Nat.le_of_ble_eq_true rfl) (fun Γ C Rq => ?_)
  have C : zC E Γ RX1 cX1_askSize 2 6 := C
  show zG l E Γ 2 0 [(0, .ref (E.2.1 15)), (1, .int a1)] [] mem
  unfold fX1_askSize_2 at h
  refine z_iload_n C dX1_askSize_0 rfl (j := 1) rfl ?_
  refine z_bipush (v := 16) C dX1_askSize_1 zb16 ?_
  refine z_icmp_le 8 C dX1_askSize_3 (by decide) h (fun h => ?_) (fun h => ?_)
  · refine z_aload_n C dX1_askSize_8 rfl (j := 0) rfl ?_
    refine zg1_3 C dX1_askSize_9 zw85 ?_
    by_cases c1 : (mem 15 3) = (1 : Int32)
    · rw [if_pos c1] at h
      refine z_swIn (off := 36) 48 C dX1_askSize_12 1 c1 (by decide) (by decide) (by decide) (by decide) ?_
      refine z_aload_n C dX1_askSize_48 rfl (j := 0) rfl ?_
      refine z_iload_n C dX1_askSize_49 rfl (j := 1) rfl ?_
      refine z_iconst (v := 1) C dX1_askSize_50 zc1 ?_
      refine z_iadd C dX1_askSize_51 ?_
      obtain ⟨r2, h2, h⟩ := Option.bind_eq_some_iff.mp h
      refine z_callVi [.int (a1 + (1 : Int32))] [] C dX1_askSize_52 (by decide) zen_15 rfl zk_X1_47 zw990 zw991 ⟨⟨by decide, by decide⟩, rfl, Nat.le_of_ble_eq_true rfl⟩ rfl (sX1_body11_1  h2) ?_
      have e := Option.some.inj h; subst e; exact z_iret C dX1_askSize_55 Rq
    rw [if_neg c1] at h
    have nc1 : ((mem 15 3)).toInt ≠ 1 := zne c1
    by_cases c3 : (mem 15 3) = (2 : Int32)
    · rw [if_pos c3] at h
      refine z_swIn (off := 44) 56 C dX1_askSize_12 2 c3 (by decide) (by decide) (by decide) (by decide) ?_
      refine z_aload_n C dX1_askSize_56 rfl (j := 0) rfl ?_
      refine z_iload_n C dX1_askSize_57 rfl (j := 1) rfl ?_
      refine z_iconst (v := 1) C dX1_askSize_58 zc1 ?_
      refine z_iadd C dX1_askSize_59 ?_
      obtain ⟨r4, h4, h⟩ := Option.bind_eq_some_iff.mp h
      refine z_callVi [.int (a1 + (1 : Int32))] [] C dX1_askSize_60 (by decide) zen_15 rfl zk_X1_50 zw993 zw994 ⟨⟨by decide, by decide⟩, rfl, Nat.le_of_ble_eq_true rfl⟩ rfl (sX1_body12_1  h4) ?_
      have e := Option.some.inj h; subst e; exact z_iret C dX1_askSize_63 Rq
    rw [if_neg c3] at h
    have nc3 : ((mem 15 3)).toInt ≠ 2 := zne c3
    by_cases c5 : (mem 15 3) = (3 : Int32)
    · rw [if_pos c5] at h
      refine z_swIn (off := 36) 48 C dX1_askSize_12 3 c5 (by decide) (by decide) (by decide) (by decide) ?_
      refine z_aload_n C dX1_askSize_48 rfl (j := 0) rfl ?_
      refine z_iload_n C dX1_askSize_49 rfl (j := 1) rfl ?_
      refine z_iconst (v := 1) C dX1_askSize_50 zc1 ?_
      refine z_iadd C dX1_askSize_51 ?_
      obtain ⟨r6, h6, h⟩ := Option.bind_eq_some_iff.mp h
      refine z_callVi [.int (a1 + (1 : Int32))] [] C dX1_askSize_52 (by decide) zen_15 rfl zk_X1_47 zw990 zw991 ⟨⟨by decide, by decide⟩, rfl, Nat.le_of_ble_eq_true rfl⟩ rfl (sX1_body11_1  h6) ?_
      have e := Option.some.inj h; subst e; exact z_iret C dX1_askSize_55 Rq
    rw [if_neg c5] at h
    have nc5 : ((mem 15 3)).toInt ≠ 3 := zne c5
    by_cases c7 : (mem 15 3) = (4 : Int32)
    · rw [if_pos c7] at h
      refine z_swIn (off := 52) 64 C dX1_askSize_12 4 c7 (by decide) (by decide) (by decide) (by decide) ?_
      refine z_aload_n C dX1_askSize_64 rfl (j := 0) rfl ?_
      obtain ⟨r8, h8, h⟩ := Option.bind_eq_some_iff.mp h
      refine z_callVi [] [] C dX1_askSize_65 (by decide) zen_15 rfl zk_X1_53 zw996 zw997 ⟨⟨by decide, by decide⟩, rfl, Nat.le_of_ble_eq_true rfl⟩ rfl (sX1_body13  h8) ?_
      have e := Option.some.inj h; subst e; exact z_iret C dX1_askSize_68 Rq
    rw [if_neg c7] at h
    have nc7 : ((mem 15 3)).toInt ≠ 4 := zne c7
    by_cases c9 : (mem 15 3) = (5 : Int32)
    · rw [if_pos c9] at h
      refine z_swIn (off := 57) 69 C dX1_askSize_12 5 c9 (by decide) (by decide) (by decide) (by decide) ?_
      refine z_aload_n C dX1_askSize_69 rfl (j := 0) rfl ?_
      obtain ⟨r10, h10, h⟩ := Option.bind_eq_some_iff.mp h
      refine z_callVi [] [] C dX1_askSize_70 (by decide) zen_15 rfl zk_X1_57 zw1008 zw1009 ⟨⟨by decide, by decide⟩, rfl, Nat.le_of_ble_eq_true rfl⟩ rfl (sX1_body14  h10) ?_
      have e := Option.some.inj h; subst e; exact z_iret C dX1_askSize_73 Rq
    rw [if_neg c9] at h
    have nc9 : ((mem 15 3)).toInt ≠ 5 := zne c9
    refine z_swOut 74 C dX1_askSize_12 (by omega) (by decide) ?_
    refine z_aload_n C dX1_askSize_74 rfl (j := 0) rfl ?_
    obtain ⟨r11, h11, h⟩ := Option.bind_eq_some_iff.mp h
    refine z_callVi [] [] C dX1_askSize_75 (by decide) zen_15 rfl zk_X1_60 zw1004 zw1005 ⟨⟨by decide, by decide⟩, rfl, Nat.le_of_ble_eq_true rfl⟩ rfl (sX1_body10  h11) ?_
    have e := Option.some.inj h; subst e; exact z_iret C dX1_askSize_78 Rq
  · refine z_iconst (v := 0) C dX1_askSize_6 zc0 ?_
    have e := Option.some.inj h; subst e; exact z_iret C dX1_askSize_7 Rq
