-- X7_drop
def fX7_drop  (a1 : Int32) (mem : ZM) : Option (Int32 × ZM) :=
  Option.bind (fX7_isRow a1) (fun r1 => if r1 = 0 then (some ((-1000001 : Int32), mem)) else (zgd (zin a1 8) (if 0 ≤ (mem 60 a1.toNatClampNeg) then (zgd (zin a1 8) (zlet (mem 60 a1.toNatClampNeg) (fun v2 => zgd (zin a1 8) (zlet (zst mem 60 a1.toNatClampNeg (-1 : Int32)) (fun m3 => Option.bind (fX7_well v2 m3) (fun r4 => some (r4.1, r4.2))))))) else (Option.bind (fX7_find (1 : Int32) mem) (fun r5 => some (r5.1, r5.2))))))
set_option maxRecDepth 100000 in
set_option maxHeartbeats 4000000 in
theorem sX7_drop {l : Launch} {E : ZE}  {a1 : Int32} {mem : ZM} {t : Int32 × ZM} (h : fX7_drop a1 mem = some t) : zMet l E yX7_drop cX7_drop 3 (some .int) 2 [.ref (E.2.1 58), .int a1] mem (some (.int t.1)) t.2 := by
  refine z_enter (by decide) (Nat.le_of_ble_eq_true rfl) (fun Γ C Rq => ?_)
  have C : zC E Γ RX7 cX7_drop 3 2 := C
  show zG l E Γ 3 0 [(0, .ref (E.2.1 58)), (1, .int a1)] [] mem
  unfold fX7_drop at h
  refine z_iload_n C dX7_drop_0 rfl (j := 1) rfl ?_
  obtain ⟨r1, h1, h⟩ := Option.bind_eq_some_iff.mp h
  refine z_callSi [.int a1] [] C dX7_drop_1 zk_X7_61 zw143 ⟨⟨by decide, by decide⟩, rfl, Nat.le_of_ble_eq_true rfl⟩ rfl (sX7_isRow  h1) ?_
  refine z_if_ne 10 C dX7_drop_4 (by decide) h (fun h => ?_) (fun h => ?_)
  · refine z_aload_n C dX7_drop_10 rfl (j := 0) rfl ?_
    refine zg7_1 C dX7_drop_11 zw99 ?_
    refine z_iload_n C dX7_drop_14 rfl (j := 1) rfl ?_
    refine z_iald C dX7_drop_15 zar60 h (fun h => ?_)
    refine z_if_ge 25 C dX7_drop_16 (by decide) h (fun h => ?_) (fun h => ?_)
    · refine z_aload_n C dX7_drop_25 rfl (j := 0) rfl ?_
      refine zg7_1 C dX7_drop_26 zw99 ?_
      refine z_iload_n C dX7_drop_29 rfl (j := 1) rfl ?_
      refine z_iald C dX7_drop_30 zar60 h (fun h => ?_)
      refine z_istore_n [(0, .ref (E.2.1 58)), (1, .int a1)] C dX7_drop_31 h rfl (by decide) rfl (fun v2 h => ?_)
      refine z_aload_n C dX7_drop_32 rfl (j := 1) rfl ?_
      refine zg7_1 C dX7_drop_33 zw99 ?_
      refine z_iload_n C dX7_drop_36 rfl (j := 2) rfl ?_
      refine z_iconst (v := -1) C dX7_drop_37 zcm1 ?_
      refine z_iast C dX7_drop_38 zar60 h (fun m3 h => ?_)
      refine z_aload_n C dX7_drop_39 rfl (j := 1) rfl ?_
      refine z_iload_n C dX7_drop_40 rfl (j := 0) rfl ?_
      obtain ⟨r4, h4, h⟩ := Option.bind_eq_some_iff.mp h
      refine z_callVi [.int v2] [] C dX7_drop_41 (by decide) zen_58 rfl zk_X7_72 zw156 zw157 ⟨⟨by decide, by decide⟩, rfl, Nat.le_of_ble_eq_true rfl⟩ rfl (sX7_well  h4) ?_
      have e := Option.some.inj h; subst e; exact z_iret C dX7_drop_44 Rq
    · refine z_aload_n C dX7_drop_19 rfl (j := 0) rfl ?_
      refine z_iconst (v := 1) C dX7_drop_20 zc1 ?_
      obtain ⟨r5, h5, h⟩ := Option.bind_eq_some_iff.mp h
      refine z_callVi [.int (1 : Int32)] [] C dX7_drop_21 (by decide) zen_58 rfl zk_X7_68 zw150 zw151 ⟨⟨by decide, by decide⟩, rfl, Nat.le_of_ble_eq_true rfl⟩ rfl (sX7_find  h5) ?_
      have e := Option.some.inj h; subst e; exact z_iret C dX7_drop_24 Rq
  · refine z_ldc C dX7_drop_7 zw141 ?_
    have e := Option.some.inj h; subst e; exact z_iret C dX7_drop_9 Rq
-- X7_feed
def fX7_feed  (a1 : Int32) (mem : ZM) : Option (Int32 × ZM) :=
  Option.bind (fX7_in a1.toInt64 (0 : Int64) (255 : Int64)) (fun r1 => if r1 = 0 then (some ((-1000001 : Int32), mem)) else (if (mem 58 8) = (90 : Int32) then (some ((-1000003 : Int32), mem)) else (zgd (zin (mem 58 8) 90) (zlet (zst mem 64 (mem 58 8).toNatClampNeg a1) (fun m2 => zlet (zst m2 58 8 ((m2 58 8) + (1 : Int32))) (fun m3 => some (m3 58 8, m3)))))))
set_option maxRecDepth 100000 in
set_option maxHeartbeats 4000000 in
theorem sX7_feed {l : Launch} {E : ZE}  {a1 : Int32} {mem : ZM} {t : Int32 × ZM} (h : fX7_feed a1 mem = some t) : zMet l E yX7_feed cX7_feed 2 (some .int) 1 [.ref (E.2.1 58), .int a1] mem (some (.int t.1)) t.2 := by
  refine z_enter (by decide) (Nat.le_of_ble_eq_true rfl) (fun Γ C Rq => ?_)
  have C : zC E Γ RX7 cX7_feed 2 1 := C
  show zG l E Γ 2 0 [(0, .ref (E.2.1 58)), (1, .int a1)] [] mem
  unfold fX7_feed at h
  refine z_iload_n C dX7_feed_0 rfl (j := 1) rfl ?_
  refine z_i2l C dX7_feed_1 ?_
  refine z_lconst (v := 0) C dX7_feed_2 zl0 ?_
  refine z_ldc2 C dX7_feed_3 zw223 ?_
  obtain ⟨r1, h1, h⟩ := Option.bind_eq_some_iff.mp h
  refine z_callSi [.long a1.toInt64, .long (0 : Int64), .long (255 : Int64)] [] C dX7_feed_6 zk_X7_57 zw147 ⟨⟨by decide, by decide⟩, rfl, Nat.le_of_ble_eq_true rfl⟩ rfl (sX7_in  h1) ?_
  refine z_if_ne 15 C dX7_feed_9 (by decide) h (fun h => ?_) (fun h => ?_)
  · refine z_aload_n C dX7_feed_15 rfl (j := 0) rfl ?_
    refine zg7_8 C dX7_feed_16 zw224 ?_
    refine z_bipush (v := 90) C dX7_feed_19 zb90 ?_
    refine z_icmp_ne 27 C dX7_feed_21 (by decide) h (fun h => ?_) (fun h => ?_)
    · refine z_aload_n C dX7_feed_27 rfl (j := 0) rfl ?_
      refine zg7_7 C dX7_feed_28 zw103 ?_
      refine z_aload_n C dX7_feed_31 rfl (j := 0) rfl ?_
      refine zg7_8 C dX7_feed_32 zw224 ?_
      refine z_iload_n C dX7_feed_35 rfl (j := 1) rfl ?_
      refine z_iast C dX7_feed_36 zar64 h (fun m2 h => ?_)
      refine z_aload_n C dX7_feed_37 rfl (j := 0) rfl ?_
      refine z_dup C dX7_feed_38 rfl ?_
      refine zg7_8 C dX7_feed_39 zw224 ?_
      refine z_iconst (v := 1) C dX7_feed_42 zc1 ?_
      refine z_iadd C dX7_feed_43 ?_
      refine zp7_8 C dX7_feed_44 zw224 h (fun m3 h => ?_)
      refine z_aload_n C dX7_feed_47 rfl (j := 0) rfl ?_
      refine zg7_8 C dX7_feed_48 zw224 ?_
      have e := Option.some.inj h; subst e; exact z_iret C dX7_feed_51 Rq
    · refine z_ldc C dX7_feed_24 zw225 ?_
      have e := Option.some.inj h; subst e; exact z_iret C dX7_feed_26 Rq
  · refine z_ldc C dX7_feed_12 zw141 ?_
    have e := Option.some.inj h; subst e; exact z_iret C dX7_feed_14 Rq
-- X7_nextToken
def fX7_nextToken_j103  (k0 : Int32) (mem : ZM) : Option ((ZM) ⊕ (ZM)) :=
  zlet (zst mem 58 12 k0) (fun m6 => zlet (zst m6 58 10 ((m6 58 10) + (1 : Int32))) (fun m7 => some (Sum.inl (m7))))
set_option maxRecDepth 100000 in
set_option maxHeartbeats 4000000 in
theorem jX7_nextToken_103 {l : Launch} {E : ZE} {Γ : ZG} (C : zC E Γ RX7 cX7_nextToken 1 1)  {k0 : Int32}  {mem : ZM}  {u : (ZM) ⊕ (ZM)}  (G1 : ∀ s', u = Sum.inl s' → zG l E Γ 1 33 [(0, .ref (E.2.1 58))] [] s') (G2 : ∀ s', u = Sum.inr s' → zG l E Γ 1 119 [(0, .ref (E.2.1 58))] [] s') (h : fX7_nextToken_j103  k0 mem = some u) : zG l E Γ 1 103 [(0, .ref (E.2.1 58))] [.int k0, .ref (E.2.1 58)] mem := by
  unfold fX7_nextToken_j103 at h
  refine zp7_12 C dX7_nextToken_103 zw380 h (fun m6 h => ?_)
  refine z_aload_n C dX7_nextToken_106 rfl (j := 0) rfl ?_
  refine z_dup C dX7_nextToken_107 rfl ?_
  refine zg7_10 C dX7_nextToken_108 zw374 ?_
  refine z_iconst (v := 1) C dX7_nextToken_111 zc1 ?_
  refine z_iadd C dX7_nextToken_112 ?_
  refine zp7_10 C dX7_nextToken_113 zw374 h (fun m7 h => ?_)
  refine z_goto 33 C dX7_nextToken_116 (by decide) ?_
  refine z_pick [0] rfl ?_
  exact G1 _ (Option.some.inj h).symm
def fX7_nextToken_b33    (memb : ZM) : Option ((ZM) ⊕ (ZM)) :=
  if (memb 58 8) ≤ (memb 58 10) then (some (Sum.inr (memb))) else (zgd (zin (memb 58 10) 90) (Option.bind (fX7_in ((memb 64 (memb 58 10).toNatClampNeg).toInt64) (48 : Int64) (57 : Int64)) (fun r5 => if r5 = 0 then (some (Sum.inr (memb))) else (if (memb 58 12) ≤ (99 : Int32) then (zgd (zin (memb 58 10) 90) (fX7_nextToken_j103  ((((10 : Int32) * (memb 58 12)) + (memb 64 (memb 58 10).toNatClampNeg)) - (48 : Int32)) memb)) else (fX7_nextToken_j103  (memb 58 12) memb)))))
def fX7_nextToken_l33   (s : ZM) : Option (ZM) := ziter (fun s => fX7_nextToken_b33  s) 2000 s
set_option maxRecDepth 100000 in
set_option maxHeartbeats 4000000 in
theorem bX7_nextToken_33 {l : Launch} {E : ZE} {Γ : ZG} (C : zC E Γ RX7 cX7_nextToken 1 1)    {memb : ZM} {u : (ZM) ⊕ (ZM)} (G1 : ∀ s', u = Sum.inl s' → zG l E Γ 1 33 [(0, .ref (E.2.1 58))] [] s') (G2 : ∀ s', u = Sum.inr s' → zG l E Γ 1 119 [(0, .ref (E.2.1 58))] [] s') (h : fX7_nextToken_b33  memb = some u) : zG l E Γ 1 33 [(0, .ref (E.2.1 58))] [] memb := by
  unfold fX7_nextToken_b33 at h
  refine z_aload_n C dX7_nextToken_33 rfl (j := 0) rfl ?_
  refine zg7_10 C dX7_nextToken_34 zw374 ?_
  refine z_aload_n C dX7_nextToken_37 rfl (j := 0) rfl ?_
  refine zg7_8 C dX7_nextToken_38 zw224 ?_
  refine z_icmp_ge 119 C dX7_nextToken_41 (by decide) h (fun h => ?_) (fun h => ?_)
  · refine z_pick [0] rfl ?_
    exact G2 _ (Option.some.inj h).symm
  · refine z_aload_n C dX7_nextToken_44 rfl (j := 0) rfl ?_
    refine zg7_7 C dX7_nextToken_45 zw103 ?_
    refine z_aload_n C dX7_nextToken_48 rfl (j := 0) rfl ?_
    refine zg7_10 C dX7_nextToken_49 zw374 ?_
    refine z_iald C dX7_nextToken_52 zar64 h (fun h => ?_)
    refine z_i2l C dX7_nextToken_53 ?_
    refine z_ldc2 C dX7_nextToken_54 zw381 ?_
    refine z_ldc2 C dX7_nextToken_57 zw382 ?_
    obtain ⟨r5, h5, h⟩ := Option.bind_eq_some_iff.mp h
    refine z_callSi [.long ((memb 64 (memb 58 10).toNatClampNeg).toInt64), .long (48 : Int64), .long (57 : Int64)] [] C dX7_nextToken_60 zk_X7_57 zw147 ⟨⟨by decide, by decide⟩, rfl, Nat.le_of_ble_eq_true rfl⟩ rfl (sX7_in  h5) ?_
    refine z_if_eq 119 C dX7_nextToken_63 (by decide) h (fun h => ?_) (fun h => ?_)
    · refine z_pick [0] rfl ?_
      exact G2 _ (Option.some.inj h).symm
    · refine z_aload_n C dX7_nextToken_66 rfl (j := 0) rfl ?_
      refine z_aload_n C dX7_nextToken_67 rfl (j := 0) rfl ?_
      refine zg7_12 C dX7_nextToken_68 zw380 ?_
      refine z_bipush (v := 99) C dX7_nextToken_71 zb99 ?_
      refine z_icmp_le 83 C dX7_nextToken_73 (by decide) h (fun h => ?_) (fun h => ?_)
      · refine z_bipush (v := 10) C dX7_nextToken_83 zb10 ?_
        refine z_aload_n C dX7_nextToken_85 rfl (j := 0) rfl ?_
        refine zg7_12 C dX7_nextToken_86 zw380 ?_
        refine z_imul C dX7_nextToken_89 ?_
        refine z_aload_n C dX7_nextToken_90 rfl (j := 0) rfl ?_
        refine zg7_7 C dX7_nextToken_91 zw103 ?_
        refine z_aload_n C dX7_nextToken_94 rfl (j := 0) rfl ?_
        refine zg7_10 C dX7_nextToken_95 zw374 ?_
        refine z_iald C dX7_nextToken_98 zar64 h (fun h => ?_)
        refine z_iadd C dX7_nextToken_99 ?_
        refine z_bipush (v := 48) C dX7_nextToken_100 zb48 ?_
        refine z_isub C dX7_nextToken_102 ?_
        refine z_pick [0] rfl ?_
        exact jX7_nextToken_103 C   G1 G2 h
      · refine z_aload_n C dX7_nextToken_76 rfl (j := 0) rfl ?_
        refine zg7_12 C dX7_nextToken_77 zw380 ?_
        refine z_goto 103 C dX7_nextToken_80 (by decide) ?_
        refine z_pick [0] rfl ?_
        exact jX7_nextToken_103 C   G1 G2 h
theorem lX7_nextToken_33 {l : Launch} {E : ZE} {Γ : ZG} (C : zC E Γ RX7 cX7_nextToken 1 1)   {s : ZM} {r : ZM} (h : fX7_nextToken_l33  s = some r) (K1 : zG l E Γ 1 119 [(0, .ref (E.2.1 58))] [] r) : zG l E Γ 1 33 [(0, .ref (E.2.1 58))] [] s :=
  z_loop (body := fun s => fX7_nextToken_b33  s) (fun s => zG l E Γ 1 33 [(0, .ref (E.2.1 58))] [] s) (fun r => zG l E Γ 1 119 [(0, .ref (E.2.1 58))] [] r) (fun s u hb g1 g2 => bX7_nextToken_33 C  g1 g2 hb) 2000 s r h K1
def fX7_nextToken_j216  (k0 : Int32) (mem : ZM) : Option (ZM) :=
  zlet (zst mem 58 11 k0) (fun m10 => zlet (zst m10 58 10 ((m10 58 10) + (1 : Int32))) (fun m11 => some m11))
set_option maxRecDepth 100000 in
set_option maxHeartbeats 4000000 in
theorem jX7_nextToken_216 {l : Launch} {E : ZE} {Γ : ZG} (C : zC E Γ RX7 cX7_nextToken 1 1)  {k0 : Int32}  {mem : ZM}  {t : ZM}  (Rq : zRq E Γ none none t) (h : fX7_nextToken_j216  k0 mem = some t) : zG l E Γ 1 216 [(0, .ref (E.2.1 58))] [.int k0, .ref (E.2.1 58)] mem := by
  unfold fX7_nextToken_j216 at h
  refine zp7_11 C dX7_nextToken_216 zw375 h (fun m10 h => ?_)
  refine z_aload_n C dX7_nextToken_219 rfl (j := 0) rfl ?_
  refine z_dup C dX7_nextToken_220 rfl ?_
  refine zg7_10 C dX7_nextToken_221 zw374 ?_
  refine z_iconst (v := 1) C dX7_nextToken_224 zc1 ?_
  refine z_iadd C dX7_nextToken_225 ?_
  refine zp7_10 C dX7_nextToken_226 zw374 h (fun m11 h => ?_)
  have e := Option.some.inj h; subst e; exact z_vret C dX7_nextToken_229 Rq
def fX7_nextToken_j211   (mem : ZM) : Option (ZM) :=
  fX7_nextToken_j216  (1 : Int32) mem
set_option maxRecDepth 100000 in
set_option maxHeartbeats 4000000 in
theorem jX7_nextToken_211 {l : Launch} {E : ZE} {Γ : ZG} (C : zC E Γ RX7 cX7_nextToken 1 1)    {mem : ZM}  {t : ZM}  (Rq : zRq E Γ none none t) (h : fX7_nextToken_j211  mem = some t) : zG l E Γ 1 211 [(0, .ref (E.2.1 58))] [.ref (E.2.1 58)] mem := by
  unfold fX7_nextToken_j211 at h
  refine z_iconst (v := 1) C dX7_nextToken_211 zc1 ?_
  refine z_goto 216 C dX7_nextToken_212 (by decide) ?_
  refine z_pick [0] rfl ?_
  exact jX7_nextToken_216 C   Rq h
def fX7_nextToken_j119   (mem : ZM) : Option (ZM) :=
  if (mem 58 10) ≤ (mem 58 13) then (if (mem 58 11) = 0 then (zgd (zin (mem 58 10) 90) (zlet (zst mem 58 12 (mem 64 (mem 58 10).toNatClampNeg)) (fun m8 => Option.bind (fX7_in ((m8 58 12).toInt64) (97 : Int64) (122 : Int64)) (fun r9 => if r9 = 0 then (if (m8 58 12) = (44 : Int32) then (fX7_nextToken_j211  m8) else (if (m8 58 12) = (59 : Int32) then (fX7_nextToken_j211  m8) else (fX7_nextToken_j216  (0 : Int32) m8))) else (fX7_nextToken_j211  m8))))) else (some mem)) else (if ((mem 58 10) - (mem 58 13)) ≤ (2 : Int32) then (zlet (zst mem 58 11 (2 : Int32)) (fun m12 => some m12)) else (zlet (zst mem 58 11 (0 : Int32)) (fun m13 => some m13)))
set_option maxRecDepth 100000 in
set_option maxHeartbeats 4000000 in
theorem jX7_nextToken_119 {l : Launch} {E : ZE} {Γ : ZG} (C : zC E Γ RX7 cX7_nextToken 1 1)    {mem : ZM}  {t : ZM}  (Rq : zRq E Γ none none t) (h : fX7_nextToken_j119  mem = some t) : zG l E Γ 1 119 [(0, .ref (E.2.1 58))] [] mem := by
  unfold fX7_nextToken_j119 at h
  refine z_aload_n C dX7_nextToken_119 rfl (j := 0) rfl ?_
  refine zg7_10 C dX7_nextToken_120 zw374 ?_
  refine z_aload_n C dX7_nextToken_123 rfl (j := 0) rfl ?_
  refine zg7_13 C dX7_nextToken_124 zw367 ?_
  refine z_icmp_le 155 C dX7_nextToken_127 (by decide) h (fun h => ?_) (fun h => ?_)
  · refine z_aload_n C dX7_nextToken_155 rfl (j := 0) rfl ?_
    refine zg7_11 C dX7_nextToken_156 zw375 ?_
    refine z_if_ne 229 C dX7_nextToken_159 (by decide) h (fun h => ?_) (fun h => ?_)
    · have e := Option.some.inj h; subst e; exact z_vret C dX7_nextToken_229 Rq
    · refine z_aload_n C dX7_nextToken_162 rfl (j := 0) rfl ?_
      refine z_aload_n C dX7_nextToken_163 rfl (j := 0) rfl ?_
      refine zg7_7 C dX7_nextToken_164 zw103 ?_
      refine z_aload_n C dX7_nextToken_167 rfl (j := 0) rfl ?_
      refine zg7_10 C dX7_nextToken_168 zw374 ?_
      refine z_iald C dX7_nextToken_171 zar64 h (fun h => ?_)
      refine zp7_12 C dX7_nextToken_172 zw380 h (fun m8 h => ?_)
      refine z_aload_n C dX7_nextToken_175 rfl (j := 0) rfl ?_
      refine z_aload_n C dX7_nextToken_176 rfl (j := 0) rfl ?_
      refine zg7_12 C dX7_nextToken_177 zw380 ?_
      refine z_i2l C dX7_nextToken_180 ?_
      refine z_ldc2 C dX7_nextToken_181 zw383 ?_
      refine z_ldc2 C dX7_nextToken_184 zw384 ?_
      obtain ⟨r9, h9, h⟩ := Option.bind_eq_some_iff.mp h
      refine z_callSi [.long ((m8 58 12).toInt64), .long (97 : Int64), .long (122 : Int64)] [.ref (E.2.1 58)] C dX7_nextToken_187 zk_X7_57 zw147 ⟨⟨by decide, by decide⟩, rfl, Nat.le_of_ble_eq_true rfl⟩ rfl (sX7_in  h9) ?_
      refine z_if_ne 211 C dX7_nextToken_190 (by decide) h (fun h => ?_) (fun h => ?_)
      · refine z_pick [0] rfl ?_
        exact jX7_nextToken_211 C   Rq h
      · refine z_aload_n C dX7_nextToken_193 rfl (j := 0) rfl ?_
        refine zg7_12 C dX7_nextToken_194 zw380 ?_
        refine z_bipush (v := 44) C dX7_nextToken_197 zb44 ?_
        refine z_icmp_eq 211 C dX7_nextToken_199 (by decide) h (fun h => ?_) (fun h => ?_)
        · refine z_pick [0] rfl ?_
          exact jX7_nextToken_211 C   Rq h
        · refine z_aload_n C dX7_nextToken_202 rfl (j := 0) rfl ?_
          refine zg7_12 C dX7_nextToken_203 zw380 ?_
          refine z_bipush (v := 59) C dX7_nextToken_206 zb59 ?_
          refine z_icmp_ne 215 C dX7_nextToken_208 (by decide) h (fun h => ?_) (fun h => ?_)
          · refine z_iconst (v := 0) C dX7_nextToken_215 zc0 ?_
            refine z_pick [0] rfl ?_
            exact jX7_nextToken_216 C   Rq h
          · refine z_pick [0] rfl ?_
            exact jX7_nextToken_211 C   Rq h
  · refine z_aload_n C dX7_nextToken_130 rfl (j := 0) rfl ?_
    refine z_aload_n C dX7_nextToken_131 rfl (j := 0) rfl ?_
    refine zg7_10 C dX7_nextToken_132 zw374 ?_
    refine z_aload_n C dX7_nextToken_135 rfl (j := 0) rfl ?_
    refine zg7_13 C dX7_nextToken_136 zw367 ?_
    refine z_isub C dX7_nextToken_139 ?_
    refine z_iconst (v := 2) C dX7_nextToken_140 zc2 ?_
    refine z_icmp_le 148 C dX7_nextToken_141 (by decide) h (fun h => ?_) (fun h => ?_)
    · refine z_iconst (v := 2) C dX7_nextToken_148 zc2 ?_
      refine zp7_11 C dX7_nextToken_149 zw375 h (fun m12 h => ?_)
      refine z_goto 229 C dX7_nextToken_152 (by decide) ?_
      have e := Option.some.inj h; subst e; exact z_vret C dX7_nextToken_229 Rq
    · refine z_iconst (v := 0) C dX7_nextToken_144 zc0 ?_
      refine z_goto 149 C dX7_nextToken_145 (by decide) ?_
      refine zp7_11 C dX7_nextToken_149 zw375 h (fun m13 h => ?_)
      refine z_goto 229 C dX7_nextToken_152 (by decide) ?_
      have e := Option.some.inj h; subst e; exact z_vret C dX7_nextToken_229 Rq
def fX7_nextToken_j25  (k0 : Int32) (mem : ZM) : Option (ZM) :=
  zlet (zst mem 58 11 k0) (fun m2 => zlet (zst m2 58 12 (0 : Int32)) (fun m3 => Option.bind (fX7_nextToken_l33 (m3)) (fun r4 => fX7_nextToken_j119  r4)))
set_option maxRecDepth 100000 in
set_option maxHeartbeats 4000000 in
theorem jX7_nextToken_25 {l : Launch} {E : ZE} {Γ : ZG} (C : zC E Γ RX7 cX7_nextToken 1 1)  {k0 : Int32}  {mem : ZM}  {t : ZM}  (Rq : zRq E Γ none none t) (h : fX7_nextToken_j25  k0 mem = some t) : zG l E Γ 1 25 [(0, .ref (E.2.1 58))] [.int k0, .ref (E.2.1 58)] mem := by
  unfold fX7_nextToken_j25 at h
  refine zp7_11 C dX7_nextToken_25 zw375 h (fun m2 h => ?_)
  refine z_aload_n C dX7_nextToken_28 rfl (j := 0) rfl ?_
  refine z_iconst (v := 0) C dX7_nextToken_29 zc0 ?_
  refine zp7_12 C dX7_nextToken_30 zw380 h (fun m3 h => ?_)
  obtain ⟨r4, h4, h⟩ := Option.bind_eq_some_iff.mp h
  refine z_pick [0] rfl ?_
  refine lX7_nextToken_33 C  h4 ?_
  refine z_pick [0] rfl ?_
  exact jX7_nextToken_119 C   Rq h
def fX7_nextToken   (mem : ZM) : Option (ZM) :=
  zlet (zst mem 58 13 (mem 58 10)) (fun m1 => if (m1 58 10) = (m1 58 8) then (fX7_nextToken_j25  (3 : Int32) m1) else (fX7_nextToken_j25  (0 : Int32) m1))
set_option maxRecDepth 100000 in
set_option maxHeartbeats 4000000 in
theorem sX7_nextToken {l : Launch} {E : ZE}   {mem : ZM} {t : ZM} (h : fX7_nextToken mem = some t) : zMet l E yX7_nextToken cX7_nextToken 1 none 1 [.ref (E.2.1 58)] mem none t := by
  refine z_enter (by decide) (Nat.le_of_ble_eq_true rfl) (fun Γ C Rq => ?_)
  have C : zC E Γ RX7 cX7_nextToken 1 1 := C
  show zG l E Γ 1 0 [(0, .ref (E.2.1 58))] [] mem
  unfold fX7_nextToken at h
  refine z_aload_n C dX7_nextToken_0 rfl (j := 0) rfl ?_
  refine z_aload_n C dX7_nextToken_1 rfl (j := 0) rfl ?_
  refine zg7_10 C dX7_nextToken_2 zw374 ?_
  refine zp7_13 C dX7_nextToken_5 zw367 h (fun m1 h => ?_)
  refine z_aload_n C dX7_nextToken_8 rfl (j := 0) rfl ?_
  refine z_aload_n C dX7_nextToken_9 rfl (j := 0) rfl ?_
  refine zg7_10 C dX7_nextToken_10 zw374 ?_
  refine z_aload_n C dX7_nextToken_13 rfl (j := 0) rfl ?_
  refine zg7_8 C dX7_nextToken_14 zw224 ?_
  refine z_icmp_ne 24 C dX7_nextToken_17 (by decide) h (fun h => ?_) (fun h => ?_)
  · refine z_iconst (v := 0) C dX7_nextToken_24 zc0 ?_
    refine z_pick [0] rfl ?_
    exact jX7_nextToken_25 C   Rq h
  · refine z_iconst (v := 3) C dX7_nextToken_20 zc3 ?_
    refine z_goto 25 C dX7_nextToken_21 (by decide) ?_
    refine z_pick [0] rfl ?_
    exact jX7_nextToken_25 C   Rq h
-- X7_faults
def fX7_faults  (a1 : Int32) (mem : ZM) : Option (Int32 × ZM) :=
  zlet (zst mem 58 14 a1) (fun m1 => some ((0 : Int32), m1))
set_option maxRecDepth 100000 in
set_option maxHeartbeats 4000000 in
theorem sX7_faults {l : Launch} {E : ZE}  {a1 : Int32} {mem : ZM} {t : Int32 × ZM} (h : fX7_faults a1 mem = some t) : zMet l E yX7_faults cX7_faults 2 (some .boolean) 0 [.ref (E.2.1 58), .int a1] mem (some (.int t.1)) t.2 := by
  refine z_enter (by decide) (Nat.le_of_ble_eq_true rfl) (fun Γ C Rq => ?_)
  have C : zC E Γ RX7 cX7_faults 2 0 := C
  show zG l E Γ 2 0 [(0, .ref (E.2.1 58)), (1, .int a1)] [] mem
  unfold fX7_faults at h
  refine z_aload_n C dX7_faults_0 rfl (j := 0) rfl ?_
  refine z_iload_n C dX7_faults_1 rfl (j := 1) rfl ?_
  refine zp7_14 C dX7_faults_2 zw364 h (fun m1 h => ?_)
  refine z_iconst (v := 0) C dX7_faults_5 zc0 ?_
  have e := Option.some.inj h; subst e; exact z_zret C dX7_faults_6 zbl0 Rq
-- X7_takes
def fX7_takes_j16   (mem : ZM) : Option (Int32 × ZM) :=
  Option.bind (fX7_faults (1 : Int32) mem) (fun r1 => zgd (zbl r1.1) (some (r1.1, r1.2)))
set_option maxRecDepth 100000 in
set_option maxHeartbeats 4000000 in
theorem jX7_takes_16 {l : Launch} {E : ZE} {Γ : ZG} (C : zC E Γ RX7 cX7_takes 2 2)    {mem : ZM}  {t : Int32 × ZM}  (Rq : zRq E Γ (some .boolean) (some (.int t.1)) t.2) (h : fX7_takes_j16  mem = some t) : zG l E Γ 2 16 [(0, .ref (E.2.1 58))] [] mem := by
  unfold fX7_takes_j16 at h
  refine z_aload_n C dX7_takes_16 rfl (j := 0) rfl ?_
  refine z_iconst (v := 1) C dX7_takes_17 zc1 ?_
  obtain ⟨r1, h1, h⟩ := Option.bind_eq_some_iff.mp h
  refine z_callVi [.int (1 : Int32)] [] C dX7_takes_18 (by decide) zen_58 rfl zk_X7_108 zw390 zw391 ⟨⟨by decide, by decide⟩, rfl, Nat.le_of_ble_eq_true rfl⟩ rfl (sX7_faults  h1) ?_
  obtain ⟨hg, h⟩ := zgd_some h
  have e := Option.some.inj h; subst e; exact z_zret C dX7_takes_21 hg Rq
def fX7_takes  (a1 : Int32) (mem : ZM) : Option (Int32 × ZM) :=
  if (mem 58 11) = (1 : Int32) then (if (mem 58 12) = a1 then (Option.bind (fX7_nextToken mem) (fun r2 => some ((1 : Int32), r2))) else (fX7_takes_j16  mem)) else (fX7_takes_j16  mem)
set_option maxRecDepth 100000 in
set_option maxHeartbeats 4000000 in
theorem sX7_takes {l : Launch} {E : ZE}  {a1 : Int32} {mem : ZM} {t : Int32 × ZM} (h : fX7_takes a1 mem = some t) : zMet l E yX7_takes cX7_takes 2 (some .boolean) 2 [.ref (E.2.1 58), .int a1] mem (some (.int t.1)) t.2 := by
  refine z_enter (by decide) (Nat.le_of_ble_eq_true rfl) (fun Γ C Rq => ?_)
  have C : zC E Γ RX7 cX7_takes 2 2 := C
  show zG l E Γ 2 0 [(0, .ref (E.2.1 58)), (1, .int a1)] [] mem
  unfold fX7_takes at h
  refine z_aload_n C dX7_takes_0 rfl (j := 0) rfl ?_
  refine zg7_11 C dX7_takes_1 zw375 ?_
  refine z_iconst (v := 1) C dX7_takes_4 zc1 ?_
  refine z_icmp_ne 16 C dX7_takes_5 (by decide) h (fun h => ?_) (fun h => ?_)
  · refine z_pick [0] rfl ?_
    exact jX7_takes_16 C   Rq h
  · refine z_aload_n C dX7_takes_8 rfl (j := 0) rfl ?_
    refine zg7_12 C dX7_takes_9 zw380 ?_
    refine z_iload_n C dX7_takes_12 rfl (j := 1) rfl ?_
    refine z_icmp_eq 22 C dX7_takes_13 (by decide) h (fun h => ?_) (fun h => ?_)
    · refine z_aload_n C dX7_takes_22 rfl (j := 0) rfl ?_
      obtain ⟨r2, h2, h⟩ := Option.bind_eq_some_iff.mp h
      refine z_callVv [] [] C dX7_takes_23 (by decide) zen_58 rfl zk_X7_111 zw377 zw378 ⟨⟨by decide, by decide⟩, rfl, Nat.le_of_ble_eq_true rfl⟩ rfl (sX7_nextToken  h2) ?_
      refine z_iconst (v := 1) C dX7_takes_26 zc1 ?_
      have e := Option.some.inj h; subst e; exact z_zret C dX7_takes_27 zbl1 Rq
    · refine z_pick [0] rfl ?_
      exact jX7_takes_16 C   Rq h
-- X7_takesNumber
def fX7_takesNumber_j37  (k0 : Int32) (mem : ZM) : Option (Int32 × ZM) :=
  Option.bind (fX7_faults k0 mem) (fun r1 => zgd (zbl r1.1) (some (r1.1, r1.2)))
set_option maxRecDepth 100000 in
set_option maxHeartbeats 4000000 in
theorem jX7_takesNumber_37 {l : Launch} {E : ZE} {Γ : ZG} (C : zC E Γ RX7 cX7_takesNumber 5 3)  {k0 : Int32}  {mem : ZM}  {t : Int32 × ZM}  (Rq : zRq E Γ (some .boolean) (some (.int t.1)) t.2) (h : fX7_takesNumber_j37  k0 mem = some t) : zG l E Γ 5 37 [] [.int k0, .ref (E.2.1 58)] mem := by
  unfold fX7_takesNumber_j37 at h
  obtain ⟨r1, h1, h⟩ := Option.bind_eq_some_iff.mp h
  refine z_callVi [.int k0] [] C dX7_takesNumber_37 (by decide) zen_58 rfl zk_X7_108 zw390 zw391 ⟨⟨by decide, by decide⟩, rfl, Nat.le_of_ble_eq_true rfl⟩ rfl (sX7_faults  h1) ?_
  obtain ⟨hg, h⟩ := zgd_some h
  have e := Option.some.inj h; subst e; exact z_zret C dX7_takesNumber_40 hg Rq
def fX7_takesNumber_j23   (mem : ZM) : Option (Int32 × ZM) :=
  if (mem 58 11) = (2 : Int32) then (fX7_takesNumber_j37  (2 : Int32) mem) else (fX7_takesNumber_j37  (1 : Int32) mem)
set_option maxRecDepth 100000 in
set_option maxHeartbeats 4000000 in
theorem jX7_takesNumber_23 {l : Launch} {E : ZE} {Γ : ZG} (C : zC E Γ RX7 cX7_takesNumber 5 3)    {mem : ZM}  {t : Int32 × ZM}  (Rq : zRq E Γ (some .boolean) (some (.int t.1)) t.2) (h : fX7_takesNumber_j23  mem = some t) : zG l E Γ 5 23 [(0, .ref (E.2.1 58))] [] mem := by
  unfold fX7_takesNumber_j23 at h
  refine z_aload_n C dX7_takesNumber_23 rfl (j := 0) rfl ?_
  refine z_aload_n C dX7_takesNumber_24 rfl (j := 0) rfl ?_
  refine zg7_11 C dX7_takesNumber_25 zw375 ?_
  refine z_iconst (v := 2) C dX7_takesNumber_28 zc2 ?_
  refine z_icmp_ne 36 C dX7_takesNumber_29 (by decide) h (fun h => ?_) (fun h => ?_)
  · refine z_iconst (v := 1) C dX7_takesNumber_36 zc1 ?_
    refine z_pick [] rfl ?_
    exact jX7_takesNumber_37 C   Rq h
  · refine z_iconst (v := 2) C dX7_takesNumber_32 zc2 ?_
    refine z_goto 37 C dX7_takesNumber_33 (by decide) ?_
    refine z_pick [] rfl ?_
    exact jX7_takesNumber_37 C   Rq h
def fX7_takesNumber  (a1 : Int32) (a2 : Int32) (a3 : Int32) (a4 : Int32) (mem : ZM) : Option (Int32 × ZM) :=
  if (mem 58 11) = (2 : Int32) then (Option.bind (fX7_in ((mem 58 12).toInt64) a1.toInt64 a2.toInt64) (fun r2 => if r2 = 0 then (fX7_takesNumber_j23  mem) else (zgd (zin a3 38) (zlet (zst mem 65 a3.toNatClampNeg (mem 58 12)) (fun m3 => Option.bind (fX7_nextToken m3) (fun r4 => Option.bind (fX7_takes a4 r4) (fun r5 => zgd (zbl r5.1) (some (r5.1, r5.2))))))))) else (fX7_takesNumber_j23  mem)
set_option maxRecDepth 100000 in
set_option maxHeartbeats 4000000 in
theorem sX7_takesNumber {l : Launch} {E : ZE}  {a1 : Int32} {a2 : Int32} {a3 : Int32} {a4 : Int32} {mem : ZM} {t : Int32 × ZM} (h : fX7_takesNumber a1 a2 a3 a4 mem = some t) : zMet l E yX7_takesNumber cX7_takesNumber 5 (some .boolean) 3 [.ref (E.2.1 58), .int a1, .int a2, .int a3, .int a4] mem (some (.int t.1)) t.2 := by
  refine z_enter (by decide) (Nat.le_of_ble_eq_true rfl) (fun Γ C Rq => ?_)
  have C : zC E Γ RX7 cX7_takesNumber 5 3 := C
  show zG l E Γ 5 0 [(0, .ref (E.2.1 58)), (1, .int a1), (2, .int a2), (3, .int a3), (4, .int a4)] [] mem
  unfold fX7_takesNumber at h
  refine z_aload_n C dX7_takesNumber_0 rfl (j := 0) rfl ?_
  refine zg7_11 C dX7_takesNumber_1 zw375 ?_
  refine z_iconst (v := 2) C dX7_takesNumber_4 zc2 ?_
  refine z_icmp_ne 23 C dX7_takesNumber_5 (by decide) h (fun h => ?_) (fun h => ?_)
  · refine z_pick [0] rfl ?_
    exact jX7_takesNumber_23 C   Rq h
  · refine z_aload_n C dX7_takesNumber_8 rfl (j := 0) rfl ?_
    refine zg7_12 C dX7_takesNumber_9 zw380 ?_
    refine z_i2l C dX7_takesNumber_12 ?_
    refine z_iload_n C dX7_takesNumber_13 rfl (j := 1) rfl ?_
    refine z_i2l C dX7_takesNumber_14 ?_
    refine z_iload_n C dX7_takesNumber_15 rfl (j := 2) rfl ?_
    refine z_i2l C dX7_takesNumber_16 ?_
    obtain ⟨r2, h2, h⟩ := Option.bind_eq_some_iff.mp h
    refine z_callSi [.long ((mem 58 12).toInt64), .long a1.toInt64, .long a2.toInt64] [] C dX7_takesNumber_17 zk_X7_57 zw147 ⟨⟨by decide, by decide⟩, rfl, Nat.le_of_ble_eq_true rfl⟩ rfl (sX7_in  h2) ?_
    refine z_if_ne 41 C dX7_takesNumber_20 (by decide) h (fun h => ?_) (fun h => ?_)
    · refine z_aload_n C dX7_takesNumber_41 rfl (j := 0) rfl ?_
      refine zg7_15 C dX7_takesNumber_42 zw104 ?_
      refine z_iload_n C dX7_takesNumber_45 rfl (j := 3) rfl ?_
      refine z_aload_n C dX7_takesNumber_46 rfl (j := 0) rfl ?_
      refine zg7_12 C dX7_takesNumber_47 zw380 ?_
      refine z_iast C dX7_takesNumber_50 zar65 h (fun m3 h => ?_)
      refine z_aload_n C dX7_takesNumber_51 rfl (j := 0) rfl ?_
      obtain ⟨r4, h4, h⟩ := Option.bind_eq_some_iff.mp h
      refine z_callVv [] [] C dX7_takesNumber_52 (by decide) zen_58 rfl zk_X7_111 zw377 zw378 ⟨⟨by decide, by decide⟩, rfl, Nat.le_of_ble_eq_true rfl⟩ rfl (sX7_nextToken  h4) ?_
      refine z_aload_n C dX7_takesNumber_55 rfl (j := 0) rfl ?_
      refine z_iload C dX7_takesNumber_56 (j := 4) rfl ?_
      obtain ⟨r5, h5, h⟩ := Option.bind_eq_some_iff.mp h
      refine z_callVi [.int a4] [] C dX7_takesNumber_58 (by decide) zen_58 rfl zk_X7_114 zw386 zw387 ⟨⟨by decide, by decide⟩, rfl, Nat.le_of_ble_eq_true rfl⟩ rfl (sX7_takes  h5) ?_
      obtain ⟨hg, h⟩ := zgd_some h
      have e := Option.some.inj h; subst e; exact z_zret C dX7_takesNumber_61 hg Rq
    · refine z_pick [0] rfl ?_
      exact jX7_takesNumber_23 C   Rq h
-- X7_kindBy
def fX7_kindBy  (a0 : Int32) : Option (Int32) :=
  if a0 = (115 : Int32) then (some (1 : Int32)) else (if a0 = (103 : Int32) then (some (2 : Int32)) else (if a0 = (108 : Int32) then (some (3 : Int32)) else (if a0 = (100 : Int32) then (some (4 : Int32)) else (if a0 = (105 : Int32) then (some (5 : Int32)) else (some (0 : Int32))))))
set_option maxRecDepth 100000 in
set_option maxHeartbeats 4000000 in
theorem sX7_kindBy {l : Launch} {E : ZE}  {a0 : Int32} {mem : ZM} {t : Int32} (h : fX7_kindBy a0 = some t) : zMet l E yX7_kindBy cX7_kindBy 1 (some .int) 0 [.int a0] mem (some (.int t)) mem := by
  refine z_enter (by decide) (Nat.le_of_ble_eq_true rfl) (fun Γ C Rq => ?_)
  have C : zC E Γ RX7 cX7_kindBy 1 0 := C
  show zG l E Γ 1 0 [(0, .int a0)] [] mem
  unfold fX7_kindBy at h
  refine z_iload_n C dX7_kindBy_0 rfl (j := 0) rfl ?_
  refine z_bipush (v := 115) C dX7_kindBy_1 zb115 ?_
  refine z_icmp_ne 10 C dX7_kindBy_3 (by decide) h (fun h => ?_) (fun h => ?_)
  · refine z_iload_n C dX7_kindBy_10 rfl (j := 0) rfl ?_
    refine z_bipush (v := 103) C dX7_kindBy_11 zb103 ?_
    refine z_icmp_ne 20 C dX7_kindBy_13 (by decide) h (fun h => ?_) (fun h => ?_)
    · refine z_iload_n C dX7_kindBy_20 rfl (j := 0) rfl ?_
      refine z_bipush (v := 108) C dX7_kindBy_21 zb108 ?_
      refine z_icmp_ne 30 C dX7_kindBy_23 (by decide) h (fun h => ?_) (fun h => ?_)
      · refine z_iload_n C dX7_kindBy_30 rfl (j := 0) rfl ?_
        refine z_bipush (v := 100) C dX7_kindBy_31 zb100 ?_
        refine z_icmp_ne 40 C dX7_kindBy_33 (by decide) h (fun h => ?_) (fun h => ?_)
        · refine z_iload_n C dX7_kindBy_40 rfl (j := 0) rfl ?_
          refine z_bipush (v := 105) C dX7_kindBy_41 zb105 ?_
          refine z_icmp_ne 50 C dX7_kindBy_43 (by decide) h (fun h => ?_) (fun h => ?_)
          · refine z_iconst (v := 0) C dX7_kindBy_50 zc0 ?_
            have e := Option.some.inj h; subst e; exact z_iret C dX7_kindBy_51 Rq
          · refine z_iconst (v := 5) C dX7_kindBy_46 zc5 ?_
            refine z_goto 51 C dX7_kindBy_47 (by decide) ?_
            have e := Option.some.inj h; subst e; exact z_iret C dX7_kindBy_51 Rq
        · refine z_iconst (v := 4) C dX7_kindBy_36 zc4 ?_
          refine z_goto 51 C dX7_kindBy_37 (by decide) ?_
          have e := Option.some.inj h; subst e; exact z_iret C dX7_kindBy_51 Rq
      · refine z_iconst (v := 3) C dX7_kindBy_26 zc3 ?_
        refine z_goto 51 C dX7_kindBy_27 (by decide) ?_
        have e := Option.some.inj h; subst e; exact z_iret C dX7_kindBy_51 Rq
    · refine z_iconst (v := 2) C dX7_kindBy_16 zc2 ?_
      refine z_goto 51 C dX7_kindBy_17 (by decide) ?_
      have e := Option.some.inj h; subst e; exact z_iret C dX7_kindBy_51 Rq
  · refine z_iconst (v := 1) C dX7_kindBy_6 zc1 ?_
    refine z_goto 51 C dX7_kindBy_7 (by decide) ?_
    have e := Option.some.inj h; subst e; exact z_iret C dX7_kindBy_51 Rq
-- X7_readThing
def fX7_readThing_j47  (k0 : Int32) (mem : ZM) : Option (Int32 × ZM) :=
  Option.bind (fX7_faults k0 mem) (fun r3 => zgd (zbl r3.1) (some (r3.1, r3.2)))
set_option maxRecDepth 100000 in
set_option maxHeartbeats 4000000 in
theorem jX7_readThing_47 {l : Launch} {E : ZE} {Γ : ZG} (C : zC E Γ RX7 cX7_readThing 3 4)  {k0 : Int32}  {mem : ZM}  {t : Int32 × ZM}  (Rq : zRq E Γ (some .boolean) (some (.int t.1)) t.2) (h : fX7_readThing_j47  k0 mem = some t) : zG l E Γ 3 47 [] [.int k0, .ref (E.2.1 58)] mem := by
  unfold fX7_readThing_j47 at h
  obtain ⟨r3, h3, h⟩ := Option.bind_eq_some_iff.mp h
  refine z_callVi [.int k0] [] C dX7_readThing_47 (by decide) zen_58 rfl zk_X7_108 zw390 zw391 ⟨⟨by decide, by decide⟩, rfl, Nat.le_of_ble_eq_true rfl⟩ rfl (sX7_faults  h3) ?_
  obtain ⟨hg, h⟩ := zgd_some h
  have e := Option.some.inj h; subst e; exact z_zret C dX7_readThing_50 hg Rq
def fX7_readThing_j37  (x2 : Int32) (mem : ZM) : Option (Int32 × ZM) :=
  if x2 = 0 then (fX7_readThing_j47  (1 : Int32) mem) else (fX7_readThing_j47  (3 : Int32) mem)
set_option maxRecDepth 100000 in
set_option maxHeartbeats 4000000 in
theorem jX7_readThing_37 {l : Launch} {E : ZE} {Γ : ZG} (C : zC E Γ RX7 cX7_readThing 3 4)  {x2 : Int32}  {mem : ZM}  {t : Int32 × ZM}  (Rq : zRq E Γ (some .boolean) (some (.int t.1)) t.2) (h : fX7_readThing_j37  x2 mem = some t) : zG l E Γ 3 37 [(0, .ref (E.2.1 58)), (2, .int x2)] [] mem := by
  unfold fX7_readThing_j37 at h
  refine z_aload_n C dX7_readThing_37 rfl (j := 0) rfl ?_
  refine z_iload_n C dX7_readThing_38 rfl (j := 1) rfl ?_
  refine z_if_ne 46 C dX7_readThing_39 (by decide) h (fun h => ?_) (fun h => ?_)
  · refine z_iconst (v := 3) C dX7_readThing_46 zc3 ?_
    refine z_pick [] rfl ?_
    exact jX7_readThing_47 C   Rq h
  · refine z_iconst (v := 1) C dX7_readThing_42 zc1 ?_
    refine z_goto 47 C dX7_readThing_43 (by decide) ?_
    refine z_pick [] rfl ?_
    exact jX7_readThing_47 C   Rq h
def fX7_readThing_j26  (x1 : Int32) (k0 : Int32) (mem : ZM) : Option (Int32 × ZM) :=
  zlet k0 (fun v2 => if v2 = 0 then (fX7_readThing_j37  v2 mem) else (if x1 = (8 : Int32) then (fX7_readThing_j37  v2 mem) else (Option.bind (fX7_nextToken mem) (fun r4 => zgd (zin ((6 : Int32) + x1) 38) (zlet (zst r4 65 ((6 : Int32) + x1).toNatClampNeg v2) (fun m5 => zgd (zin ((30 : Int32) + x1) 38) (zlet (zst m5 65 ((30 : Int32) + x1).toNatClampNeg x1) (fun m6 => zgd (zin (0 : Int32) 38) (zgd (zin (0 : Int32) 38) (zlet (zst m6 65 (0 : Int32).toNatClampNeg ((m6 65 (0 : Int32).toNatClampNeg) + (1 : Int32))) (fun m7 => Option.bind (fX7_takesNumber (1 : Int32) (30 : Int32) ((14 : Int32) + x1) (44 : Int32) m7) (fun r8 => if r8.1 = 0 then (some ((0 : Int32), r8.2)) else (Option.bind (fX7_takesNumber (0 : Int32) (20 : Int32) ((22 : Int32) + x1) (59 : Int32) r8.2) (fun r9 => if r9.1 = 0 then (some ((0 : Int32), r9.2)) else (some ((1 : Int32), r9.2))))))))))))))))
set_option maxRecDepth 100000 in
set_option maxHeartbeats 4000000 in
theorem jX7_readThing_26 {l : Launch} {E : ZE} {Γ : ZG} (C : zC E Γ RX7 cX7_readThing 3 4)  {x1 : Int32} {k0 : Int32}  {mem : ZM}  {t : Int32 × ZM}  (Rq : zRq E Γ (some .boolean) (some (.int t.1)) t.2) (h : fX7_readThing_j26  x1 k0 mem = some t) : zG l E Γ 3 26 [(0, .ref (E.2.1 58)), (1, .int x1)] [.int k0] mem := by
  unfold fX7_readThing_j26 at h
  refine z_istore_n [(0, .ref (E.2.1 58)), (1, .int x1)] C dX7_readThing_26 h rfl (by decide) rfl (fun v2 h => ?_)
  refine z_iload_n C dX7_readThing_27 rfl (j := 0) rfl ?_
  refine z_if_eq 37 C dX7_readThing_28 (by decide) h (fun h => ?_) (fun h => ?_)
  · refine z_pick [1, 0] rfl ?_
    exact jX7_readThing_37 C   Rq h
  · refine z_iload_n C dX7_readThing_31 rfl (j := 2) rfl ?_
    refine z_bipush (v := 8) C dX7_readThing_32 zb8 ?_
    refine z_icmp_ne 51 C dX7_readThing_34 (by decide) h (fun h => ?_) (fun h => ?_)
    · refine z_aload_n C dX7_readThing_51 rfl (j := 1) rfl ?_
      obtain ⟨r4, h4, h⟩ := Option.bind_eq_some_iff.mp h
      refine z_callVv [] [] C dX7_readThing_52 (by decide) zen_58 rfl zk_X7_111 zw377 zw378 ⟨⟨by decide, by decide⟩, rfl, Nat.le_of_ble_eq_true rfl⟩ rfl (sX7_nextToken  h4) ?_
      refine z_aload_n C dX7_readThing_55 rfl (j := 1) rfl ?_
      refine zg7_15 C dX7_readThing_56 zw104 ?_
      refine z_bipush (v := 6) C dX7_readThing_59 zb6 ?_
      refine z_iload_n C dX7_readThing_61 rfl (j := 2) rfl ?_
      refine z_iadd C dX7_readThing_62 ?_
      refine z_iload_n C dX7_readThing_63 rfl (j := 0) rfl ?_
      refine z_iast C dX7_readThing_64 zar65 h (fun m5 h => ?_)
      refine z_aload_n C dX7_readThing_65 rfl (j := 1) rfl ?_
      refine zg7_15 C dX7_readThing_66 zw104 ?_
      refine z_bipush (v := 30) C dX7_readThing_69 zb30 ?_
      refine z_iload_n C dX7_readThing_71 rfl (j := 2) rfl ?_
      refine z_iadd C dX7_readThing_72 ?_
      refine z_iload_n C dX7_readThing_73 rfl (j := 2) rfl ?_
      refine z_iast C dX7_readThing_74 zar65 h (fun m6 h => ?_)
      refine z_aload_n C dX7_readThing_75 rfl (j := 1) rfl ?_
      refine zg7_15 C dX7_readThing_76 zw104 ?_
      refine z_iconst (v := 0) C dX7_readThing_79 zc0 ?_
      refine z_dup2 C dX7_readThing_80 rfl rfl ?_
      refine z_iald C dX7_readThing_81 zar65 h (fun h => ?_)
      refine z_iconst (v := 1) C dX7_readThing_82 zc1 ?_
      refine z_iadd C dX7_readThing_83 ?_
      refine z_iast C dX7_readThing_84 zar65 h (fun m7 h => ?_)
      refine z_aload_n C dX7_readThing_85 rfl (j := 1) rfl ?_
      refine z_iconst (v := 1) C dX7_readThing_86 zc1 ?_
      refine z_bipush (v := 30) C dX7_readThing_87 zb30 ?_
      refine z_bipush (v := 14) C dX7_readThing_89 zb14 ?_
      refine z_iload_n C dX7_readThing_91 rfl (j := 2) rfl ?_
      refine z_iadd C dX7_readThing_92 ?_
      refine z_bipush (v := 44) C dX7_readThing_93 zb44 ?_
      obtain ⟨r8, h8, h⟩ := Option.bind_eq_some_iff.mp h
      refine z_callVi [.int (1 : Int32), .int (30 : Int32), .int ((14 : Int32) + x1), .int (44 : Int32)] [] C dX7_readThing_95 (by decide) zen_58 rfl zk_X7_120 zw394 zw395 ⟨⟨by decide, by decide⟩, rfl, Nat.le_of_ble_eq_true rfl⟩ rfl (sX7_takesNumber  h8) ?_
      refine z_if_eq 121 C dX7_readThing_98 (by decide) h (fun h => ?_) (fun h => ?_)
      · refine z_iconst (v := 0) C dX7_readThing_121 zc0 ?_
        have e := Option.some.inj h; subst e; exact z_zret C dX7_readThing_122 zbl0 Rq
      · refine z_aload_n C dX7_readThing_101 rfl (j := 1) rfl ?_
        refine z_iconst (v := 0) C dX7_readThing_102 zc0 ?_
        refine z_bipush (v := 20) C dX7_readThing_103 zb20 ?_
        refine z_bipush (v := 22) C dX7_readThing_105 zb22 ?_
        refine z_iload_n C dX7_readThing_107 rfl (j := 2) rfl ?_
        refine z_iadd C dX7_readThing_108 ?_
        refine z_bipush (v := 59) C dX7_readThing_109 zb59 ?_
        obtain ⟨r9, h9, h⟩ := Option.bind_eq_some_iff.mp h
        refine z_callVi [.int (0 : Int32), .int (20 : Int32), .int ((22 : Int32) + x1), .int (59 : Int32)] [] C dX7_readThing_111 (by decide) zen_58 rfl zk_X7_120 zw394 zw395 ⟨⟨by decide, by decide⟩, rfl, Nat.le_of_ble_eq_true rfl⟩ rfl (sX7_takesNumber  h9) ?_
        refine z_if_eq 121 C dX7_readThing_114 (by decide) h (fun h => ?_) (fun h => ?_)
        · refine z_iconst (v := 0) C dX7_readThing_121 zc0 ?_
          have e := Option.some.inj h; subst e; exact z_zret C dX7_readThing_122 zbl0 Rq
        · refine z_iconst (v := 1) C dX7_readThing_117 zc1 ?_
          refine z_goto 122 C dX7_readThing_118 (by decide) ?_
          have e := Option.some.inj h; subst e; exact z_zret C dX7_readThing_122 zbl1 Rq
    · refine z_pick [1, 0] rfl ?_
      exact jX7_readThing_37 C   Rq h
def fX7_readThing   (mem : ZM) : Option (Int32 × ZM) :=
  zgd (zin (0 : Int32) 38) (zlet (mem 65 (0 : Int32).toNatClampNeg) (fun v1 => if (mem 58 11) = (1 : Int32) then (Option.bind (fX7_kindBy (mem 58 12)) (fun r10 => fX7_readThing_j26  v1 r10 mem)) else (fX7_readThing_j26  v1 (0 : Int32) mem)))
set_option maxRecDepth 100000 in
set_option maxHeartbeats 4000000 in
theorem sX7_readThing {l : Launch} {E : ZE}   {mem : ZM} {t : Int32 × ZM} (h : fX7_readThing mem = some t) : zMet l E yX7_readThing cX7_readThing 3 (some .boolean) 4 [.ref (E.2.1 58)] mem (some (.int t.1)) t.2 := by
  refine z_enter (by decide) (Nat.le_of_ble_eq_true rfl) (fun Γ C Rq => ?_)
  have C : zC E Γ RX7 cX7_readThing 3 4 := C
  show zG l E Γ 3 0 [(0, .ref (E.2.1 58))] [] mem
  unfold fX7_readThing at h
  refine z_aload_n C dX7_readThing_0 rfl (j := 0) rfl ?_
  refine zg7_15 C dX7_readThing_1 zw104 ?_
  refine z_iconst (v := 0) C dX7_readThing_4 zc0 ?_
  refine z_iald C dX7_readThing_5 zar65 h (fun h => ?_)
  refine z_istore_n [(0, .ref (E.2.1 58))] C dX7_readThing_6 h rfl (by decide) rfl (fun v1 h => ?_)
  refine z_aload_n C dX7_readThing_7 rfl (j := 1) rfl ?_
  refine zg7_11 C dX7_readThing_8 zw375 ?_
  refine z_iconst (v := 1) C dX7_readThing_11 zc1 ?_
  refine z_icmp_ne 25 C dX7_readThing_12 (by decide) h (fun h => ?_) (fun h => ?_)
  · refine z_iconst (v := 0) C dX7_readThing_25 zc0 ?_
    refine z_pick [1, 0] rfl ?_
    exact jX7_readThing_26 C   Rq h
  · refine z_aload_n C dX7_readThing_15 rfl (j := 1) rfl ?_
    refine zg7_12 C dX7_readThing_16 zw380 ?_
    obtain ⟨r10, h10, h⟩ := Option.bind_eq_some_iff.mp h
    refine z_callSi [.int (mem 58 12)] [] C dX7_readThing_19 zk_X7_117 zw402 ⟨⟨by decide, by decide⟩, rfl, Nat.le_of_ble_eq_true rfl⟩ rfl (sX7_kindBy  h10) ?_
    refine z_goto 26 C dX7_readThing_22 (by decide) ?_
    refine z_pick [1, 0] rfl ?_
    exact jX7_readThing_26 C   Rq h
-- X7_readHeap
def fX7_readHeap_b7   (x7_1 : Int32) (memb : ZM) : Option ((Int32 × ZM) ⊕ (Int32 × ZM)) :=
  if (38 : Int32) ≤ x7_1 then (some (Sum.inr (x7_1, memb))) else (zgd (zin x7_1 38) (zlet (zst memb 65 x7_1.toNatClampNeg (0 : Int32)) (fun m4 => zlet (x7_1 + (1 : Int32)) (fun v5 => some (Sum.inl (v5, m4))))))
def fX7_readHeap_l7   (s : Int32 × ZM) : Option (Int32 × ZM) := ziter (fun s => fX7_readHeap_b7  s.1 s.2) 2000 s
set_option maxRecDepth 100000 in
set_option maxHeartbeats 4000000 in
theorem bX7_readHeap_7 {l : Launch} {E : ZE} {Γ : ZG} (C : zC E Γ RX7 cX7_readHeap 2 5)   {x7_1 : Int32} {memb : ZM} {u : (Int32 × ZM) ⊕ (Int32 × ZM)} (G1 : ∀ s', u = Sum.inl s' → zG l E Γ 2 7 [(0, .ref (E.2.1 58)), (1, .int (s'.1))] [] s'.2) (G2 : ∀ s', u = Sum.inr s' → zG l E Γ 2 26 [(0, .ref (E.2.1 58))] [] s'.2) (h : fX7_readHeap_b7  x7_1 memb = some u) : zG l E Γ 2 7 [(0, .ref (E.2.1 58)), (1, .int x7_1)] [] memb := by
  unfold fX7_readHeap_b7 at h
  refine z_iload_n C dX7_readHeap_7 rfl (j := 1) rfl ?_
  refine z_bipush (v := 38) C dX7_readHeap_8 zb38 ?_
  refine z_icmp_ge 26 C dX7_readHeap_10 (by decide) h (fun h => ?_) (fun h => ?_)
  · refine z_pick [0] rfl ?_
    exact G2 _ (Option.some.inj h).symm
  · refine z_aload_n C dX7_readHeap_13 rfl (j := 0) rfl ?_
    refine zg7_15 C dX7_readHeap_14 zw104 ?_
    refine z_iload_n C dX7_readHeap_17 rfl (j := 1) rfl ?_
    refine z_iconst (v := 0) C dX7_readHeap_18 zc0 ?_
    refine z_iast C dX7_readHeap_19 zar65 h (fun m4 h => ?_)
    refine z_iinc [(0, .ref (E.2.1 58))] C dX7_readHeap_20 zc1 h (j := 1) rfl (by decide) rfl (fun v5 h => ?_)
    refine z_goto 7 C dX7_readHeap_23 (by decide) ?_
    refine z_pick [1, 0] rfl ?_
    exact G1 _ (Option.some.inj h).symm
theorem lX7_readHeap_7 {l : Launch} {E : ZE} {Γ : ZG} (C : zC E Γ RX7 cX7_readHeap 2 5)   {s : Int32 × ZM} {r : Int32 × ZM} (h : fX7_readHeap_l7  s = some r) (K1 : zG l E Γ 2 26 [(0, .ref (E.2.1 58))] [] r.2) : zG l E Γ 2 7 [(0, .ref (E.2.1 58)), (1, .int s.1)] [] s.2 :=
  z_loop (body := fun s => fX7_readHeap_b7  s.1 s.2) (fun s => zG l E Γ 2 7 [(0, .ref (E.2.1 58)), (1, .int s.1)] [] s.2) (fun r => zG l E Γ 2 26 [(0, .ref (E.2.1 58))] [] r.2) (fun s u hb g1 g2 => bX7_readHeap_7 C  g1 g2 hb) 2000 s r h K1
def fX7_readHeap_j76   (mem : ZM) : Option ((Int32 × ZM) ⊕ (Int32 × ZM)) :=
  Option.bind (fX7_readThing mem) (fun r11 => zlet r11.1 (fun v12 => some (Sum.inl (v12, r11.2))))
set_option maxRecDepth 100000 in
set_option maxHeartbeats 4000000 in
theorem jX7_readHeap_76 {l : Launch} {E : ZE} {Γ : ZG} (C : zC E Γ RX7 cX7_readHeap 2 5)    {mem : ZM}  {u : (Int32 × ZM) ⊕ (Int32 × ZM)}  (G1 : ∀ s', u = Sum.inl s' → zG l E Γ 2 55 [(0, .ref (E.2.1 58)), (1, .int (s'.1))] [] s'.2) (G2 : ∀ s', u = Sum.inr s' → zG l E Γ 2 84 [(1, .int (s'.1))] [] s'.2) (h : fX7_readHeap_j76  mem = some u) : zG l E Γ 2 76 [(0, .ref (E.2.1 58))] [] mem := by
  unfold fX7_readHeap_j76 at h
  refine z_aload_n C dX7_readHeap_76 rfl (j := 0) rfl ?_
  obtain ⟨r11, h11, h⟩ := Option.bind_eq_some_iff.mp h
  refine z_callVi [] [] C dX7_readHeap_77 (by decide) zen_58 rfl zk_X7_124 zw398 zw399 ⟨⟨by decide, by decide⟩, rfl, Nat.le_of_ble_eq_true rfl⟩ rfl (sX7_readThing  h11) ?_
  refine z_istore_n [(0, .ref (E.2.1 58))] C dX7_readHeap_80 h rfl (by decide) rfl (fun v12 h => ?_)
  refine z_goto 55 C dX7_readHeap_81 (by decide) ?_
  refine z_pick [1, 0] rfl ?_
  exact G1 _ (Option.some.inj h).symm
def fX7_readHeap_b55   (x55_1 : Int32) (memb : ZM) : Option ((Int32 × ZM) ⊕ (Int32 × ZM)) :=
  if x55_1 = 0 then (some (Sum.inr (x55_1, memb))) else (if (memb 58 11) = (3 : Int32) then (zgd (zin (0 : Int32) 38) (if (memb 65 (0 : Int32).toNatClampNeg) = 0 then (fX7_readHeap_j76  memb) else (some (Sum.inr (x55_1, memb))))) else (fX7_readHeap_j76  memb))
def fX7_readHeap_l55   (s : Int32 × ZM) : Option (Int32 × ZM) := ziter (fun s => fX7_readHeap_b55  s.1 s.2) 2000 s
set_option maxRecDepth 100000 in
set_option maxHeartbeats 4000000 in
theorem bX7_readHeap_55 {l : Launch} {E : ZE} {Γ : ZG} (C : zC E Γ RX7 cX7_readHeap 2 5)   {x55_1 : Int32} {memb : ZM} {u : (Int32 × ZM) ⊕ (Int32 × ZM)} (G1 : ∀ s', u = Sum.inl s' → zG l E Γ 2 55 [(0, .ref (E.2.1 58)), (1, .int (s'.1))] [] s'.2) (G2 : ∀ s', u = Sum.inr s' → zG l E Γ 2 84 [(1, .int (s'.1))] [] s'.2) (h : fX7_readHeap_b55  x55_1 memb = some u) : zG l E Γ 2 55 [(0, .ref (E.2.1 58)), (1, .int x55_1)] [] memb := by
  unfold fX7_readHeap_b55 at h
  refine z_iload_n C dX7_readHeap_55 rfl (j := 1) rfl ?_
  refine z_if_eq 84 C dX7_readHeap_56 (by decide) h (fun h => ?_) (fun h => ?_)
  · refine z_pick [1] rfl ?_
    exact G2 _ (Option.some.inj h).symm
  · refine z_aload_n C dX7_readHeap_59 rfl (j := 0) rfl ?_
    refine zg7_11 C dX7_readHeap_60 zw375 ?_
    refine z_iconst (v := 3) C dX7_readHeap_63 zc3 ?_
    refine z_icmp_ne 76 C dX7_readHeap_64 (by decide) h (fun h => ?_) (fun h => ?_)
    · refine z_pick [0] rfl ?_
      exact jX7_readHeap_76 C   G1 G2 h
    · refine z_aload_n C dX7_readHeap_67 rfl (j := 0) rfl ?_
      refine zg7_15 C dX7_readHeap_68 zw104 ?_
      refine z_iconst (v := 0) C dX7_readHeap_71 zc0 ?_
      refine z_iald C dX7_readHeap_72 zar65 h (fun h => ?_)
      refine z_if_ne 84 C dX7_readHeap_73 (by decide) h (fun h => ?_) (fun h => ?_)
      · refine z_pick [1] rfl ?_
        exact G2 _ (Option.some.inj h).symm
      · refine z_pick [0] rfl ?_
        exact jX7_readHeap_76 C   G1 G2 h
theorem lX7_readHeap_55 {l : Launch} {E : ZE} {Γ : ZG} (C : zC E Γ RX7 cX7_readHeap 2 5)   {s : Int32 × ZM} {r : Int32 × ZM} (h : fX7_readHeap_l55  s = some r) (K1 : zG l E Γ 2 84 [(1, .int r.1)] [] r.2) : zG l E Γ 2 55 [(0, .ref (E.2.1 58)), (1, .int s.1)] [] s.2 :=
  z_loop (body := fun s => fX7_readHeap_b55  s.1 s.2) (fun s => zG l E Γ 2 55 [(0, .ref (E.2.1 58)), (1, .int s.1)] [] s.2) (fun r => zG l E Γ 2 84 [(1, .int r.1)] [] r.2) (fun s u hb g1 g2 => bX7_readHeap_55 C  g1 g2 hb) 2000 s r h K1
def fX7_readHeap   (mem : ZM) : Option (Int32 × ZM) :=
  zlet (zst mem 58 10 (0 : Int32)) (fun m1 => zlet (0 : Int32) (fun v2 => Option.bind (fX7_readHeap_l7 (v2, m1)) (fun r3 => Option.bind (fX7_nextToken r3.2) (fun r6 => Option.bind (fX7_takes (98 : Int32) r6) (fun r7 => if r7.1 = 0 then (some ((0 : Int32), r7.2)) else (Option.bind (fX7_takesNumber (0 : Int32) (1 : Int32) (2 : Int32) (59 : Int32) r7.2) (fun r8 => if r8.1 = 0 then (some ((0 : Int32), r8.2)) else (zlet (1 : Int32) (fun v9 => Option.bind (fX7_readHeap_l55 (v9, r8.2)) (fun r10 => zgd (zbl r10.1) (some (r10.1, r10.2))))))))))))
set_option maxRecDepth 100000 in
set_option maxHeartbeats 4000000 in
theorem sX7_readHeap {l : Launch} {E : ZE}   {mem : ZM} {t : Int32 × ZM} (h : fX7_readHeap mem = some t) : zMet l E yX7_readHeap cX7_readHeap 2 (some .boolean) 5 [.ref (E.2.1 58)] mem (some (.int t.1)) t.2 := by
  refine z_enter (by decide) (Nat.le_of_ble_eq_true rfl) (fun Γ C Rq => ?_)
  have C : zC E Γ RX7 cX7_readHeap 2 5 := C
  show zG l E Γ 2 0 [(0, .ref (E.2.1 58))] [] mem
  unfold fX7_readHeap at h
  refine z_aload_n C dX7_readHeap_0 rfl (j := 0) rfl ?_
  refine z_iconst (v := 0) C dX7_readHeap_1 zc0 ?_
  refine zp7_10 C dX7_readHeap_2 zw374 h (fun m1 h => ?_)
  refine z_iconst (v := 0) C dX7_readHeap_5 zc0 ?_
  refine z_istore_n [(0, .ref (E.2.1 58))] C dX7_readHeap_6 h rfl (by decide) rfl (fun v2 h => ?_)
  obtain ⟨r3, h3, h⟩ := Option.bind_eq_some_iff.mp h
  refine z_pick [1, 0] rfl ?_
  refine lX7_readHeap_7 C  h3 ?_
  refine z_aload_n C dX7_readHeap_26 rfl (j := 0) rfl ?_
  obtain ⟨r6, h6, h⟩ := Option.bind_eq_some_iff.mp h
  refine z_callVv [] [] C dX7_readHeap_27 (by decide) zen_58 rfl zk_X7_111 zw377 zw378 ⟨⟨by decide, by decide⟩, rfl, Nat.le_of_ble_eq_true rfl⟩ rfl (sX7_nextToken  h6) ?_
  refine z_aload_n C dX7_readHeap_30 rfl (j := 0) rfl ?_
  refine z_bipush (v := 98) C dX7_readHeap_31 zb98 ?_
  obtain ⟨r7, h7, h⟩ := Option.bind_eq_some_iff.mp h
  refine z_callVi [.int (98 : Int32)] [] C dX7_readHeap_33 (by decide) zen_58 rfl zk_X7_114 zw386 zw387 ⟨⟨by decide, by decide⟩, rfl, Nat.le_of_ble_eq_true rfl⟩ rfl (sX7_takes  h7) ?_
  refine z_if_eq 51 C dX7_readHeap_36 (by decide) h (fun h => ?_) (fun h => ?_)
  · refine z_iconst (v := 0) C dX7_readHeap_51 zc0 ?_
    have e := Option.some.inj h; subst e; exact z_zret C dX7_readHeap_52 zbl0 Rq
  · refine z_aload_n C dX7_readHeap_39 rfl (j := 0) rfl ?_
    refine z_iconst (v := 0) C dX7_readHeap_40 zc0 ?_
    refine z_iconst (v := 1) C dX7_readHeap_41 zc1 ?_
    refine z_iconst (v := 2) C dX7_readHeap_42 zc2 ?_
    refine z_bipush (v := 59) C dX7_readHeap_43 zb59 ?_
    obtain ⟨r8, h8, h⟩ := Option.bind_eq_some_iff.mp h
    refine z_callVi [.int (0 : Int32), .int (1 : Int32), .int (2 : Int32), .int (59 : Int32)] [] C dX7_readHeap_45 (by decide) zen_58 rfl zk_X7_120 zw394 zw395 ⟨⟨by decide, by decide⟩, rfl, Nat.le_of_ble_eq_true rfl⟩ rfl (sX7_takesNumber  h8) ?_
    refine z_if_ne 53 C dX7_readHeap_48 (by decide) h (fun h => ?_) (fun h => ?_)
    · refine z_iconst (v := 1) C dX7_readHeap_53 zc1 ?_
      refine z_istore_n [(0, .ref (E.2.1 58))] C dX7_readHeap_54 h rfl (by decide) rfl (fun v9 h => ?_)
      obtain ⟨r10, h10, h⟩ := Option.bind_eq_some_iff.mp h
      refine z_pick [1, 0] rfl ?_
      refine lX7_readHeap_55 C  h10 ?_
      refine z_iload_n C dX7_readHeap_84 rfl (j := 0) rfl ?_
      obtain ⟨hg, h⟩ := zgd_some h
      have e := Option.some.inj h; subst e; exact z_zret C dX7_readHeap_85 hg Rq
    · refine z_iconst (v := 0) C dX7_readHeap_51 zc0 ?_
      have e := Option.some.inj h; subst e; exact z_zret C dX7_readHeap_52 zbl0 Rq
-- X7_heap
def fX7_heap_b32   (x32_2 : Int32) (memb : ZM) : Option ((Int32 × ZM) ⊕ (Int32 × ZM)) :=
  if (38 : Int32) ≤ x32_2 then (some (Sum.inr (x32_2, memb))) else (zgd (zin x32_2 38) (zgd (zin x32_2 38) (zlet (zst memb 62 x32_2.toNatClampNeg (memb 65 x32_2.toNatClampNeg)) (fun m6 => zlet (x32_2 + (1 : Int32)) (fun v7 => some (Sum.inl (v7, m6)))))))
def fX7_heap_l32   (s : Int32 × ZM) : Option (Int32 × ZM) := ziter (fun s => fX7_heap_b32  s.1 s.2) 2000 s
set_option maxRecDepth 100000 in
set_option maxHeartbeats 4000000 in
theorem bX7_heap_32 {l : Launch} {E : ZE} {Γ : ZG} (C : zC E Γ RX7 cX7_heap 3 6)   {x32_2 : Int32} {memb : ZM} {u : (Int32 × ZM) ⊕ (Int32 × ZM)} (G1 : ∀ s', u = Sum.inl s' → zG l E Γ 3 32 [(0, .ref (E.2.1 58)), (2, .int (s'.1))] [] s'.2) (G2 : ∀ s', u = Sum.inr s' → zG l E Γ 3 56 [(0, .ref (E.2.1 58))] [] s'.2) (h : fX7_heap_b32  x32_2 memb = some u) : zG l E Γ 3 32 [(0, .ref (E.2.1 58)), (2, .int x32_2)] [] memb := by
  unfold fX7_heap_b32 at h
  refine z_iload_n C dX7_heap_32 rfl (j := 1) rfl ?_
  refine z_bipush (v := 38) C dX7_heap_33 zb38 ?_
  refine z_icmp_ge 56 C dX7_heap_35 (by decide) h (fun h => ?_) (fun h => ?_)
  · refine z_pick [0] rfl ?_
    exact G2 _ (Option.some.inj h).symm
  · refine z_aload_n C dX7_heap_38 rfl (j := 0) rfl ?_
    refine zg7_5 C dX7_heap_39 zw101 ?_
    refine z_iload_n C dX7_heap_42 rfl (j := 1) rfl ?_
    refine z_aload_n C dX7_heap_43 rfl (j := 0) rfl ?_
    refine zg7_15 C dX7_heap_44 zw104 ?_
    refine z_iload_n C dX7_heap_47 rfl (j := 1) rfl ?_
    refine z_iald C dX7_heap_48 zar65 h (fun h => ?_)
    refine z_iast C dX7_heap_49 zar62 h (fun m6 h => ?_)
    refine z_iinc [(0, .ref (E.2.1 58))] C dX7_heap_50 zc1 h (j := 1) rfl (by decide) rfl (fun v7 h => ?_)
    refine z_goto 32 C dX7_heap_53 (by decide) ?_
    refine z_pick [1, 0] rfl ?_
    exact G1 _ (Option.some.inj h).symm
theorem lX7_heap_32 {l : Launch} {E : ZE} {Γ : ZG} (C : zC E Γ RX7 cX7_heap 3 6)   {s : Int32 × ZM} {r : Int32 × ZM} (h : fX7_heap_l32  s = some r) (K1 : zG l E Γ 3 56 [(0, .ref (E.2.1 58))] [] r.2) : zG l E Γ 3 32 [(0, .ref (E.2.1 58)), (2, .int s.1)] [] s.2 :=
  z_loop (body := fun s => fX7_heap_b32  s.1 s.2) (fun s => zG l E Γ 3 32 [(0, .ref (E.2.1 58)), (2, .int s.1)] [] s.2) (fun r => zG l E Γ 3 56 [(0, .ref (E.2.1 58))] [] r.2) (fun s u hb g1 g2 => bX7_heap_32 C  g1 g2 hb) 2000 s r h K1
def fX7_heap   (mem : ZM) : Option (Int32 × ZM) :=
  Option.bind (fX7_readHeap mem) (fun r1 => zlet r1.1 (fun v2 => zlet (zst r1.2 58 8 (0 : Int32)) (fun m3 => if v2 = 0 then (zlet (zst m3 58 9 (m3 58 14)) (fun m10 => some (((-1000100 : Int32) - (m10 58 13)), m10))) else (zlet (0 : Int32) (fun v4 => Option.bind (fX7_heap_l32 (v4, m3)) (fun r5 => zlet (zst r5.2 58 4 (1 : Int32)) (fun m8 => zlet (zst m8 58 19 (0 : Int32)) (fun m9 => zgd (zin (0 : Int32) 38) (some (m9 62 (0 : Int32).toNatClampNeg, m9))))))))))
set_option maxRecDepth 100000 in
set_option maxHeartbeats 4000000 in
theorem sX7_heap {l : Launch} {E : ZE}   {mem : ZM} {t : Int32 × ZM} (h : fX7_heap mem = some t) : zMet l E yX7_heap cX7_heap 3 (some .int) 6 [.ref (E.2.1 58)] mem (some (.int t.1)) t.2 := by
  refine z_enter (by decide) (Nat.le_of_ble_eq_true rfl) (fun Γ C Rq => ?_)
  have C : zC E Γ RX7 cX7_heap 3 6 := C
  show zG l E Γ 3 0 [(0, .ref (E.2.1 58))] [] mem
  unfold fX7_heap at h
  refine z_aload_n C dX7_heap_0 rfl (j := 0) rfl ?_
  obtain ⟨r1, h1, h⟩ := Option.bind_eq_some_iff.mp h
  refine z_callVi [] [] C dX7_heap_1 (by decide) zen_58 rfl zk_X7_128 zw371 zw372 ⟨⟨by decide, by decide⟩, rfl, Nat.le_of_ble_eq_true rfl⟩ rfl (sX7_readHeap  h1) ?_
  refine z_istore_n [(0, .ref (E.2.1 58))] C dX7_heap_4 h rfl (by decide) rfl (fun v2 h => ?_)
  refine z_aload_n C dX7_heap_5 rfl (j := 1) rfl ?_
  refine z_iconst (v := 0) C dX7_heap_6 zc0 ?_
  refine zp7_8 C dX7_heap_7 zw224 h (fun m3 h => ?_)
  refine z_iload_n C dX7_heap_10 rfl (j := 0) rfl ?_
  refine z_if_ne 30 C dX7_heap_11 (by decide) h (fun h => ?_) (fun h => ?_)
  · refine z_iconst (v := 0) C dX7_heap_30 zc0 ?_
    refine z_istore_n [(1, .int v2), (0, .ref (E.2.1 58))] C dX7_heap_31 h rfl (by decide) rfl (fun v4 h => ?_)
    obtain ⟨r5, h5, h⟩ := Option.bind_eq_some_iff.mp h
    refine z_pick [2, 0] rfl ?_
    refine lX7_heap_32 C  h5 ?_
    refine z_aload_n C dX7_heap_56 rfl (j := 0) rfl ?_
    refine z_iconst (v := 1) C dX7_heap_57 zc1 ?_
    refine zp7_4 C dX7_heap_58 zw368 h (fun m8 h => ?_)
    refine z_aload_n C dX7_heap_61 rfl (j := 0) rfl ?_
    refine z_iconst (v := 0) C dX7_heap_62 zc0 ?_
    refine zp7_19 C dX7_heap_63 zw369 h (fun m9 h => ?_)
    refine z_aload_n C dX7_heap_66 rfl (j := 0) rfl ?_
    refine zg7_5 C dX7_heap_67 zw101 ?_
    refine z_iconst (v := 0) C dX7_heap_70 zc0 ?_
    refine z_iald C dX7_heap_71 zar62 h (fun h => ?_)
    have e := Option.some.inj h; subst e; exact z_iret C dX7_heap_72 Rq
  · refine z_aload_n C dX7_heap_14 rfl (j := 1) rfl ?_
    refine z_aload_n C dX7_heap_15 rfl (j := 1) rfl ?_
    refine zg7_14 C dX7_heap_16 zw364 ?_
    refine zp7_9 C dX7_heap_19 zw365 h (fun m10 h => ?_)
    refine z_ldc C dX7_heap_22 zw366 ?_
    refine z_aload_n C dX7_heap_24 rfl (j := 1) rfl ?_
    refine zg7_13 C dX7_heap_25 zw367 ?_
    refine z_isub C dX7_heap_28 ?_
    have e := Option.some.inj h; subst e; exact z_iret C dX7_heap_29 Rq
-- X7_fault
def fX7_fault   (mem : ZM) : Option (Int32) :=
  some (mem 58 9)
set_option maxRecDepth 100000 in
set_option maxHeartbeats 4000000 in
theorem sX7_fault {l : Launch} {E : ZE}   {mem : ZM} {t : Int32} (h : fX7_fault mem = some t) : zMet l E yX7_fault cX7_fault 1 (some .int) 0 [.ref (E.2.1 58)] mem (some (.int t)) mem := by
  refine z_enter (by decide) (Nat.le_of_ble_eq_true rfl) (fun Γ C Rq => ?_)
  have C : zC E Γ RX7 cX7_fault 1 0 := C
  show zG l E Γ 1 0 [(0, .ref (E.2.1 58))] [] mem
  unfold fX7_fault at h
  refine z_aload_n C dX7_fault_0 rfl (j := 0) rfl ?_
  refine zg7_9 C dX7_fault_1 zw365 ?_
  have e := Option.some.inj h; subst e; exact z_iret C dX7_fault_4 Rq
-- X7_isThing
def fX7_isThing  (a1 : Int32) (mem : ZM) : Option (Int32) :=
  zgd (zin (0 : Int32) 38) (Option.bind (fX7_in a1.toInt64 (0 : Int64) (((mem 62 (0 : Int32).toNatClampNeg) - (1 : Int32)).toInt64)) (fun r1 => zgd (zbl r1) (some r1)))
set_option maxRecDepth 100000 in
set_option maxHeartbeats 4000000 in
theorem sX7_isThing {l : Launch} {E : ZE}  {a1 : Int32} {mem : ZM} {t : Int32} (h : fX7_isThing a1 mem = some t) : zMet l E yX7_isThing cX7_isThing 2 (some .boolean) 1 [.ref (E.2.1 58), .int a1] mem (some (.int t)) mem := by
  refine z_enter (by decide) (Nat.le_of_ble_eq_true rfl) (fun Γ C Rq => ?_)
  have C : zC E Γ RX7 cX7_isThing 2 1 := C
  show zG l E Γ 2 0 [(0, .ref (E.2.1 58)), (1, .int a1)] [] mem
  unfold fX7_isThing at h
  refine z_iload_n C dX7_isThing_0 rfl (j := 1) rfl ?_
  refine z_i2l C dX7_isThing_1 ?_
  refine z_lconst (v := 0) C dX7_isThing_2 zl0 ?_
  refine z_aload_n C dX7_isThing_3 rfl (j := 0) rfl ?_
  refine zg7_5 C dX7_isThing_4 zw101 ?_
  refine z_iconst (v := 0) C dX7_isThing_7 zc0 ?_
  refine z_iald C dX7_isThing_8 zar62 h (fun h => ?_)
  refine z_iconst (v := 1) C dX7_isThing_9 zc1 ?_
  refine z_isub C dX7_isThing_10 ?_
  refine z_i2l C dX7_isThing_11 ?_
  obtain ⟨r1, h1, h⟩ := Option.bind_eq_some_iff.mp h
  refine z_callSi [.long a1.toInt64, .long (0 : Int64), .long (((mem 62 (0 : Int32).toNatClampNeg) - (1 : Int32)).toInt64)] [] C dX7_isThing_12 zk_X7_57 zw147 ⟨⟨by decide, by decide⟩, rfl, Nat.le_of_ble_eq_true rfl⟩ rfl (sX7_in  h1) ?_
  obtain ⟨hg, h⟩ := zgd_some h
  have e := Option.some.inj h; subst e; exact z_zret C dX7_isThing_15 hg Rq
-- X7_thingIn
def fX7_thingIn_b2  (y2_1 : Int32) (mem2 : ZM) (x2_2 : Int32) : Option ((Int32) ⊕ ((Int32) ⊕ (Int32))) :=
  zgd (zin (0 : Int32) 38) (if (mem2 62 (0 : Int32).toNatClampNeg) ≤ x2_2 then (some (Sum.inr (Sum.inl (x2_2)))) else (zgd (zin ((30 : Int32) + x2_2) 38) (if (mem2 62 ((30 : Int32) + x2_2).toNatClampNeg) = y2_1 then (some (Sum.inr (Sum.inr x2_2))) else (zlet (x2_2 + (1 : Int32)) (fun v3 => some (Sum.inl (v3)))))))
def fX7_thingIn_l2  (y2_1 : Int32) (mem2 : ZM) (s : Int32) : Option ((Int32) ⊕ (Int32)) := ziter (fun s => fX7_thingIn_b2 y2_1 mem2 s) 2000 s
set_option maxRecDepth 100000 in
set_option maxHeartbeats 4000000 in
theorem bX7_thingIn_2 {l : Launch} {E : ZE} {Γ : ZG} (C : zC E Γ RX7 cX7_thingIn 3 0)  {y2_1 : Int32} {mem2 : ZM} {x2_2 : Int32} {u : (Int32) ⊕ ((Int32) ⊕ (Int32))} (G1 : ∀ s', u = Sum.inl s' → zG l E Γ 3 2 [(0, .ref (E.2.1 58)), (1, .int y2_1), (2, .int (s'))] [] mem2) (G2 : ∀ s', u = Sum.inr (Sum.inl s') → zG l E Γ 3 33 [] [] mem2) (G3 : ∀ t', u = Sum.inr (Sum.inr t') → zRq E Γ (some .int) (some (.int t')) mem2) (h : fX7_thingIn_b2 y2_1 mem2 x2_2 = some u) : zG l E Γ 3 2 [(0, .ref (E.2.1 58)), (1, .int y2_1), (2, .int x2_2)] [] mem2 := by
  unfold fX7_thingIn_b2 at h
  refine z_iload_n C dX7_thingIn_2 rfl (j := 2) rfl ?_
  refine z_aload_n C dX7_thingIn_3 rfl (j := 0) rfl ?_
  refine zg7_5 C dX7_thingIn_4 zw101 ?_
  refine z_iconst (v := 0) C dX7_thingIn_7 zc0 ?_
  refine z_iald C dX7_thingIn_8 zar62 h (fun h => ?_)
  refine z_icmp_ge 33 C dX7_thingIn_9 (by decide) h (fun h => ?_) (fun h => ?_)
  · refine z_pick [] rfl ?_
    exact G2 _ (Option.some.inj h).symm
  · refine z_aload_n C dX7_thingIn_12 rfl (j := 0) rfl ?_
    refine zg7_5 C dX7_thingIn_13 zw101 ?_
    refine z_bipush (v := 30) C dX7_thingIn_16 zb30 ?_
    refine z_iload_n C dX7_thingIn_18 rfl (j := 2) rfl ?_
    refine z_iadd C dX7_thingIn_19 ?_
    refine z_iald C dX7_thingIn_20 zar62 h (fun h => ?_)
    refine z_iload_n C dX7_thingIn_21 rfl (j := 1) rfl ?_
    refine z_icmp_ne 27 C dX7_thingIn_22 (by decide) h (fun h => ?_) (fun h => ?_)
    · refine z_iinc [(0, .ref (E.2.1 58)), (1, .int y2_1)] C dX7_thingIn_27 zc1 h (j := 2) rfl (by decide) rfl (fun v3 h => ?_)
      refine z_goto 2 C dX7_thingIn_30 (by decide) ?_
      refine z_pick [1, 2, 0] rfl ?_
      exact G1 _ (Option.some.inj h).symm
    · refine z_iload_n C dX7_thingIn_25 rfl (j := 2) rfl ?_
      exact z_iret C dX7_thingIn_26 (G3 _ (Option.some.inj h).symm)
theorem lX7_thingIn_2 {l : Launch} {E : ZE} {Γ : ZG} (C : zC E Γ RX7 cX7_thingIn 3 0)  {y2_1 : Int32} {mem2 : ZM} {s : Int32} {r : (Int32) ⊕ (Int32)} (h : fX7_thingIn_l2 y2_1 mem2 s = some r) (K1 : ∀ s', r = Sum.inl s' → zG l E Γ 3 33 [] [] mem2) (K2 : ∀ t', r = Sum.inr t' → zRq E Γ (some .int) (some (.int t')) mem2) : zG l E Γ 3 2 [(0, .ref (E.2.1 58)), (1, .int y2_1), (2, .int s)] [] mem2 :=
  z_loop (body := fun s => fX7_thingIn_b2 y2_1 mem2 s) (fun s => zG l E Γ 3 2 [(0, .ref (E.2.1 58)), (1, .int y2_1), (2, .int s)] [] mem2) (fun r => (∀ s', r = Sum.inl s' → zG l E Γ 3 33 [] [] mem2) ∧ (∀ t', r = Sum.inr t' → zRq E Γ (some .int) (some (.int t')) mem2)) (fun s u hb g1 g2 => bX7_thingIn_2 C  g1 (fun s' e => (g2 _ e).1 _ rfl) (fun t' e => (g2 _ e).2 _ rfl) hb) 2000 s r h ⟨K1, K2⟩
def fX7_thingIn  (a1 : Int32) (mem : ZM) : Option (Int32) :=
  zlet (0 : Int32) (fun v1 => Option.bind (fX7_thingIn_l2 a1 mem (v1)) (fun r2 => Sum.elim (fun s2 => some (-1 : Int32)) (fun t2 => some t2) r2))
set_option maxRecDepth 100000 in
set_option maxHeartbeats 4000000 in
theorem sX7_thingIn {l : Launch} {E : ZE}  {a1 : Int32} {mem : ZM} {t : Int32} (h : fX7_thingIn a1 mem = some t) : zMet l E yX7_thingIn cX7_thingIn 3 (some .int) 0 [.ref (E.2.1 58), .int a1] mem (some (.int t)) mem := by
  refine z_enter (by decide) (Nat.le_of_ble_eq_true rfl) (fun Γ C Rq => ?_)
  have C : zC E Γ RX7 cX7_thingIn 3 0 := C
  show zG l E Γ 3 0 [(0, .ref (E.2.1 58)), (1, .int a1)] [] mem
  unfold fX7_thingIn at h
  refine z_iconst (v := 0) C dX7_thingIn_0 zc0 ?_
  refine z_istore_n [(0, .ref (E.2.1 58)), (1, .int a1)] C dX7_thingIn_1 h rfl (by decide) rfl (fun v1 h => ?_)
  obtain ⟨r2, h2, h⟩ := Option.bind_eq_some_iff.mp h
  refine z_pick [1, 2, 0] rfl ?_
  refine lX7_thingIn_2 C  h2 (fun s2 e2 => ?_) (fun t2 e2 => ?_)
  · subst e2
    replace h := z_el h
    refine z_iconst (v := -1) C dX7_thingIn_33 zcm1 ?_
    have e := Option.some.inj h; subst e; exact z_iret C dX7_thingIn_34 Rq
  · subst e2
    replace h := z_er h
    have e := Option.some.inj h; subst e; exact Rq
-- X7_isLitIn
def fX7_isLitIn  (a1 : Int32) (mem : ZM) : Option (Int32) :=
  Option.bind (fX7_thingIn a1 mem) (fun r1 => zlet r1 (fun v2 => if v2 < 0 then (some (0 : Int32)) else (zgd (zin (4 : Int32) 38) (Option.bind (fX7_has (mem 62 (4 : Int32).toNatClampNeg) v2) (fun r3 => if r3 = 0 then (some (0 : Int32)) else (some (1 : Int32)))))))
set_option maxRecDepth 100000 in
set_option maxHeartbeats 4000000 in
theorem sX7_isLitIn {l : Launch} {E : ZE}  {a1 : Int32} {mem : ZM} {t : Int32} (h : fX7_isLitIn a1 mem = some t) : zMet l E yX7_isLitIn cX7_isLitIn 3 (some .boolean) 1 [.ref (E.2.1 58), .int a1] mem (some (.int t)) mem := by
  refine z_enter (by decide) (Nat.le_of_ble_eq_true rfl) (fun Γ C Rq => ?_)
  have C : zC E Γ RX7 cX7_isLitIn 3 1 := C
  show zG l E Γ 3 0 [(0, .ref (E.2.1 58)), (1, .int a1)] [] mem
  unfold fX7_isLitIn at h
  refine z_aload_n C dX7_isLitIn_0 rfl (j := 0) rfl ?_
  refine z_iload_n C dX7_isLitIn_1 rfl (j := 1) rfl ?_
  obtain ⟨r1, h1, h⟩ := Option.bind_eq_some_iff.mp h
  refine z_callVi [.int a1] [] C dX7_isLitIn_2 (by decide) zen_58 rfl zk_X7_142 zw524 zw525 ⟨⟨by decide, by decide⟩, rfl, Nat.le_of_ble_eq_true rfl⟩ rfl (sX7_thingIn  h1) ?_
  refine z_istore_n [(0, .ref (E.2.1 58)), (1, .int a1)] C dX7_isLitIn_5 h rfl (by decide) rfl (fun v2 h => ?_)
  refine z_iload_n C dX7_isLitIn_6 rfl (j := 0) rfl ?_
  refine z_if_lt 27 C dX7_isLitIn_7 (by decide) h (fun h => ?_) (fun h => ?_)
  · refine z_iconst (v := 0) C dX7_isLitIn_27 zc0 ?_
    have e := Option.some.inj h; subst e; exact z_zret C dX7_isLitIn_28 zbl0 Rq
  · refine z_aload_n C dX7_isLitIn_10 rfl (j := 1) rfl ?_
    refine zg7_5 C dX7_isLitIn_11 zw101 ?_
    refine z_iconst (v := 4) C dX7_isLitIn_14 zc4 ?_
    refine z_iald C dX7_isLitIn_15 zar62 h (fun h => ?_)
    refine z_iload_n C dX7_isLitIn_16 rfl (j := 0) rfl ?_
    obtain ⟨r3, h3, h⟩ := Option.bind_eq_some_iff.mp h
    refine z_callSi [.int (mem 62 (4 : Int32).toNatClampNeg), .int v2] [] C dX7_isLitIn_17 zk_X7_145 zw528 ⟨⟨by decide, by decide⟩, rfl, Nat.le_of_ble_eq_true rfl⟩ rfl (sX7_has  h3) ?_
    refine z_if_eq 27 C dX7_isLitIn_20 (by decide) h (fun h => ?_) (fun h => ?_)
    · refine z_iconst (v := 0) C dX7_isLitIn_27 zc0 ?_
      have e := Option.some.inj h; subst e; exact z_zret C dX7_isLitIn_28 zbl0 Rq
    · refine z_iconst (v := 1) C dX7_isLitIn_23 zc1 ?_
      refine z_goto 28 C dX7_isLitIn_24 (by decide) ?_
      have e := Option.some.inj h; subst e; exact z_zret C dX7_isLitIn_28 zbl1 Rq
-- X7_litBeside
def fX7_litBeside_j15  (x1 : Int32) (k0 : Int32) (mem : ZM) : Option (Int32) :=
  Option.bind (fX7_isLitIn (x1 + (1 : Int32)) mem) (fun r2 => if r2 = 0 then (some (k0 + (0 : Int32))) else (some (k0 + (1 : Int32))))
set_option maxRecDepth 100000 in
set_option maxHeartbeats 4000000 in
theorem jX7_litBeside_15 {l : Launch} {E : ZE} {Γ : ZG} (C : zC E Γ RX7 cX7_litBeside 2 2)  {x1 : Int32} {k0 : Int32}  {mem : ZM}  {t : Int32}  (Rq : zRq E Γ (some .int) (some (.int t)) mem) (h : fX7_litBeside_j15  x1 k0 mem = some t) : zG l E Γ 2 15 [(0, .ref (E.2.1 58)), (1, .int x1)] [.int k0] mem := by
  unfold fX7_litBeside_j15 at h
  refine z_aload_n C dX7_litBeside_15 rfl (j := 0) rfl ?_
  refine z_iload_n C dX7_litBeside_16 rfl (j := 1) rfl ?_
  refine z_iconst (v := 1) C dX7_litBeside_17 zc1 ?_
  refine z_iadd C dX7_litBeside_18 ?_
  obtain ⟨r2, h2, h⟩ := Option.bind_eq_some_iff.mp h
  refine z_callVi [.int (x1 + (1 : Int32))] [.int k0] C dX7_litBeside_19 (by decide) zen_58 rfl zk_X7_149 zw520 zw521 ⟨⟨by decide, by decide⟩, rfl, Nat.le_of_ble_eq_true rfl⟩ rfl (sX7_isLitIn  h2) ?_
  refine z_if_eq 29 C dX7_litBeside_22 (by decide) h (fun h => ?_) (fun h => ?_)
  · refine z_iconst (v := 0) C dX7_litBeside_29 zc0 ?_
    refine z_iadd C dX7_litBeside_30 ?_
    have e := Option.some.inj h; subst e; exact z_iret C dX7_litBeside_31 Rq
  · refine z_iconst (v := 1) C dX7_litBeside_25 zc1 ?_
    refine z_goto 30 C dX7_litBeside_26 (by decide) ?_
    refine z_iadd C dX7_litBeside_30 ?_
    have e := Option.some.inj h; subst e; exact z_iret C dX7_litBeside_31 Rq
def fX7_litBeside  (a1 : Int32) (mem : ZM) : Option (Int32) :=
  Option.bind (fX7_isLitIn (a1 - (1 : Int32)) mem) (fun r1 => if r1 = 0 then (fX7_litBeside_j15  a1 (0 : Int32) mem) else (fX7_litBeside_j15  a1 (1 : Int32) mem))
set_option maxRecDepth 100000 in
set_option maxHeartbeats 4000000 in
theorem sX7_litBeside {l : Launch} {E : ZE}  {a1 : Int32} {mem : ZM} {t : Int32} (h : fX7_litBeside a1 mem = some t) : zMet l E yX7_litBeside cX7_litBeside 2 (some .int) 2 [.ref (E.2.1 58), .int a1] mem (some (.int t)) mem := by
  refine z_enter (by decide) (Nat.le_of_ble_eq_true rfl) (fun Γ C Rq => ?_)
  have C : zC E Γ RX7 cX7_litBeside 2 2 := C
  show zG l E Γ 2 0 [(0, .ref (E.2.1 58)), (1, .int a1)] [] mem
  unfold fX7_litBeside at h
  refine z_aload_n C dX7_litBeside_0 rfl (j := 0) rfl ?_
  refine z_iload_n C dX7_litBeside_1 rfl (j := 1) rfl ?_
  refine z_iconst (v := 1) C dX7_litBeside_2 zc1 ?_
  refine z_isub C dX7_litBeside_3 ?_
  obtain ⟨r1, h1, h⟩ := Option.bind_eq_some_iff.mp h
  refine z_callVi [.int (a1 - (1 : Int32))] [] C dX7_litBeside_4 (by decide) zen_58 rfl zk_X7_149 zw520 zw521 ⟨⟨by decide, by decide⟩, rfl, Nat.le_of_ble_eq_true rfl⟩ rfl (sX7_isLitIn  h1) ?_
  refine z_if_eq 14 C dX7_litBeside_7 (by decide) h (fun h => ?_) (fun h => ?_)
  · refine z_iconst (v := 0) C dX7_litBeside_14 zc0 ?_
    refine z_pick [0, 1] rfl ?_
    exact jX7_litBeside_15 C   Rq h
  · refine z_iconst (v := 1) C dX7_litBeside_10 zc1 ?_
    refine z_goto 15 C dX7_litBeside_11 (by decide) ?_
    refine z_pick [0, 1] rfl ?_
    exact jX7_litBeside_15 C   Rq h
-- X7_isHotIn
def fX7_isHotIn  (a1 : Int32) (mem : ZM) : Option (Int32) :=
  Option.bind (fX7_thingIn a1 mem) (fun r1 => zlet r1 (fun v2 => if v2 < 0 then (some (0 : Int32)) else (zgd (zin ((6 : Int32) + v2) 38) (if (mem 62 ((6 : Int32) + v2).toNatClampNeg) = (5 : Int32) then (zgd (zin (5 : Int32) 38) (Option.bind (fX7_has (mem 62 (5 : Int32).toNatClampNeg) v2) (fun r3 => if r3 = 0 then (Option.bind (fX7_litBeside a1 mem) (fun r4 => if r4 ≤ 0 then (some (0 : Int32)) else (some (1 : Int32)))) else (some (0 : Int32))))) else (some (0 : Int32))))))
set_option maxRecDepth 100000 in
set_option maxHeartbeats 4000000 in
theorem sX7_isHotIn {l : Launch} {E : ZE}  {a1 : Int32} {mem : ZM} {t : Int32} (h : fX7_isHotIn a1 mem = some t) : zMet l E yX7_isHotIn cX7_isHotIn 3 (some .boolean) 3 [.ref (E.2.1 58), .int a1] mem (some (.int t)) mem := by
  refine z_enter (by decide) (Nat.le_of_ble_eq_true rfl) (fun Γ C Rq => ?_)
  have C : zC E Γ RX7 cX7_isHotIn 3 3 := C
  show zG l E Γ 3 0 [(0, .ref (E.2.1 58)), (1, .int a1)] [] mem
  unfold fX7_isHotIn at h
  refine z_aload_n C dX7_isHotIn_0 rfl (j := 0) rfl ?_
  refine z_iload_n C dX7_isHotIn_1 rfl (j := 1) rfl ?_
  obtain ⟨r1, h1, h⟩ := Option.bind_eq_some_iff.mp h
  refine z_callVi [.int a1] [] C dX7_isHotIn_2 (by decide) zen_58 rfl zk_X7_142 zw524 zw525 ⟨⟨by decide, by decide⟩, rfl, Nat.le_of_ble_eq_true rfl⟩ rfl (sX7_thingIn  h1) ?_
  refine z_istore_n [(0, .ref (E.2.1 58)), (1, .int a1)] C dX7_isHotIn_5 h rfl (by decide) rfl (fun v2 h => ?_)
  refine z_iload_n C dX7_isHotIn_6 rfl (j := 0) rfl ?_
  refine z_if_lt 48 C dX7_isHotIn_7 (by decide) h (fun h => ?_) (fun h => ?_)
  · refine z_iconst (v := 0) C dX7_isHotIn_48 zc0 ?_
    have e := Option.some.inj h; subst e; exact z_zret C dX7_isHotIn_49 zbl0 Rq
  · refine z_aload_n C dX7_isHotIn_10 rfl (j := 1) rfl ?_
    refine zg7_5 C dX7_isHotIn_11 zw101 ?_
    refine z_bipush (v := 6) C dX7_isHotIn_14 zb6 ?_
    refine z_iload_n C dX7_isHotIn_16 rfl (j := 0) rfl ?_
    refine z_iadd C dX7_isHotIn_17 ?_
    refine z_iald C dX7_isHotIn_18 zar62 h (fun h => ?_)
    refine z_iconst (v := 5) C dX7_isHotIn_19 zc5 ?_
    refine z_icmp_ne 48 C dX7_isHotIn_20 (by decide) h (fun h => ?_) (fun h => ?_)
    · refine z_iconst (v := 0) C dX7_isHotIn_48 zc0 ?_
      have e := Option.some.inj h; subst e; exact z_zret C dX7_isHotIn_49 zbl0 Rq
    · refine z_aload_n C dX7_isHotIn_23 rfl (j := 1) rfl ?_
      refine zg7_5 C dX7_isHotIn_24 zw101 ?_
      refine z_iconst (v := 5) C dX7_isHotIn_27 zc5 ?_
      refine z_iald C dX7_isHotIn_28 zar62 h (fun h => ?_)
      refine z_iload_n C dX7_isHotIn_29 rfl (j := 0) rfl ?_
      obtain ⟨r3, h3, h⟩ := Option.bind_eq_some_iff.mp h
      refine z_callSi [.int (mem 62 (5 : Int32).toNatClampNeg), .int v2] [] C dX7_isHotIn_30 zk_X7_145 zw528 ⟨⟨by decide, by decide⟩, rfl, Nat.le_of_ble_eq_true rfl⟩ rfl (sX7_has  h3) ?_
      refine z_if_ne 48 C dX7_isHotIn_33 (by decide) h (fun h => ?_) (fun h => ?_)
      · refine z_iconst (v := 0) C dX7_isHotIn_48 zc0 ?_
        have e := Option.some.inj h; subst e; exact z_zret C dX7_isHotIn_49 zbl0 Rq
      · refine z_aload_n C dX7_isHotIn_36 rfl (j := 1) rfl ?_
        refine z_iload_n C dX7_isHotIn_37 rfl (j := 2) rfl ?_
        obtain ⟨r4, h4, h⟩ := Option.bind_eq_some_iff.mp h
        refine z_callVi [.int a1] [] C dX7_isHotIn_38 (by decide) zen_58 rfl zk_X7_152 zw516 zw517 ⟨⟨by decide, by decide⟩, rfl, Nat.le_of_ble_eq_true rfl⟩ rfl (sX7_litBeside  h4) ?_
        refine z_if_le 48 C dX7_isHotIn_41 (by decide) h (fun h => ?_) (fun h => ?_)
        · refine z_iconst (v := 0) C dX7_isHotIn_48 zc0 ?_
          have e := Option.some.inj h; subst e; exact z_zret C dX7_isHotIn_49 zbl0 Rq
        · refine z_iconst (v := 1) C dX7_isHotIn_44 zc1 ?_
          refine z_goto 49 C dX7_isHotIn_45 (by decide) ?_
          have e := Option.some.inj h; subst e; exact z_zret C dX7_isHotIn_49 zbl1 Rq
