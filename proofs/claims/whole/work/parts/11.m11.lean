-- X7_drawn
def fX7_drawn_j196  (y58_1 : Int32) (y58_3 : Int32) (x4 : Int64) (x6 : Int32) (x7 : Int32) (k0 : Int32) (k1 : Int32) (mem : ZM) : Option ((Int64 × Int32 × Int32 × ZM) ⊕ (Int64 × Int32 × Int32 × ZM)) :=
  zgd (zin k1 38) (zlet (zst mem 62 k1.toNatClampNeg k0) (fun m12 => Option.bind (fX7_oneHour m12) (fun r13 => zlet (x6 + (r13 58 17)) (fun v14 => zlet (x7 + (1 : Int32)) (fun v15 => some (Sum.inl (x4, v14, v15, r13)))))))
set_option maxRecDepth 100000 in
set_option maxHeartbeats 4000000 in
theorem jX7_drawn_196 {l : Launch} {E : ZE} {Γ : ZG} (C : zC E Γ RX7 cX7_drawn 9 6)  {y58_1 : Int32} {y58_3 : Int32} {x4 : Int64} {x6 : Int32} {x7 : Int32} {k0 : Int32} {k1 : Int32}  {mem : ZM}  {u : (Int64 × Int32 × Int32 × ZM) ⊕ (Int64 × Int32 × Int32 × ZM)}  (G1 : ∀ s', u = Sum.inl s' → zG l E Γ 9 58 [(0, .ref (E.2.1 58)), (1, .int y58_1), (3, .int y58_3), (4, .long (s'.1)), (6, .int (s'.2.1)), (7, .int (s'.2.2.1))] [] s'.2.2.2) (G2 : ∀ s', u = Sum.inr s' → zG l E Γ 9 216 [(0, .ref (E.2.1 58)), (3, .int y58_3), (6, .int (s'.2.1))] [] s'.2.2.2) (h : fX7_drawn_j196  y58_1 y58_3 x4 x6 x7 k0 k1 mem = some u) : zG l E Γ 9 196 [(0, .ref (E.2.1 58)), (1, .int y58_1), (3, .int y58_3), (4, .long x4), (6, .int x6), (7, .int x7)] [.int k0, .int k1, .ref (E.2.1 62)] mem := by
  unfold fX7_drawn_j196 at h
  refine z_iast C dX7_drawn_196 zar62 h (fun m12 h => ?_)
  refine z_aload_n C dX7_drawn_197 rfl (j := 0) rfl ?_
  obtain ⟨r13, h13, h⟩ := Option.bind_eq_some_iff.mp h
  refine z_callVv [] [] C dX7_drawn_198 (by decide) zen_58 rfl zk_X7_177 zw506 zw507 ⟨⟨by decide, by decide⟩, rfl, Nat.le_of_ble_eq_true rfl⟩ rfl (sX7_oneHour  h13) ?_
  refine z_iload C dX7_drawn_201 (j := 4) rfl ?_
  refine z_aload_n C dX7_drawn_203 rfl (j := 0) rfl ?_
  refine zg7_17 C dX7_drawn_204 zw509 ?_
  refine z_iadd C dX7_drawn_207 ?_
  refine z_istore [(0, .ref (E.2.1 58)), (1, .int y58_1), (3, .int y58_3), (4, .long x4), (7, .int x7)] C dX7_drawn_208 h (by decide) rfl (fun v14 h => ?_)
  refine z_iinc [(6, .int v14), (0, .ref (E.2.1 58)), (1, .int y58_1), (3, .int y58_3), (4, .long x4)] C dX7_drawn_210 zc1 h (j := 5) rfl (by decide) rfl (fun v15 h => ?_)
  refine z_goto 58 C dX7_drawn_213 (by decide) ?_
  refine z_pick [2, 3, 4, 5, 1, 0] rfl ?_
  exact G1 _ (Option.some.inj h).symm
def fX7_drawn_j163  (y58_1 : Int32) (y58_3 : Int32) (x4 : Int64) (x6 : Int32) (x7 : Int32) (mem : ZM) : Option ((Int64 × Int32 × Int32 × ZM) ⊕ (Int64 × Int32 × Int32 × ZM)) :=
  if (lg_cmp (x4 - x4 / (7 : Int64) * (7 : Int64)) (0 : Int64)) = 0 then (zgd (zin (2 : Int32) 38) (fX7_drawn_j196  y58_1 y58_3 x4 x6 x7 ((1 : Int32) - (mem 62 (2 : Int32).toNatClampNeg)) (2 : Int32) mem)) else (zgd (zin (2 : Int32) 38) (fX7_drawn_j196  y58_1 y58_3 x4 x6 x7 (mem 62 (2 : Int32).toNatClampNeg) (2 : Int32) mem))
set_option maxRecDepth 100000 in
set_option maxHeartbeats 4000000 in
theorem jX7_drawn_163 {l : Launch} {E : ZE} {Γ : ZG} (C : zC E Γ RX7 cX7_drawn 9 6)  {y58_1 : Int32} {y58_3 : Int32} {x4 : Int64} {x6 : Int32} {x7 : Int32}  {mem : ZM}  {u : (Int64 × Int32 × Int32 × ZM) ⊕ (Int64 × Int32 × Int32 × ZM)}  (G1 : ∀ s', u = Sum.inl s' → zG l E Γ 9 58 [(0, .ref (E.2.1 58)), (1, .int y58_1), (3, .int y58_3), (4, .long (s'.1)), (6, .int (s'.2.1)), (7, .int (s'.2.2.1))] [] s'.2.2.2) (G2 : ∀ s', u = Sum.inr s' → zG l E Γ 9 216 [(0, .ref (E.2.1 58)), (3, .int y58_3), (6, .int (s'.2.1))] [] s'.2.2.2) (h : fX7_drawn_j163  y58_1 y58_3 x4 x6 x7 mem = some u) : zG l E Γ 9 163 [(0, .ref (E.2.1 58)), (1, .int y58_1), (3, .int y58_3), (4, .long x4), (6, .int x6), (7, .int x7)] [] mem := by
  unfold fX7_drawn_j163 at h
  refine z_aload_n C dX7_drawn_163 rfl (j := 0) rfl ?_
  refine zg7_5 C dX7_drawn_164 zw101 ?_
  refine z_iconst (v := 2) C dX7_drawn_167 zc2 ?_
  refine z_lload C dX7_drawn_168 (j := 3) rfl ?_
  refine z_ldc2 C dX7_drawn_170 zw145 ?_
  refine z_lrem0 C dX7_drawn_173 (by decide) ?_
  refine z_lconst (v := 0) C dX7_drawn_174 zl0 ?_
  refine z_lcmp C dX7_drawn_175 ?_
  refine z_if_ne 190 C dX7_drawn_176 (by decide) h (fun h => ?_) (fun h => ?_)
  · refine z_aload_n C dX7_drawn_190 rfl (j := 0) rfl ?_
    refine zg7_5 C dX7_drawn_191 zw101 ?_
    refine z_iconst (v := 2) C dX7_drawn_194 zc2 ?_
    refine z_iald C dX7_drawn_195 zar62 h (fun h => ?_)
    refine z_pick [0, 1, 2, 3, 4, 5] rfl ?_
    exact jX7_drawn_196 C   G1 G2 h
  · refine z_iconst (v := 1) C dX7_drawn_179 zc1 ?_
    refine z_aload_n C dX7_drawn_180 rfl (j := 0) rfl ?_
    refine zg7_5 C dX7_drawn_181 zw101 ?_
    refine z_iconst (v := 2) C dX7_drawn_184 zc2 ?_
    refine z_iald C dX7_drawn_185 zar62 h (fun h => ?_)
    refine z_isub C dX7_drawn_186 ?_
    refine z_goto 196 C dX7_drawn_187 (by decide) ?_
    refine z_pick [0, 1, 2, 3, 4, 5] rfl ?_
    exact jX7_drawn_196 C   G1 G2 h
def fX7_drawn_j125  (y58_1 : Int32) (y58_3 : Int32) (x4 : Int64) (x6 : Int32) (x7 : Int32) (x8 : Int32) (mem : ZM) : Option ((Int64 × Int32 × Int32 × ZM) ⊕ (Int64 × Int32 × Int32 × ZM)) :=
  if (lg_cmp (x4 - x4 / (5 : Int64) * (5 : Int64)) (0 : Int64)) = 0 then (zgd (zin (5 : Int32) 38) (Option.bind (fX7_has (mem 62 (5 : Int32).toNatClampNeg) x8) (fun r16 => if r16 = 0 then (Option.bind (fX7_waterBy x8 ((x4 - x4 / (4 : Int64) * (4 : Int64)).toInt32) mem) (fun r17 => fX7_drawn_j163  y58_1 y58_3 x4 x6 x7 r17)) else (fX7_drawn_j163  y58_1 y58_3 x4 x6 x7 mem)))) else (fX7_drawn_j163  y58_1 y58_3 x4 x6 x7 mem)
set_option maxRecDepth 100000 in
set_option maxHeartbeats 4000000 in
theorem jX7_drawn_125 {l : Launch} {E : ZE} {Γ : ZG} (C : zC E Γ RX7 cX7_drawn 9 6)  {y58_1 : Int32} {y58_3 : Int32} {x4 : Int64} {x6 : Int32} {x7 : Int32} {x8 : Int32}  {mem : ZM}  {u : (Int64 × Int32 × Int32 × ZM) ⊕ (Int64 × Int32 × Int32 × ZM)}  (G1 : ∀ s', u = Sum.inl s' → zG l E Γ 9 58 [(0, .ref (E.2.1 58)), (1, .int y58_1), (3, .int y58_3), (4, .long (s'.1)), (6, .int (s'.2.1)), (7, .int (s'.2.2.1))] [] s'.2.2.2) (G2 : ∀ s', u = Sum.inr s' → zG l E Γ 9 216 [(0, .ref (E.2.1 58)), (3, .int y58_3), (6, .int (s'.2.1))] [] s'.2.2.2) (h : fX7_drawn_j125  y58_1 y58_3 x4 x6 x7 x8 mem = some u) : zG l E Γ 9 125 [(0, .ref (E.2.1 58)), (1, .int y58_1), (3, .int y58_3), (4, .long x4), (6, .int x6), (7, .int x7), (8, .int x8)] [] mem := by
  unfold fX7_drawn_j125 at h
  refine z_lload C dX7_drawn_125 (j := 3) rfl ?_
  refine z_ldc2 C dX7_drawn_127 zw935 ?_
  refine z_lrem0 C dX7_drawn_130 (by decide) ?_
  refine z_lconst (v := 0) C dX7_drawn_131 zl0 ?_
  refine z_lcmp C dX7_drawn_132 ?_
  refine z_if_ne 163 C dX7_drawn_133 (by decide) h (fun h => ?_) (fun h => ?_)
  · refine z_pick [0, 1, 2, 3, 4, 5] rfl ?_
    exact jX7_drawn_163 C   G1 G2 h
  · refine z_aload_n C dX7_drawn_136 rfl (j := 0) rfl ?_
    refine zg7_5 C dX7_drawn_137 zw101 ?_
    refine z_iconst (v := 5) C dX7_drawn_140 zc5 ?_
    refine z_iald C dX7_drawn_141 zar62 h (fun h => ?_)
    refine z_iload C dX7_drawn_142 (j := 6) rfl ?_
    obtain ⟨r16, h16, h⟩ := Option.bind_eq_some_iff.mp h
    refine z_callSi [.int (mem 62 (5 : Int32).toNatClampNeg), .int x8] [] C dX7_drawn_144 zk_X7_145 zw528 ⟨⟨by decide, by decide⟩, rfl, Nat.le_of_ble_eq_true rfl⟩ rfl (sX7_has  h16) ?_
    refine z_if_ne 163 C dX7_drawn_147 (by decide) h (fun h => ?_) (fun h => ?_)
    · refine z_pick [0, 1, 2, 3, 4, 5] rfl ?_
      exact jX7_drawn_163 C   G1 G2 h
    · refine z_aload_n C dX7_drawn_150 rfl (j := 0) rfl ?_
      refine z_iload C dX7_drawn_151 (j := 6) rfl ?_
      refine z_lload C dX7_drawn_153 (j := 3) rfl ?_
      refine z_ldc2 C dX7_drawn_155 zw936 ?_
      refine z_lrem0 C dX7_drawn_158 (by decide) ?_
      refine z_l2i C dX7_drawn_159 ?_
      obtain ⟨r17, h17, h⟩ := Option.bind_eq_some_iff.mp h
      refine z_callVv [.int x8, .int ((x4 - x4 / (4 : Int64) * (4 : Int64)).toInt32)] [] C dX7_drawn_160 (by decide) zen_58 rfl zk_X7_188 zw581 zw582 ⟨⟨by decide, by decide⟩, rfl, Nat.le_of_ble_eq_true rfl⟩ rfl (sX7_waterBy  h17) ?_
      refine z_pick [0, 1, 2, 3, 4, 5] rfl ?_
      exact jX7_drawn_163 C   G1 G2 h
def fX7_drawn_b58  (y58_1 : Int32) (y58_3 : Int32) (x58_4 : Int64) (x58_6 : Int32) (x58_7 : Int32) (memb : ZM) : Option ((Int64 × Int32 × Int32 × ZM) ⊕ (Int64 × Int32 × Int32 × ZM)) :=
  if y58_1 ≤ x58_7 then (some (Sum.inr (x58_4, x58_6, x58_7, memb))) else (zlet ((x58_4 * (16807 : Int64)) - (x58_4 * (16807 : Int64)) / (2147483647 : Int64) * (2147483647 : Int64)) (fun v9 => zgd (zin (0 : Int32) 38) (zgd (decide (¬ ((memb 62 (0 : Int32).toNatClampNeg).toInt64) = 0)) (zlet ((v9 - v9 / ((memb 62 (0 : Int32).toNatClampNeg).toInt64) * ((memb 62 (0 : Int32).toNatClampNeg).toInt64)).toInt32) (fun v10 => Option.bind (fX7_mayLight v10 memb) (fun r11 => if r11 = 0 then (fX7_drawn_j125  y58_1 y58_3 v9 x58_6 x58_7 v10 memb) else (if (lg_cmp (v9 - v9 / (2 : Int64) * (2 : Int64)) (0 : Int64)) = 0 then (zgd (zin (4 : Int32) 38) (zgd (zin (4 : Int32) 38) (zlet (zst memb 62 (4 : Int32).toNatClampNeg ((memb 62 (4 : Int32).toNatClampNeg) ||| ((1 : Int32) <<< (v10 &&& 31)))) (fun m18 => fX7_drawn_j163  y58_1 y58_3 v9 x58_6 x58_7 m18)))) else (fX7_drawn_j125  y58_1 y58_3 v9 x58_6 x58_7 v10 memb))))))))
def fX7_drawn_l58  (y58_1 : Int32) (y58_3 : Int32) (s : Int64 × Int32 × Int32 × ZM) : Option (Int64 × Int32 × Int32 × ZM) := ziter (fun s => fX7_drawn_b58 y58_1 y58_3 s.1 s.2.1 s.2.2.1 s.2.2.2) 2000 s
set_option maxRecDepth 100000 in
set_option maxHeartbeats 4000000 in
theorem bX7_drawn_58 {l : Launch} {E : ZE} {Γ : ZG} (C : zC E Γ RX7 cX7_drawn 9 6)  {y58_1 : Int32} {y58_3 : Int32} {x58_4 : Int64} {x58_6 : Int32} {x58_7 : Int32} {memb : ZM} {u : (Int64 × Int32 × Int32 × ZM) ⊕ (Int64 × Int32 × Int32 × ZM)} (G1 : ∀ s', u = Sum.inl s' → zG l E Γ 9 58 [(0, .ref (E.2.1 58)), (1, .int y58_1), (3, .int y58_3), (4, .long (s'.1)), (6, .int (s'.2.1)), (7, .int (s'.2.2.1))] [] s'.2.2.2) (G2 : ∀ s', u = Sum.inr s' → zG l E Γ 9 216 [(0, .ref (E.2.1 58)), (3, .int y58_3), (6, .int (s'.2.1))] [] s'.2.2.2) (h : fX7_drawn_b58 y58_1 y58_3 x58_4 x58_6 x58_7 memb = some u) : zG l E Γ 9 58 [(0, .ref (E.2.1 58)), (1, .int y58_1), (3, .int y58_3), (4, .long x58_4), (6, .int x58_6), (7, .int x58_7)] [] memb := by
  unfold fX7_drawn_b58 at h
  refine z_iload C dX7_drawn_58 (j := 5) rfl ?_
  refine z_iload_n C dX7_drawn_60 rfl (j := 1) rfl ?_
  refine z_icmp_ge 216 C dX7_drawn_61 (by decide) h (fun h => ?_) (fun h => ?_)
  · refine z_pick [0, 2, 4] rfl ?_
    exact G2 _ (Option.some.inj h).symm
  · refine z_lload C dX7_drawn_64 (j := 3) rfl ?_
    refine z_ldc2 C dX7_drawn_66 zw933 ?_
    refine z_lmul C dX7_drawn_69 ?_
    refine z_ldc2 C dX7_drawn_70 zw934 ?_
    refine z_lrem0 C dX7_drawn_73 (by decide) ?_
    refine z_lstore [(0, .ref (E.2.1 58)), (1, .int y58_1), (3, .int y58_3), (6, .int x58_6), (7, .int x58_7)] C dX7_drawn_74 h (by decide) rfl (fun v9 h => ?_)
    refine z_lload C dX7_drawn_76 (j := 0) rfl ?_
    refine z_aload_n C dX7_drawn_78 rfl (j := 1) rfl ?_
    refine zg7_5 C dX7_drawn_79 zw101 ?_
    refine z_iconst (v := 0) C dX7_drawn_82 zc0 ?_
    refine z_iald C dX7_drawn_83 zar62 h (fun h => ?_)
    refine z_i2l C dX7_drawn_84 ?_
    refine z_lrem C dX7_drawn_85 h (fun h => ?_)
    refine z_l2i C dX7_drawn_86 ?_
    refine z_istore [(4, .long v9), (0, .ref (E.2.1 58)), (1, .int y58_1), (3, .int y58_3), (6, .int x58_6), (7, .int x58_7)] C dX7_drawn_87 h (by decide) rfl (fun v10 h => ?_)
    refine z_aload_n C dX7_drawn_89 rfl (j := 2) rfl ?_
    refine z_iload C dX7_drawn_90 (j := 0) rfl ?_
    obtain ⟨r11, h11, h⟩ := Option.bind_eq_some_iff.mp h
    refine z_callVi [.int v10] [] C dX7_drawn_92 (by decide) zen_58 rfl zk_X7_183 zw562 zw563 ⟨⟨by decide, by decide⟩, rfl, Nat.le_of_ble_eq_true rfl⟩ rfl (sX7_mayLight  h11) ?_
    refine z_if_eq 125 C dX7_drawn_95 (by decide) h (fun h => ?_) (fun h => ?_)
    · refine z_pick [2, 3, 4, 1, 5, 6, 0] rfl ?_
      exact jX7_drawn_125 C   G1 G2 h
    · refine z_lload C dX7_drawn_98 (j := 1) rfl ?_
      refine z_ldc2 C dX7_drawn_100 zw140 ?_
      refine z_lrem0 C dX7_drawn_103 (by decide) ?_
      refine z_lconst (v := 0) C dX7_drawn_104 zl0 ?_
      refine z_lcmp C dX7_drawn_105 ?_
      refine z_if_ne 125 C dX7_drawn_106 (by decide) h (fun h => ?_) (fun h => ?_)
      · refine z_pick [2, 3, 4, 1, 5, 6, 0] rfl ?_
        exact jX7_drawn_125 C   G1 G2 h
      · refine z_aload_n C dX7_drawn_109 rfl (j := 2) rfl ?_
        refine zg7_5 C dX7_drawn_110 zw101 ?_
        refine z_iconst (v := 4) C dX7_drawn_113 zc4 ?_
        refine z_dup2 C dX7_drawn_114 rfl rfl ?_
        refine z_iald C dX7_drawn_115 zar62 h (fun h => ?_)
        refine z_iconst (v := 1) C dX7_drawn_116 zc1 ?_
        refine z_iload C dX7_drawn_117 (j := 0) rfl ?_
        refine z_ishl C dX7_drawn_119 ?_
        refine z_ior C dX7_drawn_120 ?_
        refine z_iast C dX7_drawn_121 zar62 h (fun m18 h => ?_)
        refine z_goto 163 C dX7_drawn_122 (by decide) ?_
        refine z_pick [2, 3, 4, 1, 5, 6] rfl ?_
        exact jX7_drawn_163 C   G1 G2 h
theorem lX7_drawn_58 {l : Launch} {E : ZE} {Γ : ZG} (C : zC E Γ RX7 cX7_drawn 9 6)  {y58_1 : Int32} {y58_3 : Int32} {s : Int64 × Int32 × Int32 × ZM} {r : Int64 × Int32 × Int32 × ZM} (h : fX7_drawn_l58 y58_1 y58_3 s = some r) (K1 : zG l E Γ 9 216 [(0, .ref (E.2.1 58)), (3, .int y58_3), (6, .int r.2.1)] [] r.2.2.2) : zG l E Γ 9 58 [(0, .ref (E.2.1 58)), (1, .int y58_1), (3, .int y58_3), (4, .long s.1), (6, .int s.2.1), (7, .int s.2.2.1)] [] s.2.2.2 :=
  z_loop (body := fun s => fX7_drawn_b58 y58_1 y58_3 s.1 s.2.1 s.2.2.1 s.2.2.2) (fun s => zG l E Γ 9 58 [(0, .ref (E.2.1 58)), (1, .int y58_1), (3, .int y58_3), (4, .long s.1), (6, .int s.2.1), (7, .int s.2.2.1)] [] s.2.2.2) (fun r => zG l E Γ 9 216 [(0, .ref (E.2.1 58)), (3, .int y58_3), (6, .int r.2.1)] [] r.2.2.2) (fun s u hb g1 g2 => bX7_drawn_58 C  g1 g2 hb) 2000 s r h K1
def fX7_drawn  (a1 : Int32) (a2 : Int32) (a3 : Int32) (mem : ZM) : Option (Int32 × ZM) :=
  if (mem 58 4) = 0 then (some ((-1000002 : Int32), mem)) else (Option.bind (fX7_in a1.toInt64 (0 : Int64) (60 : Int64)) (fun r1 => if r1 = 0 then (some ((-1000001 : Int32), mem)) else (Option.bind (fX7_in a2.toInt64 (1 : Int64) (999999 : Int64)) (fun r2 => if r2 = 0 then (some ((-1000001 : Int32), mem)) else (Option.bind (fX7_isWhat a3) (fun r3 => if r3 = 0 then (some ((-1000001 : Int32), mem)) else (Option.bind (fX7_putAside mem) (fun r4 => zlet a2.toInt64 (fun v5 => zlet (0 : Int32) (fun v6 => zlet (0 : Int32) (fun v7 => Option.bind (fX7_drawn_l58 a1 a3 (v5, v6, v7, r4)) (fun r8 => Option.bind (fX7_ashes r8.2.2.2) (fun r19 => Option.bind (fX7_ones r19) (fun r20 => zlet r20 (fun v21 => Option.bind (fX7_takeBack r8.2.2.2) (fun r22 => if a3 = 0 then (some (v21, r22)) else (some (r8.2.1, r22))))))))))))))))))
set_option maxRecDepth 100000 in
set_option maxHeartbeats 4000000 in
theorem sX7_drawn {l : Launch} {E : ZE}  {a1 : Int32} {a2 : Int32} {a3 : Int32} {mem : ZM} {t : Int32 × ZM} (h : fX7_drawn a1 a2 a3 mem = some t) : zMet l E yX7_drawn cX7_drawn 9 (some .int) 6 [.ref (E.2.1 58), .int a1, .int a2, .int a3] mem (some (.int t.1)) t.2 := by
  refine z_enter (by decide) (Nat.le_of_ble_eq_true rfl) (fun Γ C Rq => ?_)
  have C : zC E Γ RX7 cX7_drawn 9 6 := C
  show zG l E Γ 9 0 [(0, .ref (E.2.1 58)), (1, .int a1), (2, .int a2), (3, .int a3)] [] mem
  unfold fX7_drawn at h
  refine z_aload_n C dX7_drawn_0 rfl (j := 0) rfl ?_
  refine zg7_4 C dX7_drawn_1 zw368 ?_
  refine z_if_ne 10 C dX7_drawn_4 (by decide) h (fun h => ?_) (fun h => ?_)
  · refine z_iload_n C dX7_drawn_10 rfl (j := 1) rfl ?_
    refine z_i2l C dX7_drawn_11 ?_
    refine z_lconst (v := 0) C dX7_drawn_12 zl0 ?_
    refine z_ldc2 C dX7_drawn_13 zw689 ?_
    obtain ⟨r1, h1, h⟩ := Option.bind_eq_some_iff.mp h
    refine z_callSi [.long a1.toInt64, .long (0 : Int64), .long (60 : Int64)] [] C dX7_drawn_16 zk_X7_57 zw147 ⟨⟨by decide, by decide⟩, rfl, Nat.le_of_ble_eq_true rfl⟩ rfl (sX7_in  h1) ?_
    refine z_if_eq 41 C dX7_drawn_19 (by decide) h (fun h => ?_) (fun h => ?_)
    · refine z_ldc C dX7_drawn_41 zw141 ?_
      have e := Option.some.inj h; subst e; exact z_iret C dX7_drawn_43 Rq
    · refine z_iload_n C dX7_drawn_22 rfl (j := 2) rfl ?_
      refine z_i2l C dX7_drawn_23 ?_
      refine z_lconst (v := 1) C dX7_drawn_24 zl1 ?_
      refine z_ldc2 C dX7_drawn_25 zw932 ?_
      obtain ⟨r2, h2, h⟩ := Option.bind_eq_some_iff.mp h
      refine z_callSi [.long a2.toInt64, .long (1 : Int64), .long (999999 : Int64)] [] C dX7_drawn_28 zk_X7_57 zw147 ⟨⟨by decide, by decide⟩, rfl, Nat.le_of_ble_eq_true rfl⟩ rfl (sX7_in  h2) ?_
      refine z_if_eq 41 C dX7_drawn_31 (by decide) h (fun h => ?_) (fun h => ?_)
      · refine z_ldc C dX7_drawn_41 zw141 ?_
        have e := Option.some.inj h; subst e; exact z_iret C dX7_drawn_43 Rq
      · refine z_iload_n C dX7_drawn_34 rfl (j := 3) rfl ?_
        obtain ⟨r3, h3, h⟩ := Option.bind_eq_some_iff.mp h
        refine z_callSi [.int a3] [] C dX7_drawn_35 zk_X7_197 zw691 ⟨⟨by decide, by decide⟩, rfl, Nat.le_of_ble_eq_true rfl⟩ rfl (sX7_isWhat  h3) ?_
        refine z_if_ne 44 C dX7_drawn_38 (by decide) h (fun h => ?_) (fun h => ?_)
        · refine z_aload_n C dX7_drawn_44 rfl (j := 0) rfl ?_
          obtain ⟨r4, h4, h⟩ := Option.bind_eq_some_iff.mp h
          refine z_callVv [] [] C dX7_drawn_45 (by decide) zen_58 rfl zk_X7_200 zw694 zw695 ⟨⟨by decide, by decide⟩, rfl, Nat.le_of_ble_eq_true rfl⟩ rfl (sX7_putAside  h4) ?_
          refine z_iload_n C dX7_drawn_48 rfl (j := 2) rfl ?_
          refine z_i2l C dX7_drawn_49 ?_
          refine z_lstore [(0, .ref (E.2.1 58)), (1, .int a1), (2, .int a2), (3, .int a3)] C dX7_drawn_50 h (by decide) rfl (fun v5 h => ?_)
          refine z_iconst (v := 0) C dX7_drawn_52 zc0 ?_
          refine z_istore [(4, .long v5), (0, .ref (E.2.1 58)), (1, .int a1), (2, .int a2), (3, .int a3)] C dX7_drawn_53 h (by decide) rfl (fun v6 h => ?_)
          refine z_iconst (v := 0) C dX7_drawn_55 zc0 ?_
          refine z_istore [(6, .int v6), (4, .long v5), (0, .ref (E.2.1 58)), (1, .int a1), (2, .int a2), (3, .int a3)] C dX7_drawn_56 h (by decide) rfl (fun v7 h => ?_)
          obtain ⟨r8, h8, h⟩ := Option.bind_eq_some_iff.mp h
          refine z_pick [3, 4, 6, 2, 1, 0] rfl ?_
          refine lX7_drawn_58 C  h8 ?_
          refine z_aload_n C dX7_drawn_216 rfl (j := 0) rfl ?_
          obtain ⟨r19, h19, h⟩ := Option.bind_eq_some_iff.mp h
          refine z_callVi [] [] C dX7_drawn_217 (by decide) zen_58 rfl zk_X7_214 zw768 zw769 ⟨⟨by decide, by decide⟩, rfl, Nat.le_of_ble_eq_true rfl⟩ rfl (sX7_ashes  h19) ?_
          obtain ⟨r20, h20, h⟩ := Option.bind_eq_some_iff.mp h
          refine z_callSi [.int r19] [] C dX7_drawn_220 zk_X7_218 zw800 ⟨⟨by decide, by decide⟩, rfl, Nat.le_of_ble_eq_true rfl⟩ rfl (sX7_ones  h20) ?_
          refine z_istore [(0, .ref (E.2.1 58)), (3, .int a3), (6, .int r8.2.1)] C dX7_drawn_223 h (by decide) rfl (fun v21 h => ?_)
          refine z_aload_n C dX7_drawn_225 rfl (j := 1) rfl ?_
          obtain ⟨r22, h22, h⟩ := Option.bind_eq_some_iff.mp h
          refine z_callVv [] [] C dX7_drawn_226 (by decide) zen_58 rfl zk_X7_207 zw702 zw703 ⟨⟨by decide, by decide⟩, rfl, Nat.le_of_ble_eq_true rfl⟩ rfl (sX7_takeBack  h22) ?_
          refine z_iload_n C dX7_drawn_229 rfl (j := 2) rfl ?_
          refine z_if_ne 238 C dX7_drawn_230 (by decide) h (fun h => ?_) (fun h => ?_)
          · refine z_iload C dX7_drawn_238 (j := 3) rfl ?_
            have e := Option.some.inj h; subst e; exact z_iret C dX7_drawn_240 Rq
          · refine z_iload C dX7_drawn_233 (j := 0) rfl ?_
            refine z_goto 240 C dX7_drawn_235 (by decide) ?_
            have e := Option.some.inj h; subst e; exact z_iret C dX7_drawn_240 Rq
        · refine z_ldc C dX7_drawn_41 zw141 ?_
          have e := Option.some.inj h; subst e; exact z_iret C dX7_drawn_43 Rq
  · refine z_ldc C dX7_drawn_7 zw499 ?_
    have e := Option.some.inj h; subst e; exact z_iret C dX7_drawn_9 Rq
-- X7_image
def fX7_image_b25  (y25_1 : Int32) (x25_2 : Int32) (memb : ZM) : Option ((Int32 × ZM) ⊕ (Int32 × ZM)) :=
  if (38 : Int32) ≤ x25_2 then (some (Sum.inr (x25_2, memb))) else (zgd (zin x25_2 38) (zgd (zin (((38 : Int32) * y25_1) + x25_2) 76) (zlet (zst memb 70 (((38 : Int32) * y25_1) + x25_2).toNatClampNeg (memb 62 x25_2.toNatClampNeg)) (fun m4 => zlet (x25_2 + (1 : Int32)) (fun v5 => some (Sum.inl (v5, m4)))))))
def fX7_image_l25  (y25_1 : Int32) (s : Int32 × ZM) : Option (Int32 × ZM) := ziter (fun s => fX7_image_b25 y25_1 s.1 s.2) 2000 s
set_option maxRecDepth 100000 in
set_option maxHeartbeats 4000000 in
theorem bX7_image_25 {l : Launch} {E : ZE} {Γ : ZG} (C : zC E Γ RX7 cX7_image 3 1)  {y25_1 : Int32} {x25_2 : Int32} {memb : ZM} {u : (Int32 × ZM) ⊕ (Int32 × ZM)} (G1 : ∀ s', u = Sum.inl s' → zG l E Γ 3 25 [(0, .ref (E.2.1 58)), (1, .int y25_1), (2, .int (s'.1))] [] s'.2) (G2 : ∀ s', u = Sum.inr s' → zG l E Γ 3 54 [(0, .ref (E.2.1 58)), (1, .int y25_1)] [] s'.2) (h : fX7_image_b25 y25_1 x25_2 memb = some u) : zG l E Γ 3 25 [(0, .ref (E.2.1 58)), (1, .int y25_1), (2, .int x25_2)] [] memb := by
  unfold fX7_image_b25 at h
  refine z_iload_n C dX7_image_25 rfl (j := 2) rfl ?_
  refine z_bipush (v := 38) C dX7_image_26 zb38 ?_
  refine z_icmp_ge 54 C dX7_image_28 (by decide) h (fun h => ?_) (fun h => ?_)
  · refine z_pick [0, 1] rfl ?_
    exact G2 _ (Option.some.inj h).symm
  · refine z_aload_n C dX7_image_31 rfl (j := 0) rfl ?_
    refine zg7_22 C dX7_image_32 zw110 ?_
    refine z_bipush (v := 38) C dX7_image_35 zb38 ?_
    refine z_iload_n C dX7_image_37 rfl (j := 1) rfl ?_
    refine z_imul C dX7_image_38 ?_
    refine z_iload_n C dX7_image_39 rfl (j := 2) rfl ?_
    refine z_iadd C dX7_image_40 ?_
    refine z_aload_n C dX7_image_41 rfl (j := 0) rfl ?_
    refine zg7_5 C dX7_image_42 zw101 ?_
    refine z_iload_n C dX7_image_45 rfl (j := 2) rfl ?_
    refine z_iald C dX7_image_46 zar62 h (fun h => ?_)
    refine z_iast C dX7_image_47 zar70 h (fun m4 h => ?_)
    refine z_iinc [(0, .ref (E.2.1 58)), (1, .int y25_1)] C dX7_image_48 zc1 h (j := 2) rfl (by decide) rfl (fun v5 h => ?_)
    refine z_goto 25 C dX7_image_51 (by decide) ?_
    refine z_pick [1, 2, 0] rfl ?_
    exact G1 _ (Option.some.inj h).symm
theorem lX7_image_25 {l : Launch} {E : ZE} {Γ : ZG} (C : zC E Γ RX7 cX7_image 3 1)  {y25_1 : Int32} {s : Int32 × ZM} {r : Int32 × ZM} (h : fX7_image_l25 y25_1 s = some r) (K1 : zG l E Γ 3 54 [(0, .ref (E.2.1 58)), (1, .int y25_1)] [] r.2) : zG l E Γ 3 25 [(0, .ref (E.2.1 58)), (1, .int y25_1), (2, .int s.1)] [] s.2 :=
  z_loop (body := fun s => fX7_image_b25 y25_1 s.1 s.2) (fun s => zG l E Γ 3 25 [(0, .ref (E.2.1 58)), (1, .int y25_1), (2, .int s.1)] [] s.2) (fun r => zG l E Γ 3 54 [(0, .ref (E.2.1 58)), (1, .int y25_1)] [] r.2) (fun s u hb g1 g2 => bX7_image_25 C  g1 g2 hb) 2000 s r h K1
def fX7_image  (a1 : Int32) (mem : ZM) : Option (Int32 × ZM) :=
  Option.bind (fX7_in a1.toInt64 (0 : Int64) (1 : Int64)) (fun r1 => if r1 = 0 then (some ((-1000001 : Int32), mem)) else (if (mem 58 4) = 0 then (some ((-1000002 : Int32), mem)) else (zlet (0 : Int32) (fun v2 => Option.bind (fX7_image_l25 a1 (v2, mem)) (fun r3 => zgd (zin a1 2) (zlet (zst r3.2 69 a1.toNatClampNeg (1 : Int32)) (fun m6 => some ((1 : Int32), m6))))))))
set_option maxRecDepth 100000 in
set_option maxHeartbeats 4000000 in
theorem sX7_image {l : Launch} {E : ZE}  {a1 : Int32} {mem : ZM} {t : Int32 × ZM} (h : fX7_image a1 mem = some t) : zMet l E yX7_image cX7_image 3 (some .int) 1 [.ref (E.2.1 58), .int a1] mem (some (.int t.1)) t.2 := by
  refine z_enter (by decide) (Nat.le_of_ble_eq_true rfl) (fun Γ C Rq => ?_)
  have C : zC E Γ RX7 cX7_image 3 1 := C
  show zG l E Γ 3 0 [(0, .ref (E.2.1 58)), (1, .int a1)] [] mem
  unfold fX7_image at h
  refine z_iload_n C dX7_image_0 rfl (j := 1) rfl ?_
  refine z_i2l C dX7_image_1 ?_
  refine z_lconst (v := 0) C dX7_image_2 zl0 ?_
  refine z_lconst (v := 1) C dX7_image_3 zl1 ?_
  obtain ⟨r1, h1, h⟩ := Option.bind_eq_some_iff.mp h
  refine z_callSi [.long a1.toInt64, .long (0 : Int64), .long (1 : Int64)] [] C dX7_image_4 zk_X7_57 zw147 ⟨⟨by decide, by decide⟩, rfl, Nat.le_of_ble_eq_true rfl⟩ rfl (sX7_in  h1) ?_
  refine z_if_ne 13 C dX7_image_7 (by decide) h (fun h => ?_) (fun h => ?_)
  · refine z_aload_n C dX7_image_13 rfl (j := 0) rfl ?_
    refine zg7_4 C dX7_image_14 zw368 ?_
    refine z_if_ne 23 C dX7_image_17 (by decide) h (fun h => ?_) (fun h => ?_)
    · refine z_iconst (v := 0) C dX7_image_23 zc0 ?_
      refine z_istore_n [(0, .ref (E.2.1 58)), (1, .int a1)] C dX7_image_24 h rfl (by decide) rfl (fun v2 h => ?_)
      obtain ⟨r3, h3, h⟩ := Option.bind_eq_some_iff.mp h
      refine z_pick [1, 2, 0] rfl ?_
      refine lX7_image_25 C  h3 ?_
      refine z_aload_n C dX7_image_54 rfl (j := 0) rfl ?_
      refine zg7_21 C dX7_image_55 zw109 ?_
      refine z_iload_n C dX7_image_58 rfl (j := 1) rfl ?_
      refine z_iconst (v := 1) C dX7_image_59 zc1 ?_
      refine z_zast1 C dX7_image_60 zarZ69 h (fun m6 h => ?_)
      refine z_iconst (v := 1) C dX7_image_61 zc1 ?_
      have e := Option.some.inj h; subst e; exact z_iret C dX7_image_62 Rq
    · refine z_ldc C dX7_image_20 zw499 ?_
      have e := Option.some.inj h; subst e; exact z_iret C dX7_image_22 Rq
  · refine z_ldc C dX7_image_10 zw141 ?_
    have e := Option.some.inj h; subst e; exact z_iret C dX7_image_12 Rq
-- X7_restore
def fX7_restore_b27  (y27_1 : Int32) (x27_2 : Int32) (memb : ZM) : Option ((Int32 × ZM) ⊕ (Int32 × ZM)) :=
  if (38 : Int32) ≤ x27_2 then (some (Sum.inr (x27_2, memb))) else (zgd (zin (((38 : Int32) * y27_1) + x27_2) 76) (zgd (zin x27_2 38) (zlet (zst memb 62 x27_2.toNatClampNeg (memb 70 (((38 : Int32) * y27_1) + x27_2).toNatClampNeg)) (fun m4 => zlet (x27_2 + (1 : Int32)) (fun v5 => some (Sum.inl (v5, m4)))))))
def fX7_restore_l27  (y27_1 : Int32) (s : Int32 × ZM) : Option (Int32 × ZM) := ziter (fun s => fX7_restore_b27 y27_1 s.1 s.2) 2000 s
set_option maxRecDepth 100000 in
set_option maxHeartbeats 4000000 in
theorem bX7_restore_27 {l : Launch} {E : ZE} {Γ : ZG} (C : zC E Γ RX7 cX7_restore 3 1)  {y27_1 : Int32} {x27_2 : Int32} {memb : ZM} {u : (Int32 × ZM) ⊕ (Int32 × ZM)} (G1 : ∀ s', u = Sum.inl s' → zG l E Γ 3 27 [(0, .ref (E.2.1 58)), (1, .int y27_1), (2, .int (s'.1))] [] s'.2) (G2 : ∀ s', u = Sum.inr s' → zG l E Γ 3 56 [(0, .ref (E.2.1 58))] [] s'.2) (h : fX7_restore_b27 y27_1 x27_2 memb = some u) : zG l E Γ 3 27 [(0, .ref (E.2.1 58)), (1, .int y27_1), (2, .int x27_2)] [] memb := by
  unfold fX7_restore_b27 at h
  refine z_iload_n C dX7_restore_27 rfl (j := 2) rfl ?_
  refine z_bipush (v := 38) C dX7_restore_28 zb38 ?_
  refine z_icmp_ge 56 C dX7_restore_30 (by decide) h (fun h => ?_) (fun h => ?_)
  · refine z_pick [0] rfl ?_
    exact G2 _ (Option.some.inj h).symm
  · refine z_aload_n C dX7_restore_33 rfl (j := 0) rfl ?_
    refine zg7_5 C dX7_restore_34 zw101 ?_
    refine z_iload_n C dX7_restore_37 rfl (j := 2) rfl ?_
    refine z_aload_n C dX7_restore_38 rfl (j := 0) rfl ?_
    refine zg7_22 C dX7_restore_39 zw110 ?_
    refine z_bipush (v := 38) C dX7_restore_42 zb38 ?_
    refine z_iload_n C dX7_restore_44 rfl (j := 1) rfl ?_
    refine z_imul C dX7_restore_45 ?_
    refine z_iload_n C dX7_restore_46 rfl (j := 2) rfl ?_
    refine z_iadd C dX7_restore_47 ?_
    refine z_iald C dX7_restore_48 zar70 h (fun h => ?_)
    refine z_iast C dX7_restore_49 zar62 h (fun m4 h => ?_)
    refine z_iinc [(0, .ref (E.2.1 58)), (1, .int y27_1)] C dX7_restore_50 zc1 h (j := 2) rfl (by decide) rfl (fun v5 h => ?_)
    refine z_goto 27 C dX7_restore_53 (by decide) ?_
    refine z_pick [1, 2, 0] rfl ?_
    exact G1 _ (Option.some.inj h).symm
theorem lX7_restore_27 {l : Launch} {E : ZE} {Γ : ZG} (C : zC E Γ RX7 cX7_restore 3 1)  {y27_1 : Int32} {s : Int32 × ZM} {r : Int32 × ZM} (h : fX7_restore_l27 y27_1 s = some r) (K1 : zG l E Γ 3 56 [(0, .ref (E.2.1 58))] [] r.2) : zG l E Γ 3 27 [(0, .ref (E.2.1 58)), (1, .int y27_1), (2, .int s.1)] [] s.2 :=
  z_loop (body := fun s => fX7_restore_b27 y27_1 s.1 s.2) (fun s => zG l E Γ 3 27 [(0, .ref (E.2.1 58)), (1, .int y27_1), (2, .int s.1)] [] s.2) (fun r => zG l E Γ 3 56 [(0, .ref (E.2.1 58))] [] r.2) (fun s u hb g1 g2 => bX7_restore_27 C  g1 g2 hb) 2000 s r h K1
def fX7_restore  (a1 : Int32) (mem : ZM) : Option (Int32 × ZM) :=
  Option.bind (fX7_in a1.toInt64 (0 : Int64) (1 : Int64)) (fun r1 => if r1 = 0 then (some ((-1000001 : Int32), mem)) else (zgd (zin a1 2) (if (mem 69 a1.toNatClampNeg) = 0 then (some ((-1000002 : Int32), mem)) else (zlet (0 : Int32) (fun v2 => Option.bind (fX7_restore_l27 a1 (v2, mem)) (fun r3 => zlet (zst r3.2 58 19 (0 : Int32)) (fun m6 => some ((1 : Int32), m6))))))))
set_option maxRecDepth 100000 in
set_option maxHeartbeats 4000000 in
theorem sX7_restore {l : Launch} {E : ZE}  {a1 : Int32} {mem : ZM} {t : Int32 × ZM} (h : fX7_restore a1 mem = some t) : zMet l E yX7_restore cX7_restore 3 (some .int) 1 [.ref (E.2.1 58), .int a1] mem (some (.int t.1)) t.2 := by
  refine z_enter (by decide) (Nat.le_of_ble_eq_true rfl) (fun Γ C Rq => ?_)
  have C : zC E Γ RX7 cX7_restore 3 1 := C
  show zG l E Γ 3 0 [(0, .ref (E.2.1 58)), (1, .int a1)] [] mem
  unfold fX7_restore at h
  refine z_iload_n C dX7_restore_0 rfl (j := 1) rfl ?_
  refine z_i2l C dX7_restore_1 ?_
  refine z_lconst (v := 0) C dX7_restore_2 zl0 ?_
  refine z_lconst (v := 1) C dX7_restore_3 zl1 ?_
  obtain ⟨r1, h1, h⟩ := Option.bind_eq_some_iff.mp h
  refine z_callSi [.long a1.toInt64, .long (0 : Int64), .long (1 : Int64)] [] C dX7_restore_4 zk_X7_57 zw147 ⟨⟨by decide, by decide⟩, rfl, Nat.le_of_ble_eq_true rfl⟩ rfl (sX7_in  h1) ?_
  refine z_if_ne 13 C dX7_restore_7 (by decide) h (fun h => ?_) (fun h => ?_)
  · refine z_aload_n C dX7_restore_13 rfl (j := 0) rfl ?_
    refine zg7_21 C dX7_restore_14 zw109 ?_
    refine z_iload_n C dX7_restore_17 rfl (j := 1) rfl ?_
    refine z_zald C dX7_restore_18 zarZ69 h (fun h => ?_)
    refine z_if_ne 25 C dX7_restore_19 (by decide) h (fun h => ?_) (fun h => ?_)
    · refine z_iconst (v := 0) C dX7_restore_25 zc0 ?_
      refine z_istore_n [(0, .ref (E.2.1 58)), (1, .int a1)] C dX7_restore_26 h rfl (by decide) rfl (fun v2 h => ?_)
      obtain ⟨r3, h3, h⟩ := Option.bind_eq_some_iff.mp h
      refine z_pick [1, 2, 0] rfl ?_
      refine lX7_restore_27 C  h3 ?_
      refine z_aload_n C dX7_restore_56 rfl (j := 0) rfl ?_
      refine z_iconst (v := 0) C dX7_restore_57 zc0 ?_
      refine zp7_19 C dX7_restore_58 zw369 h (fun m6 h => ?_)
      refine z_iconst (v := 1) C dX7_restore_61 zc1 ?_
      have e := Option.some.inj h; subst e; exact z_iret C dX7_restore_62 Rq
    · refine z_ldc C dX7_restore_22 zw499 ?_
      have e := Option.some.inj h; subst e; exact z_iret C dX7_restore_24 Rq
  · refine z_ldc C dX7_restore_10 zw141 ?_
    have e := Option.some.inj h; subst e; exact z_iret C dX7_restore_12 Rq
-- X7_kind
def fX7_kind  (a1 : Int32) (mem : ZM) : Option (Int32) :=
  Option.bind (fX7_isThing a1 mem) (fun r1 => if r1 = 0 then (some (-1000001 : Int32)) else (zgd (zin ((6 : Int32) + a1) 38) (some (mem 62 ((6 : Int32) + a1).toNatClampNeg))))
set_option maxRecDepth 100000 in
set_option maxHeartbeats 4000000 in
theorem sX7_kind {l : Launch} {E : ZE}  {a1 : Int32} {mem : ZM} {t : Int32} (h : fX7_kind a1 mem = some t) : zMet l E yX7_kind cX7_kind 2 (some .int) 2 [.ref (E.2.1 58), .int a1] mem (some (.int t)) mem := by
  refine z_enter (by decide) (Nat.le_of_ble_eq_true rfl) (fun Γ C Rq => ?_)
  have C : zC E Γ RX7 cX7_kind 2 2 := C
  show zG l E Γ 2 0 [(0, .ref (E.2.1 58)), (1, .int a1)] [] mem
  unfold fX7_kind at h
  refine z_aload_n C dX7_kind_0 rfl (j := 0) rfl ?_
  refine z_iload_n C dX7_kind_1 rfl (j := 1) rfl ?_
  obtain ⟨r1, h1, h⟩ := Option.bind_eq_some_iff.mp h
  refine z_callVi [.int a1] [] C dX7_kind_2 (by decide) zen_58 rfl zk_X7_180 zw558 zw559 ⟨⟨by decide, by decide⟩, rfl, Nat.le_of_ble_eq_true rfl⟩ rfl (sX7_isThing  h1) ?_
  refine z_if_eq 20 C dX7_kind_5 (by decide) h (fun h => ?_) (fun h => ?_)
  · refine z_ldc C dX7_kind_20 zw141 ?_
    have e := Option.some.inj h; subst e; exact z_iret C dX7_kind_22 Rq
  · refine z_aload_n C dX7_kind_8 rfl (j := 0) rfl ?_
    refine zg7_5 C dX7_kind_9 zw101 ?_
    refine z_bipush (v := 6) C dX7_kind_12 zb6 ?_
    refine z_iload_n C dX7_kind_14 rfl (j := 1) rfl ?_
    refine z_iadd C dX7_kind_15 ?_
    refine z_iald C dX7_kind_16 zar62 h (fun h => ?_)
    refine z_goto 22 C dX7_kind_17 (by decide) ?_
    have e := Option.some.inj h; subst e; exact z_iret C dX7_kind_22 Rq
-- X7_isKind
def fX7_isKind_j19  (x0 : Int32) (x1 : Int32) : Option (Int32) :=
  if x1 = (4 : Int32) then (if x0 = (5 : Int32) then (some (1 : Int32)) else (some (0 : Int32))) else (some (0 : Int32))
set_option maxRecDepth 100000 in
set_option maxHeartbeats 4000000 in
theorem jX7_isKind_19 {l : Launch} {E : ZE} {Γ : ZG} (C : zC E Γ RX7 cX7_isKind 2 0)  {x0 : Int32} {x1 : Int32}  {mem : ZM}  {t : Int32}  (Rq : zRq E Γ (some .boolean) (some (.int t)) mem) (h : fX7_isKind_j19  x0 x1 = some t) : zG l E Γ 2 19 [(0, .int x0), (1, .int x1)] [] mem := by
  unfold fX7_isKind_j19 at h
  refine z_iload_n C dX7_isKind_19 rfl (j := 1) rfl ?_
  refine z_iconst (v := 4) C dX7_isKind_20 zc4 ?_
  refine z_icmp_ne 33 C dX7_isKind_21 (by decide) h (fun h => ?_) (fun h => ?_)
  · refine z_iconst (v := 0) C dX7_isKind_33 zc0 ?_
    have e := Option.some.inj h; subst e; exact z_zret C dX7_isKind_34 zbl0 Rq
  · refine z_iload_n C dX7_isKind_24 rfl (j := 0) rfl ?_
    refine z_iconst (v := 5) C dX7_isKind_25 zc5 ?_
    refine z_icmp_ne 33 C dX7_isKind_26 (by decide) h (fun h => ?_) (fun h => ?_)
    · refine z_iconst (v := 0) C dX7_isKind_33 zc0 ?_
      have e := Option.some.inj h; subst e; exact z_zret C dX7_isKind_34 zbl0 Rq
    · refine z_iconst (v := 1) C dX7_isKind_29 zc1 ?_
      refine z_goto 34 C dX7_isKind_30 (by decide) ?_
      have e := Option.some.inj h; subst e; exact z_zret C dX7_isKind_34 zbl1 Rq
def fX7_isKind  (a0 : Int32) (a1 : Int32) : Option (Int32) :=
  if a1 = 0 then (some (1 : Int32)) else (if a0 = a1 then (some (1 : Int32)) else (if a1 = (1 : Int32) then (if a0 < (4 : Int32) then (some (1 : Int32)) else (fX7_isKind_j19  a0 a1)) else (fX7_isKind_j19  a0 a1)))
set_option maxRecDepth 100000 in
set_option maxHeartbeats 4000000 in
theorem sX7_isKind {l : Launch} {E : ZE}  {a0 : Int32} {a1 : Int32} {mem : ZM} {t : Int32} (h : fX7_isKind a0 a1 = some t) : zMet l E yX7_isKind cX7_isKind 2 (some .boolean) 0 [.int a0, .int a1] mem (some (.int t)) mem := by
  refine z_enter (by decide) (Nat.le_of_ble_eq_true rfl) (fun Γ C Rq => ?_)
  have C : zC E Γ RX7 cX7_isKind 2 0 := C
  show zG l E Γ 2 0 [(0, .int a0), (1, .int a1)] [] mem
  unfold fX7_isKind at h
  refine z_iload_n C dX7_isKind_0 rfl (j := 1) rfl ?_
  refine z_if_eq 29 C dX7_isKind_1 (by decide) h (fun h => ?_) (fun h => ?_)
  · refine z_iconst (v := 1) C dX7_isKind_29 zc1 ?_
    refine z_goto 34 C dX7_isKind_30 (by decide) ?_
    have e := Option.some.inj h; subst e; exact z_zret C dX7_isKind_34 zbl1 Rq
  · refine z_iload_n C dX7_isKind_4 rfl (j := 0) rfl ?_
    refine z_iload_n C dX7_isKind_5 rfl (j := 1) rfl ?_
    refine z_icmp_eq 29 C dX7_isKind_6 (by decide) h (fun h => ?_) (fun h => ?_)
    · refine z_iconst (v := 1) C dX7_isKind_29 zc1 ?_
      refine z_goto 34 C dX7_isKind_30 (by decide) ?_
      have e := Option.some.inj h; subst e; exact z_zret C dX7_isKind_34 zbl1 Rq
    · refine z_iload_n C dX7_isKind_9 rfl (j := 1) rfl ?_
      refine z_iconst (v := 1) C dX7_isKind_10 zc1 ?_
      refine z_icmp_ne 19 C dX7_isKind_11 (by decide) h (fun h => ?_) (fun h => ?_)
      · refine z_pick [0, 1] rfl ?_
        exact jX7_isKind_19 C   Rq h
      · refine z_iload_n C dX7_isKind_14 rfl (j := 0) rfl ?_
        refine z_iconst (v := 4) C dX7_isKind_15 zc4 ?_
        refine z_icmp_lt 29 C dX7_isKind_16 (by decide) h (fun h => ?_) (fun h => ?_)
        · refine z_iconst (v := 1) C dX7_isKind_29 zc1 ?_
          refine z_goto 34 C dX7_isKind_30 (by decide) ?_
          have e := Option.some.inj h; subst e; exact z_zret C dX7_isKind_34 zbl1 Rq
        · refine z_pick [0, 1] rfl ?_
          exact jX7_isKind_19 C   Rq h
-- X7_as
def fX7_as  (a1 : Int32) (a2 : Int32) (mem : ZM) : Option (Int32 × ZM) :=
  Option.bind (fX7_isThing a1 mem) (fun r1 => if r1 = 0 then (some ((-1000001 : Int32), mem)) else (Option.bind (fX7_in a2.toInt64 (0 : Int64) (5 : Int64)) (fun r2 => if r2 = 0 then (some ((-1000001 : Int32), mem)) else (zgd (zin ((6 : Int32) + a1) 38) (Option.bind (fX7_isKind (mem 62 ((6 : Int32) + a1).toNatClampNeg) a2) (fun r3 => if r3 = 0 then (Option.bind (fX7_find (3 : Int32) mem) (fun r4 => some (r4.1, r4.2))) else (Option.bind (fX7_well a1 mem) (fun r5 => some (r5.1, r5.2)))))))))
set_option maxRecDepth 100000 in
set_option maxHeartbeats 4000000 in
theorem sX7_as {l : Launch} {E : ZE}  {a1 : Int32} {a2 : Int32} {mem : ZM} {t : Int32 × ZM} (h : fX7_as a1 a2 mem = some t) : zMet l E yX7_as cX7_as 3 (some .int) 2 [.ref (E.2.1 58), .int a1, .int a2] mem (some (.int t.1)) t.2 := by
  refine z_enter (by decide) (Nat.le_of_ble_eq_true rfl) (fun Γ C Rq => ?_)
  have C : zC E Γ RX7 cX7_as 3 2 := C
  show zG l E Γ 3 0 [(0, .ref (E.2.1 58)), (1, .int a1), (2, .int a2)] [] mem
  unfold fX7_as at h
  refine z_aload_n C dX7_as_0 rfl (j := 0) rfl ?_
  refine z_iload_n C dX7_as_1 rfl (j := 1) rfl ?_
  obtain ⟨r1, h1, h⟩ := Option.bind_eq_some_iff.mp h
  refine z_callVi [.int a1] [] C dX7_as_2 (by decide) zen_58 rfl zk_X7_180 zw558 zw559 ⟨⟨by decide, by decide⟩, rfl, Nat.le_of_ble_eq_true rfl⟩ rfl (sX7_isThing  h1) ?_
  refine z_if_eq 20 C dX7_as_5 (by decide) h (fun h => ?_) (fun h => ?_)
  · refine z_ldc C dX7_as_20 zw141 ?_
    have e := Option.some.inj h; subst e; exact z_iret C dX7_as_22 Rq
  · refine z_iload_n C dX7_as_8 rfl (j := 2) rfl ?_
    refine z_i2l C dX7_as_9 ?_
    refine z_lconst (v := 0) C dX7_as_10 zl0 ?_
    refine z_ldc2 C dX7_as_11 zw935 ?_
    obtain ⟨r2, h2, h⟩ := Option.bind_eq_some_iff.mp h
    refine z_callSi [.long a2.toInt64, .long (0 : Int64), .long (5 : Int64)] [] C dX7_as_14 zk_X7_57 zw147 ⟨⟨by decide, by decide⟩, rfl, Nat.le_of_ble_eq_true rfl⟩ rfl (sX7_in  h2) ?_
    refine z_if_ne 23 C dX7_as_17 (by decide) h (fun h => ?_) (fun h => ?_)
    · refine z_aload_n C dX7_as_23 rfl (j := 0) rfl ?_
      refine zg7_5 C dX7_as_24 zw101 ?_
      refine z_bipush (v := 6) C dX7_as_27 zb6 ?_
      refine z_iload_n C dX7_as_29 rfl (j := 1) rfl ?_
      refine z_iadd C dX7_as_30 ?_
      refine z_iald C dX7_as_31 zar62 h (fun h => ?_)
      refine z_iload_n C dX7_as_32 rfl (j := 2) rfl ?_
      obtain ⟨r3, h3, h⟩ := Option.bind_eq_some_iff.mp h
      refine z_callSi [.int (mem 62 ((6 : Int32) + a1).toNatClampNeg), .int a2] [] C dX7_as_33 zk_X7_253 zw972 ⟨⟨by decide, by decide⟩, rfl, Nat.le_of_ble_eq_true rfl⟩ rfl (sX7_isKind  h3) ?_
      refine z_if_eq 47 C dX7_as_36 (by decide) h (fun h => ?_) (fun h => ?_)
      · refine z_aload_n C dX7_as_47 rfl (j := 0) rfl ?_
        refine z_iconst (v := 3) C dX7_as_48 zc3 ?_
        obtain ⟨r4, h4, h⟩ := Option.bind_eq_some_iff.mp h
        refine z_callVi [.int (3 : Int32)] [] C dX7_as_49 (by decide) zen_58 rfl zk_X7_68 zw150 zw151 ⟨⟨by decide, by decide⟩, rfl, Nat.le_of_ble_eq_true rfl⟩ rfl (sX7_find  h4) ?_
        have e := Option.some.inj h; subst e; exact z_iret C dX7_as_52 Rq
      · refine z_aload_n C dX7_as_39 rfl (j := 0) rfl ?_
        refine z_iload_n C dX7_as_40 rfl (j := 1) rfl ?_
        obtain ⟨r5, h5, h⟩ := Option.bind_eq_some_iff.mp h
        refine z_callVi [.int a1] [] C dX7_as_41 (by decide) zen_58 rfl zk_X7_72 zw156 zw157 ⟨⟨by decide, by decide⟩, rfl, Nat.le_of_ble_eq_true rfl⟩ rfl (sX7_well  h5) ?_
        refine z_goto 52 C dX7_as_44 (by decide) ?_
        have e := Option.some.inj h; subst e; exact z_iret C dX7_as_52 Rq
    · refine z_ldc C dX7_as_20 zw141 ?_
      have e := Option.some.inj h; subst e; exact z_iret C dX7_as_22 Rq
-- X7_begin
def fX7_begin  (a1 : Int32) (mem : ZM) : Option (ZM) :=
  if (16 : Int32) ≤ (mem 58 24) then (some mem) else (zgd (zin (mem 58 24) 16) (zlet (zst mem 71 (mem 58 24).toNatClampNeg a1) (fun m1 => zlet (zst m1 58 24 ((m1 58 24) + (1 : Int32))) (fun m2 => some m2))))
set_option maxRecDepth 100000 in
set_option maxHeartbeats 4000000 in
theorem sX7_begin {l : Launch} {E : ZE}  {a1 : Int32} {mem : ZM} {t : ZM} (h : fX7_begin a1 mem = some t) : zMet l E yX7_begin cX7_begin 2 none 0 [.ref (E.2.1 58), .int a1] mem none t := by
  refine z_enter (by decide) (Nat.le_of_ble_eq_true rfl) (fun Γ C Rq => ?_)
  have C : zC E Γ RX7 cX7_begin 2 0 := C
  show zG l E Γ 2 0 [(0, .ref (E.2.1 58)), (1, .int a1)] [] mem
  unfold fX7_begin at h
  refine z_aload_n C dX7_begin_0 rfl (j := 0) rfl ?_
  refine zg7_24 C dX7_begin_1 zw1041 ?_
  refine z_bipush (v := 16) C dX7_begin_4 zb16 ?_
  refine z_icmp_ge 29 C dX7_begin_6 (by decide) h (fun h => ?_) (fun h => ?_)
  · have e := Option.some.inj h; subst e; exact z_vret C dX7_begin_29 Rq
  · refine z_aload_n C dX7_begin_9 rfl (j := 0) rfl ?_
    refine zg7_23 C dX7_begin_10 zw111 ?_
    refine z_aload_n C dX7_begin_13 rfl (j := 0) rfl ?_
    refine zg7_24 C dX7_begin_14 zw1041 ?_
    refine z_iload_n C dX7_begin_17 rfl (j := 1) rfl ?_
    refine z_iast C dX7_begin_18 zar71 h (fun m1 h => ?_)
    refine z_aload_n C dX7_begin_19 rfl (j := 0) rfl ?_
    refine z_dup C dX7_begin_20 rfl ?_
    refine zg7_24 C dX7_begin_21 zw1041 ?_
    refine z_iconst (v := 1) C dX7_begin_24 zc1 ?_
    refine z_iadd C dX7_begin_25 ?_
    refine zp7_24 C dX7_begin_26 zw1041 h (fun m2 h => ?_)
    have e := Option.some.inj h; subst e; exact z_vret C dX7_begin_29 Rq
-- X7_lent
def fX7_lent  (a1 : Int32) (a2 : Int32) (mem : ZM) : Option (Int32 × ZM) :=
  Option.bind (fX7_begin a2 mem) (fun r1 => if a2 = (10 : Int32) then (zgd (zin ((14 : Int32) + a1) 38) (some (r1 62 ((14 : Int32) + a1).toNatClampNeg, r1))) else (some (a1, r1)))
set_option maxRecDepth 100000 in
set_option maxHeartbeats 4000000 in
theorem sX7_lent {l : Launch} {E : ZE}  {a1 : Int32} {a2 : Int32} {mem : ZM} {t : Int32 × ZM} (h : fX7_lent a1 a2 mem = some t) : zMet l E yX7_lent cX7_lent 3 (some .int) 1 [.ref (E.2.1 58), .int a1, .int a2] mem (some (.int t.1)) t.2 := by
  refine z_enter (by decide) (Nat.le_of_ble_eq_true rfl) (fun Γ C Rq => ?_)
  have C : zC E Γ RX7 cX7_lent 3 1 := C
  show zG l E Γ 3 0 [(0, .ref (E.2.1 58)), (1, .int a1), (2, .int a2)] [] mem
  unfold fX7_lent at h
  refine z_aload_n C dX7_lent_0 rfl (j := 0) rfl ?_
  refine z_iload_n C dX7_lent_1 rfl (j := 2) rfl ?_
  obtain ⟨r1, h1, h⟩ := Option.bind_eq_some_iff.mp h
  refine z_callVv [.int a2] [] C dX7_lent_2 (by decide) zen_58 rfl zk_X7_259 zw1047 zw1048 ⟨⟨by decide, by decide⟩, rfl, Nat.le_of_ble_eq_true rfl⟩ rfl (sX7_begin  h1) ?_
  refine z_iload_n C dX7_lent_5 rfl (j := 2) rfl ?_
  refine z_bipush (v := 10) C dX7_lent_6 zb10 ?_
  refine z_icmp_ne 23 C dX7_lent_8 (by decide) h (fun h => ?_) (fun h => ?_)
  · refine z_iload_n C dX7_lent_23 rfl (j := 1) rfl ?_
    have e := Option.some.inj h; subst e; exact z_iret C dX7_lent_24 Rq
  · refine z_aload_n C dX7_lent_11 rfl (j := 0) rfl ?_
    refine zg7_5 C dX7_lent_12 zw101 ?_
    refine z_bipush (v := 14) C dX7_lent_15 zb14 ?_
    refine z_iload_n C dX7_lent_17 rfl (j := 1) rfl ?_
    refine z_iadd C dX7_lent_18 ?_
    refine z_iald C dX7_lent_19 zar62 h (fun h => ?_)
    refine z_goto 24 C dX7_lent_20 (by decide) ?_
    have e := Option.some.inj h; subst e; exact z_iret C dX7_lent_24 Rq
-- X7_stickMark
def fX7_stickMark  (a1 : Int32) (mem : ZM) : Option (Int32 × ZM) :=
  Option.bind (fX7_begin (21 : Int32) mem) (fun r1 => Option.bind (fX7_lent a1 (20 : Int32) r1) (fun r2 => zgd (zin ((22 : Int32) + a1) 38) (some ((r2.1 + (r2.2 62 ((22 : Int32) + a1).toNatClampNeg)), r2.2))))
set_option maxRecDepth 100000 in
set_option maxHeartbeats 4000000 in
theorem sX7_stickMark {l : Launch} {E : ZE}  {a1 : Int32} {mem : ZM} {t : Int32 × ZM} (h : fX7_stickMark a1 mem = some t) : zMet l E yX7_stickMark cX7_stickMark 2 (some .int) 2 [.ref (E.2.1 58), .int a1] mem (some (.int t.1)) t.2 := by
  refine z_enter (by decide) (Nat.le_of_ble_eq_true rfl) (fun Γ C Rq => ?_)
  have C : zC E Γ RX7 cX7_stickMark 2 2 := C
  show zG l E Γ 2 0 [(0, .ref (E.2.1 58)), (1, .int a1)] [] mem
  unfold fX7_stickMark at h
  refine z_aload_n C dX7_stickMark_0 rfl (j := 0) rfl ?_
  refine z_bipush (v := 21) C dX7_stickMark_1 zb21 ?_
  obtain ⟨r1, h1, h⟩ := Option.bind_eq_some_iff.mp h
  refine z_callVv [.int (21 : Int32)] [] C dX7_stickMark_3 (by decide) zen_58 rfl zk_X7_259 zw1047 zw1048 ⟨⟨by decide, by decide⟩, rfl, Nat.le_of_ble_eq_true rfl⟩ rfl (sX7_begin  h1) ?_
  refine z_aload_n C dX7_stickMark_6 rfl (j := 0) rfl ?_
  refine z_iload_n C dX7_stickMark_7 rfl (j := 1) rfl ?_
  refine z_bipush (v := 20) C dX7_stickMark_8 zb20 ?_
  obtain ⟨r2, h2, h⟩ := Option.bind_eq_some_iff.mp h
  refine z_callVi [.int a1, .int (20 : Int32)] [] C dX7_stickMark_10 (by decide) zen_58 rfl zk_X7_262 zw1055 zw1056 ⟨⟨by decide, by decide⟩, rfl, Nat.le_of_ble_eq_true rfl⟩ rfl (sX7_lent  h2) ?_
  refine z_aload_n C dX7_stickMark_13 rfl (j := 0) rfl ?_
  refine zg7_5 C dX7_stickMark_14 zw101 ?_
  refine z_bipush (v := 22) C dX7_stickMark_17 zb22 ?_
  refine z_iload_n C dX7_stickMark_19 rfl (j := 1) rfl ?_
  refine z_iadd C dX7_stickMark_20 ?_
  refine z_iald C dX7_stickMark_21 zar62 h (fun h => ?_)
  refine z_iadd C dX7_stickMark_22 ?_
  have e := Option.some.inj h; subst e; exact z_iret C dX7_stickMark_23 Rq
-- X7_doorSize
def fX7_doorSize  (a1 : Int32) (mem : ZM) : Option (Int32 × ZM) :=
  Option.bind (fX7_begin (13 : Int32) mem) (fun r1 => Option.bind (fX7_lent a1 (10 : Int32) r1) (fun r2 => some ((r2.1 - (100 : Int32)), r2.2)))
set_option maxRecDepth 100000 in
set_option maxHeartbeats 4000000 in
theorem sX7_doorSize {l : Launch} {E : ZE}  {a1 : Int32} {mem : ZM} {t : Int32 × ZM} (h : fX7_doorSize a1 mem = some t) : zMet l E yX7_doorSize cX7_doorSize 2 (some .int) 2 [.ref (E.2.1 58), .int a1] mem (some (.int t.1)) t.2 := by
  refine z_enter (by decide) (Nat.le_of_ble_eq_true rfl) (fun Γ C Rq => ?_)
  have C : zC E Γ RX7 cX7_doorSize 2 2 := C
  show zG l E Γ 2 0 [(0, .ref (E.2.1 58)), (1, .int a1)] [] mem
  unfold fX7_doorSize at h
  refine z_aload_n C dX7_doorSize_0 rfl (j := 0) rfl ?_
  refine z_bipush (v := 13) C dX7_doorSize_1 zb13 ?_
  obtain ⟨r1, h1, h⟩ := Option.bind_eq_some_iff.mp h
  refine z_callVv [.int (13 : Int32)] [] C dX7_doorSize_3 (by decide) zen_58 rfl zk_X7_259 zw1047 zw1048 ⟨⟨by decide, by decide⟩, rfl, Nat.le_of_ble_eq_true rfl⟩ rfl (sX7_begin  h1) ?_
  refine z_aload_n C dX7_doorSize_6 rfl (j := 0) rfl ?_
  refine z_iload_n C dX7_doorSize_7 rfl (j := 1) rfl ?_
  refine z_bipush (v := 10) C dX7_doorSize_8 zb10 ?_
  obtain ⟨r2, h2, h⟩ := Option.bind_eq_some_iff.mp h
  refine z_callVi [.int a1, .int (10 : Int32)] [] C dX7_doorSize_10 (by decide) zen_58 rfl zk_X7_262 zw1055 zw1056 ⟨⟨by decide, by decide⟩, rfl, Nat.le_of_ble_eq_true rfl⟩ rfl (sX7_lent  h2) ?_
  refine z_bipush (v := 100) C dX7_doorSize_13 zb100 ?_
  refine z_isub C dX7_doorSize_15 ?_
  have e := Option.some.inj h; subst e; exact z_iret C dX7_doorSize_16 Rq
-- X7_sizeOfDoor
def fX7_sizeOfDoor  (a1 : Int32) (mem : ZM) : Option (Int32 × ZM) :=
  zgd (zin ((6 : Int32) + a1) 38) (if (mem 62 ((6 : Int32) + a1).toNatClampNeg) = (5 : Int32) then (Option.bind (fX7_begin (14 : Int32) mem) (fun r2 => Option.bind (fX7_doorSize a1 r2) (fun r3 => some (((2 : Int32) * r3.1), r3.2)))) else (Option.bind (fX7_doorSize a1 mem) (fun r1 => some (r1.1, r1.2))))
set_option maxRecDepth 100000 in
set_option maxHeartbeats 4000000 in
theorem sX7_sizeOfDoor {l : Launch} {E : ZE}  {a1 : Int32} {mem : ZM} {t : Int32 × ZM} (h : fX7_sizeOfDoor a1 mem = some t) : zMet l E yX7_sizeOfDoor cX7_sizeOfDoor 2 (some .int) 3 [.ref (E.2.1 58), .int a1] mem (some (.int t.1)) t.2 := by
  refine z_enter (by decide) (Nat.le_of_ble_eq_true rfl) (fun Γ C Rq => ?_)
  have C : zC E Γ RX7 cX7_sizeOfDoor 2 3 := C
  show zG l E Γ 2 0 [(0, .ref (E.2.1 58)), (1, .int a1)] [] mem
  unfold fX7_sizeOfDoor at h
  refine z_aload_n C dX7_sizeOfDoor_0 rfl (j := 0) rfl ?_
  refine zg7_5 C dX7_sizeOfDoor_1 zw101 ?_
  refine z_bipush (v := 6) C dX7_sizeOfDoor_4 zb6 ?_
  refine z_iload_n C dX7_sizeOfDoor_6 rfl (j := 1) rfl ?_
  refine z_iadd C dX7_sizeOfDoor_7 ?_
  refine z_iald C dX7_sizeOfDoor_8 zar62 h (fun h => ?_)
  refine z_iconst (v := 5) C dX7_sizeOfDoor_9 zc5 ?_
  refine z_icmp_ne 27 C dX7_sizeOfDoor_10 (by decide) h (fun h => ?_) (fun h => ?_)
  · refine z_aload_n C dX7_sizeOfDoor_27 rfl (j := 0) rfl ?_
    refine z_iload_n C dX7_sizeOfDoor_28 rfl (j := 1) rfl ?_
    obtain ⟨r1, h1, h⟩ := Option.bind_eq_some_iff.mp h
    refine z_callVi [.int a1] [] C dX7_sizeOfDoor_29 (by decide) zen_58 rfl zk_X7_265 zw1071 zw1072 ⟨⟨by decide, by decide⟩, rfl, Nat.le_of_ble_eq_true rfl⟩ rfl (sX7_doorSize  h1) ?_
    have e := Option.some.inj h; subst e; exact z_iret C dX7_sizeOfDoor_32 Rq
  · refine z_aload_n C dX7_sizeOfDoor_13 rfl (j := 0) rfl ?_
    refine z_bipush (v := 14) C dX7_sizeOfDoor_14 zb14 ?_
    obtain ⟨r2, h2, h⟩ := Option.bind_eq_some_iff.mp h
    refine z_callVv [.int (14 : Int32)] [] C dX7_sizeOfDoor_16 (by decide) zen_58 rfl zk_X7_259 zw1047 zw1048 ⟨⟨by decide, by decide⟩, rfl, Nat.le_of_ble_eq_true rfl⟩ rfl (sX7_begin  h2) ?_
    refine z_iconst (v := 2) C dX7_sizeOfDoor_19 zc2 ?_
    refine z_aload_n C dX7_sizeOfDoor_20 rfl (j := 0) rfl ?_
    refine z_iload_n C dX7_sizeOfDoor_21 rfl (j := 1) rfl ?_
    obtain ⟨r3, h3, h⟩ := Option.bind_eq_some_iff.mp h
    refine z_callVi [.int a1] [.int (2 : Int32)] C dX7_sizeOfDoor_22 (by decide) zen_58 rfl zk_X7_265 zw1071 zw1072 ⟨⟨by decide, by decide⟩, rfl, Nat.le_of_ble_eq_true rfl⟩ rfl (sX7_doorSize  h3) ?_
    refine z_imul C dX7_sizeOfDoor_25 ?_
    have e := Option.some.inj h; subst e; exact z_iret C dX7_sizeOfDoor_26 Rq
-- X7_markOf
def fX7_markOf  (a1 : Int32) (mem : ZM) : Option (Int32 × ZM) :=
  zgd (zin ((6 : Int32) + a1) 38) (zlet (mem 62 ((6 : Int32) + a1).toNatClampNeg) (fun v1 => if v1 = (2 : Int32) then (Option.bind (fX7_begin (24 : Int32) mem) (fun r9 => Option.bind (fX7_stickMark a1 r9) (fun r10 => some (((2 : Int32) * r10.1), r10.2)))) else (if v1 = (3 : Int32) then (Option.bind (fX7_begin (22 : Int32) mem) (fun r7 => Option.bind (fX7_stickMark a1 r7) (fun r8 => some ((r8.1 - (1000 : Int32)), r8.2)))) else (if v1 = (1 : Int32) then (Option.bind (fX7_stickMark a1 mem) (fun r6 => some (r6.1, r6.2))) else (Option.bind (fX7_begin (23 : Int32) mem) (fun r2 => Option.bind (fX7_lent a1 (20 : Int32) r2) (fun r3 => zlet r3.1 (fun v4 => Option.bind (fX7_sizeOfDoor a1 r3.2) (fun r5 => some ((v4 - r5.1), r5.2))))))))))
set_option maxRecDepth 100000 in
set_option maxHeartbeats 4000000 in
theorem sX7_markOf {l : Launch} {E : ZE}  {a1 : Int32} {mem : ZM} {t : Int32 × ZM} (h : fX7_markOf a1 mem = some t) : zMet l E yX7_markOf cX7_markOf 4 (some .int) 4 [.ref (E.2.1 58), .int a1] mem (some (.int t.1)) t.2 := by
  refine z_enter (by decide) (Nat.le_of_ble_eq_true rfl) (fun Γ C Rq => ?_)
  have C : zC E Γ RX7 cX7_markOf 4 4 := C
  show zG l E Γ 4 0 [(0, .ref (E.2.1 58)), (1, .int a1)] [] mem
  unfold fX7_markOf at h
  refine z_aload_n C dX7_markOf_0 rfl (j := 0) rfl ?_
  refine zg7_5 C dX7_markOf_1 zw101 ?_
  refine z_bipush (v := 6) C dX7_markOf_4 zb6 ?_
  refine z_iload_n C dX7_markOf_6 rfl (j := 1) rfl ?_
  refine z_iadd C dX7_markOf_7 ?_
  refine z_iald C dX7_markOf_8 zar62 h (fun h => ?_)
  refine z_istore_n [(0, .ref (E.2.1 58)), (1, .int a1)] C dX7_markOf_9 h rfl (by decide) rfl (fun v1 h => ?_)
  refine z_iload_n C dX7_markOf_10 rfl (j := 0) rfl ?_
  refine z_iconst (v := 2) C dX7_markOf_11 zc2 ?_
  refine z_icmp_ne 29 C dX7_markOf_12 (by decide) h (fun h => ?_) (fun h => ?_)
  · refine z_iload_n C dX7_markOf_29 rfl (j := 0) rfl ?_
    refine z_iconst (v := 3) C dX7_markOf_30 zc3 ?_
    refine z_icmp_ne 50 C dX7_markOf_31 (by decide) h (fun h => ?_) (fun h => ?_)
    · refine z_iload_n C dX7_markOf_50 rfl (j := 0) rfl ?_
      refine z_iconst (v := 1) C dX7_markOf_51 zc1 ?_
      refine z_icmp_ne 61 C dX7_markOf_52 (by decide) h (fun h => ?_) (fun h => ?_)
      · refine z_aload_n C dX7_markOf_61 rfl (j := 1) rfl ?_
        refine z_bipush (v := 23) C dX7_markOf_62 zb23 ?_
        obtain ⟨r2, h2, h⟩ := Option.bind_eq_some_iff.mp h
        refine z_callVv [.int (23 : Int32)] [] C dX7_markOf_64 (by decide) zen_58 rfl zk_X7_259 zw1047 zw1048 ⟨⟨by decide, by decide⟩, rfl, Nat.le_of_ble_eq_true rfl⟩ rfl (sX7_begin  h2) ?_
        refine z_aload_n C dX7_markOf_67 rfl (j := 1) rfl ?_
        refine z_iload_n C dX7_markOf_68 rfl (j := 2) rfl ?_
        refine z_bipush (v := 20) C dX7_markOf_69 zb20 ?_
        obtain ⟨r3, h3, h⟩ := Option.bind_eq_some_iff.mp h
        refine z_callVi [.int a1, .int (20 : Int32)] [] C dX7_markOf_71 (by decide) zen_58 rfl zk_X7_262 zw1055 zw1056 ⟨⟨by decide, by decide⟩, rfl, Nat.le_of_ble_eq_true rfl⟩ rfl (sX7_lent  h3) ?_
        refine z_istore_n [(2, .int v1), (0, .ref (E.2.1 58)), (1, .int a1)] C dX7_markOf_74 h rfl (by decide) rfl (fun v4 h => ?_)
        refine z_iload_n C dX7_markOf_75 rfl (j := 0) rfl ?_
        refine z_aload_n C dX7_markOf_76 rfl (j := 2) rfl ?_
        refine z_iload_n C dX7_markOf_77 rfl (j := 3) rfl ?_
        obtain ⟨r5, h5, h⟩ := Option.bind_eq_some_iff.mp h
        refine z_callVi [.int a1] [.int v4] C dX7_markOf_78 (by decide) zen_58 rfl zk_X7_271 zw1067 zw1068 ⟨⟨by decide, by decide⟩, rfl, Nat.le_of_ble_eq_true rfl⟩ rfl (sX7_sizeOfDoor  h5) ?_
        refine z_isub C dX7_markOf_81 ?_
        have e := Option.some.inj h; subst e; exact z_iret C dX7_markOf_82 Rq
      · refine z_aload_n C dX7_markOf_55 rfl (j := 1) rfl ?_
        refine z_iload_n C dX7_markOf_56 rfl (j := 2) rfl ?_
        obtain ⟨r6, h6, h⟩ := Option.bind_eq_some_iff.mp h
        refine z_callVi [.int a1] [] C dX7_markOf_57 (by decide) zen_58 rfl zk_X7_268 zw1063 zw1064 ⟨⟨by decide, by decide⟩, rfl, Nat.le_of_ble_eq_true rfl⟩ rfl (sX7_stickMark  h6) ?_
        have e := Option.some.inj h; subst e; exact z_iret C dX7_markOf_60 Rq
    · refine z_aload_n C dX7_markOf_34 rfl (j := 1) rfl ?_
      refine z_bipush (v := 22) C dX7_markOf_35 zb22 ?_
      obtain ⟨r7, h7, h⟩ := Option.bind_eq_some_iff.mp h
      refine z_callVv [.int (22 : Int32)] [] C dX7_markOf_37 (by decide) zen_58 rfl zk_X7_259 zw1047 zw1048 ⟨⟨by decide, by decide⟩, rfl, Nat.le_of_ble_eq_true rfl⟩ rfl (sX7_begin  h7) ?_
      refine z_aload_n C dX7_markOf_40 rfl (j := 1) rfl ?_
      refine z_iload_n C dX7_markOf_41 rfl (j := 2) rfl ?_
      obtain ⟨r8, h8, h⟩ := Option.bind_eq_some_iff.mp h
      refine z_callVi [.int a1] [] C dX7_markOf_42 (by decide) zen_58 rfl zk_X7_268 zw1063 zw1064 ⟨⟨by decide, by decide⟩, rfl, Nat.le_of_ble_eq_true rfl⟩ rfl (sX7_stickMark  h8) ?_
      refine z_sipush (v := 1000) C dX7_markOf_45 zs1000 ?_
      refine z_isub C dX7_markOf_48 ?_
      have e := Option.some.inj h; subst e; exact z_iret C dX7_markOf_49 Rq
  · refine z_aload_n C dX7_markOf_15 rfl (j := 1) rfl ?_
    refine z_bipush (v := 24) C dX7_markOf_16 zb24 ?_
    obtain ⟨r9, h9, h⟩ := Option.bind_eq_some_iff.mp h
    refine z_callVv [.int (24 : Int32)] [] C dX7_markOf_18 (by decide) zen_58 rfl zk_X7_259 zw1047 zw1048 ⟨⟨by decide, by decide⟩, rfl, Nat.le_of_ble_eq_true rfl⟩ rfl (sX7_begin  h9) ?_
    refine z_iconst (v := 2) C dX7_markOf_21 zc2 ?_
    refine z_aload_n C dX7_markOf_22 rfl (j := 1) rfl ?_
    refine z_iload_n C dX7_markOf_23 rfl (j := 2) rfl ?_
    obtain ⟨r10, h10, h⟩ := Option.bind_eq_some_iff.mp h
    refine z_callVi [.int a1] [.int (2 : Int32)] C dX7_markOf_24 (by decide) zen_58 rfl zk_X7_268 zw1063 zw1064 ⟨⟨by decide, by decide⟩, rfl, Nat.le_of_ble_eq_true rfl⟩ rfl (sX7_stickMark  h10) ?_
    refine z_imul C dX7_markOf_27 ?_
    have e := Option.some.inj h; subst e; exact z_iret C dX7_markOf_28 Rq
-- X7_stickSize
def fX7_stickSize  (a1 : Int32) (mem : ZM) : Option (Int32 × ZM) :=
  Option.bind (fX7_begin (11 : Int32) mem) (fun r1 => Option.bind (fX7_lent a1 (10 : Int32) r1) (fun r2 => zlet r2.1 (fun v3 => Option.bind (fX7_markOf a1 r2.2) (fun r4 => some ((v3 + r4.1), r4.2)))))
set_option maxRecDepth 100000 in
set_option maxHeartbeats 4000000 in
theorem sX7_stickSize {l : Launch} {E : ZE}  {a1 : Int32} {mem : ZM} {t : Int32 × ZM} (h : fX7_stickSize a1 mem = some t) : zMet l E yX7_stickSize cX7_stickSize 3 (some .int) 5 [.ref (E.2.1 58), .int a1] mem (some (.int t.1)) t.2 := by
  refine z_enter (by decide) (Nat.le_of_ble_eq_true rfl) (fun Γ C Rq => ?_)
  have C : zC E Γ RX7 cX7_stickSize 3 5 := C
  show zG l E Γ 3 0 [(0, .ref (E.2.1 58)), (1, .int a1)] [] mem
  unfold fX7_stickSize at h
  refine z_aload_n C dX7_stickSize_0 rfl (j := 0) rfl ?_
  refine z_bipush (v := 11) C dX7_stickSize_1 zb11 ?_
  obtain ⟨r1, h1, h⟩ := Option.bind_eq_some_iff.mp h
  refine z_callVv [.int (11 : Int32)] [] C dX7_stickSize_3 (by decide) zen_58 rfl zk_X7_259 zw1047 zw1048 ⟨⟨by decide, by decide⟩, rfl, Nat.le_of_ble_eq_true rfl⟩ rfl (sX7_begin  h1) ?_
  refine z_aload_n C dX7_stickSize_6 rfl (j := 0) rfl ?_
  refine z_iload_n C dX7_stickSize_7 rfl (j := 1) rfl ?_
  refine z_bipush (v := 10) C dX7_stickSize_8 zb10 ?_
  obtain ⟨r2, h2, h⟩ := Option.bind_eq_some_iff.mp h
  refine z_callVi [.int a1, .int (10 : Int32)] [] C dX7_stickSize_10 (by decide) zen_58 rfl zk_X7_262 zw1055 zw1056 ⟨⟨by decide, by decide⟩, rfl, Nat.le_of_ble_eq_true rfl⟩ rfl (sX7_lent  h2) ?_
  refine z_istore_n [(0, .ref (E.2.1 58)), (1, .int a1)] C dX7_stickSize_13 h rfl (by decide) rfl (fun v3 h => ?_)
  refine z_iload_n C dX7_stickSize_14 rfl (j := 0) rfl ?_
  refine z_aload_n C dX7_stickSize_15 rfl (j := 1) rfl ?_
  refine z_iload_n C dX7_stickSize_16 rfl (j := 2) rfl ?_
  obtain ⟨r4, h4, h⟩ := Option.bind_eq_some_iff.mp h
  refine z_callVi [.int a1] [.int v3] C dX7_stickSize_17 (by decide) zen_58 rfl zk_X7_274 zw1059 zw1060 ⟨⟨by decide, by decide⟩, rfl, Nat.le_of_ble_eq_true rfl⟩ rfl (sX7_markOf  h4) ?_
  refine z_iadd C dX7_stickSize_20 ?_
  have e := Option.some.inj h; subst e; exact z_iret C dX7_stickSize_21 Rq
-- X7_sizeOf
def fX7_sizeOf  (a1 : Int32) (mem : ZM) : Option (Int32 × ZM) :=
  zgd (zin ((6 : Int32) + a1) 38) (zlet (mem 62 ((6 : Int32) + a1).toNatClampNeg) (fun v1 => if v1 = (2 : Int32) then (Option.bind (fX7_begin (12 : Int32) mem) (fun r4 => Option.bind (fX7_stickSize a1 r4) (fun r5 => some ((-r5.1), r5.2)))) else (if v1 < (4 : Int32) then (Option.bind (fX7_stickSize a1 mem) (fun r2 => some (r2.1, r2.2))) else (Option.bind (fX7_sizeOfDoor a1 mem) (fun r3 => some (r3.1, r3.2))))))
set_option maxRecDepth 100000 in
set_option maxHeartbeats 4000000 in
theorem sX7_sizeOf {l : Launch} {E : ZE}  {a1 : Int32} {mem : ZM} {t : Int32 × ZM} (h : fX7_sizeOf a1 mem = some t) : zMet l E yX7_sizeOf cX7_sizeOf 3 (some .int) 6 [.ref (E.2.1 58), .int a1] mem (some (.int t.1)) t.2 := by
  refine z_enter (by decide) (Nat.le_of_ble_eq_true rfl) (fun Γ C Rq => ?_)
  have C : zC E Γ RX7 cX7_sizeOf 3 6 := C
  show zG l E Γ 3 0 [(0, .ref (E.2.1 58)), (1, .int a1)] [] mem
  unfold fX7_sizeOf at h
  refine z_aload_n C dX7_sizeOf_0 rfl (j := 0) rfl ?_
  refine zg7_5 C dX7_sizeOf_1 zw101 ?_
  refine z_bipush (v := 6) C dX7_sizeOf_4 zb6 ?_
  refine z_iload_n C dX7_sizeOf_6 rfl (j := 1) rfl ?_
  refine z_iadd C dX7_sizeOf_7 ?_
  refine z_iald C dX7_sizeOf_8 zar62 h (fun h => ?_)
  refine z_istore_n [(0, .ref (E.2.1 58)), (1, .int a1)] C dX7_sizeOf_9 h rfl (by decide) rfl (fun v1 h => ?_)
  refine z_iload_n C dX7_sizeOf_10 rfl (j := 0) rfl ?_
  refine z_iconst (v := 2) C dX7_sizeOf_11 zc2 ?_
  refine z_icmp_ne 28 C dX7_sizeOf_12 (by decide) h (fun h => ?_) (fun h => ?_)
  · refine z_iload_n C dX7_sizeOf_28 rfl (j := 0) rfl ?_
    refine z_iconst (v := 4) C dX7_sizeOf_29 zc4 ?_
    refine z_icmp_lt 41 C dX7_sizeOf_30 (by decide) h (fun h => ?_) (fun h => ?_)
    · refine z_aload_n C dX7_sizeOf_41 rfl (j := 1) rfl ?_
      refine z_iload_n C dX7_sizeOf_42 rfl (j := 2) rfl ?_
      obtain ⟨r2, h2, h⟩ := Option.bind_eq_some_iff.mp h
      refine z_callVi [.int a1] [] C dX7_sizeOf_43 (by decide) zen_58 rfl zk_X7_277 zw1051 zw1052 ⟨⟨by decide, by decide⟩, rfl, Nat.le_of_ble_eq_true rfl⟩ rfl (sX7_stickSize  h2) ?_
      have e := Option.some.inj h; subst e; exact z_iret C dX7_sizeOf_46 Rq
    · refine z_aload_n C dX7_sizeOf_33 rfl (j := 1) rfl ?_
      refine z_iload_n C dX7_sizeOf_34 rfl (j := 2) rfl ?_
      obtain ⟨r3, h3, h⟩ := Option.bind_eq_some_iff.mp h
      refine z_callVi [.int a1] [] C dX7_sizeOf_35 (by decide) zen_58 rfl zk_X7_271 zw1067 zw1068 ⟨⟨by decide, by decide⟩, rfl, Nat.le_of_ble_eq_true rfl⟩ rfl (sX7_sizeOfDoor  h3) ?_
      refine z_goto 46 C dX7_sizeOf_38 (by decide) ?_
      have e := Option.some.inj h; subst e; exact z_iret C dX7_sizeOf_46 Rq
  · refine z_aload_n C dX7_sizeOf_15 rfl (j := 1) rfl ?_
    refine z_bipush (v := 12) C dX7_sizeOf_16 zb12 ?_
    obtain ⟨r4, h4, h⟩ := Option.bind_eq_some_iff.mp h
    refine z_callVv [.int (12 : Int32)] [] C dX7_sizeOf_18 (by decide) zen_58 rfl zk_X7_259 zw1047 zw1048 ⟨⟨by decide, by decide⟩, rfl, Nat.le_of_ble_eq_true rfl⟩ rfl (sX7_begin  h4) ?_
    refine z_aload_n C dX7_sizeOf_21 rfl (j := 1) rfl ?_
    refine z_iload_n C dX7_sizeOf_22 rfl (j := 2) rfl ?_
    obtain ⟨r5, h5, h⟩ := Option.bind_eq_some_iff.mp h
    refine z_callVi [.int a1] [] C dX7_sizeOf_23 (by decide) zen_58 rfl zk_X7_277 zw1051 zw1052 ⟨⟨by decide, by decide⟩, rfl, Nat.le_of_ble_eq_true rfl⟩ rfl (sX7_stickSize  h5) ?_
    refine z_ineg C dX7_sizeOf_26 ?_
    have e := Option.some.inj h; subst e; exact z_iret C dX7_sizeOf_27 Rq
-- X7_ask
def fX7_ask  (a1 : Int32) (a2 : Int32) (mem : ZM) : Option (Int32 × ZM) :=
  Option.bind (fX7_isThing a1 mem) (fun r1 => if r1 = 0 then (some ((-1000001 : Int32), mem)) else (Option.bind (fX7_in a2.toInt64 (0 : Int64) (1 : Int64)) (fun r2 => if r2 = 0 then (some ((-1000001 : Int32), mem)) else (zlet (zst mem 58 24 (0 : Int32)) (fun m3 => if a2 = 0 then (Option.bind (fX7_sizeOf a1 m3) (fun r5 => some (r5.1, r5.2))) else (Option.bind (fX7_markOf a1 m3) (fun r4 => some (r4.1, r4.2))))))))
set_option maxRecDepth 100000 in
set_option maxHeartbeats 4000000 in
theorem sX7_ask {l : Launch} {E : ZE}  {a1 : Int32} {a2 : Int32} {mem : ZM} {t : Int32 × ZM} (h : fX7_ask a1 a2 mem = some t) : zMet l E yX7_ask cX7_ask 3 (some .int) 7 [.ref (E.2.1 58), .int a1, .int a2] mem (some (.int t.1)) t.2 := by
  refine z_enter (by decide) (Nat.le_of_ble_eq_true rfl) (fun Γ C Rq => ?_)
  have C : zC E Γ RX7 cX7_ask 3 7 := C
  show zG l E Γ 3 0 [(0, .ref (E.2.1 58)), (1, .int a1), (2, .int a2)] [] mem
  unfold fX7_ask at h
  refine z_aload_n C dX7_ask_0 rfl (j := 0) rfl ?_
  refine z_iload_n C dX7_ask_1 rfl (j := 1) rfl ?_
  obtain ⟨r1, h1, h⟩ := Option.bind_eq_some_iff.mp h
  refine z_callVi [.int a1] [] C dX7_ask_2 (by decide) zen_58 rfl zk_X7_180 zw558 zw559 ⟨⟨by decide, by decide⟩, rfl, Nat.le_of_ble_eq_true rfl⟩ rfl (sX7_isThing  h1) ?_
  refine z_if_eq 18 C dX7_ask_5 (by decide) h (fun h => ?_) (fun h => ?_)
  · refine z_ldc C dX7_ask_18 zw141 ?_
    have e := Option.some.inj h; subst e; exact z_iret C dX7_ask_20 Rq
  · refine z_iload_n C dX7_ask_8 rfl (j := 2) rfl ?_
    refine z_i2l C dX7_ask_9 ?_
    refine z_lconst (v := 0) C dX7_ask_10 zl0 ?_
    refine z_lconst (v := 1) C dX7_ask_11 zl1 ?_
    obtain ⟨r2, h2, h⟩ := Option.bind_eq_some_iff.mp h
    refine z_callSi [.long a2.toInt64, .long (0 : Int64), .long (1 : Int64)] [] C dX7_ask_12 zk_X7_57 zw147 ⟨⟨by decide, by decide⟩, rfl, Nat.le_of_ble_eq_true rfl⟩ rfl (sX7_in  h2) ?_
    refine z_if_ne 21 C dX7_ask_15 (by decide) h (fun h => ?_) (fun h => ?_)
    · refine z_aload_n C dX7_ask_21 rfl (j := 0) rfl ?_
      refine z_iconst (v := 0) C dX7_ask_22 zc0 ?_
      refine zp7_24 C dX7_ask_23 zw1041 h (fun m3 h => ?_)
      refine z_iload_n C dX7_ask_26 rfl (j := 2) rfl ?_
      refine z_if_ne 38 C dX7_ask_27 (by decide) h (fun h => ?_) (fun h => ?_)
      · refine z_aload_n C dX7_ask_38 rfl (j := 0) rfl ?_
        refine z_iload_n C dX7_ask_39 rfl (j := 1) rfl ?_
        obtain ⟨r4, h4, h⟩ := Option.bind_eq_some_iff.mp h
        refine z_callVi [.int a1] [] C dX7_ask_40 (by decide) zen_58 rfl zk_X7_274 zw1059 zw1060 ⟨⟨by decide, by decide⟩, rfl, Nat.le_of_ble_eq_true rfl⟩ rfl (sX7_markOf  h4) ?_
        have e := Option.some.inj h; subst e; exact z_iret C dX7_ask_43 Rq
      · refine z_aload_n C dX7_ask_30 rfl (j := 0) rfl ?_
        refine z_iload_n C dX7_ask_31 rfl (j := 1) rfl ?_
        obtain ⟨r5, h5, h⟩ := Option.bind_eq_some_iff.mp h
        refine z_callVi [.int a1] [] C dX7_ask_32 (by decide) zen_58 rfl zk_X7_280 zw1043 zw1044 ⟨⟨by decide, by decide⟩, rfl, Nat.le_of_ble_eq_true rfl⟩ rfl (sX7_sizeOf  h5) ?_
        refine z_goto 43 C dX7_ask_35 (by decide) ?_
        have e := Option.some.inj h; subst e; exact z_iret C dX7_ask_43 Rq
    · refine z_ldc C dX7_ask_18 zw141 ?_
      have e := Option.some.inj h; subst e; exact z_iret C dX7_ask_20 Rq
-- X7_trace
def fX7_trace  (a1 : Int32) (mem : ZM) : Option (Int32) :=
  Option.bind (fX7_in a1.toInt64 (0 : Int64) (((mem 58 24) - (1 : Int32)).toInt64)) (fun r1 => if r1 = 0 then (some (-1000000 : Int32)) else (zgd (zin a1 16) (some (mem 71 a1.toNatClampNeg))))
set_option maxRecDepth 100000 in
set_option maxHeartbeats 4000000 in
theorem sX7_trace {l : Launch} {E : ZE}  {a1 : Int32} {mem : ZM} {t : Int32} (h : fX7_trace a1 mem = some t) : zMet l E yX7_trace cX7_trace 2 (some .int) 1 [.ref (E.2.1 58), .int a1] mem (some (.int t)) mem := by
  refine z_enter (by decide) (Nat.le_of_ble_eq_true rfl) (fun Γ C Rq => ?_)
  have C : zC E Γ RX7 cX7_trace 2 1 := C
  show zG l E Γ 2 0 [(0, .ref (E.2.1 58)), (1, .int a1)] [] mem
  unfold fX7_trace at h
  refine z_iload_n C dX7_trace_0 rfl (j := 1) rfl ?_
  refine z_i2l C dX7_trace_1 ?_
  refine z_lconst (v := 0) C dX7_trace_2 zl0 ?_
  refine z_aload_n C dX7_trace_3 rfl (j := 0) rfl ?_
  refine zg7_24 C dX7_trace_4 zw1041 ?_
  refine z_iconst (v := 1) C dX7_trace_7 zc1 ?_
  refine z_isub C dX7_trace_8 ?_
  refine z_i2l C dX7_trace_9 ?_
  obtain ⟨r1, h1, h⟩ := Option.bind_eq_some_iff.mp h
  refine z_callSi [.long a1.toInt64, .long (0 : Int64), .long (((mem 58 24) - (1 : Int32)).toInt64)] [] C dX7_trace_10 zk_X7_57 zw147 ⟨⟨by decide, by decide⟩, rfl, Nat.le_of_ble_eq_true rfl⟩ rfl (sX7_in  h1) ?_
  refine z_if_eq 25 C dX7_trace_13 (by decide) h (fun h => ?_) (fun h => ?_)
  · refine z_ldc C dX7_trace_25 zw737 ?_
    have e := Option.some.inj h; subst e; exact z_iret C dX7_trace_27 Rq
  · refine z_aload_n C dX7_trace_16 rfl (j := 0) rfl ?_
    refine zg7_23 C dX7_trace_17 zw111 ?_
    refine z_iload_n C dX7_trace_20 rfl (j := 1) rfl ?_
    refine z_iald C dX7_trace_21 zar71 h (fun h => ?_)
    refine z_goto 27 C dX7_trace_22 (by decide) ?_
    have e := Option.some.inj h; subst e; exact z_iret C dX7_trace_27 Rq
-- X7_count
def fX7_count_j25  (y4_1 : Int32) (x3 : Int32) (k0 : Int32) (k1 : Int32) (mem4 : ZM) : Option ((Int32 × Int32) ⊕ (Int32 × Int32)) :=
  zlet (k1 + k0) (fun v4 => zlet (x3 + (1 : Int32)) (fun v5 => some (Sum.inl (v4, v5))))
set_option maxRecDepth 100000 in
set_option maxHeartbeats 4000000 in
theorem jX7_count_25 {l : Launch} {E : ZE} {Γ : ZG} (C : zC E Γ RX7 cX7_count 4 1)  {y4_1 : Int32} {x3 : Int32} {k0 : Int32} {k1 : Int32}  {mem4 : ZM}  {u : (Int32 × Int32) ⊕ (Int32 × Int32)}  (G1 : ∀ s', u = Sum.inl s' → zG l E Γ 4 4 [(0, .ref (E.2.1 58)), (1, .int y4_1), (2, .int (s'.1)), (3, .int (s'.2))] [] mem4) (G2 : ∀ s', u = Sum.inr s' → zG l E Γ 4 33 [(0, .ref (E.2.1 58)), (1, .int y4_1), (2, .int (s'.1))] [] mem4) (h : fX7_count_j25  y4_1 x3 k0 k1 mem4 = some u) : zG l E Γ 4 25 [(0, .ref (E.2.1 58)), (1, .int y4_1), (3, .int x3)] [.int k0, .int k1] mem4 := by
  unfold fX7_count_j25 at h
  refine z_iadd C dX7_count_25 ?_
  refine z_istore_n [(0, .ref (E.2.1 58)), (1, .int y4_1), (3, .int x3)] C dX7_count_26 h rfl (by decide) rfl (fun v4 h => ?_)
  refine z_iinc [(2, .int v4), (0, .ref (E.2.1 58)), (1, .int y4_1)] C dX7_count_27 zc1 h (j := 3) rfl (by decide) rfl (fun v5 h => ?_)
  refine z_goto 4 C dX7_count_30 (by decide) ?_
  refine z_pick [2, 3, 1, 0] rfl ?_
  exact G1 _ (Option.some.inj h).symm
def fX7_count_b4  (y4_1 : Int32) (mem4 : ZM) (x4_2 : Int32) (x4_3 : Int32) : Option ((Int32 × Int32) ⊕ (Int32 × Int32)) :=
  if (8 : Int32) ≤ x4_3 then (some (Sum.inr (x4_2, x4_3))) else (zgd (zin x4_3 8) (if (mem4 60 x4_3.toNatClampNeg) < 0 then (fX7_count_j25  y4_1 x4_3 (0 : Int32) x4_2 mem4) else (fX7_count_j25  y4_1 x4_3 (1 : Int32) x4_2 mem4)))
def fX7_count_l4  (y4_1 : Int32) (mem4 : ZM) (s : Int32 × Int32) : Option (Int32 × Int32) := ziter (fun s => fX7_count_b4 y4_1 mem4 s.1 s.2) 2000 s
set_option maxRecDepth 100000 in
set_option maxHeartbeats 4000000 in
theorem bX7_count_4 {l : Launch} {E : ZE} {Γ : ZG} (C : zC E Γ RX7 cX7_count 4 1)  {y4_1 : Int32} {mem4 : ZM} {x4_2 : Int32} {x4_3 : Int32} {u : (Int32 × Int32) ⊕ (Int32 × Int32)} (G1 : ∀ s', u = Sum.inl s' → zG l E Γ 4 4 [(0, .ref (E.2.1 58)), (1, .int y4_1), (2, .int (s'.1)), (3, .int (s'.2))] [] mem4) (G2 : ∀ s', u = Sum.inr s' → zG l E Γ 4 33 [(0, .ref (E.2.1 58)), (1, .int y4_1), (2, .int (s'.1))] [] mem4) (h : fX7_count_b4 y4_1 mem4 x4_2 x4_3 = some u) : zG l E Γ 4 4 [(0, .ref (E.2.1 58)), (1, .int y4_1), (2, .int x4_2), (3, .int x4_3)] [] mem4 := by
  unfold fX7_count_b4 at h
  refine z_iload_n C dX7_count_4 rfl (j := 3) rfl ?_
  refine z_bipush (v := 8) C dX7_count_5 zb8 ?_
  refine z_icmp_ge 33 C dX7_count_7 (by decide) h (fun h => ?_) (fun h => ?_)
  · refine z_pick [0, 1, 2] rfl ?_
    exact G2 _ (Option.some.inj h).symm
  · refine z_iload_n C dX7_count_10 rfl (j := 2) rfl ?_
    refine z_aload_n C dX7_count_11 rfl (j := 0) rfl ?_
    refine zg7_1 C dX7_count_12 zw99 ?_
    refine z_iload_n C dX7_count_15 rfl (j := 3) rfl ?_
    refine z_iald C dX7_count_16 zar60 h (fun h => ?_)
    refine z_if_lt 24 C dX7_count_17 (by decide) h (fun h => ?_) (fun h => ?_)
    · refine z_iconst (v := 0) C dX7_count_24 zc0 ?_
      refine z_pick [0, 1, 3] rfl ?_
      exact jX7_count_25 C   G1 G2 h
    · refine z_iconst (v := 1) C dX7_count_20 zc1 ?_
      refine z_goto 25 C dX7_count_21 (by decide) ?_
      refine z_pick [0, 1, 3] rfl ?_
      exact jX7_count_25 C   G1 G2 h
theorem lX7_count_4 {l : Launch} {E : ZE} {Γ : ZG} (C : zC E Γ RX7 cX7_count 4 1)  {y4_1 : Int32} {mem4 : ZM} {s : Int32 × Int32} {r : Int32 × Int32} (h : fX7_count_l4 y4_1 mem4 s = some r) (K1 : zG l E Γ 4 33 [(0, .ref (E.2.1 58)), (1, .int y4_1), (2, .int r.1)] [] mem4) : zG l E Γ 4 4 [(0, .ref (E.2.1 58)), (1, .int y4_1), (2, .int s.1), (3, .int s.2)] [] mem4 :=
  z_loop (body := fun s => fX7_count_b4 y4_1 mem4 s.1 s.2) (fun s => zG l E Γ 4 4 [(0, .ref (E.2.1 58)), (1, .int y4_1), (2, .int s.1), (3, .int s.2)] [] mem4) (fun r => zG l E Γ 4 33 [(0, .ref (E.2.1 58)), (1, .int y4_1), (2, .int r.1)] [] mem4) (fun s u hb g1 g2 => bX7_count_4 C  g1 g2 hb) 2000 s r h K1
def fX7_count  (a1 : Int32) (mem : ZM) : Option (Int32) :=
  zlet (0 : Int32) (fun v1 => zlet (0 : Int32) (fun v2 => Option.bind (fX7_count_l4 a1 mem (v1, v2)) (fun r3 => if a1 = (0 : Int32) then (some r3.1) else if a1 = (1 : Int32) then (zgd (zin (0 : Int32) 38) (some (mem 62 (0 : Int32).toNatClampNeg))) else if a1 = (2 : Int32) then (zgd (zin (1 : Int32) 38) (some (mem 62 (1 : Int32).toNatClampNeg))) else if a1 = (3 : Int32) then (zgd (zin (2 : Int32) 38) (some (mem 62 (2 : Int32).toNatClampNeg))) else if a1 = (4 : Int32) then (zgd (zin (4 : Int32) 38) (some (mem 62 (4 : Int32).toNatClampNeg))) else if a1 = (5 : Int32) then (zgd (zin (5 : Int32) 38) (some (mem 62 (5 : Int32).toNatClampNeg))) else if a1 = (6 : Int32) then (Option.bind (fX7_ashes mem) (fun r13 => some r13)) else if a1 = (7 : Int32) then (zgd (zin (3 : Int32) 38) (some (mem 62 (3 : Int32).toNatClampNeg))) else if a1 = (8 : Int32) then (some (mem 58 19)) else if a1 = (9 : Int32) then (some (mem 58 8)) else (some (-1000001 : Int32)))))
set_option maxRecDepth 100000 in
set_option maxHeartbeats 4000000 in
theorem sX7_count {l : Launch} {E : ZE}  {a1 : Int32} {mem : ZM} {t : Int32} (h : fX7_count a1 mem = some t) : zMet l E yX7_count cX7_count 4 (some .int) 1 [.ref (E.2.1 58), .int a1] mem (some (.int t)) mem := by
  refine z_enter (by decide) (Nat.le_of_ble_eq_true rfl) (fun Γ C Rq => ?_)
  have C : zC E Γ RX7 cX7_count 4 1 := C
  show zG l E Γ 4 0 [(0, .ref (E.2.1 58)), (1, .int a1)] [] mem
  unfold fX7_count at h
  refine z_iconst (v := 0) C dX7_count_0 zc0 ?_
  refine z_istore_n [(0, .ref (E.2.1 58)), (1, .int a1)] C dX7_count_1 h rfl (by decide) rfl (fun v1 h => ?_)
  refine z_iconst (v := 0) C dX7_count_2 zc0 ?_
  refine z_istore_n [(2, .int v1), (0, .ref (E.2.1 58)), (1, .int a1)] C dX7_count_3 h rfl (by decide) rfl (fun v2 h => ?_)
  obtain ⟨r3, h3, h⟩ := Option.bind_eq_some_iff.mp h
  refine z_pick [2, 3, 1, 0] rfl ?_
  refine lX7_count_4 C  h3 ?_
  refine z_iload_n C dX7_count_33 rfl (j := 1) rfl ?_
  by_cases c6 : a1 = (0 : Int32)
  · rw [if_pos c6] at h
    refine z_swIn (off := 54) 88 C dX7_count_34 0 c6 (by decide) (by decide) (by decide) (by decide) ?_
    refine z_iload_n C dX7_count_88 rfl (j := 2) rfl ?_
    have e := Option.some.inj h; subst e; exact z_iret C dX7_count_89 Rq
  rw [if_neg c6] at h
  have nc6 : (a1).toInt ≠ 0 := zne c6
  by_cases c7 : a1 = (1 : Int32)
  · rw [if_pos c7] at h
    refine z_swIn (off := 56) 90 C dX7_count_34 1 c7 (by decide) (by decide) (by decide) (by decide) ?_
    refine z_aload_n C dX7_count_90 rfl (j := 0) rfl ?_
    refine zg7_5 C dX7_count_91 zw101 ?_
    refine z_iconst (v := 0) C dX7_count_94 zc0 ?_
    refine z_iald C dX7_count_95 zar62 h (fun h => ?_)
    have e := Option.some.inj h; subst e; exact z_iret C dX7_count_96 Rq
  rw [if_neg c7] at h
  have nc7 : (a1).toInt ≠ 1 := zne c7
  by_cases c8 : a1 = (2 : Int32)
  · rw [if_pos c8] at h
    refine z_swIn (off := 63) 97 C dX7_count_34 2 c8 (by decide) (by decide) (by decide) (by decide) ?_
    refine z_aload_n C dX7_count_97 rfl (j := 0) rfl ?_
    refine zg7_5 C dX7_count_98 zw101 ?_
    refine z_iconst (v := 1) C dX7_count_101 zc1 ?_
    refine z_iald C dX7_count_102 zar62 h (fun h => ?_)
    have e := Option.some.inj h; subst e; exact z_iret C dX7_count_103 Rq
  rw [if_neg c8] at h
  have nc8 : (a1).toInt ≠ 2 := zne c8
  by_cases c9 : a1 = (3 : Int32)
  · rw [if_pos c9] at h
    refine z_swIn (off := 70) 104 C dX7_count_34 3 c9 (by decide) (by decide) (by decide) (by decide) ?_
    refine z_aload_n C dX7_count_104 rfl (j := 0) rfl ?_
    refine zg7_5 C dX7_count_105 zw101 ?_
    refine z_iconst (v := 2) C dX7_count_108 zc2 ?_
    refine z_iald C dX7_count_109 zar62 h (fun h => ?_)
    have e := Option.some.inj h; subst e; exact z_iret C dX7_count_110 Rq
  rw [if_neg c9] at h
  have nc9 : (a1).toInt ≠ 3 := zne c9
  by_cases c10 : a1 = (4 : Int32)
  · rw [if_pos c10] at h
    refine z_swIn (off := 77) 111 C dX7_count_34 4 c10 (by decide) (by decide) (by decide) (by decide) ?_
    refine z_aload_n C dX7_count_111 rfl (j := 0) rfl ?_
    refine zg7_5 C dX7_count_112 zw101 ?_
    refine z_iconst (v := 4) C dX7_count_115 zc4 ?_
    refine z_iald C dX7_count_116 zar62 h (fun h => ?_)
    have e := Option.some.inj h; subst e; exact z_iret C dX7_count_117 Rq
  rw [if_neg c10] at h
  have nc10 : (a1).toInt ≠ 4 := zne c10
  by_cases c11 : a1 = (5 : Int32)
  · rw [if_pos c11] at h
    refine z_swIn (off := 84) 118 C dX7_count_34 5 c11 (by decide) (by decide) (by decide) (by decide) ?_
    refine z_aload_n C dX7_count_118 rfl (j := 0) rfl ?_
    refine zg7_5 C dX7_count_119 zw101 ?_
    refine z_iconst (v := 5) C dX7_count_122 zc5 ?_
    refine z_iald C dX7_count_123 zar62 h (fun h => ?_)
    have e := Option.some.inj h; subst e; exact z_iret C dX7_count_124 Rq
  rw [if_neg c11] at h
  have nc11 : (a1).toInt ≠ 5 := zne c11
  by_cases c12 : a1 = (6 : Int32)
  · rw [if_pos c12] at h
    refine z_swIn (off := 91) 125 C dX7_count_34 6 c12 (by decide) (by decide) (by decide) (by decide) ?_
    refine z_aload_n C dX7_count_125 rfl (j := 0) rfl ?_
    obtain ⟨r13, h13, h⟩ := Option.bind_eq_some_iff.mp h
    refine z_callVi [] [] C dX7_count_126 (by decide) zen_58 rfl zk_X7_214 zw768 zw769 ⟨⟨by decide, by decide⟩, rfl, Nat.le_of_ble_eq_true rfl⟩ rfl (sX7_ashes  h13) ?_
    have e := Option.some.inj h; subst e; exact z_iret C dX7_count_129 Rq
  rw [if_neg c12] at h
  have nc12 : (a1).toInt ≠ 6 := zne c12
  by_cases c14 : a1 = (7 : Int32)
  · rw [if_pos c14] at h
    refine z_swIn (off := 96) 130 C dX7_count_34 7 c14 (by decide) (by decide) (by decide) (by decide) ?_
    refine z_aload_n C dX7_count_130 rfl (j := 0) rfl ?_
    refine zg7_5 C dX7_count_131 zw101 ?_
    refine z_iconst (v := 3) C dX7_count_134 zc3 ?_
    refine z_iald C dX7_count_135 zar62 h (fun h => ?_)
    have e := Option.some.inj h; subst e; exact z_iret C dX7_count_136 Rq
  rw [if_neg c14] at h
  have nc14 : (a1).toInt ≠ 7 := zne c14
  by_cases c15 : a1 = (8 : Int32)
  · rw [if_pos c15] at h
    refine z_swIn (off := 103) 137 C dX7_count_34 8 c15 (by decide) (by decide) (by decide) (by decide) ?_
    refine z_aload_n C dX7_count_137 rfl (j := 0) rfl ?_
    refine zg7_19 C dX7_count_138 zw369 ?_
    have e := Option.some.inj h; subst e; exact z_iret C dX7_count_141 Rq
  rw [if_neg c15] at h
  have nc15 : (a1).toInt ≠ 8 := zne c15
  by_cases c16 : a1 = (9 : Int32)
  · rw [if_pos c16] at h
    refine z_swIn (off := 108) 142 C dX7_count_34 9 c16 (by decide) (by decide) (by decide) (by decide) ?_
    refine z_aload_n C dX7_count_142 rfl (j := 0) rfl ?_
    refine zg7_8 C dX7_count_143 zw224 ?_
    have e := Option.some.inj h; subst e; exact z_iret C dX7_count_146 Rq
  rw [if_neg c16] at h
  have nc16 : (a1).toInt ≠ 9 := zne c16
  refine z_swOut 147 C dX7_count_34 (by omega) (by decide) ?_
  refine z_ldc C dX7_count_147 zw141 ?_
  have e := Option.some.inj h; subst e; exact z_iret C dX7_count_149 Rq
