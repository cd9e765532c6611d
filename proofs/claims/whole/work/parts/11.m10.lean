-- X7_ashesBehind
def fX7_ashesBehind  (a1 : Int32) (mem : ZM) : Option (Int32 × ZM) :=
  Option.bind (fX7_goOn a1 mem) (fun r1 => Option.bind (fX7_ashes r1) (fun r2 => zlet r2 (fun v3 => Option.bind (fX7_takeBack r1) (fun r4 => some (v3, r4)))))
set_option maxRecDepth 100000 in
set_option maxHeartbeats 4000000 in
theorem sX7_ashesBehind {l : Launch} {E : ZE}  {a1 : Int32} {mem : ZM} {t : Int32 × ZM} (h : fX7_ashesBehind a1 mem = some t) : zMet l E yX7_ashesBehind cX7_ashesBehind 3 (some .int) 7 [.ref (E.2.1 58), .int a1] mem (some (.int t.1)) t.2 := by
  refine z_enter (by decide) (Nat.le_of_ble_eq_true rfl) (fun Γ C Rq => ?_)
  have C : zC E Γ RX7 cX7_ashesBehind 3 7 := C
  show zG l E Γ 3 0 [(0, .ref (E.2.1 58)), (1, .int a1)] [] mem
  unfold fX7_ashesBehind at h
  refine z_aload_n C dX7_ashesBehind_0 rfl (j := 0) rfl ?_
  refine z_iload_n C dX7_ashesBehind_1 rfl (j := 1) rfl ?_
  obtain ⟨r1, h1, h⟩ := Option.bind_eq_some_iff.mp h
  refine z_callVv [.int a1] [] C dX7_ashesBehind_2 (by decide) zen_58 rfl zk_X7_203 zw698 zw699 ⟨⟨by decide, by decide⟩, rfl, Nat.le_of_ble_eq_true rfl⟩ rfl (sX7_goOn  h1) ?_
  refine z_aload_n C dX7_ashesBehind_5 rfl (j := 0) rfl ?_
  obtain ⟨r2, h2, h⟩ := Option.bind_eq_some_iff.mp h
  refine z_callVi [] [] C dX7_ashesBehind_6 (by decide) zen_58 rfl zk_X7_214 zw768 zw769 ⟨⟨by decide, by decide⟩, rfl, Nat.le_of_ble_eq_true rfl⟩ rfl (sX7_ashes  h2) ?_
  refine z_istore_n [(0, .ref (E.2.1 58)), (1, .int a1)] C dX7_ashesBehind_9 h rfl (by decide) rfl (fun v3 h => ?_)
  refine z_aload_n C dX7_ashesBehind_10 rfl (j := 1) rfl ?_
  obtain ⟨r4, h4, h⟩ := Option.bind_eq_some_iff.mp h
  refine z_callVv [] [] C dX7_ashesBehind_11 (by decide) zen_58 rfl zk_X7_207 zw702 zw703 ⟨⟨by decide, by decide⟩, rfl, Nat.le_of_ble_eq_true rfl⟩ rfl (sX7_takeBack  h4) ?_
  refine z_iload_n C dX7_ashesBehind_14 rfl (j := 0) rfl ?_
  have e := Option.some.inj h; subst e; exact z_iret C dX7_ashesBehind_15 Rq
-- X7_kindle
def fX7_kindle_j88  (y58_1 : Int32) (y58_2 : Int32) (y58_3 : Int32) (x5 : Int32) (k0 : Int32) (k1 : Int32) (mem58 : ZM) : Option ((Int32 × Int32) ⊕ (Int32 × Int32)) :=
  zlet (k1 ||| k0) (fun v8 => zlet (x5 + (1 : Int32)) (fun v9 => some (Sum.inl (v8, v9))))
set_option maxRecDepth 100000 in
set_option maxHeartbeats 4000000 in
theorem jX7_kindle_88 {l : Launch} {E : ZE} {Γ : ZG} (C : zC E Γ RX7 cX7_kindle 7 8)  {y58_1 : Int32} {y58_2 : Int32} {y58_3 : Int32} {x5 : Int32} {k0 : Int32} {k1 : Int32}  {mem58 : ZM}  {u : (Int32 × Int32) ⊕ (Int32 × Int32)}  (G1 : ∀ s', u = Sum.inl s' → zG l E Γ 7 58 [(0, .ref (E.2.1 58)), (1, .int y58_1), (2, .int y58_2), (3, .int y58_3), (4, .int (s'.1)), (5, .int (s'.2))] [] mem58) (G2 : ∀ s', u = Sum.inr s' → zG l E Γ 7 97 [(0, .ref (E.2.1 58)), (1, .int y58_1), (2, .int y58_2), (3, .int y58_3), (4, .int (s'.1))] [] mem58) (h : fX7_kindle_j88  y58_1 y58_2 y58_3 x5 k0 k1 mem58 = some u) : zG l E Γ 7 88 [(0, .ref (E.2.1 58)), (1, .int y58_1), (2, .int y58_2), (3, .int y58_3), (5, .int x5)] [.int k0, .int k1] mem58 := by
  unfold fX7_kindle_j88 at h
  refine z_ior C dX7_kindle_88 ?_
  refine z_istore [(0, .ref (E.2.1 58)), (1, .int y58_1), (2, .int y58_2), (3, .int y58_3), (5, .int x5)] C dX7_kindle_89 h (by decide) rfl (fun v8 h => ?_)
  refine z_iinc [(4, .int v8), (0, .ref (E.2.1 58)), (1, .int y58_1), (2, .int y58_2), (3, .int y58_3)] C dX7_kindle_91 zc1 h (j := 5) rfl (by decide) rfl (fun v9 h => ?_)
  refine z_goto 58 C dX7_kindle_94 (by decide) ?_
  refine z_pick [2, 3, 4, 5, 1, 0] rfl ?_
  exact G1 _ (Option.some.inj h).symm
def fX7_kindle_b58  (y58_1 : Int32) (y58_2 : Int32) (y58_3 : Int32) (mem58 : ZM) (x58_4 : Int32) (x58_5 : Int32) : Option ((Int32 × Int32) ⊕ (Int32 × Int32)) :=
  zgd (zin (0 : Int32) 38) (if (mem58 62 (0 : Int32).toNatClampNeg) ≤ x58_5 then (some (Sum.inr (x58_4, x58_5))) else (Option.bind (fX7_mayLight x58_5 mem58) (fun r7 => if r7 = 0 then (fX7_kindle_j88  y58_1 y58_2 y58_3 x58_5 (0 : Int32) x58_4 mem58) else (fX7_kindle_j88  y58_1 y58_2 y58_3 x58_5 ((1 : Int32) <<< (x58_5 &&& 31)) x58_4 mem58))))
def fX7_kindle_l58  (y58_1 : Int32) (y58_2 : Int32) (y58_3 : Int32) (mem58 : ZM) (s : Int32 × Int32) : Option (Int32 × Int32) := ziter (fun s => fX7_kindle_b58 y58_1 y58_2 y58_3 mem58 s.1 s.2) 2000 s
set_option maxRecDepth 100000 in
set_option maxHeartbeats 4000000 in
theorem bX7_kindle_58 {l : Launch} {E : ZE} {Γ : ZG} (C : zC E Γ RX7 cX7_kindle 7 8)  {y58_1 : Int32} {y58_2 : Int32} {y58_3 : Int32} {mem58 : ZM} {x58_4 : Int32} {x58_5 : Int32} {u : (Int32 × Int32) ⊕ (Int32 × Int32)} (G1 : ∀ s', u = Sum.inl s' → zG l E Γ 7 58 [(0, .ref (E.2.1 58)), (1, .int y58_1), (2, .int y58_2), (3, .int y58_3), (4, .int (s'.1)), (5, .int (s'.2))] [] mem58) (G2 : ∀ s', u = Sum.inr s' → zG l E Γ 7 97 [(0, .ref (E.2.1 58)), (1, .int y58_1), (2, .int y58_2), (3, .int y58_3), (4, .int (s'.1))] [] mem58) (h : fX7_kindle_b58 y58_1 y58_2 y58_3 mem58 x58_4 x58_5 = some u) : zG l E Γ 7 58 [(0, .ref (E.2.1 58)), (1, .int y58_1), (2, .int y58_2), (3, .int y58_3), (4, .int x58_4), (5, .int x58_5)] [] mem58 := by
  unfold fX7_kindle_b58 at h
  refine z_iload C dX7_kindle_58 (j := 5) rfl ?_
  refine z_aload_n C dX7_kindle_60 rfl (j := 0) rfl ?_
  refine zg7_5 C dX7_kindle_61 zw101 ?_
  refine z_iconst (v := 0) C dX7_kindle_64 zc0 ?_
  refine z_iald C dX7_kindle_65 zar62 h (fun h => ?_)
  refine z_icmp_ge 97 C dX7_kindle_66 (by decide) h (fun h => ?_) (fun h => ?_)
  · refine z_pick [0, 1, 2, 3, 4] rfl ?_
    exact G2 _ (Option.some.inj h).symm
  · refine z_iload C dX7_kindle_69 (j := 4) rfl ?_
    refine z_aload_n C dX7_kindle_71 rfl (j := 0) rfl ?_
    refine z_iload C dX7_kindle_72 (j := 5) rfl ?_
    obtain ⟨r7, h7, h⟩ := Option.bind_eq_some_iff.mp h
    refine z_callVi [.int x58_5] [.int x58_4] C dX7_kindle_74 (by decide) zen_58 rfl zk_X7_183 zw562 zw563 ⟨⟨by decide, by decide⟩, rfl, Nat.le_of_ble_eq_true rfl⟩ rfl (sX7_mayLight  h7) ?_
    refine z_if_eq 87 C dX7_kindle_77 (by decide) h (fun h => ?_) (fun h => ?_)
    · refine z_iconst (v := 0) C dX7_kindle_87 zc0 ?_
      refine z_pick [0, 1, 2, 3, 5] rfl ?_
      exact jX7_kindle_88 C   G1 G2 h
    · refine z_iconst (v := 1) C dX7_kindle_80 zc1 ?_
      refine z_iload C dX7_kindle_81 (j := 5) rfl ?_
      refine z_ishl C dX7_kindle_83 ?_
      refine z_goto 88 C dX7_kindle_84 (by decide) ?_
      refine z_pick [0, 1, 2, 3, 5] rfl ?_
      exact jX7_kindle_88 C   G1 G2 h
theorem lX7_kindle_58 {l : Launch} {E : ZE} {Γ : ZG} (C : zC E Γ RX7 cX7_kindle 7 8)  {y58_1 : Int32} {y58_2 : Int32} {y58_3 : Int32} {mem58 : ZM} {s : Int32 × Int32} {r : Int32 × Int32} (h : fX7_kindle_l58 y58_1 y58_2 y58_3 mem58 s = some r) (K1 : zG l E Γ 7 97 [(0, .ref (E.2.1 58)), (1, .int y58_1), (2, .int y58_2), (3, .int y58_3), (4, .int r.1)] [] mem58) : zG l E Γ 7 58 [(0, .ref (E.2.1 58)), (1, .int y58_1), (2, .int y58_2), (3, .int y58_3), (4, .int s.1), (5, .int s.2)] [] mem58 :=
  z_loop (body := fun s => fX7_kindle_b58 y58_1 y58_2 y58_3 mem58 s.1 s.2) (fun s => zG l E Γ 7 58 [(0, .ref (E.2.1 58)), (1, .int y58_1), (2, .int y58_2), (3, .int y58_3), (4, .int s.1), (5, .int s.2)] [] mem58) (fun r => zG l E Γ 7 97 [(0, .ref (E.2.1 58)), (1, .int y58_1), (2, .int y58_2), (3, .int y58_3), (4, .int r.1)] [] mem58) (fun s u hb g1 g2 => bX7_kindle_58 C  g1 g2 hb) 2000 s r h K1
def fX7_kindle_j175  (y108_1 : Int32) (y108_2 : Int32) (y108_3 : Int32) (y108_4 : Int32) (x5 : Int32) (x6 : Int32) (mem : ZM) : Option ((Int32 × Int32 × ZM) ⊕ (Int32 × Int32 × ZM)) :=
  zlet (x6 + (1 : Int32)) (fun v14 => some (Sum.inl (x5, v14, mem)))
set_option maxRecDepth 100000 in
set_option maxHeartbeats 4000000 in
theorem jX7_kindle_175 {l : Launch} {E : ZE} {Γ : ZG} (C : zC E Γ RX7 cX7_kindle 7 8)  {y108_1 : Int32} {y108_2 : Int32} {y108_3 : Int32} {y108_4 : Int32} {x5 : Int32} {x6 : Int32}  {mem : ZM}  {u : (Int32 × Int32 × ZM) ⊕ (Int32 × Int32 × ZM)}  (G1 : ∀ s', u = Sum.inl s' → zG l E Γ 7 108 [(0, .ref (E.2.1 58)), (1, .int y108_1), (2, .int y108_2), (3, .int y108_3), (4, .int y108_4), (5, .int (s'.1)), (6, .int (s'.2.1))] [] s'.2.2) (G2 : ∀ s', u = Sum.inr s' → zG l E Γ 7 181 [(3, .int y108_3), (5, .int (s'.1))] [] s'.2.2) (h : fX7_kindle_j175  y108_1 y108_2 y108_3 y108_4 x5 x6 mem = some u) : zG l E Γ 7 175 [(0, .ref (E.2.1 58)), (1, .int y108_1), (2, .int y108_2), (3, .int y108_3), (4, .int y108_4), (5, .int x5), (6, .int x6)] [] mem := by
  unfold fX7_kindle_j175 at h
  refine z_iinc [(0, .ref (E.2.1 58)), (1, .int y108_1), (2, .int y108_2), (3, .int y108_3), (4, .int y108_4), (5, .int x5)] C dX7_kindle_175 zc1 h (j := 6) rfl (by decide) rfl (fun v14 h => ?_)
  refine z_goto 108 C dX7_kindle_178 (by decide) ?_
  refine z_pick [1, 2, 3, 4, 5, 6, 0] rfl ?_
  exact G1 _ (Option.some.inj h).symm
def fX7_kindle_j173  (y108_1 : Int32) (y108_2 : Int32) (y108_3 : Int32) (y108_4 : Int32) (x6 : Int32) (k0 : Int32) (mem : ZM) : Option ((Int32 × Int32 × ZM) ⊕ (Int32 × Int32 × ZM)) :=
  zlet k0 (fun v17 => fX7_kindle_j175  y108_1 y108_2 y108_3 y108_4 v17 x6 mem)
set_option maxRecDepth 100000 in
set_option maxHeartbeats 4000000 in
theorem jX7_kindle_173 {l : Launch} {E : ZE} {Γ : ZG} (C : zC E Γ RX7 cX7_kindle 7 8)  {y108_1 : Int32} {y108_2 : Int32} {y108_3 : Int32} {y108_4 : Int32} {x6 : Int32} {k0 : Int32}  {mem : ZM}  {u : (Int32 × Int32 × ZM) ⊕ (Int32 × Int32 × ZM)}  (G1 : ∀ s', u = Sum.inl s' → zG l E Γ 7 108 [(0, .ref (E.2.1 58)), (1, .int y108_1), (2, .int y108_2), (3, .int y108_3), (4, .int y108_4), (5, .int (s'.1)), (6, .int (s'.2.1))] [] s'.2.2) (G2 : ∀ s', u = Sum.inr s' → zG l E Γ 7 181 [(3, .int y108_3), (5, .int (s'.1))] [] s'.2.2) (h : fX7_kindle_j173  y108_1 y108_2 y108_3 y108_4 x6 k0 mem = some u) : zG l E Γ 7 173 [(0, .ref (E.2.1 58)), (1, .int y108_1), (2, .int y108_2), (3, .int y108_3), (4, .int y108_4), (6, .int x6)] [.int k0] mem := by
  unfold fX7_kindle_j173 at h
  refine z_istore [(0, .ref (E.2.1 58)), (1, .int y108_1), (2, .int y108_2), (3, .int y108_3), (4, .int y108_4), (6, .int x6)] C dX7_kindle_173 h (by decide) rfl (fun v17 h => ?_)
  refine z_pick [1, 2, 3, 4, 5, 0, 6] rfl ?_
  exact jX7_kindle_175 C   G1 G2 h
def fX7_kindle_j143  (y108_1 : Int32) (y108_2 : Int32) (y108_3 : Int32) (y108_4 : Int32) (x5 : Int32) (x6 : Int32) (mem : ZM) : Option ((Int32 × Int32 × ZM) ⊕ (Int32 × Int32 × ZM)) :=
  zgd (zin (4 : Int32) 38) (zgd (zin (4 : Int32) 38) (zlet (zst mem 62 (4 : Int32).toNatClampNeg ((mem 62 (4 : Int32).toNatClampNeg) ||| x6)) (fun m15 => Option.bind (fX7_ashesBehind y108_2 m15) (fun r16 => if (y108_1 &&& (r16.1 ^^^ (-1 : Int32))) = 0 then (fX7_kindle_j173  y108_1 y108_2 y108_3 y108_4 x6 x6 r16.2) else (fX7_kindle_j173  y108_1 y108_2 y108_3 y108_4 x6 x5 r16.2)))))
set_option maxRecDepth 100000 in
set_option maxHeartbeats 4000000 in
theorem jX7_kindle_143 {l : Launch} {E : ZE} {Γ : ZG} (C : zC E Γ RX7 cX7_kindle 7 8)  {y108_1 : Int32} {y108_2 : Int32} {y108_3 : Int32} {y108_4 : Int32} {x5 : Int32} {x6 : Int32}  {mem : ZM}  {u : (Int32 × Int32 × ZM) ⊕ (Int32 × Int32 × ZM)}  (G1 : ∀ s', u = Sum.inl s' → zG l E Γ 7 108 [(0, .ref (E.2.1 58)), (1, .int y108_1), (2, .int y108_2), (3, .int y108_3), (4, .int y108_4), (5, .int (s'.1)), (6, .int (s'.2.1))] [] s'.2.2) (G2 : ∀ s', u = Sum.inr s' → zG l E Γ 7 181 [(3, .int y108_3), (5, .int (s'.1))] [] s'.2.2) (h : fX7_kindle_j143  y108_1 y108_2 y108_3 y108_4 x5 x6 mem = some u) : zG l E Γ 7 143 [(0, .ref (E.2.1 58)), (1, .int y108_1), (2, .int y108_2), (3, .int y108_3), (4, .int y108_4), (5, .int x5), (6, .int x6)] [] mem := by
  unfold fX7_kindle_j143 at h
  refine z_aload_n C dX7_kindle_143 rfl (j := 0) rfl ?_
  refine zg7_5 C dX7_kindle_144 zw101 ?_
  refine z_iconst (v := 4) C dX7_kindle_147 zc4 ?_
  refine z_dup2 C dX7_kindle_148 rfl rfl ?_
  refine z_iald C dX7_kindle_149 zar62 h (fun h => ?_)
  refine z_iload C dX7_kindle_150 (j := 6) rfl ?_
  refine z_ior C dX7_kindle_152 ?_
  refine z_iast C dX7_kindle_153 zar62 h (fun m15 h => ?_)
  refine z_iload_n C dX7_kindle_154 rfl (j := 1) rfl ?_
  refine z_aload_n C dX7_kindle_155 rfl (j := 0) rfl ?_
  refine z_iload_n C dX7_kindle_156 rfl (j := 2) rfl ?_
  obtain ⟨r16, h16, h⟩ := Option.bind_eq_some_iff.mp h
  refine z_callVi [.int y108_2] [.int y108_1] C dX7_kindle_157 (by decide) zen_58 rfl zk_X7_221 zw803 zw804 ⟨⟨by decide, by decide⟩, rfl, Nat.le_of_ble_eq_true rfl⟩ rfl (sX7_ashesBehind  h16) ?_
  refine z_iconst (v := -1) C dX7_kindle_160 zcm1 ?_
  refine z_ixor C dX7_kindle_161 ?_
  refine z_iand C dX7_kindle_162 ?_
  refine z_if_ne 171 C dX7_kindle_163 (by decide) h (fun h => ?_) (fun h => ?_)
  · refine z_iload C dX7_kindle_171 (j := 5) rfl ?_
    refine z_pick [0, 1, 2, 3, 4, 6] rfl ?_
    exact jX7_kindle_173 C   G1 G2 h
  · refine z_iload C dX7_kindle_166 (j := 6) rfl ?_
    refine z_goto 173 C dX7_kindle_168 (by decide) ?_
    refine z_pick [0, 1, 2, 3, 4, 6] rfl ?_
    exact jX7_kindle_173 C   G1 G2 h
def fX7_kindle_b108  (y108_1 : Int32) (y108_2 : Int32) (y108_3 : Int32) (y108_4 : Int32) (x108_5 : Int32) (x108_6 : Int32) (memb : ZM) : Option ((Int32 × Int32 × ZM) ⊕ (Int32 × Int32 × ZM)) :=
  if y108_4 < x108_6 then (some (Sum.inr (x108_5, x108_6, memb))) else (if (x108_6 &&& (y108_4 ^^^ (-1 : Int32))) = 0 then (if x108_5 < 0 then (fX7_kindle_j143  y108_1 y108_2 y108_3 y108_4 x108_5 x108_6 memb) else (Option.bind (fX7_ones x108_6) (fun r18 => Option.bind (fX7_ones x108_5) (fun r19 => if r19 ≤ r18 then (fX7_kindle_j175  y108_1 y108_2 y108_3 y108_4 x108_5 x108_6 memb) else (fX7_kindle_j143  y108_1 y108_2 y108_3 y108_4 x108_5 x108_6 memb))))) else (fX7_kindle_j175  y108_1 y108_2 y108_3 y108_4 x108_5 x108_6 memb))
def fX7_kindle_l108  (y108_1 : Int32) (y108_2 : Int32) (y108_3 : Int32) (y108_4 : Int32) (s : Int32 × Int32 × ZM) : Option (Int32 × Int32 × ZM) := ziter (fun s => fX7_kindle_b108 y108_1 y108_2 y108_3 y108_4 s.1 s.2.1 s.2.2) 2000 s
set_option maxRecDepth 100000 in
set_option maxHeartbeats 4000000 in
theorem bX7_kindle_108 {l : Launch} {E : ZE} {Γ : ZG} (C : zC E Γ RX7 cX7_kindle 7 8)  {y108_1 : Int32} {y108_2 : Int32} {y108_3 : Int32} {y108_4 : Int32} {x108_5 : Int32} {x108_6 : Int32} {memb : ZM} {u : (Int32 × Int32 × ZM) ⊕ (Int32 × Int32 × ZM)} (G1 : ∀ s', u = Sum.inl s' → zG l E Γ 7 108 [(0, .ref (E.2.1 58)), (1, .int y108_1), (2, .int y108_2), (3, .int y108_3), (4, .int y108_4), (5, .int (s'.1)), (6, .int (s'.2.1))] [] s'.2.2) (G2 : ∀ s', u = Sum.inr s' → zG l E Γ 7 181 [(3, .int y108_3), (5, .int (s'.1))] [] s'.2.2) (h : fX7_kindle_b108 y108_1 y108_2 y108_3 y108_4 x108_5 x108_6 memb = some u) : zG l E Γ 7 108 [(0, .ref (E.2.1 58)), (1, .int y108_1), (2, .int y108_2), (3, .int y108_3), (4, .int y108_4), (5, .int x108_5), (6, .int x108_6)] [] memb := by
  unfold fX7_kindle_b108 at h
  refine z_iload C dX7_kindle_108 (j := 6) rfl ?_
  refine z_iload C dX7_kindle_110 (j := 4) rfl ?_
  refine z_icmp_gt 181 C dX7_kindle_112 (by decide) h (fun h => ?_) (fun h => ?_)
  · refine z_pick [3, 5] rfl ?_
    exact G2 _ (Option.some.inj h).symm
  · refine z_iload C dX7_kindle_115 (j := 6) rfl ?_
    refine z_iload C dX7_kindle_117 (j := 4) rfl ?_
    refine z_iconst (v := -1) C dX7_kindle_119 zcm1 ?_
    refine z_ixor C dX7_kindle_120 ?_
    refine z_iand C dX7_kindle_121 ?_
    refine z_if_ne 175 C dX7_kindle_122 (by decide) h (fun h => ?_) (fun h => ?_)
    · refine z_pick [0, 1, 2, 3, 4, 5, 6] rfl ?_
      exact jX7_kindle_175 C   G1 G2 h
    · refine z_iload C dX7_kindle_125 (j := 5) rfl ?_
      refine z_if_lt 143 C dX7_kindle_127 (by decide) h (fun h => ?_) (fun h => ?_)
      · refine z_pick [0, 1, 2, 3, 4, 5, 6] rfl ?_
        exact jX7_kindle_143 C   G1 G2 h
      · refine z_iload C dX7_kindle_130 (j := 6) rfl ?_
        obtain ⟨r18, h18, h⟩ := Option.bind_eq_some_iff.mp h
        refine z_callSi [.int x108_6] [] C dX7_kindle_132 zk_X7_218 zw800 ⟨⟨by decide, by decide⟩, rfl, Nat.le_of_ble_eq_true rfl⟩ rfl (sX7_ones  h18) ?_
        refine z_iload C dX7_kindle_135 (j := 5) rfl ?_
        obtain ⟨r19, h19, h⟩ := Option.bind_eq_some_iff.mp h
        refine z_callSi [.int x108_5] [.int r18] C dX7_kindle_137 zk_X7_218 zw800 ⟨⟨by decide, by decide⟩, rfl, Nat.le_of_ble_eq_true rfl⟩ rfl (sX7_ones  h19) ?_
        refine z_icmp_ge 175 C dX7_kindle_140 (by decide) h (fun h => ?_) (fun h => ?_)
        · refine z_pick [0, 1, 2, 3, 4, 5, 6] rfl ?_
          exact jX7_kindle_175 C   G1 G2 h
        · refine z_pick [0, 1, 2, 3, 4, 5, 6] rfl ?_
          exact jX7_kindle_143 C   G1 G2 h
theorem lX7_kindle_108 {l : Launch} {E : ZE} {Γ : ZG} (C : zC E Γ RX7 cX7_kindle 7 8)  {y108_1 : Int32} {y108_2 : Int32} {y108_3 : Int32} {y108_4 : Int32} {s : Int32 × Int32 × ZM} {r : Int32 × Int32 × ZM} (h : fX7_kindle_l108 y108_1 y108_2 y108_3 y108_4 s = some r) (K1 : zG l E Γ 7 181 [(3, .int y108_3), (5, .int r.1)] [] r.2.2) : zG l E Γ 7 108 [(0, .ref (E.2.1 58)), (1, .int y108_1), (2, .int y108_2), (3, .int y108_3), (4, .int y108_4), (5, .int s.1), (6, .int s.2.1)] [] s.2.2 :=
  z_loop (body := fun s => fX7_kindle_b108 y108_1 y108_2 y108_3 y108_4 s.1 s.2.1 s.2.2) (fun s => zG l E Γ 7 108 [(0, .ref (E.2.1 58)), (1, .int y108_1), (2, .int y108_2), (3, .int y108_3), (4, .int y108_4), (5, .int s.1), (6, .int s.2.1)] [] s.2.2) (fun r => zG l E Γ 7 181 [(3, .int y108_3), (5, .int r.1)] [] r.2.2) (fun s u hb g1 g2 => bX7_kindle_108 C  g1 g2 hb) 2000 s r h K1
def fX7_kindle  (a1 : Int32) (a2 : Int32) (a3 : Int32) (mem : ZM) : Option (Int32 × ZM) :=
  if (mem 58 4) = 0 then (some ((-1000002 : Int32), mem)) else (zgd (zin (0 : Int32) 38) (Option.bind (fX7_in a1.toInt64 (0 : Int64) ((((1 : Int32) <<< ((mem 62 (0 : Int32).toNatClampNeg) &&& 31)) - (1 : Int32)).toInt64)) (fun r1 => if r1 = 0 then (some ((-1000001 : Int32), mem)) else (Option.bind (fX7_in a2.toInt64 (1 : Int64) (60 : Int64)) (fun r2 => if r2 = 0 then (some ((-1000001 : Int32), mem)) else (Option.bind (fX7_isWhat a3) (fun r3 => if r3 = 0 then (some ((-1000001 : Int32), mem)) else (zlet (0 : Int32) (fun v4 => zlet (0 : Int32) (fun v5 => Option.bind (fX7_kindle_l58 a1 a2 a3 mem (v4, v5)) (fun r6 => Option.bind (fX7_putAside mem) (fun r10 => zlet (-1000000 : Int32) (fun v11 => zlet (0 : Int32) (fun v12 => Option.bind (fX7_kindle_l108 a1 a2 a3 r6.1 (v11, v12, r10)) (fun r13 => if r13.1 < 0 then (some (r13.1, r13.2.2)) else (if a3 = (1 : Int32) then (some (r13.1, r13.2.2)) else (Option.bind (fX7_ones r13.1) (fun r20 => some (r20, r13.2.2)))))))))))))))))))
set_option maxRecDepth 100000 in
set_option maxHeartbeats 4000000 in
theorem sX7_kindle {l : Launch} {E : ZE}  {a1 : Int32} {a2 : Int32} {a3 : Int32} {mem : ZM} {t : Int32 × ZM} (h : fX7_kindle a1 a2 a3 mem = some t) : zMet l E yX7_kindle cX7_kindle 7 (some .int) 8 [.ref (E.2.1 58), .int a1, .int a2, .int a3] mem (some (.int t.1)) t.2 := by
  refine z_enter (by decide) (Nat.le_of_ble_eq_true rfl) (fun Γ C Rq => ?_)
  have C : zC E Γ RX7 cX7_kindle 7 8 := C
  show zG l E Γ 7 0 [(0, .ref (E.2.1 58)), (1, .int a1), (2, .int a2), (3, .int a3)] [] mem
  unfold fX7_kindle at h
  refine z_aload_n C dX7_kindle_0 rfl (j := 0) rfl ?_
  refine zg7_4 C dX7_kindle_1 zw368 ?_
  refine z_if_ne 10 C dX7_kindle_4 (by decide) h (fun h => ?_) (fun h => ?_)
  · refine z_iload_n C dX7_kindle_10 rfl (j := 1) rfl ?_
    refine z_i2l C dX7_kindle_11 ?_
    refine z_lconst (v := 0) C dX7_kindle_12 zl0 ?_
    refine z_iconst (v := 1) C dX7_kindle_13 zc1 ?_
    refine z_aload_n C dX7_kindle_14 rfl (j := 0) rfl ?_
    refine zg7_5 C dX7_kindle_15 zw101 ?_
    refine z_iconst (v := 0) C dX7_kindle_18 zc0 ?_
    refine z_iald C dX7_kindle_19 zar62 h (fun h => ?_)
    refine z_ishl C dX7_kindle_20 ?_
    refine z_iconst (v := 1) C dX7_kindle_21 zc1 ?_
    refine z_isub C dX7_kindle_22 ?_
    refine z_i2l C dX7_kindle_23 ?_
    obtain ⟨r1, h1, h⟩ := Option.bind_eq_some_iff.mp h
    refine z_callSi [.long a1.toInt64, .long (0 : Int64), .long ((((1 : Int32) <<< ((mem 62 (0 : Int32).toNatClampNeg) &&& 31)) - (1 : Int32)).toInt64)] [] C dX7_kindle_24 zk_X7_57 zw147 ⟨⟨by decide, by decide⟩, rfl, Nat.le_of_ble_eq_true rfl⟩ rfl (sX7_in  h1) ?_
    refine z_if_eq 49 C dX7_kindle_27 (by decide) h (fun h => ?_) (fun h => ?_)
    · refine z_ldc C dX7_kindle_49 zw141 ?_
      have e := Option.some.inj h; subst e; exact z_iret C dX7_kindle_51 Rq
    · refine z_iload_n C dX7_kindle_30 rfl (j := 2) rfl ?_
      refine z_i2l C dX7_kindle_31 ?_
      refine z_lconst (v := 1) C dX7_kindle_32 zl1 ?_
      refine z_ldc2 C dX7_kindle_33 zw689 ?_
      obtain ⟨r2, h2, h⟩ := Option.bind_eq_some_iff.mp h
      refine z_callSi [.long a2.toInt64, .long (1 : Int64), .long (60 : Int64)] [] C dX7_kindle_36 zk_X7_57 zw147 ⟨⟨by decide, by decide⟩, rfl, Nat.le_of_ble_eq_true rfl⟩ rfl (sX7_in  h2) ?_
      refine z_if_eq 49 C dX7_kindle_39 (by decide) h (fun h => ?_) (fun h => ?_)
      · refine z_ldc C dX7_kindle_49 zw141 ?_
        have e := Option.some.inj h; subst e; exact z_iret C dX7_kindle_51 Rq
      · refine z_iload_n C dX7_kindle_42 rfl (j := 3) rfl ?_
        obtain ⟨r3, h3, h⟩ := Option.bind_eq_some_iff.mp h
        refine z_callSi [.int a3] [] C dX7_kindle_43 zk_X7_197 zw691 ⟨⟨by decide, by decide⟩, rfl, Nat.le_of_ble_eq_true rfl⟩ rfl (sX7_isWhat  h3) ?_
        refine z_if_ne 52 C dX7_kindle_46 (by decide) h (fun h => ?_) (fun h => ?_)
        · refine z_iconst (v := 0) C dX7_kindle_52 zc0 ?_
          refine z_istore [(0, .ref (E.2.1 58)), (1, .int a1), (2, .int a2), (3, .int a3)] C dX7_kindle_53 h (by decide) rfl (fun v4 h => ?_)
          refine z_iconst (v := 0) C dX7_kindle_55 zc0 ?_
          refine z_istore [(4, .int v4), (0, .ref (E.2.1 58)), (1, .int a1), (2, .int a2), (3, .int a3)] C dX7_kindle_56 h (by decide) rfl (fun v5 h => ?_)
          obtain ⟨r6, h6, h⟩ := Option.bind_eq_some_iff.mp h
          refine z_pick [2, 3, 4, 5, 1, 0] rfl ?_
          refine lX7_kindle_58 C  h6 ?_
          refine z_aload_n C dX7_kindle_97 rfl (j := 0) rfl ?_
          obtain ⟨r10, h10, h⟩ := Option.bind_eq_some_iff.mp h
          refine z_callVv [] [] C dX7_kindle_98 (by decide) zen_58 rfl zk_X7_200 zw694 zw695 ⟨⟨by decide, by decide⟩, rfl, Nat.le_of_ble_eq_true rfl⟩ rfl (sX7_putAside  h10) ?_
          refine z_ldc C dX7_kindle_101 zw737 ?_
          refine z_istore [(0, .ref (E.2.1 58)), (1, .int a1), (2, .int a2), (3, .int a3), (4, .int r6.1)] C dX7_kindle_103 h (by decide) rfl (fun v11 h => ?_)
          refine z_iconst (v := 0) C dX7_kindle_105 zc0 ?_
          refine z_istore [(5, .int v11), (0, .ref (E.2.1 58)), (1, .int a1), (2, .int a2), (3, .int a3), (4, .int r6.1)] C dX7_kindle_106 h (by decide) rfl (fun v12 h => ?_)
          obtain ⟨r13, h13, h⟩ := Option.bind_eq_some_iff.mp h
          refine z_pick [2, 3, 4, 5, 6, 1, 0] rfl ?_
          refine lX7_kindle_108 C  h13 ?_
          refine z_iload C dX7_kindle_181 (j := 1) rfl ?_
          refine z_if_lt 191 C dX7_kindle_183 (by decide) h (fun h => ?_) (fun h => ?_)
          · refine z_iload C dX7_kindle_191 (j := 1) rfl ?_
            refine z_goto 201 C dX7_kindle_193 (by decide) ?_
            have e := Option.some.inj h; subst e; exact z_iret C dX7_kindle_201 Rq
          · refine z_iload_n C dX7_kindle_186 rfl (j := 0) rfl ?_
            refine z_iconst (v := 1) C dX7_kindle_187 zc1 ?_
            refine z_icmp_ne 196 C dX7_kindle_188 (by decide) h (fun h => ?_) (fun h => ?_)
            · refine z_iload C dX7_kindle_196 (j := 1) rfl ?_
              obtain ⟨r20, h20, h⟩ := Option.bind_eq_some_iff.mp h
              refine z_callSi [.int r13.1] [] C dX7_kindle_198 zk_X7_218 zw800 ⟨⟨by decide, by decide⟩, rfl, Nat.le_of_ble_eq_true rfl⟩ rfl (sX7_ones  h20) ?_
              have e := Option.some.inj h; subst e; exact z_iret C dX7_kindle_201 Rq
            · refine z_iload C dX7_kindle_191 (j := 1) rfl ?_
              refine z_goto 201 C dX7_kindle_193 (by decide) ?_
              have e := Option.some.inj h; subst e; exact z_iret C dX7_kindle_201 Rq
        · refine z_ldc C dX7_kindle_49 zw141 ?_
          have e := Option.some.inj h; subst e; exact z_iret C dX7_kindle_51 Rq
  · refine z_ldc C dX7_kindle_7 zw499 ?_
    have e := Option.some.inj h; subst e; exact z_iret C dX7_kindle_9 Rq
-- X7_isSpared
def fX7_isSpared_j54  (y22_1 : Int32) (y22_2 : Int32) (x4 : Int32) (k0 : Int32) (mem : ZM) : Option ((Int32 × Int32 × ZM) ⊕ (Int32 × Int32 × ZM)) :=
  zlet k0 (fun v7 => zlet (x4 + (1 : Int32)) (fun v8 => some (Sum.inl (v7, v8, mem))))
set_option maxRecDepth 100000 in
set_option maxHeartbeats 4000000 in
theorem jX7_isSpared_54 {l : Launch} {E : ZE} {Γ : ZG} (C : zC E Γ RX7 cX7_isSpared 5 6)  {y22_1 : Int32} {y22_2 : Int32} {x4 : Int32} {k0 : Int32}  {mem : ZM}  {u : (Int32 × Int32 × ZM) ⊕ (Int32 × Int32 × ZM)}  (G1 : ∀ s', u = Sum.inl s' → zG l E Γ 5 22 [(0, .ref (E.2.1 58)), (1, .int y22_1), (2, .int y22_2), (3, .int (s'.1)), (4, .int (s'.2.1))] [] s'.2.2) (G2 : ∀ s', u = Sum.inr s' → zG l E Γ 5 61 [(0, .ref (E.2.1 58)), (3, .int (s'.1))] [] s'.2.2) (h : fX7_isSpared_j54  y22_1 y22_2 x4 k0 mem = some u) : zG l E Γ 5 54 [(0, .ref (E.2.1 58)), (1, .int y22_1), (2, .int y22_2), (4, .int x4)] [.int k0] mem := by
  unfold fX7_isSpared_j54 at h
  refine z_istore_n [(0, .ref (E.2.1 58)), (1, .int y22_1), (2, .int y22_2), (4, .int x4)] C dX7_isSpared_54 h rfl (by decide) rfl (fun v7 h => ?_)
  refine z_iinc [(3, .int v7), (0, .ref (E.2.1 58)), (1, .int y22_1), (2, .int y22_2)] C dX7_isSpared_55 zc1 h (j := 4) rfl (by decide) rfl (fun v8 h => ?_)
  refine z_goto 22 C dX7_isSpared_58 (by decide) ?_
  refine z_pick [2, 3, 4, 1, 0] rfl ?_
  exact G1 _ (Option.some.inj h).symm
def fX7_isSpared_b22  (y22_1 : Int32) (y22_2 : Int32) (x22_3 : Int32) (x22_4 : Int32) (memb : ZM) : Option ((Int32 × Int32 × ZM) ⊕ (Int32 × Int32 × ZM)) :=
  if y22_2 ≤ x22_4 then (some (Sum.inr (x22_3, x22_4, memb))) else (if x22_3 = 0 then (some (Sum.inr (x22_3, x22_4, memb))) else (Option.bind (fX7_oneHour memb) (fun r5 => zgd (zin (4 : Int32) 38) (Option.bind (fX7_has (r5 62 (4 : Int32).toNatClampNeg) y22_1) (fun r6 => if r6 = 0 then (fX7_isSpared_j54  y22_1 y22_2 x22_4 (1 : Int32) r5) else (fX7_isSpared_j54  y22_1 y22_2 x22_4 (0 : Int32) r5))))))
def fX7_isSpared_l22  (y22_1 : Int32) (y22_2 : Int32) (s : Int32 × Int32 × ZM) : Option (Int32 × Int32 × ZM) := ziter (fun s => fX7_isSpared_b22 y22_1 y22_2 s.1 s.2.1 s.2.2) 2000 s
set_option maxRecDepth 100000 in
set_option maxHeartbeats 4000000 in
theorem bX7_isSpared_22 {l : Launch} {E : ZE} {Γ : ZG} (C : zC E Γ RX7 cX7_isSpared 5 6)  {y22_1 : Int32} {y22_2 : Int32} {x22_3 : Int32} {x22_4 : Int32} {memb : ZM} {u : (Int32 × Int32 × ZM) ⊕ (Int32 × Int32 × ZM)} (G1 : ∀ s', u = Sum.inl s' → zG l E Γ 5 22 [(0, .ref (E.2.1 58)), (1, .int y22_1), (2, .int y22_2), (3, .int (s'.1)), (4, .int (s'.2.1))] [] s'.2.2) (G2 : ∀ s', u = Sum.inr s' → zG l E Γ 5 61 [(0, .ref (E.2.1 58)), (3, .int (s'.1))] [] s'.2.2) (h : fX7_isSpared_b22 y22_1 y22_2 x22_3 x22_4 memb = some u) : zG l E Γ 5 22 [(0, .ref (E.2.1 58)), (1, .int y22_1), (2, .int y22_2), (3, .int x22_3), (4, .int x22_4)] [] memb := by
  unfold fX7_isSpared_b22 at h
  refine z_iload C dX7_isSpared_22 (j := 4) rfl ?_
  refine z_iload_n C dX7_isSpared_24 rfl (j := 2) rfl ?_
  refine z_icmp_ge 61 C dX7_isSpared_25 (by decide) h (fun h => ?_) (fun h => ?_)
  · refine z_pick [0, 3] rfl ?_
    exact G2 _ (Option.some.inj h).symm
  · refine z_iload_n C dX7_isSpared_28 rfl (j := 3) rfl ?_
    refine z_if_eq 61 C dX7_isSpared_29 (by decide) h (fun h => ?_) (fun h => ?_)
    · refine z_pick [0, 3] rfl ?_
      exact G2 _ (Option.some.inj h).symm
    · refine z_aload_n C dX7_isSpared_32 rfl (j := 0) rfl ?_
      obtain ⟨r5, h5, h⟩ := Option.bind_eq_some_iff.mp h
      refine z_callVv [] [] C dX7_isSpared_33 (by decide) zen_58 rfl zk_X7_177 zw506 zw507 ⟨⟨by decide, by decide⟩, rfl, Nat.le_of_ble_eq_true rfl⟩ rfl (sX7_oneHour  h5) ?_
      refine z_aload_n C dX7_isSpared_36 rfl (j := 0) rfl ?_
      refine zg7_5 C dX7_isSpared_37 zw101 ?_
      refine z_iconst (v := 4) C dX7_isSpared_40 zc4 ?_
      refine z_iald C dX7_isSpared_41 zar62 h (fun h => ?_)
      refine z_iload_n C dX7_isSpared_42 rfl (j := 1) rfl ?_
      obtain ⟨r6, h6, h⟩ := Option.bind_eq_some_iff.mp h
      refine z_callSi [.int (r5 62 (4 : Int32).toNatClampNeg), .int y22_1] [] C dX7_isSpared_43 zk_X7_145 zw528 ⟨⟨by decide, by decide⟩, rfl, Nat.le_of_ble_eq_true rfl⟩ rfl (sX7_has  h6) ?_
      refine z_if_ne 53 C dX7_isSpared_46 (by decide) h (fun h => ?_) (fun h => ?_)
      · refine z_iconst (v := 0) C dX7_isSpared_53 zc0 ?_
        refine z_pick [0, 1, 2, 4] rfl ?_
        exact jX7_isSpared_54 C   G1 G2 h
      · refine z_iconst (v := 1) C dX7_isSpared_49 zc1 ?_
        refine z_goto 54 C dX7_isSpared_50 (by decide) ?_
        refine z_pick [0, 1, 2, 4] rfl ?_
        exact jX7_isSpared_54 C   G1 G2 h
theorem lX7_isSpared_22 {l : Launch} {E : ZE} {Γ : ZG} (C : zC E Γ RX7 cX7_isSpared 5 6)  {y22_1 : Int32} {y22_2 : Int32} {s : Int32 × Int32 × ZM} {r : Int32 × Int32 × ZM} (h : fX7_isSpared_l22 y22_1 y22_2 s = some r) (K1 : zG l E Γ 5 61 [(0, .ref (E.2.1 58)), (3, .int r.1)] [] r.2.2) : zG l E Γ 5 22 [(0, .ref (E.2.1 58)), (1, .int y22_1), (2, .int y22_2), (3, .int s.1), (4, .int s.2.1)] [] s.2.2 :=
  z_loop (body := fun s => fX7_isSpared_b22 y22_1 y22_2 s.1 s.2.1 s.2.2) (fun s => zG l E Γ 5 22 [(0, .ref (E.2.1 58)), (1, .int y22_1), (2, .int y22_2), (3, .int s.1), (4, .int s.2.1)] [] s.2.2) (fun r => zG l E Γ 5 61 [(0, .ref (E.2.1 58)), (3, .int r.1)] [] r.2.2) (fun s u hb g1 g2 => bX7_isSpared_22 C  g1 g2 hb) 2000 s r h K1
def fX7_isSpared_j61  (x3 : Int32) (mem : ZM) : Option (Int32 × ZM) :=
  Option.bind (fX7_takeBack mem) (fun r9 => zgd (zbl x3) (some (x3, r9)))
set_option maxRecDepth 100000 in
set_option maxHeartbeats 4000000 in
theorem jX7_isSpared_61 {l : Launch} {E : ZE} {Γ : ZG} (C : zC E Γ RX7 cX7_isSpared 5 6)  {x3 : Int32}  {mem : ZM}  {t : Int32 × ZM}  (Rq : zRq E Γ (some .boolean) (some (.int t.1)) t.2) (h : fX7_isSpared_j61  x3 mem = some t) : zG l E Γ 5 61 [(0, .ref (E.2.1 58)), (3, .int x3)] [] mem := by
  unfold fX7_isSpared_j61 at h
  refine z_aload_n C dX7_isSpared_61 rfl (j := 0) rfl ?_
  obtain ⟨r9, h9, h⟩ := Option.bind_eq_some_iff.mp h
  refine z_callVv [] [] C dX7_isSpared_62 (by decide) zen_58 rfl zk_X7_207 zw702 zw703 ⟨⟨by decide, by decide⟩, rfl, Nat.le_of_ble_eq_true rfl⟩ rfl (sX7_takeBack  h9) ?_
  refine z_iload_n C dX7_isSpared_65 rfl (j := 1) rfl ?_
  obtain ⟨hg, h⟩ := zgd_some h
  have e := Option.some.inj h; subst e; exact z_zret C dX7_isSpared_66 hg Rq
def fX7_isSpared_j18  (x1 : Int32) (x2 : Int32) (k0 : Int32) (mem : ZM) : Option (Int32 × ZM) :=
  zlet k0 (fun v2 => zlet (0 : Int32) (fun v3 => Option.bind (fX7_isSpared_l22 x1 x2 (v2, v3, mem)) (fun r4 => fX7_isSpared_j61  r4.1 r4.2.2)))
set_option maxRecDepth 100000 in
set_option maxHeartbeats 4000000 in
theorem jX7_isSpared_18 {l : Launch} {E : ZE} {Γ : ZG} (C : zC E Γ RX7 cX7_isSpared 5 6)  {x1 : Int32} {x2 : Int32} {k0 : Int32}  {mem : ZM}  {t : Int32 × ZM}  (Rq : zRq E Γ (some .boolean) (some (.int t.1)) t.2) (h : fX7_isSpared_j18  x1 x2 k0 mem = some t) : zG l E Γ 5 18 [(0, .ref (E.2.1 58)), (1, .int x1), (2, .int x2)] [.int k0] mem := by
  unfold fX7_isSpared_j18 at h
  refine z_istore_n [(0, .ref (E.2.1 58)), (1, .int x1), (2, .int x2)] C dX7_isSpared_18 h rfl (by decide) rfl (fun v2 h => ?_)
  refine z_iconst (v := 0) C dX7_isSpared_19 zc0 ?_
  refine z_istore [(3, .int v2), (0, .ref (E.2.1 58)), (1, .int x1), (2, .int x2)] C dX7_isSpared_20 h (by decide) rfl (fun v3 h => ?_)
  obtain ⟨r4, h4, h⟩ := Option.bind_eq_some_iff.mp h
  refine z_pick [2, 3, 4, 1, 0] rfl ?_
  refine lX7_isSpared_22 C  h4 ?_
  refine z_pick [0, 1] rfl ?_
  exact jX7_isSpared_61 C   Rq h
def fX7_isSpared  (a1 : Int32) (a2 : Int32) (mem : ZM) : Option (Int32 × ZM) :=
  zgd (zin (4 : Int32) 38) (Option.bind (fX7_has (mem 62 (4 : Int32).toNatClampNeg) a1) (fun r1 => if r1 = 0 then (fX7_isSpared_j18  a1 a2 (1 : Int32) mem) else (fX7_isSpared_j18  a1 a2 (0 : Int32) mem)))
set_option maxRecDepth 100000 in
set_option maxHeartbeats 4000000 in
theorem sX7_isSpared {l : Launch} {E : ZE}  {a1 : Int32} {a2 : Int32} {mem : ZM} {t : Int32 × ZM} (h : fX7_isSpared a1 a2 mem = some t) : zMet l E yX7_isSpared cX7_isSpared 5 (some .boolean) 6 [.ref (E.2.1 58), .int a1, .int a2] mem (some (.int t.1)) t.2 := by
  refine z_enter (by decide) (Nat.le_of_ble_eq_true rfl) (fun Γ C Rq => ?_)
  have C : zC E Γ RX7 cX7_isSpared 5 6 := C
  show zG l E Γ 5 0 [(0, .ref (E.2.1 58)), (1, .int a1), (2, .int a2)] [] mem
  unfold fX7_isSpared at h
  refine z_aload_n C dX7_isSpared_0 rfl (j := 0) rfl ?_
  refine zg7_5 C dX7_isSpared_1 zw101 ?_
  refine z_iconst (v := 4) C dX7_isSpared_4 zc4 ?_
  refine z_iald C dX7_isSpared_5 zar62 h (fun h => ?_)
  refine z_iload_n C dX7_isSpared_6 rfl (j := 1) rfl ?_
  obtain ⟨r1, h1, h⟩ := Option.bind_eq_some_iff.mp h
  refine z_callSi [.int (mem 62 (4 : Int32).toNatClampNeg), .int a1] [] C dX7_isSpared_7 zk_X7_145 zw528 ⟨⟨by decide, by decide⟩, rfl, Nat.le_of_ble_eq_true rfl⟩ rfl (sX7_has  h1) ?_
  refine z_if_ne 17 C dX7_isSpared_10 (by decide) h (fun h => ?_) (fun h => ?_)
  · refine z_iconst (v := 0) C dX7_isSpared_17 zc0 ?_
    refine z_pick [0, 1, 2] rfl ?_
    exact jX7_isSpared_18 C   Rq h
  · refine z_iconst (v := 1) C dX7_isSpared_13 zc1 ?_
    refine z_goto 18 C dX7_isSpared_14 (by decide) ?_
    refine z_pick [0, 1, 2] rfl ?_
    exact jX7_isSpared_18 C   Rq h
-- X7_spare
def fX7_spare_j87  (y49_1 : Int32) (y49_2 : Int32) (x4 : Int32) (k0 : Int32) (mem : ZM) : Option ((Int32 × Int32 × ZM) ⊕ (Int32 × Int32 × ZM)) :=
  zlet k0 (fun v9 => zlet (x4 + (1 : Int32)) (fun v10 => some (Sum.inl (v9, v10, mem))))
set_option maxRecDepth 100000 in
set_option maxHeartbeats 4000000 in
theorem jX7_spare_87 {l : Launch} {E : ZE} {Γ : ZG} (C : zC E Γ RX7 cX7_spare 5 7)  {y49_1 : Int32} {y49_2 : Int32} {x4 : Int32} {k0 : Int32}  {mem : ZM}  {u : (Int32 × Int32 × ZM) ⊕ (Int32 × Int32 × ZM)}  (G1 : ∀ s', u = Sum.inl s' → zG l E Γ 5 49 [(0, .ref (E.2.1 58)), (1, .int y49_1), (2, .int y49_2), (3, .int (s'.1)), (4, .int (s'.2.1))] [] s'.2.2) (G2 : ∀ s', u = Sum.inr s' → zG l E Γ 5 94 [(3, .int (s'.1))] [] s'.2.2) (h : fX7_spare_j87  y49_1 y49_2 x4 k0 mem = some u) : zG l E Γ 5 87 [(0, .ref (E.2.1 58)), (1, .int y49_1), (2, .int y49_2), (4, .int x4)] [.int k0] mem := by
  unfold fX7_spare_j87 at h
  refine z_istore_n [(0, .ref (E.2.1 58)), (1, .int y49_1), (2, .int y49_2), (4, .int x4)] C dX7_spare_87 h rfl (by decide) rfl (fun v9 h => ?_)
  refine z_iinc [(3, .int v9), (0, .ref (E.2.1 58)), (1, .int y49_1), (2, .int y49_2)] C dX7_spare_88 zc1 h (j := 4) rfl (by decide) rfl (fun v10 h => ?_)
  refine z_goto 49 C dX7_spare_91 (by decide) ?_
  refine z_pick [2, 3, 4, 1, 0] rfl ?_
  exact G1 _ (Option.some.inj h).symm
def fX7_spare_j72  (y49_1 : Int32) (y49_2 : Int32) (x3 : Int32) (x4 : Int32) (mem : ZM) : Option ((Int32 × Int32 × ZM) ⊕ (Int32 × Int32 × ZM)) :=
  Option.bind (fX7_isSpared y49_1 y49_2 mem) (fun r8 => if r8.1 = 0 then (fX7_spare_j87  y49_1 y49_2 x4 x3 r8.2) else (fX7_spare_j87  y49_1 y49_2 x4 x4 r8.2))
set_option maxRecDepth 100000 in
set_option maxHeartbeats 4000000 in
theorem jX7_spare_72 {l : Launch} {E : ZE} {Γ : ZG} (C : zC E Γ RX7 cX7_spare 5 7)  {y49_1 : Int32} {y49_2 : Int32} {x3 : Int32} {x4 : Int32}  {mem : ZM}  {u : (Int32 × Int32 × ZM) ⊕ (Int32 × Int32 × ZM)}  (G1 : ∀ s', u = Sum.inl s' → zG l E Γ 5 49 [(0, .ref (E.2.1 58)), (1, .int y49_1), (2, .int y49_2), (3, .int (s'.1)), (4, .int (s'.2.1))] [] s'.2.2) (G2 : ∀ s', u = Sum.inr s' → zG l E Γ 5 94 [(3, .int (s'.1))] [] s'.2.2) (h : fX7_spare_j72  y49_1 y49_2 x3 x4 mem = some u) : zG l E Γ 5 72 [(0, .ref (E.2.1 58)), (1, .int y49_1), (2, .int y49_2), (3, .int x3), (4, .int x4)] [] mem := by
  unfold fX7_spare_j72 at h
  refine z_aload_n C dX7_spare_72 rfl (j := 0) rfl ?_
  refine z_iload_n C dX7_spare_73 rfl (j := 1) rfl ?_
  refine z_iload_n C dX7_spare_74 rfl (j := 2) rfl ?_
  obtain ⟨r8, h8, h⟩ := Option.bind_eq_some_iff.mp h
  refine z_callVi [.int y49_1, .int y49_2] [] C dX7_spare_75 (by decide) zen_58 rfl zk_X7_226 zw821 zw822 ⟨⟨by decide, by decide⟩, rfl, Nat.le_of_ble_eq_true rfl⟩ rfl (sX7_isSpared  h8) ?_
  refine z_if_eq 86 C dX7_spare_78 (by decide) h (fun h => ?_) (fun h => ?_)
  · refine z_iload_n C dX7_spare_86 rfl (j := 3) rfl ?_
    refine z_pick [0, 1, 2, 4] rfl ?_
    exact jX7_spare_87 C   G1 G2 h
  · refine z_iload C dX7_spare_81 (j := 4) rfl ?_
    refine z_goto 87 C dX7_spare_83 (by decide) ?_
    refine z_pick [0, 1, 2, 4] rfl ?_
    exact jX7_spare_87 C   G1 G2 h
def fX7_spare_b49  (y49_1 : Int32) (y49_2 : Int32) (x49_3 : Int32) (x49_4 : Int32) (memb : ZM) : Option ((Int32 × Int32 × ZM) ⊕ (Int32 × Int32 × ZM)) :=
  if (20 : Int32) < x49_4 then (some (Sum.inr (x49_3, x49_4, memb))) else (if 0 ≤ x49_3 then (some (Sum.inr (x49_3, x49_4, memb))) else (if x49_4 ≤ 0 then (fX7_spare_j72  y49_1 y49_2 x49_3 x49_4 memb) else (Option.bind (fX7_waterBy y49_1 x49_4 memb) (fun r11 => fX7_spare_j72  y49_1 y49_2 x49_3 x49_4 r11))))
def fX7_spare_l49  (y49_1 : Int32) (y49_2 : Int32) (s : Int32 × Int32 × ZM) : Option (Int32 × Int32 × ZM) := ziter (fun s => fX7_spare_b49 y49_1 y49_2 s.1 s.2.1 s.2.2) 2000 s
set_option maxRecDepth 100000 in
set_option maxHeartbeats 4000000 in
theorem bX7_spare_49 {l : Launch} {E : ZE} {Γ : ZG} (C : zC E Γ RX7 cX7_spare 5 7)  {y49_1 : Int32} {y49_2 : Int32} {x49_3 : Int32} {x49_4 : Int32} {memb : ZM} {u : (Int32 × Int32 × ZM) ⊕ (Int32 × Int32 × ZM)} (G1 : ∀ s', u = Sum.inl s' → zG l E Γ 5 49 [(0, .ref (E.2.1 58)), (1, .int y49_1), (2, .int y49_2), (3, .int (s'.1)), (4, .int (s'.2.1))] [] s'.2.2) (G2 : ∀ s', u = Sum.inr s' → zG l E Γ 5 94 [(3, .int (s'.1))] [] s'.2.2) (h : fX7_spare_b49 y49_1 y49_2 x49_3 x49_4 memb = some u) : zG l E Γ 5 49 [(0, .ref (E.2.1 58)), (1, .int y49_1), (2, .int y49_2), (3, .int x49_3), (4, .int x49_4)] [] memb := by
  unfold fX7_spare_b49 at h
  refine z_iload C dX7_spare_49 (j := 4) rfl ?_
  refine z_bipush (v := 20) C dX7_spare_51 zb20 ?_
  refine z_icmp_gt 94 C dX7_spare_53 (by decide) h (fun h => ?_) (fun h => ?_)
  · refine z_pick [3] rfl ?_
    exact G2 _ (Option.some.inj h).symm
  · refine z_iload_n C dX7_spare_56 rfl (j := 3) rfl ?_
    refine z_if_ge 94 C dX7_spare_57 (by decide) h (fun h => ?_) (fun h => ?_)
    · refine z_pick [3] rfl ?_
      exact G2 _ (Option.some.inj h).symm
    · refine z_iload C dX7_spare_60 (j := 4) rfl ?_
      refine z_if_le 72 C dX7_spare_62 (by decide) h (fun h => ?_) (fun h => ?_)
      · refine z_pick [0, 1, 2, 3, 4] rfl ?_
        exact jX7_spare_72 C   G1 G2 h
      · refine z_aload_n C dX7_spare_65 rfl (j := 0) rfl ?_
        refine z_iload_n C dX7_spare_66 rfl (j := 1) rfl ?_
        refine z_iload C dX7_spare_67 (j := 4) rfl ?_
        obtain ⟨r11, h11, h⟩ := Option.bind_eq_some_iff.mp h
        refine z_callVv [.int y49_1, .int x49_4] [] C dX7_spare_69 (by decide) zen_58 rfl zk_X7_188 zw581 zw582 ⟨⟨by decide, by decide⟩, rfl, Nat.le_of_ble_eq_true rfl⟩ rfl (sX7_waterBy  h11) ?_
        refine z_pick [0, 1, 2, 3, 4] rfl ?_
        exact jX7_spare_72 C   G1 G2 h
theorem lX7_spare_49 {l : Launch} {E : ZE} {Γ : ZG} (C : zC E Γ RX7 cX7_spare 5 7)  {y49_1 : Int32} {y49_2 : Int32} {s : Int32 × Int32 × ZM} {r : Int32 × Int32 × ZM} (h : fX7_spare_l49 y49_1 y49_2 s = some r) (K1 : zG l E Γ 5 94 [(3, .int r.1)] [] r.2.2) : zG l E Γ 5 49 [(0, .ref (E.2.1 58)), (1, .int y49_1), (2, .int y49_2), (3, .int s.1), (4, .int s.2.1)] [] s.2.2 :=
  z_loop (body := fun s => fX7_spare_b49 y49_1 y49_2 s.1 s.2.1 s.2.2) (fun s => zG l E Γ 5 49 [(0, .ref (E.2.1 58)), (1, .int y49_1), (2, .int y49_2), (3, .int s.1), (4, .int s.2.1)] [] s.2.2) (fun r => zG l E Γ 5 94 [(3, .int r.1)] [] r.2.2) (fun s u hb g1 g2 => bX7_spare_49 C  g1 g2 hb) 2000 s r h K1
def fX7_spare  (a1 : Int32) (a2 : Int32) (mem : ZM) : Option (Int32 × ZM) :=
  Option.bind (fX7_isThing a1 mem) (fun r1 => if r1 = 0 then (some ((-1000001 : Int32), mem)) else (Option.bind (fX7_in a2.toInt64 (1 : Int64) (30 : Int64)) (fun r2 => if r2 = 0 then (some ((-1000001 : Int32), mem)) else (zgd (zin (5 : Int32) 38) (Option.bind (fX7_has (mem 62 (5 : Int32).toNatClampNeg) a1) (fun r3 => if r3 = 0 then (Option.bind (fX7_putAside mem) (fun r4 => zlet (-1000000 : Int32) (fun v5 => zlet (0 : Int32) (fun v6 => Option.bind (fX7_spare_l49 a1 a2 (v5, v6, r4)) (fun r7 => some (r7.1, r7.2.2)))))) else (some ((-1000002 : Int32), mem))))))))
set_option maxRecDepth 100000 in
set_option maxHeartbeats 4000000 in
theorem sX7_spare {l : Launch} {E : ZE}  {a1 : Int32} {a2 : Int32} {mem : ZM} {t : Int32 × ZM} (h : fX7_spare a1 a2 mem = some t) : zMet l E yX7_spare cX7_spare 5 (some .int) 7 [.ref (E.2.1 58), .int a1, .int a2] mem (some (.int t.1)) t.2 := by
  refine z_enter (by decide) (Nat.le_of_ble_eq_true rfl) (fun Γ C Rq => ?_)
  have C : zC E Γ RX7 cX7_spare 5 7 := C
  show zG l E Γ 5 0 [(0, .ref (E.2.1 58)), (1, .int a1), (2, .int a2)] [] mem
  unfold fX7_spare at h
  refine z_aload_n C dX7_spare_0 rfl (j := 0) rfl ?_
  refine z_iload_n C dX7_spare_1 rfl (j := 1) rfl ?_
  obtain ⟨r1, h1, h⟩ := Option.bind_eq_some_iff.mp h
  refine z_callVi [.int a1] [] C dX7_spare_2 (by decide) zen_58 rfl zk_X7_180 zw558 zw559 ⟨⟨by decide, by decide⟩, rfl, Nat.le_of_ble_eq_true rfl⟩ rfl (sX7_isThing  h1) ?_
  refine z_if_eq 20 C dX7_spare_5 (by decide) h (fun h => ?_) (fun h => ?_)
  · refine z_ldc C dX7_spare_20 zw141 ?_
    have e := Option.some.inj h; subst e; exact z_iret C dX7_spare_22 Rq
  · refine z_iload_n C dX7_spare_8 rfl (j := 2) rfl ?_
    refine z_i2l C dX7_spare_9 ?_
    refine z_lconst (v := 1) C dX7_spare_10 zl1 ?_
    refine z_ldc2 C dX7_spare_11 zw819 ?_
    obtain ⟨r2, h2, h⟩ := Option.bind_eq_some_iff.mp h
    refine z_callSi [.long a2.toInt64, .long (1 : Int64), .long (30 : Int64)] [] C dX7_spare_14 zk_X7_57 zw147 ⟨⟨by decide, by decide⟩, rfl, Nat.le_of_ble_eq_true rfl⟩ rfl (sX7_in  h2) ?_
    refine z_if_ne 23 C dX7_spare_17 (by decide) h (fun h => ?_) (fun h => ?_)
    · refine z_aload_n C dX7_spare_23 rfl (j := 0) rfl ?_
      refine zg7_5 C dX7_spare_24 zw101 ?_
      refine z_iconst (v := 5) C dX7_spare_27 zc5 ?_
      refine z_iald C dX7_spare_28 zar62 h (fun h => ?_)
      refine z_iload_n C dX7_spare_29 rfl (j := 1) rfl ?_
      obtain ⟨r3, h3, h⟩ := Option.bind_eq_some_iff.mp h
      refine z_callSi [.int (mem 62 (5 : Int32).toNatClampNeg), .int a1] [] C dX7_spare_30 zk_X7_145 zw528 ⟨⟨by decide, by decide⟩, rfl, Nat.le_of_ble_eq_true rfl⟩ rfl (sX7_has  h3) ?_
      refine z_if_eq 39 C dX7_spare_33 (by decide) h (fun h => ?_) (fun h => ?_)
      · refine z_aload_n C dX7_spare_39 rfl (j := 0) rfl ?_
        obtain ⟨r4, h4, h⟩ := Option.bind_eq_some_iff.mp h
        refine z_callVv [] [] C dX7_spare_40 (by decide) zen_58 rfl zk_X7_200 zw694 zw695 ⟨⟨by decide, by decide⟩, rfl, Nat.le_of_ble_eq_true rfl⟩ rfl (sX7_putAside  h4) ?_
        refine z_ldc C dX7_spare_43 zw737 ?_
        refine z_istore_n [(0, .ref (E.2.1 58)), (1, .int a1), (2, .int a2)] C dX7_spare_45 h rfl (by decide) rfl (fun v5 h => ?_)
        refine z_iconst (v := 0) C dX7_spare_46 zc0 ?_
        refine z_istore [(3, .int v5), (0, .ref (E.2.1 58)), (1, .int a1), (2, .int a2)] C dX7_spare_47 h (by decide) rfl (fun v6 h => ?_)
        obtain ⟨r7, h7, h⟩ := Option.bind_eq_some_iff.mp h
        refine z_pick [2, 3, 4, 1, 0] rfl ?_
        refine lX7_spare_49 C  h7 ?_
        refine z_iload_n C dX7_spare_94 rfl (j := 0) rfl ?_
        have e := Option.some.inj h; subst e; exact z_iret C dX7_spare_95 Rq
      · refine z_ldc C dX7_spare_36 zw499 ?_
        have e := Option.some.inj h; subst e; exact z_iret C dX7_spare_38 Rq
    · refine z_ldc C dX7_spare_20 zw141 ?_
      have e := Option.some.inj h; subst e; exact z_iret C dX7_spare_22 Rq
-- X7_laying
def fX7_laying_j126  (y63_1 : Int32) (y63_2 : Int32) (x3 : Int32) (y63_5 : Int32) (x6 : Int32) (k0 : Int32) (mem : ZM) : Option ((Int32 × Int32 × Int32 × ZM) ⊕ (Int32 × Int32 × Int32 × ZM)) :=
  zlet k0 (fun v15 => zlet (x6 + (1 : Int32)) (fun v16 => some (Sum.inl (x3, v15, v16, mem))))
set_option maxRecDepth 100000 in
set_option maxHeartbeats 4000000 in
theorem jX7_laying_126 {l : Launch} {E : ZE} {Γ : ZG} (C : zC E Γ RX7 cX7_laying 8 8)  {y63_1 : Int32} {y63_2 : Int32} {x3 : Int32} {y63_5 : Int32} {x6 : Int32} {k0 : Int32}  {mem : ZM}  {u : (Int32 × Int32 × Int32 × ZM) ⊕ (Int32 × Int32 × Int32 × ZM)}  (G1 : ∀ s', u = Sum.inl s' → zG l E Γ 8 63 [(0, .ref (E.2.1 58)), (1, .int y63_1), (2, .int y63_2), (3, .int (s'.1)), (4, .int (s'.2.1)), (5, .int y63_5), (6, .int (s'.2.2.1))] [] s'.2.2.2) (G2 : ∀ s', u = Sum.inr s' → zG l E Γ 8 134 [(0, .ref (E.2.1 58)), (1, .int y63_1), (2, .int y63_2), (3, .int (s'.1)), (4, .int (s'.2.1)), (5, .int y63_5)] [] s'.2.2.2) (h : fX7_laying_j126  y63_1 y63_2 x3 y63_5 x6 k0 mem = some u) : zG l E Γ 8 126 [(0, .ref (E.2.1 58)), (1, .int y63_1), (2, .int y63_2), (3, .int x3), (5, .int y63_5), (6, .int x6)] [.int k0] mem := by
  unfold fX7_laying_j126 at h
  refine z_istore [(0, .ref (E.2.1 58)), (1, .int y63_1), (2, .int y63_2), (3, .int x3), (5, .int y63_5), (6, .int x6)] C dX7_laying_126 h (by decide) rfl (fun v15 h => ?_)
  refine z_iinc [(4, .int v15), (0, .ref (E.2.1 58)), (1, .int y63_1), (2, .int y63_2), (3, .int x3), (5, .int y63_5)] C dX7_laying_128 zc1 h (j := 6) rfl (by decide) rfl (fun v16 h => ?_)
  refine z_goto 63 C dX7_laying_131 (by decide) ?_
  refine z_pick [2, 3, 4, 5, 1, 6, 0] rfl ?_
  exact G1 _ (Option.some.inj h).symm
def fX7_laying_j111  (y63_1 : Int32) (y63_2 : Int32) (x4 : Int32) (y63_5 : Int32) (x6 : Int32) (x7 : Int32) (k0 : Int32) (mem : ZM) : Option ((Int32 × Int32 × Int32 × ZM) ⊕ (Int32 × Int32 × Int32 × ZM)) :=
  zlet k0 (fun v14 => if x7 ≤ x4 then (fX7_laying_j126  y63_1 y63_2 v14 y63_5 x6 x4 mem) else (fX7_laying_j126  y63_1 y63_2 v14 y63_5 x6 x7 mem))
set_option maxRecDepth 100000 in
set_option maxHeartbeats 4000000 in
theorem jX7_laying_111 {l : Launch} {E : ZE} {Γ : ZG} (C : zC E Γ RX7 cX7_laying 8 8)  {y63_1 : Int32} {y63_2 : Int32} {x4 : Int32} {y63_5 : Int32} {x6 : Int32} {x7 : Int32} {k0 : Int32}  {mem : ZM}  {u : (Int32 × Int32 × Int32 × ZM) ⊕ (Int32 × Int32 × Int32 × ZM)}  (G1 : ∀ s', u = Sum.inl s' → zG l E Γ 8 63 [(0, .ref (E.2.1 58)), (1, .int y63_1), (2, .int y63_2), (3, .int (s'.1)), (4, .int (s'.2.1)), (5, .int y63_5), (6, .int (s'.2.2.1))] [] s'.2.2.2) (G2 : ∀ s', u = Sum.inr s' → zG l E Γ 8 134 [(0, .ref (E.2.1 58)), (1, .int y63_1), (2, .int y63_2), (3, .int (s'.1)), (4, .int (s'.2.1)), (5, .int y63_5)] [] s'.2.2.2) (h : fX7_laying_j111  y63_1 y63_2 x4 y63_5 x6 x7 k0 mem = some u) : zG l E Γ 8 111 [(0, .ref (E.2.1 58)), (1, .int y63_1), (2, .int y63_2), (4, .int x4), (5, .int y63_5), (6, .int x6), (7, .int x7)] [.int k0] mem := by
  unfold fX7_laying_j111 at h
  refine z_istore_n [(0, .ref (E.2.1 58)), (1, .int y63_1), (2, .int y63_2), (4, .int x4), (5, .int y63_5), (6, .int x6), (7, .int x7)] C dX7_laying_111 h rfl (by decide) rfl (fun v14 h => ?_)
  refine z_iload C dX7_laying_112 (j := 7) rfl ?_
  refine z_iload C dX7_laying_114 (j := 4) rfl ?_
  refine z_icmp_le 124 C dX7_laying_116 (by decide) h (fun h => ?_) (fun h => ?_)
  · refine z_iload C dX7_laying_124 (j := 4) rfl ?_
    refine z_pick [1, 2, 3, 0, 5, 6] rfl ?_
    exact jX7_laying_126 C   G1 G2 h
  · refine z_iload C dX7_laying_119 (j := 7) rfl ?_
    refine z_goto 126 C dX7_laying_121 (by decide) ?_
    refine z_pick [1, 2, 3, 0, 5, 6] rfl ?_
    exact jX7_laying_126 C   G1 G2 h
def fX7_laying_b63  (y63_1 : Int32) (y63_2 : Int32) (y63_5 : Int32) (x63_3 : Int32) (x63_4 : Int32) (x63_6 : Int32) (memb : ZM) : Option ((Int32 × Int32 × Int32 × ZM) ⊕ (Int32 × Int32 × Int32 × ZM)) :=
  zgd (zin (0 : Int32) 38) (if (memb 62 (0 : Int32).toNatClampNeg) ≤ x63_6 then (some (Sum.inr (x63_3, x63_4, x63_6, memb))) else (Option.bind (fX7_exchange y63_5 x63_6 memb) (fun r10 => Option.bind (fX7_ashesBehind y63_1 r10) (fun r11 => Option.bind (fX7_ones r11.1) (fun r12 => zlet r12 (fun v13 => if v13 ≤ x63_4 then (fX7_laying_j111  y63_1 y63_2 x63_4 y63_5 x63_6 v13 x63_3 r11.2) else (fX7_laying_j111  y63_1 y63_2 x63_4 y63_5 x63_6 v13 (((10 : Int32) * y63_5) + x63_6) r11.2)))))))
def fX7_laying_l63  (y63_1 : Int32) (y63_2 : Int32) (y63_5 : Int32) (s : Int32 × Int32 × Int32 × ZM) : Option (Int32 × Int32 × Int32 × ZM) := ziter (fun s => fX7_laying_b63 y63_1 y63_2 y63_5 s.1 s.2.1 s.2.2.1 s.2.2.2) 2000 s
set_option maxRecDepth 100000 in
set_option maxHeartbeats 4000000 in
theorem bX7_laying_63 {l : Launch} {E : ZE} {Γ : ZG} (C : zC E Γ RX7 cX7_laying 8 8)  {y63_1 : Int32} {y63_2 : Int32} {y63_5 : Int32} {x63_3 : Int32} {x63_4 : Int32} {x63_6 : Int32} {memb : ZM} {u : (Int32 × Int32 × Int32 × ZM) ⊕ (Int32 × Int32 × Int32 × ZM)} (G1 : ∀ s', u = Sum.inl s' → zG l E Γ 8 63 [(0, .ref (E.2.1 58)), (1, .int y63_1), (2, .int y63_2), (3, .int (s'.1)), (4, .int (s'.2.1)), (5, .int y63_5), (6, .int (s'.2.2.1))] [] s'.2.2.2) (G2 : ∀ s', u = Sum.inr s' → zG l E Γ 8 134 [(0, .ref (E.2.1 58)), (1, .int y63_1), (2, .int y63_2), (3, .int (s'.1)), (4, .int (s'.2.1)), (5, .int y63_5)] [] s'.2.2.2) (h : fX7_laying_b63 y63_1 y63_2 y63_5 x63_3 x63_4 x63_6 memb = some u) : zG l E Γ 8 63 [(0, .ref (E.2.1 58)), (1, .int y63_1), (2, .int y63_2), (3, .int x63_3), (4, .int x63_4), (5, .int y63_5), (6, .int x63_6)] [] memb := by
  unfold fX7_laying_b63 at h
  refine z_iload C dX7_laying_63 (j := 6) rfl ?_
  refine z_aload_n C dX7_laying_65 rfl (j := 0) rfl ?_
  refine zg7_5 C dX7_laying_66 zw101 ?_
  refine z_iconst (v := 0) C dX7_laying_69 zc0 ?_
  refine z_iald C dX7_laying_70 zar62 h (fun h => ?_)
  refine z_icmp_ge 134 C dX7_laying_71 (by decide) h (fun h => ?_) (fun h => ?_)
  · refine z_pick [0, 1, 2, 3, 4, 5] rfl ?_
    exact G2 _ (Option.some.inj h).symm
  · refine z_aload_n C dX7_laying_74 rfl (j := 0) rfl ?_
    refine z_iload C dX7_laying_75 (j := 5) rfl ?_
    refine z_iload C dX7_laying_77 (j := 6) rfl ?_
    obtain ⟨r10, h10, h⟩ := Option.bind_eq_some_iff.mp h
    refine z_callVv [.int y63_5, .int x63_6] [] C dX7_laying_79 (by decide) zen_58 rfl zk_X7_192 zw618 zw619 ⟨⟨by decide, by decide⟩, rfl, Nat.le_of_ble_eq_true rfl⟩ rfl (sX7_exchange  h10) ?_
    refine z_aload_n C dX7_laying_82 rfl (j := 0) rfl ?_
    refine z_iload_n C dX7_laying_83 rfl (j := 1) rfl ?_
    obtain ⟨r11, h11, h⟩ := Option.bind_eq_some_iff.mp h
    refine z_callVi [.int y63_1] [] C dX7_laying_84 (by decide) zen_58 rfl zk_X7_221 zw803 zw804 ⟨⟨by decide, by decide⟩, rfl, Nat.le_of_ble_eq_true rfl⟩ rfl (sX7_ashesBehind  h11) ?_
    obtain ⟨r12, h12, h⟩ := Option.bind_eq_some_iff.mp h
    refine z_callSi [.int r11.1] [] C dX7_laying_87 zk_X7_218 zw800 ⟨⟨by decide, by decide⟩, rfl, Nat.le_of_ble_eq_true rfl⟩ rfl (sX7_ones  h12) ?_
    refine z_istore [(0, .ref (E.2.1 58)), (1, .int y63_1), (2, .int y63_2), (3, .int x63_3), (4, .int x63_4), (5, .int y63_5), (6, .int x63_6)] C dX7_laying_90 h (by decide) rfl (fun v13 h => ?_)
    refine z_iload C dX7_laying_92 (j := 0) rfl ?_
    refine z_iload C dX7_laying_94 (j := 5) rfl ?_
    refine z_icmp_le 110 C dX7_laying_96 (by decide) h (fun h => ?_) (fun h => ?_)
    · refine z_iload_n C dX7_laying_110 rfl (j := 4) rfl ?_
      refine z_pick [1, 2, 3, 5, 6, 7, 0] rfl ?_
      exact jX7_laying_111 C   G1 G2 h
    · refine z_bipush (v := 10) C dX7_laying_99 zb10 ?_
      refine z_iload C dX7_laying_101 (j := 6) rfl ?_
      refine z_imul C dX7_laying_103 ?_
      refine z_iload C dX7_laying_104 (j := 7) rfl ?_
      refine z_iadd C dX7_laying_106 ?_
      refine z_goto 111 C dX7_laying_107 (by decide) ?_
      refine z_pick [1, 2, 3, 5, 6, 7, 0] rfl ?_
      exact jX7_laying_111 C   G1 G2 h
theorem lX7_laying_63 {l : Launch} {E : ZE} {Γ : ZG} (C : zC E Γ RX7 cX7_laying 8 8)  {y63_1 : Int32} {y63_2 : Int32} {y63_5 : Int32} {s : Int32 × Int32 × Int32 × ZM} {r : Int32 × Int32 × Int32 × ZM} (h : fX7_laying_l63 y63_1 y63_2 y63_5 s = some r) (K1 : zG l E Γ 8 134 [(0, .ref (E.2.1 58)), (1, .int y63_1), (2, .int y63_2), (3, .int r.1), (4, .int r.2.1), (5, .int y63_5)] [] r.2.2.2) : zG l E Γ 8 63 [(0, .ref (E.2.1 58)), (1, .int y63_1), (2, .int y63_2), (3, .int s.1), (4, .int s.2.1), (5, .int y63_5), (6, .int s.2.2.1)] [] s.2.2.2 :=
  z_loop (body := fun s => fX7_laying_b63 y63_1 y63_2 y63_5 s.1 s.2.1 s.2.2.1 s.2.2.2) (fun s => zG l E Γ 8 63 [(0, .ref (E.2.1 58)), (1, .int y63_1), (2, .int y63_2), (3, .int s.1), (4, .int s.2.1), (5, .int y63_5), (6, .int s.2.2.1)] [] s.2.2.2) (fun r => zG l E Γ 8 134 [(0, .ref (E.2.1 58)), (1, .int y63_1), (2, .int y63_2), (3, .int r.1), (4, .int r.2.1), (5, .int y63_5)] [] r.2.2.2) (fun s u hb g1 g2 => bX7_laying_63 C  g1 g2 hb) 2000 s r h K1
def fX7_laying_b46  (y46_1 : Int32) (y46_2 : Int32) (x46_3 : Int32) (x46_4 : Int32) (x46_5 : Int32) (memb : ZM) : Option ((Int32 × Int32 × Int32 × ZM) ⊕ (Int32 × Int32 × Int32 × ZM)) :=
  zgd (zin (0 : Int32) 38) (if (memb 62 (0 : Int32).toNatClampNeg) ≤ x46_5 then (some (Sum.inr (x46_3, x46_4, x46_5, memb))) else (zlet (x46_5 + (1 : Int32)) (fun v8 => Option.bind (fX7_laying_l63 y46_1 y46_2 x46_5 (x46_3, x46_4, v8, memb)) (fun r9 => zlet (x46_5 + (1 : Int32)) (fun v17 => some (Sum.inl (r9.1, r9.2.1, v17, r9.2.2.2)))))))
def fX7_laying_l46  (y46_1 : Int32) (y46_2 : Int32) (s : Int32 × Int32 × Int32 × ZM) : Option (Int32 × Int32 × Int32 × ZM) := ziter (fun s => fX7_laying_b46 y46_1 y46_2 s.1 s.2.1 s.2.2.1 s.2.2.2) 2000 s
set_option maxRecDepth 100000 in
set_option maxHeartbeats 4000000 in
theorem bX7_laying_46 {l : Launch} {E : ZE} {Γ : ZG} (C : zC E Γ RX7 cX7_laying 8 8)  {y46_1 : Int32} {y46_2 : Int32} {x46_3 : Int32} {x46_4 : Int32} {x46_5 : Int32} {memb : ZM} {u : (Int32 × Int32 × Int32 × ZM) ⊕ (Int32 × Int32 × Int32 × ZM)} (G1 : ∀ s', u = Sum.inl s' → zG l E Γ 8 46 [(0, .ref (E.2.1 58)), (1, .int y46_1), (2, .int y46_2), (3, .int (s'.1)), (4, .int (s'.2.1)), (5, .int (s'.2.2.1))] [] s'.2.2.2) (G2 : ∀ s', u = Sum.inr s' → zG l E Γ 8 140 [(2, .int y46_2), (3, .int (s'.1)), (4, .int (s'.2.1))] [] s'.2.2.2) (h : fX7_laying_b46 y46_1 y46_2 x46_3 x46_4 x46_5 memb = some u) : zG l E Γ 8 46 [(0, .ref (E.2.1 58)), (1, .int y46_1), (2, .int y46_2), (3, .int x46_3), (4, .int x46_4), (5, .int x46_5)] [] memb := by
  unfold fX7_laying_b46 at h
  refine z_iload C dX7_laying_46 (j := 5) rfl ?_
  refine z_aload_n C dX7_laying_48 rfl (j := 0) rfl ?_
  refine zg7_5 C dX7_laying_49 zw101 ?_
  refine z_iconst (v := 0) C dX7_laying_52 zc0 ?_
  refine z_iald C dX7_laying_53 zar62 h (fun h => ?_)
  refine z_icmp_ge 140 C dX7_laying_54 (by decide) h (fun h => ?_) (fun h => ?_)
  · refine z_pick [2, 3, 4] rfl ?_
    exact G2 _ (Option.some.inj h).symm
  · refine z_iload C dX7_laying_57 (j := 5) rfl ?_
    refine z_iconst (v := 1) C dX7_laying_59 zc1 ?_
    refine z_iadd C dX7_laying_60 ?_
    refine z_istore [(0, .ref (E.2.1 58)), (1, .int y46_1), (2, .int y46_2), (3, .int x46_3), (4, .int x46_4), (5, .int x46_5)] C dX7_laying_61 h (by decide) rfl (fun v8 h => ?_)
    obtain ⟨r9, h9, h⟩ := Option.bind_eq_some_iff.mp h
    refine z_pick [1, 2, 3, 4, 5, 6, 0] rfl ?_
    refine lX7_laying_63 C  h9 ?_
    refine z_iinc [(0, .ref (E.2.1 58)), (1, .int y46_1), (2, .int y46_2), (3, .int r9.1), (4, .int r9.2.1)] C dX7_laying_134 zc1 h (j := 5) rfl (by decide) rfl (fun v17 h => ?_)
    refine z_goto 46 C dX7_laying_137 (by decide) ?_
    refine z_pick [1, 2, 3, 4, 5, 0] rfl ?_
    exact G1 _ (Option.some.inj h).symm
theorem lX7_laying_46 {l : Launch} {E : ZE} {Γ : ZG} (C : zC E Γ RX7 cX7_laying 8 8)  {y46_1 : Int32} {y46_2 : Int32} {s : Int32 × Int32 × Int32 × ZM} {r : Int32 × Int32 × Int32 × ZM} (h : fX7_laying_l46 y46_1 y46_2 s = some r) (K1 : zG l E Γ 8 140 [(2, .int y46_2), (3, .int r.1), (4, .int r.2.1)] [] r.2.2.2) : zG l E Γ 8 46 [(0, .ref (E.2.1 58)), (1, .int y46_1), (2, .int y46_2), (3, .int s.1), (4, .int s.2.1), (5, .int s.2.2.1)] [] s.2.2.2 :=
  z_loop (body := fun s => fX7_laying_b46 y46_1 y46_2 s.1 s.2.1 s.2.2.1 s.2.2.2) (fun s => zG l E Γ 8 46 [(0, .ref (E.2.1 58)), (1, .int y46_1), (2, .int y46_2), (3, .int s.1), (4, .int s.2.1), (5, .int s.2.2.1)] [] s.2.2.2) (fun r => zG l E Γ 8 140 [(2, .int y46_2), (3, .int r.1), (4, .int r.2.1)] [] r.2.2.2) (fun s u hb g1 g2 => bX7_laying_46 C  g1 g2 hb) 2000 s r h K1
def fX7_laying  (a1 : Int32) (a2 : Int32) (mem : ZM) : Option (Int32 × ZM) :=
  if (mem 58 4) = 0 then (some ((-1000002 : Int32), mem)) else (Option.bind (fX7_in a1.toInt64 (1 : Int64) (30 : Int64)) (fun r1 => if r1 = 0 then (some ((-1000001 : Int32), mem)) else (Option.bind (fX7_isWhat a2) (fun r2 => if r2 = 0 then (some ((-1000001 : Int32), mem)) else (Option.bind (fX7_putAside mem) (fun r3 => zlet (-1000000 : Int32) (fun v4 => zlet (-1000000 : Int32) (fun v5 => zlet (0 : Int32) (fun v6 => Option.bind (fX7_laying_l46 a1 a2 (v4, v5, v6, r3)) (fun r7 => if a2 = 0 then (some (r7.1, r7.2.2.2)) else (some (r7.2.1, r7.2.2.2))))))))))))
set_option maxRecDepth 100000 in
set_option maxHeartbeats 4000000 in
theorem sX7_laying {l : Launch} {E : ZE}  {a1 : Int32} {a2 : Int32} {mem : ZM} {t : Int32 × ZM} (h : fX7_laying a1 a2 mem = some t) : zMet l E yX7_laying cX7_laying 8 (some .int) 8 [.ref (E.2.1 58), .int a1, .int a2] mem (some (.int t.1)) t.2 := by
  refine z_enter (by decide) (Nat.le_of_ble_eq_true rfl) (fun Γ C Rq => ?_)
  have C : zC E Γ RX7 cX7_laying 8 8 := C
  show zG l E Γ 8 0 [(0, .ref (E.2.1 58)), (1, .int a1), (2, .int a2)] [] mem
  unfold fX7_laying at h
  refine z_aload_n C dX7_laying_0 rfl (j := 0) rfl ?_
  refine zg7_4 C dX7_laying_1 zw368 ?_
  refine z_if_ne 10 C dX7_laying_4 (by decide) h (fun h => ?_) (fun h => ?_)
  · refine z_iload_n C dX7_laying_10 rfl (j := 1) rfl ?_
    refine z_i2l C dX7_laying_11 ?_
    refine z_lconst (v := 1) C dX7_laying_12 zl1 ?_
    refine z_ldc2 C dX7_laying_13 zw819 ?_
    obtain ⟨r1, h1, h⟩ := Option.bind_eq_some_iff.mp h
    refine z_callSi [.long a1.toInt64, .long (1 : Int64), .long (30 : Int64)] [] C dX7_laying_16 zk_X7_57 zw147 ⟨⟨by decide, by decide⟩, rfl, Nat.le_of_ble_eq_true rfl⟩ rfl (sX7_in  h1) ?_
    refine z_if_eq 29 C dX7_laying_19 (by decide) h (fun h => ?_) (fun h => ?_)
    · refine z_ldc C dX7_laying_29 zw141 ?_
      have e := Option.some.inj h; subst e; exact z_iret C dX7_laying_31 Rq
    · refine z_iload_n C dX7_laying_22 rfl (j := 2) rfl ?_
      obtain ⟨r2, h2, h⟩ := Option.bind_eq_some_iff.mp h
      refine z_callSi [.int a2] [] C dX7_laying_23 zk_X7_197 zw691 ⟨⟨by decide, by decide⟩, rfl, Nat.le_of_ble_eq_true rfl⟩ rfl (sX7_isWhat  h2) ?_
      refine z_if_ne 32 C dX7_laying_26 (by decide) h (fun h => ?_) (fun h => ?_)
      · refine z_aload_n C dX7_laying_32 rfl (j := 0) rfl ?_
        obtain ⟨r3, h3, h⟩ := Option.bind_eq_some_iff.mp h
        refine z_callVv [] [] C dX7_laying_33 (by decide) zen_58 rfl zk_X7_200 zw694 zw695 ⟨⟨by decide, by decide⟩, rfl, Nat.le_of_ble_eq_true rfl⟩ rfl (sX7_putAside  h3) ?_
        refine z_ldc C dX7_laying_36 zw737 ?_
        refine z_istore_n [(0, .ref (E.2.1 58)), (1, .int a1), (2, .int a2)] C dX7_laying_38 h rfl (by decide) rfl (fun v4 h => ?_)
        refine z_ldc C dX7_laying_39 zw737 ?_
        refine z_istore [(3, .int v4), (0, .ref (E.2.1 58)), (1, .int a1), (2, .int a2)] C dX7_laying_41 h (by decide) rfl (fun v5 h => ?_)
        refine z_iconst (v := 0) C dX7_laying_43 zc0 ?_
        refine z_istore [(4, .int v5), (3, .int v4), (0, .ref (E.2.1 58)), (1, .int a1), (2, .int a2)] C dX7_laying_44 h (by decide) rfl (fun v6 h => ?_)
        obtain ⟨r7, h7, h⟩ := Option.bind_eq_some_iff.mp h
        refine z_pick [3, 4, 5, 2, 1, 0] rfl ?_
        refine lX7_laying_46 C  h7 ?_
        refine z_iload_n C dX7_laying_140 rfl (j := 0) rfl ?_
        refine z_if_ne 148 C dX7_laying_141 (by decide) h (fun h => ?_) (fun h => ?_)
        · refine z_iload C dX7_laying_148 (j := 2) rfl ?_
          have e := Option.some.inj h; subst e; exact z_iret C dX7_laying_150 Rq
        · refine z_iload_n C dX7_laying_144 rfl (j := 1) rfl ?_
          refine z_goto 150 C dX7_laying_145 (by decide) ?_
          have e := Option.some.inj h; subst e; exact z_iret C dX7_laying_150 Rq
      · refine z_ldc C dX7_laying_29 zw141 ?_
        have e := Option.some.inj h; subst e; exact z_iret C dX7_laying_31 Rq
  · refine z_ldc C dX7_laying_7 zw499 ?_
    have e := Option.some.inj h; subst e; exact z_iret C dX7_laying_9 Rq
-- X7_lacks
def fX7_lacks  (a1 : Int32) (a2 : Int32) (a3 : Int32) (mem : ZM) : Option (Int32 × ZM) :=
  zgd (zin a1 8) (if 0 ≤ (mem 60 a1.toNatClampNeg) then (zgd (zin a1 8) (Option.bind (fX7_in a2.toInt64 (0 : Int64) (((mem 60 a1.toNatClampNeg) - a3).toInt64)) (fun r1 => if r1 = 0 then (Option.bind (fX7_find (2 : Int32) mem) (fun r2 => some (r2.1, r2.2))) else (some ((0 : Int32), mem))))) else (Option.bind (fX7_find (1 : Int32) mem) (fun r3 => some (r3.1, r3.2))))
set_option maxRecDepth 100000 in
set_option maxHeartbeats 4000000 in
theorem sX7_lacks {l : Launch} {E : ZE}  {a1 : Int32} {a2 : Int32} {a3 : Int32} {mem : ZM} {t : Int32 × ZM} (h : fX7_lacks a1 a2 a3 mem = some t) : zMet l E yX7_lacks cX7_lacks 4 (some .int) 1 [.ref (E.2.1 58), .int a1, .int a2, .int a3] mem (some (.int t.1)) t.2 := by
  refine z_enter (by decide) (Nat.le_of_ble_eq_true rfl) (fun Γ C Rq => ?_)
  have C : zC E Γ RX7 cX7_lacks 4 1 := C
  show zG l E Γ 4 0 [(0, .ref (E.2.1 58)), (1, .int a1), (2, .int a2), (3, .int a3)] [] mem
  unfold fX7_lacks at h
  refine z_aload_n C dX7_lacks_0 rfl (j := 0) rfl ?_
  refine zg7_1 C dX7_lacks_1 zw99 ?_
  refine z_iload_n C dX7_lacks_4 rfl (j := 1) rfl ?_
  refine z_iald C dX7_lacks_5 zar60 h (fun h => ?_)
  refine z_if_ge 15 C dX7_lacks_6 (by decide) h (fun h => ?_) (fun h => ?_)
  · refine z_iload_n C dX7_lacks_15 rfl (j := 2) rfl ?_
    refine z_i2l C dX7_lacks_16 ?_
    refine z_lconst (v := 0) C dX7_lacks_17 zl0 ?_
    refine z_aload_n C dX7_lacks_18 rfl (j := 0) rfl ?_
    refine zg7_1 C dX7_lacks_19 zw99 ?_
    refine z_iload_n C dX7_lacks_22 rfl (j := 1) rfl ?_
    refine z_iald C dX7_lacks_23 zar60 h (fun h => ?_)
    refine z_iload_n C dX7_lacks_24 rfl (j := 3) rfl ?_
    refine z_isub C dX7_lacks_25 ?_
    refine z_i2l C dX7_lacks_26 ?_
    obtain ⟨r1, h1, h⟩ := Option.bind_eq_some_iff.mp h
    refine z_callSi [.long a2.toInt64, .long (0 : Int64), .long (((mem 60 a1.toNatClampNeg) - a3).toInt64)] [] C dX7_lacks_27 zk_X7_57 zw147 ⟨⟨by decide, by decide⟩, rfl, Nat.le_of_ble_eq_true rfl⟩ rfl (sX7_in  h1) ?_
    refine z_if_eq 37 C dX7_lacks_30 (by decide) h (fun h => ?_) (fun h => ?_)
    · refine z_aload_n C dX7_lacks_37 rfl (j := 0) rfl ?_
      refine z_iconst (v := 2) C dX7_lacks_38 zc2 ?_
      obtain ⟨r2, h2, h⟩ := Option.bind_eq_some_iff.mp h
      refine z_callVi [.int (2 : Int32)] [] C dX7_lacks_39 (by decide) zen_58 rfl zk_X7_68 zw150 zw151 ⟨⟨by decide, by decide⟩, rfl, Nat.le_of_ble_eq_true rfl⟩ rfl (sX7_find  h2) ?_
      have e := Option.some.inj h; subst e; exact z_iret C dX7_lacks_42 Rq
    · refine z_iconst (v := 0) C dX7_lacks_33 zc0 ?_
      refine z_goto 42 C dX7_lacks_34 (by decide) ?_
      have e := Option.some.inj h; subst e; exact z_iret C dX7_lacks_42 Rq
  · refine z_aload_n C dX7_lacks_9 rfl (j := 0) rfl ?_
    refine z_iconst (v := 1) C dX7_lacks_10 zc1 ?_
    obtain ⟨r3, h3, h⟩ := Option.bind_eq_some_iff.mp h
    refine z_callVi [.int (1 : Int32)] [] C dX7_lacks_11 (by decide) zen_58 rfl zk_X7_68 zw150 zw151 ⟨⟨by decide, by decide⟩, rfl, Nat.le_of_ble_eq_true rfl⟩ rfl (sX7_find  h3) ?_
    have e := Option.some.inj h; subst e; exact z_iret C dX7_lacks_14 Rq
-- X7_isSo
def fX7_isSo_j47  (y6_1 : Int32) (y6_2 : Int32) (y6_3 : Int32) (x5 : Int32) (k0 : Int32) (mem : ZM) : Option ((Int32 × Int32 × ZM) ⊕ (Int32 × Int32 × ZM)) :=
  zlet k0 (fun v5 => zlet (x5 + (1 : Int32)) (fun v6 => some (Sum.inl (v5, v6, mem))))
set_option maxRecDepth 100000 in
set_option maxHeartbeats 4000000 in
theorem jX7_isSo_47 {l : Launch} {E : ZE} {Γ : ZG} (C : zC E Γ RX7 cX7_isSo 6 6)  {y6_1 : Int32} {y6_2 : Int32} {y6_3 : Int32} {x5 : Int32} {k0 : Int32}  {mem : ZM}  {u : (Int32 × Int32 × ZM) ⊕ (Int32 × Int32 × ZM)}  (G1 : ∀ s', u = Sum.inl s' → zG l E Γ 6 6 [(0, .ref (E.2.1 58)), (1, .int y6_1), (2, .int y6_2), (3, .int y6_3), (4, .int (s'.1)), (5, .int (s'.2.1))] [] s'.2.2) (G2 : ∀ s', u = Sum.inr s' → zG l E Γ 6 55 [(0, .ref (E.2.1 58)), (4, .int (s'.1))] [] s'.2.2) (h : fX7_isSo_j47  y6_1 y6_2 y6_3 x5 k0 mem = some u) : zG l E Γ 6 47 [(0, .ref (E.2.1 58)), (1, .int y6_1), (2, .int y6_2), (3, .int y6_3), (5, .int x5)] [.int k0] mem := by
  unfold fX7_isSo_j47 at h
  refine z_istore [(0, .ref (E.2.1 58)), (1, .int y6_1), (2, .int y6_2), (3, .int y6_3), (5, .int x5)] C dX7_isSo_47 h (by decide) rfl (fun v5 h => ?_)
  refine z_iinc [(4, .int v5), (0, .ref (E.2.1 58)), (1, .int y6_1), (2, .int y6_2), (3, .int y6_3)] C dX7_isSo_49 zc1 h (j := 5) rfl (by decide) rfl (fun v6 h => ?_)
  refine z_goto 6 C dX7_isSo_52 (by decide) ?_
  refine z_pick [2, 3, 4, 5, 1, 0] rfl ?_
  exact G1 _ (Option.some.inj h).symm
def fX7_isSo_j46  (y6_1 : Int32) (y6_2 : Int32) (y6_3 : Int32) (x5 : Int32) (mem : ZM) : Option ((Int32 × Int32 × ZM) ⊕ (Int32 × Int32 × ZM)) :=
  fX7_isSo_j47  y6_1 y6_2 y6_3 x5 (0 : Int32) mem
set_option maxRecDepth 100000 in
set_option maxHeartbeats 4000000 in
theorem jX7_isSo_46 {l : Launch} {E : ZE} {Γ : ZG} (C : zC E Γ RX7 cX7_isSo 6 6)  {y6_1 : Int32} {y6_2 : Int32} {y6_3 : Int32} {x5 : Int32}  {mem : ZM}  {u : (Int32 × Int32 × ZM) ⊕ (Int32 × Int32 × ZM)}  (G1 : ∀ s', u = Sum.inl s' → zG l E Γ 6 6 [(0, .ref (E.2.1 58)), (1, .int y6_1), (2, .int y6_2), (3, .int y6_3), (4, .int (s'.1)), (5, .int (s'.2.1))] [] s'.2.2) (G2 : ∀ s', u = Sum.inr s' → zG l E Γ 6 55 [(0, .ref (E.2.1 58)), (4, .int (s'.1))] [] s'.2.2) (h : fX7_isSo_j46  y6_1 y6_2 y6_3 x5 mem = some u) : zG l E Γ 6 46 [(0, .ref (E.2.1 58)), (1, .int y6_1), (2, .int y6_2), (3, .int y6_3), (5, .int x5)] [] mem := by
  unfold fX7_isSo_j46 at h
  refine z_iconst (v := 0) C dX7_isSo_46 zc0 ?_
  refine z_pick [0, 1, 2, 3, 4] rfl ?_
  exact jX7_isSo_47 C   G1 G2 h
def fX7_isSo_b6  (y6_1 : Int32) (y6_2 : Int32) (y6_3 : Int32) (x6_4 : Int32) (x6_5 : Int32) (memb : ZM) : Option ((Int32 × Int32 × ZM) ⊕ (Int32 × Int32 × ZM)) :=
  if y6_3 ≤ x6_5 then (some (Sum.inr (x6_4, x6_5, memb))) else (Option.bind (fX7_oneHour memb) (fun r4 => if x6_4 = 0 then (fX7_isSo_j46  y6_1 y6_2 y6_3 x6_5 r4) else (zgd (zin (y6_2 + x6_5) 320) (zgd (zin ((14 : Int32) + y6_1) 38) (if (r4 61 (y6_2 + x6_5).toNatClampNeg) = (r4 62 ((14 : Int32) + y6_1).toNatClampNeg) then (fX7_isSo_j47  y6_1 y6_2 y6_3 x6_5 (1 : Int32) r4) else (fX7_isSo_j46  y6_1 y6_2 y6_3 x6_5 r4))))))
def fX7_isSo_l6  (y6_1 : Int32) (y6_2 : Int32) (y6_3 : Int32) (s : Int32 × Int32 × ZM) : Option (Int32 × Int32 × ZM) := ziter (fun s => fX7_isSo_b6 y6_1 y6_2 y6_3 s.1 s.2.1 s.2.2) 2000 s
set_option maxRecDepth 100000 in
set_option maxHeartbeats 4000000 in
theorem bX7_isSo_6 {l : Launch} {E : ZE} {Γ : ZG} (C : zC E Γ RX7 cX7_isSo 6 6)  {y6_1 : Int32} {y6_2 : Int32} {y6_3 : Int32} {x6_4 : Int32} {x6_5 : Int32} {memb : ZM} {u : (Int32 × Int32 × ZM) ⊕ (Int32 × Int32 × ZM)} (G1 : ∀ s', u = Sum.inl s' → zG l E Γ 6 6 [(0, .ref (E.2.1 58)), (1, .int y6_1), (2, .int y6_2), (3, .int y6_3), (4, .int (s'.1)), (5, .int (s'.2.1))] [] s'.2.2) (G2 : ∀ s', u = Sum.inr s' → zG l E Γ 6 55 [(0, .ref (E.2.1 58)), (4, .int (s'.1))] [] s'.2.2) (h : fX7_isSo_b6 y6_1 y6_2 y6_3 x6_4 x6_5 memb = some u) : zG l E Γ 6 6 [(0, .ref (E.2.1 58)), (1, .int y6_1), (2, .int y6_2), (3, .int y6_3), (4, .int x6_4), (5, .int x6_5)] [] memb := by
  unfold fX7_isSo_b6 at h
  refine z_iload C dX7_isSo_6 (j := 5) rfl ?_
  refine z_iload_n C dX7_isSo_8 rfl (j := 3) rfl ?_
  refine z_icmp_ge 55 C dX7_isSo_9 (by decide) h (fun h => ?_) (fun h => ?_)
  · refine z_pick [0, 4] rfl ?_
    exact G2 _ (Option.some.inj h).symm
  · refine z_aload_n C dX7_isSo_12 rfl (j := 0) rfl ?_
    obtain ⟨r4, h4, h⟩ := Option.bind_eq_some_iff.mp h
    refine z_callVv [] [] C dX7_isSo_13 (by decide) zen_58 rfl zk_X7_177 zw506 zw507 ⟨⟨by decide, by decide⟩, rfl, Nat.le_of_ble_eq_true rfl⟩ rfl (sX7_oneHour  h4) ?_
    refine z_iload C dX7_isSo_16 (j := 4) rfl ?_
    refine z_if_eq 46 C dX7_isSo_18 (by decide) h (fun h => ?_) (fun h => ?_)
    · refine z_pick [0, 1, 2, 3, 5] rfl ?_
      exact jX7_isSo_46 C   G1 G2 h
    · refine z_aload_n C dX7_isSo_21 rfl (j := 0) rfl ?_
      refine zg7_2 C dX7_isSo_22 zw100 ?_
      refine z_iload_n C dX7_isSo_25 rfl (j := 2) rfl ?_
      refine z_iload C dX7_isSo_26 (j := 5) rfl ?_
      refine z_iadd C dX7_isSo_28 ?_
      refine z_iald C dX7_isSo_29 zar61 h (fun h => ?_)
      refine z_aload_n C dX7_isSo_30 rfl (j := 0) rfl ?_
      refine zg7_5 C dX7_isSo_31 zw101 ?_
      refine z_bipush (v := 14) C dX7_isSo_34 zb14 ?_
      refine z_iload_n C dX7_isSo_36 rfl (j := 1) rfl ?_
      refine z_iadd C dX7_isSo_37 ?_
      refine z_iald C dX7_isSo_38 zar62 h (fun h => ?_)
      refine z_icmp_ne 46 C dX7_isSo_39 (by decide) h (fun h => ?_) (fun h => ?_)
      · refine z_pick [0, 1, 2, 3, 5] rfl ?_
        exact jX7_isSo_46 C   G1 G2 h
      · refine z_iconst (v := 1) C dX7_isSo_42 zc1 ?_
        refine z_goto 47 C dX7_isSo_43 (by decide) ?_
        refine z_pick [0, 1, 2, 3, 5] rfl ?_
        exact jX7_isSo_47 C   G1 G2 h
theorem lX7_isSo_6 {l : Launch} {E : ZE} {Γ : ZG} (C : zC E Γ RX7 cX7_isSo 6 6)  {y6_1 : Int32} {y6_2 : Int32} {y6_3 : Int32} {s : Int32 × Int32 × ZM} {r : Int32 × Int32 × ZM} (h : fX7_isSo_l6 y6_1 y6_2 y6_3 s = some r) (K1 : zG l E Γ 6 55 [(0, .ref (E.2.1 58)), (4, .int r.1)] [] r.2.2) : zG l E Γ 6 6 [(0, .ref (E.2.1 58)), (1, .int y6_1), (2, .int y6_2), (3, .int y6_3), (4, .int s.1), (5, .int s.2.1)] [] s.2.2 :=
  z_loop (body := fun s => fX7_isSo_b6 y6_1 y6_2 y6_3 s.1 s.2.1 s.2.2) (fun s => zG l E Γ 6 6 [(0, .ref (E.2.1 58)), (1, .int y6_1), (2, .int y6_2), (3, .int y6_3), (4, .int s.1), (5, .int s.2.1)] [] s.2.2) (fun r => zG l E Γ 6 55 [(0, .ref (E.2.1 58)), (4, .int r.1)] [] r.2.2) (fun s u hb g1 g2 => bX7_isSo_6 C  g1 g2 hb) 2000 s r h K1
def fX7_isSo  (a1 : Int32) (a2 : Int32) (a3 : Int32) (mem : ZM) : Option (Int32 × ZM) :=
  zlet (1 : Int32) (fun v1 => zlet (0 : Int32) (fun v2 => Option.bind (fX7_isSo_l6 a1 a2 a3 (v1, v2, mem)) (fun r3 => Option.bind (fX7_takeBack r3.2.2) (fun r7 => zgd (zbl r3.1) (some (r3.1, r7))))))
set_option maxRecDepth 100000 in
set_option maxHeartbeats 4000000 in
theorem sX7_isSo {l : Launch} {E : ZE}  {a1 : Int32} {a2 : Int32} {a3 : Int32} {mem : ZM} {t : Int32 × ZM} (h : fX7_isSo a1 a2 a3 mem = some t) : zMet l E yX7_isSo cX7_isSo 6 (some .boolean) 6 [.ref (E.2.1 58), .int a1, .int a2, .int a3] mem (some (.int t.1)) t.2 := by
  refine z_enter (by decide) (Nat.le_of_ble_eq_true rfl) (fun Γ C Rq => ?_)
  have C : zC E Γ RX7 cX7_isSo 6 6 := C
  show zG l E Γ 6 0 [(0, .ref (E.2.1 58)), (1, .int a1), (2, .int a2), (3, .int a3)] [] mem
  unfold fX7_isSo at h
  refine z_iconst (v := 1) C dX7_isSo_0 zc1 ?_
  refine z_istore [(0, .ref (E.2.1 58)), (1, .int a1), (2, .int a2), (3, .int a3)] C dX7_isSo_1 h (by decide) rfl (fun v1 h => ?_)
  refine z_iconst (v := 0) C dX7_isSo_3 zc0 ?_
  refine z_istore [(4, .int v1), (0, .ref (E.2.1 58)), (1, .int a1), (2, .int a2), (3, .int a3)] C dX7_isSo_4 h (by decide) rfl (fun v2 h => ?_)
  obtain ⟨r3, h3, h⟩ := Option.bind_eq_some_iff.mp h
  refine z_pick [2, 3, 4, 5, 1, 0] rfl ?_
  refine lX7_isSo_6 C  h3 ?_
  refine z_aload_n C dX7_isSo_55 rfl (j := 0) rfl ?_
  obtain ⟨r7, h7, h⟩ := Option.bind_eq_some_iff.mp h
  refine z_callVv [] [] C dX7_isSo_56 (by decide) zen_58 rfl zk_X7_207 zw702 zw703 ⟨⟨by decide, by decide⟩, rfl, Nat.le_of_ble_eq_true rfl⟩ rfl (sX7_takeBack  h7) ?_
  refine z_iload C dX7_isSo_59 (j := 1) rfl ?_
  obtain ⟨hg, h⟩ := zgd_some h
  have e := Option.some.inj h; subst e; exact z_zret C dX7_isSo_61 hg Rq
-- X7_fits
def fX7_fits_j229  (y160_1 : Int32) (y160_2 : Int32) (y160_3 : Int32) (y160_4 : Int32) (y160_5 : Int32) (y160_7 : Int32) (y160_8 : Int32) (x10 : Int32) (k0 : Int32) (k1 : Int32) (mem : ZM) : Option ((Int32 × Int32 × ZM) ⊕ (Int32 × Int32 × ZM)) :=
  zlet (k1 ||| k0) (fun v11 => zlet (x10 + (1 : Int32)) (fun v12 => some (Sum.inl (v11, v12, mem))))
set_option maxRecDepth 100000 in
set_option maxHeartbeats 4000000 in
theorem jX7_fits_229 {l : Launch} {E : ZE} {Γ : ZG} (C : zC E Γ RX7 cX7_fits 11 7)  {y160_1 : Int32} {y160_2 : Int32} {y160_3 : Int32} {y160_4 : Int32} {y160_5 : Int32} {y160_7 : Int32} {y160_8 : Int32} {x10 : Int32} {k0 : Int32} {k1 : Int32}  {mem : ZM}  {u : (Int32 × Int32 × ZM) ⊕ (Int32 × Int32 × ZM)}  (G1 : ∀ s', u = Sum.inl s' → zG l E Γ 11 160 [(0, .ref (E.2.1 58)), (1, .int y160_1), (2, .int y160_2), (3, .int y160_3), (4, .int y160_4), (5, .int y160_5), (7, .int y160_7), (8, .int y160_8), (9, .int (s'.1)), (10, .int (s'.2.1))] [] s'.2.2) (G2 : ∀ s', u = Sum.inr s' → zG l E Γ 11 238 [(0, .ref (E.2.1 58)), (9, .int (s'.1))] [] s'.2.2) (h : fX7_fits_j229  y160_1 y160_2 y160_3 y160_4 y160_5 y160_7 y160_8 x10 k0 k1 mem = some u) : zG l E Γ 11 229 [(0, .ref (E.2.1 58)), (1, .int y160_1), (2, .int y160_2), (3, .int y160_3), (4, .int y160_4), (5, .int y160_5), (7, .int y160_7), (8, .int y160_8), (10, .int x10)] [.int k0, .int k1] mem := by
  unfold fX7_fits_j229 at h
  refine z_ior C dX7_fits_229 ?_
  refine z_istore [(0, .ref (E.2.1 58)), (1, .int y160_1), (2, .int y160_2), (3, .int y160_3), (4, .int y160_4), (5, .int y160_5), (7, .int y160_7), (8, .int y160_8), (10, .int x10)] C dX7_fits_230 h (by decide) rfl (fun v11 h => ?_)
  refine z_iinc [(9, .int v11), (0, .ref (E.2.1 58)), (1, .int y160_1), (2, .int y160_2), (3, .int y160_3), (4, .int y160_4), (5, .int y160_5), (7, .int y160_7), (8, .int y160_8)] C dX7_fits_232 zc1 h (j := 9) rfl (by decide) rfl (fun v12 h => ?_)
  refine z_goto 160 C dX7_fits_235 (by decide) ?_
  refine z_pick [2, 3, 4, 5, 6, 7, 8, 9, 1, 0] rfl ?_
  exact G1 _ (Option.some.inj h).symm
def fX7_fits_j203  (y160_1 : Int32) (y160_2 : Int32) (y160_3 : Int32) (y160_4 : Int32) (y160_5 : Int32) (y160_7 : Int32) (y160_8 : Int32) (x9 : Int32) (x10 : Int32) (mem : ZM) : Option ((Int32 × Int32 × ZM) ⊕ (Int32 × Int32 × ZM)) :=
  Option.bind (fX7_isSo y160_1 (((40 : Int32) * y160_2) + y160_3) y160_4 mem) (fun r10 => if r10.1 = 0 then (fX7_fits_j229  y160_1 y160_2 y160_3 y160_4 y160_5 y160_7 y160_8 x10 (0 : Int32) x9 r10.2) else (fX7_fits_j229  y160_1 y160_2 y160_3 y160_4 y160_5 y160_7 y160_8 x10 ((1 : Int32) <<< (x10 &&& 31)) x9 r10.2))
set_option maxRecDepth 100000 in
set_option maxHeartbeats 4000000 in
theorem jX7_fits_203 {l : Launch} {E : ZE} {Γ : ZG} (C : zC E Γ RX7 cX7_fits 11 7)  {y160_1 : Int32} {y160_2 : Int32} {y160_3 : Int32} {y160_4 : Int32} {y160_5 : Int32} {y160_7 : Int32} {y160_8 : Int32} {x9 : Int32} {x10 : Int32}  {mem : ZM}  {u : (Int32 × Int32 × ZM) ⊕ (Int32 × Int32 × ZM)}  (G1 : ∀ s', u = Sum.inl s' → zG l E Γ 11 160 [(0, .ref (E.2.1 58)), (1, .int y160_1), (2, .int y160_2), (3, .int y160_3), (4, .int y160_4), (5, .int y160_5), (7, .int y160_7), (8, .int y160_8), (9, .int (s'.1)), (10, .int (s'.2.1))] [] s'.2.2) (G2 : ∀ s', u = Sum.inr s' → zG l E Γ 11 238 [(0, .ref (E.2.1 58)), (9, .int (s'.1))] [] s'.2.2) (h : fX7_fits_j203  y160_1 y160_2 y160_3 y160_4 y160_5 y160_7 y160_8 x9 x10 mem = some u) : zG l E Γ 11 203 [(0, .ref (E.2.1 58)), (1, .int y160_1), (2, .int y160_2), (3, .int y160_3), (4, .int y160_4), (5, .int y160_5), (7, .int y160_7), (8, .int y160_8), (9, .int x9), (10, .int x10)] [] mem := by
  unfold fX7_fits_j203 at h
  refine z_iload C dX7_fits_203 (j := 8) rfl ?_
  refine z_aload_n C dX7_fits_205 rfl (j := 0) rfl ?_
  refine z_iload_n C dX7_fits_206 rfl (j := 1) rfl ?_
  refine z_bipush (v := 40) C dX7_fits_207 zb40 ?_
  refine z_iload_n C dX7_fits_209 rfl (j := 2) rfl ?_
  refine z_imul C dX7_fits_210 ?_
  refine z_iload_n C dX7_fits_211 rfl (j := 3) rfl ?_
  refine z_iadd C dX7_fits_212 ?_
  refine z_iload C dX7_fits_213 (j := 4) rfl ?_
  obtain ⟨r10, h10, h⟩ := Option.bind_eq_some_iff.mp h
  refine z_callVi [.int y160_1, .int (((40 : Int32) * y160_2) + y160_3), .int y160_4] [.int x9] C dX7_fits_215 (by decide) zen_58 rfl zk_X7_237 zw876 zw877 ⟨⟨by decide, by decide⟩, rfl, Nat.le_of_ble_eq_true rfl⟩ rfl (sX7_isSo  h10) ?_
  refine z_if_eq 228 C dX7_fits_218 (by decide) h (fun h => ?_) (fun h => ?_)
  · refine z_iconst (v := 0) C dX7_fits_228 zc0 ?_
    refine z_pick [0, 1, 2, 3, 4, 5, 6, 7, 9] rfl ?_
    exact jX7_fits_229 C   G1 G2 h
  · refine z_iconst (v := 1) C dX7_fits_221 zc1 ?_
    refine z_iload C dX7_fits_222 (j := 9) rfl ?_
    refine z_ishl C dX7_fits_224 ?_
    refine z_goto 229 C dX7_fits_225 (by decide) ?_
    refine z_pick [0, 1, 2, 3, 4, 5, 6, 7, 9] rfl ?_
    exact jX7_fits_229 C   G1 G2 h
def fX7_fits_b160  (y160_1 : Int32) (y160_2 : Int32) (y160_3 : Int32) (y160_4 : Int32) (y160_5 : Int32) (y160_7 : Int32) (y160_8 : Int32) (x160_9 : Int32) (x160_10 : Int32) (memb : ZM) : Option ((Int32 × Int32 × ZM) ⊕ (Int32 × Int32 × ZM)) :=
  if y160_8 < x160_10 then (some (Sum.inr (x160_9, x160_10, memb))) else (zgd (zin y160_7 38) (zlet (zst memb 62 y160_7.toNatClampNeg x160_10) (fun m9 => if y160_5 = 0 then (Option.bind (fX7_burns x160_10) (fun r13 => if r13 = 0 then (zgd (zin (4 : Int32) 38) (zgd (zin (4 : Int32) 38) (zlet (zst m9 62 (4 : Int32).toNatClampNeg ((m9 62 (4 : Int32).toNatClampNeg) &&& (((1 : Int32) <<< (y160_1 &&& 31)) ^^^ (-1 : Int32)))) (fun m14 => fX7_fits_j203  y160_1 y160_2 y160_3 y160_4 y160_5 y160_7 y160_8 x160_9 x160_10 m14)))) else (fX7_fits_j203  y160_1 y160_2 y160_3 y160_4 y160_5 y160_7 y160_8 x160_9 x160_10 m9))) else (fX7_fits_j203  y160_1 y160_2 y160_3 y160_4 y160_5 y160_7 y160_8 x160_9 x160_10 m9))))
def fX7_fits_l160  (y160_1 : Int32) (y160_2 : Int32) (y160_3 : Int32) (y160_4 : Int32) (y160_5 : Int32) (y160_7 : Int32) (y160_8 : Int32) (s : Int32 × Int32 × ZM) : Option (Int32 × Int32 × ZM) := ziter (fun s => fX7_fits_b160 y160_1 y160_2 y160_3 y160_4 y160_5 y160_7 y160_8 s.1 s.2.1 s.2.2) 2000 s
set_option maxRecDepth 100000 in
set_option maxHeartbeats 4000000 in
theorem bX7_fits_160 {l : Launch} {E : ZE} {Γ : ZG} (C : zC E Γ RX7 cX7_fits 11 7)  {y160_1 : Int32} {y160_2 : Int32} {y160_3 : Int32} {y160_4 : Int32} {y160_5 : Int32} {y160_7 : Int32} {y160_8 : Int32} {x160_9 : Int32} {x160_10 : Int32} {memb : ZM} {u : (Int32 × Int32 × ZM) ⊕ (Int32 × Int32 × ZM)} (G1 : ∀ s', u = Sum.inl s' → zG l E Γ 11 160 [(0, .ref (E.2.1 58)), (1, .int y160_1), (2, .int y160_2), (3, .int y160_3), (4, .int y160_4), (5, .int y160_5), (7, .int y160_7), (8, .int y160_8), (9, .int (s'.1)), (10, .int (s'.2.1))] [] s'.2.2) (G2 : ∀ s', u = Sum.inr s' → zG l E Γ 11 238 [(0, .ref (E.2.1 58)), (9, .int (s'.1))] [] s'.2.2) (h : fX7_fits_b160 y160_1 y160_2 y160_3 y160_4 y160_5 y160_7 y160_8 x160_9 x160_10 memb = some u) : zG l E Γ 11 160 [(0, .ref (E.2.1 58)), (1, .int y160_1), (2, .int y160_2), (3, .int y160_3), (4, .int y160_4), (5, .int y160_5), (7, .int y160_7), (8, .int y160_8), (9, .int x160_9), (10, .int x160_10)] [] memb := by
  unfold fX7_fits_b160 at h
  refine z_iload C dX7_fits_160 (j := 9) rfl ?_
  refine z_iload C dX7_fits_162 (j := 7) rfl ?_
  refine z_icmp_gt 238 C dX7_fits_164 (by decide) h (fun h => ?_) (fun h => ?_)
  · refine z_pick [0, 8] rfl ?_
    exact G2 _ (Option.some.inj h).symm
  · refine z_aload_n C dX7_fits_167 rfl (j := 0) rfl ?_
    refine zg7_5 C dX7_fits_168 zw101 ?_
    refine z_iload C dX7_fits_171 (j := 6) rfl ?_
    refine z_iload C dX7_fits_173 (j := 9) rfl ?_
    refine z_iast C dX7_fits_175 zar62 h (fun m9 h => ?_)
    refine z_iload C dX7_fits_176 (j := 5) rfl ?_
    refine z_if_ne 203 C dX7_fits_178 (by decide) h (fun h => ?_) (fun h => ?_)
    · refine z_pick [0, 1, 2, 3, 4, 5, 6, 7, 8, 9] rfl ?_
      exact jX7_fits_203 C   G1 G2 h
    · refine z_iload C dX7_fits_181 (j := 9) rfl ?_
      obtain ⟨r13, h13, h⟩ := Option.bind_eq_some_iff.mp h
      refine z_callSi [.int x160_10] [] C dX7_fits_183 zk_X7_164 zw535 ⟨⟨by decide, by decide⟩, rfl, Nat.le_of_ble_eq_true rfl⟩ rfl (sX7_burns  h13) ?_
      refine z_if_ne 203 C dX7_fits_186 (by decide) h (fun h => ?_) (fun h => ?_)
      · refine z_pick [0, 1, 2, 3, 4, 5, 6, 7, 8, 9] rfl ?_
        exact jX7_fits_203 C   G1 G2 h
      · refine z_aload_n C dX7_fits_189 rfl (j := 0) rfl ?_
        refine zg7_5 C dX7_fits_190 zw101 ?_
        refine z_iconst (v := 4) C dX7_fits_193 zc4 ?_
        refine z_dup2 C dX7_fits_194 rfl rfl ?_
        refine z_iald C dX7_fits_195 zar62 h (fun h => ?_)
        refine z_iconst (v := 1) C dX7_fits_196 zc1 ?_
        refine z_iload_n C dX7_fits_197 rfl (j := 1) rfl ?_
        refine z_ishl C dX7_fits_198 ?_
        refine z_iconst (v := -1) C dX7_fits_199 zcm1 ?_
        refine z_ixor C dX7_fits_200 ?_
        refine z_iand C dX7_fits_201 ?_
        refine z_iast C dX7_fits_202 zar62 h (fun m14 h => ?_)
        refine z_pick [0, 1, 2, 3, 4, 5, 6, 7, 8, 9] rfl ?_
        exact jX7_fits_203 C   G1 G2 h
theorem lX7_fits_160 {l : Launch} {E : ZE} {Γ : ZG} (C : zC E Γ RX7 cX7_fits 11 7)  {y160_1 : Int32} {y160_2 : Int32} {y160_3 : Int32} {y160_4 : Int32} {y160_5 : Int32} {y160_7 : Int32} {y160_8 : Int32} {s : Int32 × Int32 × ZM} {r : Int32 × Int32 × ZM} (h : fX7_fits_l160 y160_1 y160_2 y160_3 y160_4 y160_5 y160_7 y160_8 s = some r) (K1 : zG l E Γ 11 238 [(0, .ref (E.2.1 58)), (9, .int r.1)] [] r.2.2) : zG l E Γ 11 160 [(0, .ref (E.2.1 58)), (1, .int y160_1), (2, .int y160_2), (3, .int y160_3), (4, .int y160_4), (5, .int y160_5), (7, .int y160_7), (8, .int y160_8), (9, .int s.1), (10, .int s.2.1)] [] s.2.2 :=
  z_loop (body := fun s => fX7_fits_b160 y160_1 y160_2 y160_3 y160_4 y160_5 y160_7 y160_8 s.1 s.2.1 s.2.2) (fun s => zG l E Γ 11 160 [(0, .ref (E.2.1 58)), (1, .int y160_1), (2, .int y160_2), (3, .int y160_3), (4, .int y160_4), (5, .int y160_5), (7, .int y160_7), (8, .int y160_8), (9, .int s.1), (10, .int s.2.1)] [] s.2.2) (fun r => zG l E Γ 11 238 [(0, .ref (E.2.1 58)), (9, .int r.1)] [] r.2.2) (fun s u hb g1 g2 => bX7_fits_160 C  g1 g2 hb) 2000 s r h K1
def fX7_fits_j158  (x1 : Int32) (x2 : Int32) (x3 : Int32) (x4 : Int32) (x5 : Int32) (x7 : Int32) (x8 : Int32) (x9 : Int32) (k0 : Int32) (mem : ZM) : Option (Int32 × ZM) :=
  zlet k0 (fun v7 => Option.bind (fX7_fits_l160 x1 x2 x3 x4 x5 x7 x8 (x9, v7, mem)) (fun r8 => Option.bind (fX7_well r8.1 r8.2.2) (fun r15 => some (r15.1, r15.2))))
set_option maxRecDepth 100000 in
set_option maxHeartbeats 4000000 in
theorem jX7_fits_158 {l : Launch} {E : ZE} {Γ : ZG} (C : zC E Γ RX7 cX7_fits 11 7)  {x1 : Int32} {x2 : Int32} {x3 : Int32} {x4 : Int32} {x5 : Int32} {x7 : Int32} {x8 : Int32} {x9 : Int32} {k0 : Int32}  {mem : ZM}  {t : Int32 × ZM}  (Rq : zRq E Γ (some .int) (some (.int t.1)) t.2) (h : fX7_fits_j158  x1 x2 x3 x4 x5 x7 x8 x9 k0 mem = some t) : zG l E Γ 11 158 [(0, .ref (E.2.1 58)), (1, .int x1), (2, .int x2), (3, .int x3), (4, .int x4), (5, .int x5), (7, .int x7), (8, .int x8), (9, .int x9)] [.int k0] mem := by
  unfold fX7_fits_j158 at h
  refine z_istore [(0, .ref (E.2.1 58)), (1, .int x1), (2, .int x2), (3, .int x3), (4, .int x4), (5, .int x5), (7, .int x7), (8, .int x8), (9, .int x9)] C dX7_fits_158 h (by decide) rfl (fun v7 h => ?_)
  obtain ⟨r8, h8, h⟩ := Option.bind_eq_some_iff.mp h
  refine z_pick [1, 2, 3, 4, 5, 6, 7, 8, 9, 0] rfl ?_
  refine lX7_fits_160 C  h8 ?_
  refine z_aload_n C dX7_fits_238 rfl (j := 0) rfl ?_
  refine z_iload C dX7_fits_239 (j := 1) rfl ?_
  obtain ⟨r15, h15, h⟩ := Option.bind_eq_some_iff.mp h
  refine z_callVi [.int r8.1] [] C dX7_fits_241 (by decide) zen_58 rfl zk_X7_72 zw156 zw157 ⟨⟨by decide, by decide⟩, rfl, Nat.le_of_ble_eq_true rfl⟩ rfl (sX7_well  h15) ?_
  have e := Option.some.inj h; subst e; exact z_iret C dX7_fits_244 Rq
def fX7_fits_j141  (x1 : Int32) (x2 : Int32) (x3 : Int32) (x4 : Int32) (x5 : Int32) (x7 : Int32) (k0 : Int32) (mem : ZM) : Option (Int32 × ZM) :=
  zlet k0 (fun v5 => zlet (0 : Int32) (fun v6 => if (x5 - x5 / (2 : Int32) * (2 : Int32)) = 0 then (fX7_fits_j158  x1 x2 x3 x4 x5 x7 v5 v6 (1 : Int32) mem) else (fX7_fits_j158  x1 x2 x3 x4 x5 x7 v5 v6 (0 : Int32) mem)))
set_option maxRecDepth 100000 in
set_option maxHeartbeats 4000000 in
theorem jX7_fits_141 {l : Launch} {E : ZE} {Γ : ZG} (C : zC E Γ RX7 cX7_fits 11 7)  {x1 : Int32} {x2 : Int32} {x3 : Int32} {x4 : Int32} {x5 : Int32} {x7 : Int32} {k0 : Int32}  {mem : ZM}  {t : Int32 × ZM}  (Rq : zRq E Γ (some .int) (some (.int t.1)) t.2) (h : fX7_fits_j141  x1 x2 x3 x4 x5 x7 k0 mem = some t) : zG l E Γ 11 141 [(0, .ref (E.2.1 58)), (1, .int x1), (2, .int x2), (3, .int x3), (4, .int x4), (5, .int x5), (7, .int x7)] [.int k0] mem := by
  unfold fX7_fits_j141 at h
  refine z_istore [(0, .ref (E.2.1 58)), (1, .int x1), (2, .int x2), (3, .int x3), (4, .int x4), (5, .int x5), (7, .int x7)] C dX7_fits_141 h (by decide) rfl (fun v5 h => ?_)
  refine z_iconst (v := 0) C dX7_fits_143 zc0 ?_
  refine z_istore [(8, .int v5), (0, .ref (E.2.1 58)), (1, .int x1), (2, .int x2), (3, .int x3), (4, .int x4), (5, .int x5), (7, .int x7)] C dX7_fits_144 h (by decide) rfl (fun v6 h => ?_)
  refine z_iload C dX7_fits_146 (j := 7) rfl ?_
  refine z_iconst (v := 2) C dX7_fits_148 zc2 ?_
  refine z_irem0 C dX7_fits_149 (by decide) ?_
  refine z_if_ne 157 C dX7_fits_150 (by decide) h (fun h => ?_) (fun h => ?_)
  · refine z_iconst (v := 0) C dX7_fits_157 zc0 ?_
    refine z_pick [2, 3, 4, 5, 6, 7, 8, 1, 0] rfl ?_
    exact jX7_fits_158 C   Rq h
  · refine z_iconst (v := 1) C dX7_fits_153 zc1 ?_
    refine z_goto 158 C dX7_fits_154 (by decide) ?_
    refine z_pick [2, 3, 4, 5, 6, 7, 8, 1, 0] rfl ?_
    exact jX7_fits_158 C   Rq h
def fX7_fits_j107  (x1 : Int32) (x2 : Int32) (x3 : Int32) (x4 : Int32) (x5 : Int32) (k0 : Int32) (mem : ZM) : Option (Int32 × ZM) :=
  zlet k0 (fun v4 => if x5 = 0 then (fX7_fits_j141  x1 x2 x3 x4 x5 v4 (5 : Int32) mem) else (if x5 = (1 : Int32) then (fX7_fits_j141  x1 x2 x3 x4 x5 v4 (20 : Int32) mem) else (if x5 = (2 : Int32) then (fX7_fits_j141  x1 x2 x3 x4 x5 v4 (30 : Int32) mem) else (fX7_fits_j141  x1 x2 x3 x4 x5 v4 (1 : Int32) mem))))
set_option maxRecDepth 100000 in
set_option maxHeartbeats 4000000 in
theorem jX7_fits_107 {l : Launch} {E : ZE} {Γ : ZG} (C : zC E Γ RX7 cX7_fits 11 7)  {x1 : Int32} {x2 : Int32} {x3 : Int32} {x4 : Int32} {x5 : Int32} {k0 : Int32}  {mem : ZM}  {t : Int32 × ZM}  (Rq : zRq E Γ (some .int) (some (.int t.1)) t.2) (h : fX7_fits_j107  x1 x2 x3 x4 x5 k0 mem = some t) : zG l E Γ 11 107 [(0, .ref (E.2.1 58)), (1, .int x1), (2, .int x2), (3, .int x3), (4, .int x4), (5, .int x5)] [.int k0] mem := by
  unfold fX7_fits_j107 at h
  refine z_istore [(0, .ref (E.2.1 58)), (1, .int x1), (2, .int x2), (3, .int x3), (4, .int x4), (5, .int x5)] C dX7_fits_107 h (by decide) rfl (fun v4 h => ?_)
  refine z_iload C dX7_fits_109 (j := 6) rfl ?_
  refine z_if_ne 118 C dX7_fits_111 (by decide) h (fun h => ?_) (fun h => ?_)
  · refine z_iload C dX7_fits_118 (j := 6) rfl ?_
    refine z_iconst (v := 1) C dX7_fits_120 zc1 ?_
    refine z_icmp_ne 129 C dX7_fits_121 (by decide) h (fun h => ?_) (fun h => ?_)
    · refine z_iload C dX7_fits_129 (j := 6) rfl ?_
      refine z_iconst (v := 2) C dX7_fits_131 zc2 ?_
      refine z_icmp_ne 140 C dX7_fits_132 (by decide) h (fun h => ?_) (fun h => ?_)
      · refine z_iconst (v := 1) C dX7_fits_140 zc1 ?_
        refine z_pick [1, 2, 3, 4, 5, 6, 0] rfl ?_
        exact jX7_fits_141 C   Rq h
      · refine z_bipush (v := 30) C dX7_fits_135 zb30 ?_
        refine z_goto 141 C dX7_fits_137 (by decide) ?_
        refine z_pick [1, 2, 3, 4, 5, 6, 0] rfl ?_
        exact jX7_fits_141 C   Rq h
    · refine z_bipush (v := 20) C dX7_fits_124 zb20 ?_
      refine z_goto 141 C dX7_fits_126 (by decide) ?_
      refine z_pick [1, 2, 3, 4, 5, 6, 0] rfl ?_
      exact jX7_fits_141 C   Rq h
  · refine z_iconst (v := 5) C dX7_fits_114 zc5 ?_
    refine z_goto 141 C dX7_fits_115 (by decide) ?_
    refine z_pick [1, 2, 3, 4, 5, 6, 0] rfl ?_
    exact jX7_fits_141 C   Rq h
def fX7_fits_j54  (x1 : Int32) (x2 : Int32) (x3 : Int32) (x4 : Int32) (x5 : Int32) (k0 : Int32) (mem : ZM) : Option (Int32 × ZM) :=
  zlet k0 (fun v2 => if 0 ≤ v2 then (Option.bind (fX7_putAside mem) (fun r3 => if x5 = 0 then (fX7_fits_j107  x1 x2 x3 x4 x5 ((6 : Int32) + x1) r3) else (if x5 = (1 : Int32) then (fX7_fits_j107  x1 x2 x3 x4 x5 ((22 : Int32) + x1) r3) else (if x5 = (2 : Int32) then (fX7_fits_j107  x1 x2 x3 x4 x5 ((14 : Int32) + x1) r3) else (fX7_fits_j107  x1 x2 x3 x4 x5 (2 : Int32) r3))))) else (some (v2, mem)))
set_option maxRecDepth 100000 in
set_option maxHeartbeats 4000000 in
theorem jX7_fits_54 {l : Launch} {E : ZE} {Γ : ZG} (C : zC E Γ RX7 cX7_fits 11 7)  {x1 : Int32} {x2 : Int32} {x3 : Int32} {x4 : Int32} {x5 : Int32} {k0 : Int32}  {mem : ZM}  {t : Int32 × ZM}  (Rq : zRq E Γ (some .int) (some (.int t.1)) t.2) (h : fX7_fits_j54  x1 x2 x3 x4 x5 k0 mem = some t) : zG l E Γ 11 54 [(0, .ref (E.2.1 58)), (1, .int x1), (2, .int x2), (3, .int x3), (4, .int x4), (5, .int x5)] [.int k0] mem := by
  unfold fX7_fits_j54 at h
  refine z_istore [(0, .ref (E.2.1 58)), (1, .int x1), (2, .int x2), (3, .int x3), (4, .int x4), (5, .int x5)] C dX7_fits_54 h (by decide) rfl (fun v2 h => ?_)
  refine z_iload C dX7_fits_56 (j := 0) rfl ?_
  refine z_if_ge 64 C dX7_fits_58 (by decide) h (fun h => ?_) (fun h => ?_)
  · refine z_aload_n C dX7_fits_64 rfl (j := 1) rfl ?_
    obtain ⟨r3, h3, h⟩ := Option.bind_eq_some_iff.mp h
    refine z_callVv [] [] C dX7_fits_65 (by decide) zen_58 rfl zk_X7_200 zw694 zw695 ⟨⟨by decide, by decide⟩, rfl, Nat.le_of_ble_eq_true rfl⟩ rfl (sX7_putAside  h3) ?_
    refine z_iload C dX7_fits_68 (j := 6) rfl ?_
    refine z_if_ne 80 C dX7_fits_70 (by decide) h (fun h => ?_) (fun h => ?_)
    · refine z_iload C dX7_fits_80 (j := 6) rfl ?_
      refine z_iconst (v := 1) C dX7_fits_82 zc1 ?_
      refine z_icmp_ne 93 C dX7_fits_83 (by decide) h (fun h => ?_) (fun h => ?_)
      · refine z_iload C dX7_fits_93 (j := 6) rfl ?_
        refine z_iconst (v := 2) C dX7_fits_95 zc2 ?_
        refine z_icmp_ne 106 C dX7_fits_96 (by decide) h (fun h => ?_) (fun h => ?_)
        · refine z_iconst (v := 2) C dX7_fits_106 zc2 ?_
          refine z_pick [1, 2, 3, 4, 5, 6] rfl ?_
          exact jX7_fits_107 C   Rq h
        · refine z_bipush (v := 14) C dX7_fits_99 zb14 ?_
          refine z_iload_n C dX7_fits_101 rfl (j := 2) rfl ?_
          refine z_iadd C dX7_fits_102 ?_
          refine z_goto 107 C dX7_fits_103 (by decide) ?_
          refine z_pick [1, 2, 3, 4, 5, 6] rfl ?_
          exact jX7_fits_107 C   Rq h
      · refine z_bipush (v := 22) C dX7_fits_86 zb22 ?_
        refine z_iload_n C dX7_fits_88 rfl (j := 2) rfl ?_
        refine z_iadd C dX7_fits_89 ?_
        refine z_goto 107 C dX7_fits_90 (by decide) ?_
        refine z_pick [1, 2, 3, 4, 5, 6] rfl ?_
        exact jX7_fits_107 C   Rq h
    · refine z_bipush (v := 6) C dX7_fits_73 zb6 ?_
      refine z_iload_n C dX7_fits_75 rfl (j := 2) rfl ?_
      refine z_iadd C dX7_fits_76 ?_
      refine z_goto 107 C dX7_fits_77 (by decide) ?_
      refine z_pick [1, 2, 3, 4, 5, 6] rfl ?_
      exact jX7_fits_107 C   Rq h
  · refine z_iload C dX7_fits_61 (j := 0) rfl ?_
    have e := Option.some.inj h; subst e; exact z_iret C dX7_fits_63 Rq
def fX7_fits_j41  (x1 : Int32) (x2 : Int32) (x3 : Int32) (x4 : Int32) (x5 : Int32) (mem : ZM) : Option (Int32 × ZM) :=
  fX7_fits_j54  x1 x2 x3 x4 x5 (-1000001 : Int32) mem
set_option maxRecDepth 100000 in
set_option maxHeartbeats 4000000 in
theorem jX7_fits_41 {l : Launch} {E : ZE} {Γ : ZG} (C : zC E Γ RX7 cX7_fits 11 7)  {x1 : Int32} {x2 : Int32} {x3 : Int32} {x4 : Int32} {x5 : Int32}  {mem : ZM}  {t : Int32 × ZM}  (Rq : zRq E Γ (some .int) (some (.int t.1)) t.2) (h : fX7_fits_j41  x1 x2 x3 x4 x5 mem = some t) : zG l E Γ 11 41 [(0, .ref (E.2.1 58)), (1, .int x1), (2, .int x2), (3, .int x3), (4, .int x4), (5, .int x5)] [] mem := by
  unfold fX7_fits_j41 at h
  refine z_ldc C dX7_fits_41 zw141 ?_
  refine z_goto 54 C dX7_fits_43 (by decide) ?_
  refine z_pick [0, 1, 2, 3, 4, 5] rfl ?_
  exact jX7_fits_54 C   Rq h
def fX7_fits  (a1 : Int32) (a2 : Int32) (a3 : Int32) (a4 : Int32) (a5 : Int32) (mem : ZM) : Option (Int32 × ZM) :=
  Option.bind (fX7_isThing a1 mem) (fun r1 => if r1 = 0 then (fX7_fits_j41  a1 a2 a3 a4 a5 mem) else (Option.bind (fX7_isRow a2) (fun r16 => if r16 = 0 then (fX7_fits_j41  a1 a2 a3 a4 a5 mem) else (Option.bind (fX7_in a4.toInt64 (1 : Int64) (12 : Int64)) (fun r17 => if r17 = 0 then (fX7_fits_j41  a1 a2 a3 a4 a5 mem) else (Option.bind (fX7_in a5.toInt64 (0 : Int64) (3 : Int64)) (fun r18 => if r18 = 0 then (fX7_fits_j41  a1 a2 a3 a4 a5 mem) else (Option.bind (fX7_lacks a2 a3 a4 mem) (fun r19 => fX7_fits_j54  a1 a2 a3 a4 a5 r19.1 r19.2)))))))))
set_option maxRecDepth 100000 in
set_option maxHeartbeats 4000000 in
theorem sX7_fits {l : Launch} {E : ZE}  {a1 : Int32} {a2 : Int32} {a3 : Int32} {a4 : Int32} {a5 : Int32} {mem : ZM} {t : Int32 × ZM} (h : fX7_fits a1 a2 a3 a4 a5 mem = some t) : zMet l E yX7_fits cX7_fits 11 (some .int) 7 [.ref (E.2.1 58), .int a1, .int a2, .int a3, .int a4, .int a5] mem (some (.int t.1)) t.2 := by
  refine z_enter (by decide) (Nat.le_of_ble_eq_true rfl) (fun Γ C Rq => ?_)
  have C : zC E Γ RX7 cX7_fits 11 7 := C
  show zG l E Γ 11 0 [(0, .ref (E.2.1 58)), (1, .int a1), (2, .int a2), (3, .int a3), (4, .int a4), (5, .int a5)] [] mem
  unfold fX7_fits at h
  refine z_aload_n C dX7_fits_0 rfl (j := 0) rfl ?_
  refine z_iload_n C dX7_fits_1 rfl (j := 1) rfl ?_
  obtain ⟨r1, h1, h⟩ := Option.bind_eq_some_iff.mp h
  refine z_callVi [.int a1] [] C dX7_fits_2 (by decide) zen_58 rfl zk_X7_180 zw558 zw559 ⟨⟨by decide, by decide⟩, rfl, Nat.le_of_ble_eq_true rfl⟩ rfl (sX7_isThing  h1) ?_
  refine z_if_eq 41 C dX7_fits_5 (by decide) h (fun h => ?_) (fun h => ?_)
  · refine z_pick [0, 1, 2, 3, 4, 5] rfl ?_
    exact jX7_fits_41 C   Rq h
  · refine z_iload_n C dX7_fits_8 rfl (j := 2) rfl ?_
    obtain ⟨r16, h16, h⟩ := Option.bind_eq_some_iff.mp h
    refine z_callSi [.int a2] [] C dX7_fits_9 zk_X7_61 zw143 ⟨⟨by decide, by decide⟩, rfl, Nat.le_of_ble_eq_true rfl⟩ rfl (sX7_isRow  h16) ?_
    refine z_if_eq 41 C dX7_fits_12 (by decide) h (fun h => ?_) (fun h => ?_)
    · refine z_pick [0, 1, 2, 3, 4, 5] rfl ?_
      exact jX7_fits_41 C   Rq h
    · refine z_iload C dX7_fits_15 (j := 4) rfl ?_
      refine z_i2l C dX7_fits_17 ?_
      refine z_lconst (v := 1) C dX7_fits_18 zl1 ?_
      refine z_ldc2 C dX7_fits_19 zw869 ?_
      obtain ⟨r17, h17, h⟩ := Option.bind_eq_some_iff.mp h
      refine z_callSi [.long a4.toInt64, .long (1 : Int64), .long (12 : Int64)] [] C dX7_fits_22 zk_X7_57 zw147 ⟨⟨by decide, by decide⟩, rfl, Nat.le_of_ble_eq_true rfl⟩ rfl (sX7_in  h17) ?_
      refine z_if_eq 41 C dX7_fits_25 (by decide) h (fun h => ?_) (fun h => ?_)
      · refine z_pick [0, 1, 2, 3, 4, 5] rfl ?_
        exact jX7_fits_41 C   Rq h
      · refine z_iload C dX7_fits_28 (j := 5) rfl ?_
        refine z_i2l C dX7_fits_30 ?_
        refine z_lconst (v := 0) C dX7_fits_31 zl0 ?_
        refine z_ldc2 C dX7_fits_32 zw870 ?_
        obtain ⟨r18, h18, h⟩ := Option.bind_eq_some_iff.mp h
        refine z_callSi [.long a5.toInt64, .long (0 : Int64), .long (3 : Int64)] [] C dX7_fits_35 zk_X7_57 zw147 ⟨⟨by decide, by decide⟩, rfl, Nat.le_of_ble_eq_true rfl⟩ rfl (sX7_in  h18) ?_
        refine z_if_ne 46 C dX7_fits_38 (by decide) h (fun h => ?_) (fun h => ?_)
        · refine z_aload_n C dX7_fits_46 rfl (j := 0) rfl ?_
          refine z_iload_n C dX7_fits_47 rfl (j := 2) rfl ?_
          refine z_iload_n C dX7_fits_48 rfl (j := 3) rfl ?_
          refine z_iload C dX7_fits_49 (j := 4) rfl ?_
          obtain ⟨r19, h19, h⟩ := Option.bind_eq_some_iff.mp h
          refine z_callVi [.int a2, .int a3, .int a4] [] C dX7_fits_51 (by decide) zen_58 rfl zk_X7_233 zw872 zw873 ⟨⟨by decide, by decide⟩, rfl, Nat.le_of_ble_eq_true rfl⟩ rfl (sX7_lacks  h19) ?_
          refine z_pick [0, 1, 2, 3, 4, 5] rfl ?_
          exact jX7_fits_54 C   Rq h
        · refine z_pick [0, 1, 2, 3, 4, 5] rfl ?_
          exact jX7_fits_41 C   Rq h
-- X7_rain
def fX7_rain_b81  (y81_1 : Int32) (y81_2 : Int32) (y81_3 : Int32) (y81_4 : Int32) (y81_5 : Int32) (y81_6 : Int32) (mem81 : ZM) (x81_7 : Int32) (x81_8 : Int32) : Option ((Int32 × Int32) ⊕ (Int32 × Int32)) :=
  if x81_8 ≤ 0 then (some (Sum.inr (x81_7, x81_8))) else (zlet (x81_7 * (10 : Int32)) (fun v12 => zlet (x81_8 + (-1 : Int32)) (fun v13 => some (Sum.inl (v12, v13)))))
def fX7_rain_l81  (y81_1 : Int32) (y81_2 : Int32) (y81_3 : Int32) (y81_4 : Int32) (y81_5 : Int32) (y81_6 : Int32) (mem81 : ZM) (s : Int32 × Int32) : Option (Int32 × Int32) := ziter (fun s => fX7_rain_b81 y81_1 y81_2 y81_3 y81_4 y81_5 y81_6 mem81 s.1 s.2) 2000 s
set_option maxRecDepth 100000 in
set_option maxHeartbeats 4000000 in
theorem bX7_rain_81 {l : Launch} {E : ZE} {Γ : ZG} (C : zC E Γ RX7 cX7_rain 11 8)  {y81_1 : Int32} {y81_2 : Int32} {y81_3 : Int32} {y81_4 : Int32} {y81_5 : Int32} {y81_6 : Int32} {mem81 : ZM} {x81_7 : Int32} {x81_8 : Int32} {u : (Int32 × Int32) ⊕ (Int32 × Int32)} (G1 : ∀ s', u = Sum.inl s' → zG l E Γ 11 81 [(0, .ref (E.2.1 58)), (1, .int y81_1), (2, .int y81_2), (3, .int y81_3), (4, .int y81_4), (5, .int y81_5), (6, .int y81_6), (7, .int (s'.1)), (8, .int (s'.2))] [] mem81) (G2 : ∀ s', u = Sum.inr s' → zG l E Γ 11 99 [(0, .ref (E.2.1 58)), (1, .int y81_1), (2, .int y81_2), (3, .int y81_3), (4, .int y81_4), (5, .int y81_5), (6, .int y81_6), (7, .int (s'.1))] [] mem81) (h : fX7_rain_b81 y81_1 y81_2 y81_3 y81_4 y81_5 y81_6 mem81 x81_7 x81_8 = some u) : zG l E Γ 11 81 [(0, .ref (E.2.1 58)), (1, .int y81_1), (2, .int y81_2), (3, .int y81_3), (4, .int y81_4), (5, .int y81_5), (6, .int y81_6), (7, .int x81_7), (8, .int x81_8)] [] mem81 := by
  unfold fX7_rain_b81 at h
  refine z_iload C dX7_rain_81 (j := 8) rfl ?_
  refine z_if_le 99 C dX7_rain_83 (by decide) h (fun h => ?_) (fun h => ?_)
  · refine z_pick [0, 1, 2, 3, 4, 5, 6, 7] rfl ?_
    exact G2 _ (Option.some.inj h).symm
  · refine z_iload C dX7_rain_86 (j := 7) rfl ?_
    refine z_bipush (v := 10) C dX7_rain_88 zb10 ?_
    refine z_imul C dX7_rain_90 ?_
    refine z_istore [(0, .ref (E.2.1 58)), (1, .int y81_1), (2, .int y81_2), (3, .int y81_3), (4, .int y81_4), (5, .int y81_5), (6, .int y81_6), (8, .int x81_8)] C dX7_rain_91 h (by decide) rfl (fun v12 h => ?_)
    refine z_iinc [(7, .int v12), (0, .ref (E.2.1 58)), (1, .int y81_1), (2, .int y81_2), (3, .int y81_3), (4, .int y81_4), (5, .int y81_5), (6, .int y81_6)] C dX7_rain_93 zcm1 h (j := 8) rfl (by decide) rfl (fun v13 h => ?_)
    refine z_goto 81 C dX7_rain_96 (by decide) ?_
    refine z_pick [2, 3, 4, 5, 6, 7, 8, 1, 0] rfl ?_
    exact G1 _ (Option.some.inj h).symm
theorem lX7_rain_81 {l : Launch} {E : ZE} {Γ : ZG} (C : zC E Γ RX7 cX7_rain 11 8)  {y81_1 : Int32} {y81_2 : Int32} {y81_3 : Int32} {y81_4 : Int32} {y81_5 : Int32} {y81_6 : Int32} {mem81 : ZM} {s : Int32 × Int32} {r : Int32 × Int32} (h : fX7_rain_l81 y81_1 y81_2 y81_3 y81_4 y81_5 y81_6 mem81 s = some r) (K1 : zG l E Γ 11 99 [(0, .ref (E.2.1 58)), (1, .int y81_1), (2, .int y81_2), (3, .int y81_3), (4, .int y81_4), (5, .int y81_5), (6, .int y81_6), (7, .int r.1)] [] mem81) : zG l E Γ 11 81 [(0, .ref (E.2.1 58)), (1, .int y81_1), (2, .int y81_2), (3, .int y81_3), (4, .int y81_4), (5, .int y81_5), (6, .int y81_6), (7, .int s.1), (8, .int s.2)] [] mem81 :=
  z_loop (body := fun s => fX7_rain_b81 y81_1 y81_2 y81_3 y81_4 y81_5 y81_6 mem81 s.1 s.2) (fun s => zG l E Γ 11 81 [(0, .ref (E.2.1 58)), (1, .int y81_1), (2, .int y81_2), (3, .int y81_3), (4, .int y81_4), (5, .int y81_5), (6, .int y81_6), (7, .int s.1), (8, .int s.2)] [] mem81) (fun r => zG l E Γ 11 99 [(0, .ref (E.2.1 58)), (1, .int y81_1), (2, .int y81_2), (3, .int y81_3), (4, .int y81_4), (5, .int y81_5), (6, .int y81_6), (7, .int r.1)] [] mem81) (fun s u hb g1 g2 => bX7_rain_81 C  g1 g2 hb) 2000 s r h K1
def fX7_rain_j219  (y102_1 : Int32) (y102_2 : Int32) (y102_3 : Int32) (y102_4 : Int32) (y102_5 : Int32) (x6 : Int32) (y102_7 : Int32) (x8 : Int32) (mem : ZM) : Option ((Int32 × Int32 × ZM) ⊕ (Int32 × Int32 × ZM)) :=
  zlet (x8 + (1 : Int32)) (fun v16 => some (Sum.inl (x6, v16, mem)))
set_option maxRecDepth 100000 in
set_option maxHeartbeats 4000000 in
theorem jX7_rain_219 {l : Launch} {E : ZE} {Γ : ZG} (C : zC E Γ RX7 cX7_rain 11 8)  {y102_1 : Int32} {y102_2 : Int32} {y102_3 : Int32} {y102_4 : Int32} {y102_5 : Int32} {x6 : Int32} {y102_7 : Int32} {x8 : Int32}  {mem : ZM}  {u : (Int32 × Int32 × ZM) ⊕ (Int32 × Int32 × ZM)}  (G1 : ∀ s', u = Sum.inl s' → zG l E Γ 11 102 [(0, .ref (E.2.1 58)), (1, .int y102_1), (2, .int y102_2), (3, .int y102_3), (4, .int y102_4), (5, .int y102_5), (6, .int (s'.1)), (7, .int y102_7), (8, .int (s'.2.1))] [] s'.2.2) (G2 : ∀ s', u = Sum.inr s' → zG l E Γ 11 225 [(4, .int y102_4), (6, .int (s'.1)), (7, .int y102_7)] [] s'.2.2) (h : fX7_rain_j219  y102_1 y102_2 y102_3 y102_4 y102_5 x6 y102_7 x8 mem = some u) : zG l E Γ 11 219 [(0, .ref (E.2.1 58)), (1, .int y102_1), (2, .int y102_2), (3, .int y102_3), (4, .int y102_4), (5, .int y102_5), (6, .int x6), (7, .int y102_7), (8, .int x8)] [] mem := by
  unfold fX7_rain_j219 at h
  refine z_iinc [(0, .ref (E.2.1 58)), (1, .int y102_1), (2, .int y102_2), (3, .int y102_3), (4, .int y102_4), (5, .int y102_5), (6, .int x6), (7, .int y102_7)] C dX7_rain_219 zc1 h (j := 8) rfl (by decide) rfl (fun v16 h => ?_)
  refine z_goto 102 C dX7_rain_222 (by decide) ?_
  refine z_pick [1, 2, 3, 4, 5, 6, 7, 8, 0] rfl ?_
  exact G1 _ (Option.some.inj h).symm
def fX7_rain_j190  (y125_1 : Int32) (y125_2 : Int32) (y125_3 : Int32) (y125_4 : Int32) (y125_5 : Int32) (y125_6 : Int32) (y125_7 : Int32) (y125_8 : Int32) (x9 : Int32) (x10 : Int32) (mem : ZM) : Option ((Int32 × Int32 × ZM) ⊕ (Int32 × Int32 × ZM)) :=
  zlet (x10 + (1 : Int32)) (fun v24 => some (Sum.inl (x9, v24, mem)))
set_option maxRecDepth 100000 in
set_option maxHeartbeats 4000000 in
theorem jX7_rain_190 {l : Launch} {E : ZE} {Γ : ZG} (C : zC E Γ RX7 cX7_rain 11 8)  {y125_1 : Int32} {y125_2 : Int32} {y125_3 : Int32} {y125_4 : Int32} {y125_5 : Int32} {y125_6 : Int32} {y125_7 : Int32} {y125_8 : Int32} {x9 : Int32} {x10 : Int32}  {mem : ZM}  {u : (Int32 × Int32 × ZM) ⊕ (Int32 × Int32 × ZM)}  (G1 : ∀ s', u = Sum.inl s' → zG l E Γ 11 125 [(0, .ref (E.2.1 58)), (1, .int y125_1), (2, .int y125_2), (3, .int y125_3), (4, .int y125_4), (5, .int y125_5), (6, .int y125_6), (7, .int y125_7), (8, .int y125_8), (9, .int (s'.1)), (10, .int (s'.2.1))] [] s'.2.2) (G2 : ∀ s', u = Sum.inr s' → zG l E Γ 11 196 [(0, .ref (E.2.1 58)), (1, .int y125_1), (2, .int y125_2), (3, .int y125_3), (4, .int y125_4), (5, .int y125_5), (6, .int y125_6), (7, .int y125_7), (8, .int y125_8), (9, .int (s'.1))] [] s'.2.2) (h : fX7_rain_j190  y125_1 y125_2 y125_3 y125_4 y125_5 y125_6 y125_7 y125_8 x9 x10 mem = some u) : zG l E Γ 11 190 [(0, .ref (E.2.1 58)), (1, .int y125_1), (2, .int y125_2), (3, .int y125_3), (4, .int y125_4), (5, .int y125_5), (6, .int y125_6), (7, .int y125_7), (8, .int y125_8), (9, .int x9), (10, .int x10)] [] mem := by
  unfold fX7_rain_j190 at h
  refine z_iinc [(0, .ref (E.2.1 58)), (1, .int y125_1), (2, .int y125_2), (3, .int y125_3), (4, .int y125_4), (5, .int y125_5), (6, .int y125_6), (7, .int y125_7), (8, .int y125_8), (9, .int x9)] C dX7_rain_190 zc1 h (j := 10) rfl (by decide) rfl (fun v24 h => ?_)
  refine z_goto 125 C dX7_rain_193 (by decide) ?_
  refine z_pick [1, 2, 3, 4, 5, 6, 7, 8, 9, 10, 0] rfl ?_
  exact G1 _ (Option.some.inj h).symm
def fX7_rain_j170  (y125_1 : Int32) (y125_2 : Int32) (y125_3 : Int32) (y125_4 : Int32) (y125_5 : Int32) (y125_6 : Int32) (y125_7 : Int32) (y125_8 : Int32) (x10 : Int32) (k0 : Int32) (k1 : Int32) (mem : ZM) : Option ((Int32 × Int32 × ZM) ⊕ (Int32 × Int32 × ZM)) :=
  zlet (k1 * k0) (fun v22 => Option.bind (fX7_has y125_8 x10) (fun r23 => if r23 = 0 then (fX7_rain_j190  y125_1 y125_2 y125_3 y125_4 y125_5 y125_6 y125_7 y125_8 v22 x10 mem) else (Option.bind (fX7_waterBy x10 (3 : Int32) mem) (fun r25 => fX7_rain_j190  y125_1 y125_2 y125_3 y125_4 y125_5 y125_6 y125_7 y125_8 v22 x10 r25))))
set_option maxRecDepth 100000 in
set_option maxHeartbeats 4000000 in
theorem jX7_rain_170 {l : Launch} {E : ZE} {Γ : ZG} (C : zC E Γ RX7 cX7_rain 11 8)  {y125_1 : Int32} {y125_2 : Int32} {y125_3 : Int32} {y125_4 : Int32} {y125_5 : Int32} {y125_6 : Int32} {y125_7 : Int32} {y125_8 : Int32} {x10 : Int32} {k0 : Int32} {k1 : Int32}  {mem : ZM}  {u : (Int32 × Int32 × ZM) ⊕ (Int32 × Int32 × ZM)}  (G1 : ∀ s', u = Sum.inl s' → zG l E Γ 11 125 [(0, .ref (E.2.1 58)), (1, .int y125_1), (2, .int y125_2), (3, .int y125_3), (4, .int y125_4), (5, .int y125_5), (6, .int y125_6), (7, .int y125_7), (8, .int y125_8), (9, .int (s'.1)), (10, .int (s'.2.1))] [] s'.2.2) (G2 : ∀ s', u = Sum.inr s' → zG l E Γ 11 196 [(0, .ref (E.2.1 58)), (1, .int y125_1), (2, .int y125_2), (3, .int y125_3), (4, .int y125_4), (5, .int y125_5), (6, .int y125_6), (7, .int y125_7), (8, .int y125_8), (9, .int (s'.1))] [] s'.2.2) (h : fX7_rain_j170  y125_1 y125_2 y125_3 y125_4 y125_5 y125_6 y125_7 y125_8 x10 k0 k1 mem = some u) : zG l E Γ 11 170 [(0, .ref (E.2.1 58)), (1, .int y125_1), (2, .int y125_2), (3, .int y125_3), (4, .int y125_4), (5, .int y125_5), (6, .int y125_6), (7, .int y125_7), (8, .int y125_8), (10, .int x10)] [.int k0, .int k1] mem := by
  unfold fX7_rain_j170 at h
  refine z_imul C dX7_rain_170 ?_
  refine z_istore [(0, .ref (E.2.1 58)), (1, .int y125_1), (2, .int y125_2), (3, .int y125_3), (4, .int y125_4), (5, .int y125_5), (6, .int y125_6), (7, .int y125_7), (8, .int y125_8), (10, .int x10)] C dX7_rain_171 h (by decide) rfl (fun v22 h => ?_)
  refine z_iload C dX7_rain_173 (j := 9) rfl ?_
  refine z_iload C dX7_rain_175 (j := 10) rfl ?_
  obtain ⟨r23, h23, h⟩ := Option.bind_eq_some_iff.mp h
  refine z_callSi [.int y125_8, .int x10] [] C dX7_rain_177 zk_X7_145 zw528 ⟨⟨by decide, by decide⟩, rfl, Nat.le_of_ble_eq_true rfl⟩ rfl (sX7_has  h23) ?_
  refine z_if_eq 190 C dX7_rain_180 (by decide) h (fun h => ?_) (fun h => ?_)
  · refine z_pick [1, 2, 3, 4, 5, 6, 7, 8, 9, 0, 10] rfl ?_
    exact jX7_rain_190 C   G1 G2 h
  · refine z_aload_n C dX7_rain_183 rfl (j := 1) rfl ?_
    refine z_iload C dX7_rain_184 (j := 10) rfl ?_
    refine z_iconst (v := 3) C dX7_rain_186 zc3 ?_
    obtain ⟨r25, h25, h⟩ := Option.bind_eq_some_iff.mp h
    refine z_callVv [.int x10, .int (3 : Int32)] [] C dX7_rain_187 (by decide) zen_58 rfl zk_X7_188 zw581 zw582 ⟨⟨by decide, by decide⟩, rfl, Nat.le_of_ble_eq_true rfl⟩ rfl (sX7_waterBy  h25) ?_
    refine z_pick [1, 2, 3, 4, 5, 6, 7, 8, 9, 0, 10] rfl ?_
    exact jX7_rain_190 C   G1 G2 h
def fX7_rain_b125  (y125_1 : Int32) (y125_2 : Int32) (y125_3 : Int32) (y125_4 : Int32) (y125_5 : Int32) (y125_6 : Int32) (y125_7 : Int32) (y125_8 : Int32) (x125_9 : Int32) (x125_10 : Int32) (memb : ZM) : Option ((Int32 × Int32 × ZM) ⊕ (Int32 × Int32 × ZM)) :=
  zgd (zin (0 : Int32) 38) (if (memb 62 (0 : Int32).toNatClampNeg) ≤ x125_10 then (some (Sum.inr (x125_9, x125_10, memb))) else (Option.bind (fX7_has y125_5 x125_10) (fun r20 => if r20 = 0 then (fX7_rain_j170  y125_1 y125_2 y125_3 y125_4 y125_5 y125_6 y125_7 y125_8 x125_10 (1 : Int32) x125_9 memb) else (Option.bind (fX7_has y125_8 x125_10) (fun r21 => if r21 = 0 then (fX7_rain_j170  y125_1 y125_2 y125_3 y125_4 y125_5 y125_6 y125_7 y125_8 x125_10 ((10 : Int32) - y125_3) x125_9 memb) else (fX7_rain_j170  y125_1 y125_2 y125_3 y125_4 y125_5 y125_6 y125_7 y125_8 x125_10 y125_3 x125_9 memb))))))
def fX7_rain_l125  (y125_1 : Int32) (y125_2 : Int32) (y125_3 : Int32) (y125_4 : Int32) (y125_5 : Int32) (y125_6 : Int32) (y125_7 : Int32) (y125_8 : Int32) (s : Int32 × Int32 × ZM) : Option (Int32 × Int32 × ZM) := ziter (fun s => fX7_rain_b125 y125_1 y125_2 y125_3 y125_4 y125_5 y125_6 y125_7 y125_8 s.1 s.2.1 s.2.2) 2000 s
set_option maxRecDepth 100000 in
set_option maxHeartbeats 4000000 in
theorem bX7_rain_125 {l : Launch} {E : ZE} {Γ : ZG} (C : zC E Γ RX7 cX7_rain 11 8)  {y125_1 : Int32} {y125_2 : Int32} {y125_3 : Int32} {y125_4 : Int32} {y125_5 : Int32} {y125_6 : Int32} {y125_7 : Int32} {y125_8 : Int32} {x125_9 : Int32} {x125_10 : Int32} {memb : ZM} {u : (Int32 × Int32 × ZM) ⊕ (Int32 × Int32 × ZM)} (G1 : ∀ s', u = Sum.inl s' → zG l E Γ 11 125 [(0, .ref (E.2.1 58)), (1, .int y125_1), (2, .int y125_2), (3, .int y125_3), (4, .int y125_4), (5, .int y125_5), (6, .int y125_6), (7, .int y125_7), (8, .int y125_8), (9, .int (s'.1)), (10, .int (s'.2.1))] [] s'.2.2) (G2 : ∀ s', u = Sum.inr s' → zG l E Γ 11 196 [(0, .ref (E.2.1 58)), (1, .int y125_1), (2, .int y125_2), (3, .int y125_3), (4, .int y125_4), (5, .int y125_5), (6, .int y125_6), (7, .int y125_7), (8, .int y125_8), (9, .int (s'.1))] [] s'.2.2) (h : fX7_rain_b125 y125_1 y125_2 y125_3 y125_4 y125_5 y125_6 y125_7 y125_8 x125_9 x125_10 memb = some u) : zG l E Γ 11 125 [(0, .ref (E.2.1 58)), (1, .int y125_1), (2, .int y125_2), (3, .int y125_3), (4, .int y125_4), (5, .int y125_5), (6, .int y125_6), (7, .int y125_7), (8, .int y125_8), (9, .int x125_9), (10, .int x125_10)] [] memb := by
  unfold fX7_rain_b125 at h
  refine z_iload C dX7_rain_125 (j := 10) rfl ?_
  refine z_aload_n C dX7_rain_127 rfl (j := 0) rfl ?_
  refine zg7_5 C dX7_rain_128 zw101 ?_
  refine z_iconst (v := 0) C dX7_rain_131 zc0 ?_
  refine z_iald C dX7_rain_132 zar62 h (fun h => ?_)
  refine z_icmp_ge 196 C dX7_rain_133 (by decide) h (fun h => ?_) (fun h => ?_)
  · refine z_pick [0, 1, 2, 3, 4, 5, 6, 7, 8, 9] rfl ?_
    exact G2 _ (Option.some.inj h).symm
  · refine z_iload C dX7_rain_136 (j := 9) rfl ?_
    refine z_iload C dX7_rain_138 (j := 5) rfl ?_
    refine z_iload C dX7_rain_140 (j := 10) rfl ?_
    obtain ⟨r20, h20, h⟩ := Option.bind_eq_some_iff.mp h
    refine z_callSi [.int y125_5, .int x125_10] [.int x125_9] C dX7_rain_142 zk_X7_145 zw528 ⟨⟨by decide, by decide⟩, rfl, Nat.le_of_ble_eq_true rfl⟩ rfl (sX7_has  h20) ?_
    refine z_if_ne 152 C dX7_rain_145 (by decide) h (fun h => ?_) (fun h => ?_)
    · refine z_iload C dX7_rain_152 (j := 8) rfl ?_
      refine z_iload C dX7_rain_154 (j := 10) rfl ?_
      obtain ⟨r21, h21, h⟩ := Option.bind_eq_some_iff.mp h
      refine z_callSi [.int y125_8, .int x125_10] [.int x125_9] C dX7_rain_156 zk_X7_145 zw528 ⟨⟨by decide, by decide⟩, rfl, Nat.le_of_ble_eq_true rfl⟩ rfl (sX7_has  h21) ?_
      refine z_if_eq 166 C dX7_rain_159 (by decide) h (fun h => ?_) (fun h => ?_)
      · refine z_bipush (v := 10) C dX7_rain_166 zb10 ?_
        refine z_iload_n C dX7_rain_168 rfl (j := 3) rfl ?_
        refine z_isub C dX7_rain_169 ?_
        refine z_pick [0, 1, 2, 3, 4, 5, 6, 7, 8, 10] rfl ?_
        exact jX7_rain_170 C   G1 G2 h
      · refine z_iload_n C dX7_rain_162 rfl (j := 3) rfl ?_
        refine z_goto 170 C dX7_rain_163 (by decide) ?_
        refine z_pick [0, 1, 2, 3, 4, 5, 6, 7, 8, 10] rfl ?_
        exact jX7_rain_170 C   G1 G2 h
    · refine z_iconst (v := 1) C dX7_rain_148 zc1 ?_
      refine z_goto 170 C dX7_rain_149 (by decide) ?_
      refine z_pick [0, 1, 2, 3, 4, 5, 6, 7, 8, 10] rfl ?_
      exact jX7_rain_170 C   G1 G2 h
theorem lX7_rain_125 {l : Launch} {E : ZE} {Γ : ZG} (C : zC E Γ RX7 cX7_rain 11 8)  {y125_1 : Int32} {y125_2 : Int32} {y125_3 : Int32} {y125_4 : Int32} {y125_5 : Int32} {y125_6 : Int32} {y125_7 : Int32} {y125_8 : Int32} {s : Int32 × Int32 × ZM} {r : Int32 × Int32 × ZM} (h : fX7_rain_l125 y125_1 y125_2 y125_3 y125_4 y125_5 y125_6 y125_7 y125_8 s = some r) (K1 : zG l E Γ 11 196 [(0, .ref (E.2.1 58)), (1, .int y125_1), (2, .int y125_2), (3, .int y125_3), (4, .int y125_4), (5, .int y125_5), (6, .int y125_6), (7, .int y125_7), (8, .int y125_8), (9, .int r.1)] [] r.2.2) : zG l E Γ 11 125 [(0, .ref (E.2.1 58)), (1, .int y125_1), (2, .int y125_2), (3, .int y125_3), (4, .int y125_4), (5, .int y125_5), (6, .int y125_6), (7, .int y125_7), (8, .int y125_8), (9, .int s.1), (10, .int s.2.1)] [] s.2.2 :=
  z_loop (body := fun s => fX7_rain_b125 y125_1 y125_2 y125_3 y125_4 y125_5 y125_6 y125_7 y125_8 s.1 s.2.1 s.2.2) (fun s => zG l E Γ 11 125 [(0, .ref (E.2.1 58)), (1, .int y125_1), (2, .int y125_2), (3, .int y125_3), (4, .int y125_4), (5, .int y125_5), (6, .int y125_6), (7, .int y125_7), (8, .int y125_8), (9, .int s.1), (10, .int s.2.1)] [] s.2.2) (fun r => zG l E Γ 11 196 [(0, .ref (E.2.1 58)), (1, .int y125_1), (2, .int y125_2), (3, .int y125_3), (4, .int y125_4), (5, .int y125_5), (6, .int y125_6), (7, .int y125_7), (8, .int y125_8), (9, .int r.1)] [] r.2.2) (fun s u hb g1 g2 => bX7_rain_125 C  g1 g2 hb) 2000 s r h K1
def fX7_rain_j216  (y102_1 : Int32) (y102_2 : Int32) (y102_3 : Int32) (y102_4 : Int32) (y102_5 : Int32) (y102_7 : Int32) (x8 : Int32) (k0 : Int32) (k1 : Int32) (mem : ZM) : Option ((Int32 × Int32 × ZM) ⊕ (Int32 × Int32 × ZM)) :=
  zlet (k1 + k0) (fun v28 => fX7_rain_j219  y102_1 y102_2 y102_3 y102_4 y102_5 v28 y102_7 x8 mem)
set_option maxRecDepth 100000 in
set_option maxHeartbeats 4000000 in
theorem jX7_rain_216 {l : Launch} {E : ZE} {Γ : ZG} (C : zC E Γ RX7 cX7_rain 11 8)  {y102_1 : Int32} {y102_2 : Int32} {y102_3 : Int32} {y102_4 : Int32} {y102_5 : Int32} {y102_7 : Int32} {x8 : Int32} {k0 : Int32} {k1 : Int32}  {mem : ZM}  {u : (Int32 × Int32 × ZM) ⊕ (Int32 × Int32 × ZM)}  (G1 : ∀ s', u = Sum.inl s' → zG l E Γ 11 102 [(0, .ref (E.2.1 58)), (1, .int y102_1), (2, .int y102_2), (3, .int y102_3), (4, .int y102_4), (5, .int y102_5), (6, .int (s'.1)), (7, .int y102_7), (8, .int (s'.2.1))] [] s'.2.2) (G2 : ∀ s', u = Sum.inr s' → zG l E Γ 11 225 [(4, .int y102_4), (6, .int (s'.1)), (7, .int y102_7)] [] s'.2.2) (h : fX7_rain_j216  y102_1 y102_2 y102_3 y102_4 y102_5 y102_7 x8 k0 k1 mem = some u) : zG l E Γ 11 216 [(0, .ref (E.2.1 58)), (1, .int y102_1), (2, .int y102_2), (3, .int y102_3), (4, .int y102_4), (5, .int y102_5), (7, .int y102_7), (8, .int x8)] [.int k0, .int k1] mem := by
  unfold fX7_rain_j216 at h
  refine z_iadd C dX7_rain_216 ?_
  refine z_istore [(0, .ref (E.2.1 58)), (1, .int y102_1), (2, .int y102_2), (3, .int y102_3), (4, .int y102_4), (5, .int y102_5), (7, .int y102_7), (8, .int x8)] C dX7_rain_217 h (by decide) rfl (fun v28 h => ?_)
  refine z_pick [1, 2, 3, 4, 5, 6, 0, 7, 8] rfl ?_
  exact jX7_rain_219 C   G1 G2 h
def fX7_rain_b102  (y102_1 : Int32) (y102_2 : Int32) (y102_3 : Int32) (y102_4 : Int32) (y102_5 : Int32) (y102_7 : Int32) (x102_6 : Int32) (x102_8 : Int32) (memb : ZM) : Option ((Int32 × Int32 × ZM) ⊕ (Int32 × Int32 × ZM)) :=
  if y102_5 < x102_8 then (some (Sum.inr (x102_6, x102_8, memb))) else (if (x102_8 &&& (y102_5 ^^^ (-1 : Int32))) = 0 then (zlet (1 : Int32) (fun v17 => zlet (0 : Int32) (fun v18 => Option.bind (fX7_rain_l125 y102_1 y102_2 y102_3 y102_4 y102_5 x102_6 y102_7 x102_8 (v17, v18, memb)) (fun r19 => Option.bind (fX7_ashesBehind y102_2 r19.2.2) (fun r26 => Option.bind (fX7_has r26.1 y102_1) (fun r27 => if r27 = 0 then (fX7_rain_j216  y102_1 y102_2 y102_3 y102_4 y102_5 y102_7 x102_8 (0 : Int32) x102_6 r26.2) else (fX7_rain_j216  y102_1 y102_2 y102_3 y102_4 y102_5 y102_7 x102_8 r19.1 x102_6 r26.2))))))) else (fX7_rain_j219  y102_1 y102_2 y102_3 y102_4 y102_5 x102_6 y102_7 x102_8 memb))
def fX7_rain_l102  (y102_1 : Int32) (y102_2 : Int32) (y102_3 : Int32) (y102_4 : Int32) (y102_5 : Int32) (y102_7 : Int32) (s : Int32 × Int32 × ZM) : Option (Int32 × Int32 × ZM) := ziter (fun s => fX7_rain_b102 y102_1 y102_2 y102_3 y102_4 y102_5 y102_7 s.1 s.2.1 s.2.2) 2000 s
set_option maxRecDepth 100000 in
set_option maxHeartbeats 4000000 in
theorem bX7_rain_102 {l : Launch} {E : ZE} {Γ : ZG} (C : zC E Γ RX7 cX7_rain 11 8)  {y102_1 : Int32} {y102_2 : Int32} {y102_3 : Int32} {y102_4 : Int32} {y102_5 : Int32} {y102_7 : Int32} {x102_6 : Int32} {x102_8 : Int32} {memb : ZM} {u : (Int32 × Int32 × ZM) ⊕ (Int32 × Int32 × ZM)} (G1 : ∀ s', u = Sum.inl s' → zG l E Γ 11 102 [(0, .ref (E.2.1 58)), (1, .int y102_1), (2, .int y102_2), (3, .int y102_3), (4, .int y102_4), (5, .int y102_5), (6, .int (s'.1)), (7, .int y102_7), (8, .int (s'.2.1))] [] s'.2.2) (G2 : ∀ s', u = Sum.inr s' → zG l E Γ 11 225 [(4, .int y102_4), (6, .int (s'.1)), (7, .int y102_7)] [] s'.2.2) (h : fX7_rain_b102 y102_1 y102_2 y102_3 y102_4 y102_5 y102_7 x102_6 x102_8 memb = some u) : zG l E Γ 11 102 [(0, .ref (E.2.1 58)), (1, .int y102_1), (2, .int y102_2), (3, .int y102_3), (4, .int y102_4), (5, .int y102_5), (6, .int x102_6), (7, .int y102_7), (8, .int x102_8)] [] memb := by
  unfold fX7_rain_b102 at h
  refine z_iload C dX7_rain_102 (j := 8) rfl ?_
  refine z_iload C dX7_rain_104 (j := 5) rfl ?_
  refine z_icmp_gt 225 C dX7_rain_106 (by decide) h (fun h => ?_) (fun h => ?_)
  · refine z_pick [4, 6, 7] rfl ?_
    exact G2 _ (Option.some.inj h).symm
  · refine z_iload C dX7_rain_109 (j := 8) rfl ?_
    refine z_iload C dX7_rain_111 (j := 5) rfl ?_
    refine z_iconst (v := -1) C dX7_rain_113 zcm1 ?_
    refine z_ixor C dX7_rain_114 ?_
    refine z_iand C dX7_rain_115 ?_
    refine z_if_ne 219 C dX7_rain_116 (by decide) h (fun h => ?_) (fun h => ?_)
    · refine z_pick [0, 1, 2, 3, 4, 5, 6, 7, 8] rfl ?_
      exact jX7_rain_219 C   G1 G2 h
    · refine z_iconst (v := 1) C dX7_rain_119 zc1 ?_
      refine z_istore [(0, .ref (E.2.1 58)), (1, .int y102_1), (2, .int y102_2), (3, .int y102_3), (4, .int y102_4), (5, .int y102_5), (6, .int x102_6), (7, .int y102_7), (8, .int x102_8)] C dX7_rain_120 h (by decide) rfl (fun v17 h => ?_)
      refine z_iconst (v := 0) C dX7_rain_122 zc0 ?_
      refine z_istore [(9, .int v17), (0, .ref (E.2.1 58)), (1, .int y102_1), (2, .int y102_2), (3, .int y102_3), (4, .int y102_4), (5, .int y102_5), (6, .int x102_6), (7, .int y102_7), (8, .int x102_8)] C dX7_rain_123 h (by decide) rfl (fun v18 h => ?_)
      obtain ⟨r19, h19, h⟩ := Option.bind_eq_some_iff.mp h
      refine z_pick [2, 3, 4, 5, 6, 7, 8, 9, 10, 1, 0] rfl ?_
      refine lX7_rain_125 C  h19 ?_
      refine z_iload C dX7_rain_196 (j := 6) rfl ?_
      refine z_aload_n C dX7_rain_198 rfl (j := 0) rfl ?_
      refine z_iload_n C dX7_rain_199 rfl (j := 2) rfl ?_
      obtain ⟨r26, h26, h⟩ := Option.bind_eq_some_iff.mp h
      refine z_callVi [.int y102_2] [.int x102_6] C dX7_rain_200 (by decide) zen_58 rfl zk_X7_221 zw803 zw804 ⟨⟨by decide, by decide⟩, rfl, Nat.le_of_ble_eq_true rfl⟩ rfl (sX7_ashesBehind  h26) ?_
      refine z_iload_n C dX7_rain_203 rfl (j := 1) rfl ?_
      obtain ⟨r27, h27, h⟩ := Option.bind_eq_some_iff.mp h
      refine z_callSi [.int r26.1, .int y102_1] [.int x102_6] C dX7_rain_204 zk_X7_145 zw528 ⟨⟨by decide, by decide⟩, rfl, Nat.le_of_ble_eq_true rfl⟩ rfl (sX7_has  h27) ?_
      refine z_if_eq 215 C dX7_rain_207 (by decide) h (fun h => ?_) (fun h => ?_)
      · refine z_iconst (v := 0) C dX7_rain_215 zc0 ?_
        refine z_pick [0, 1, 2, 3, 4, 5, 7, 8] rfl ?_
        exact jX7_rain_216 C   G1 G2 h
      · refine z_iload C dX7_rain_210 (j := 9) rfl ?_
        refine z_goto 216 C dX7_rain_212 (by decide) ?_
        refine z_pick [0, 1, 2, 3, 4, 5, 7, 8] rfl ?_
        exact jX7_rain_216 C   G1 G2 h
theorem lX7_rain_102 {l : Launch} {E : ZE} {Γ : ZG} (C : zC E Γ RX7 cX7_rain 11 8)  {y102_1 : Int32} {y102_2 : Int32} {y102_3 : Int32} {y102_4 : Int32} {y102_5 : Int32} {y102_7 : Int32} {s : Int32 × Int32 × ZM} {r : Int32 × Int32 × ZM} (h : fX7_rain_l102 y102_1 y102_2 y102_3 y102_4 y102_5 y102_7 s = some r) (K1 : zG l E Γ 11 225 [(4, .int y102_4), (6, .int r.1), (7, .int y102_7)] [] r.2.2) : zG l E Γ 11 102 [(0, .ref (E.2.1 58)), (1, .int y102_1), (2, .int y102_2), (3, .int y102_3), (4, .int y102_4), (5, .int y102_5), (6, .int s.1), (7, .int y102_7), (8, .int s.2.1)] [] s.2.2 :=
  z_loop (body := fun s => fX7_rain_b102 y102_1 y102_2 y102_3 y102_4 y102_5 y102_7 s.1 s.2.1 s.2.2) (fun s => zG l E Γ 11 102 [(0, .ref (E.2.1 58)), (1, .int y102_1), (2, .int y102_2), (3, .int y102_3), (4, .int y102_4), (5, .int y102_5), (6, .int s.1), (7, .int y102_7), (8, .int s.2.1)] [] s.2.2) (fun r => zG l E Γ 11 225 [(4, .int y102_4), (6, .int r.1), (7, .int y102_7)] [] r.2.2) (fun s u hb g1 g2 => bX7_rain_102 C  g1 g2 hb) 2000 s r h K1
def fX7_rain_b233  (y233_4 : Int32) (y233_6 : Int32) (y233_7 : Int32) (mem233 : ZM) (x233_8 : Int32) (x233_9 : Int32) : Option ((Int32 × Int32) ⊕ (Int32 × Int32)) :=
  if x233_9 = 0 then (some (Sum.inr (x233_8, x233_9))) else (zgd (decide (¬ x233_9 = 0)) (zlet (x233_8 - x233_8 / x233_9 * x233_9) (fun v32 => zlet x233_9 (fun v33 => zlet v32 (fun v34 => some (Sum.inl (v33, v34)))))))
def fX7_rain_l233  (y233_4 : Int32) (y233_6 : Int32) (y233_7 : Int32) (mem233 : ZM) (s : Int32 × Int32) : Option (Int32 × Int32) := ziter (fun s => fX7_rain_b233 y233_4 y233_6 y233_7 mem233 s.1 s.2) 2000 s
set_option maxRecDepth 100000 in
set_option maxHeartbeats 4000000 in
theorem bX7_rain_233 {l : Launch} {E : ZE} {Γ : ZG} (C : zC E Γ RX7 cX7_rain 11 8)  {y233_4 : Int32} {y233_6 : Int32} {y233_7 : Int32} {mem233 : ZM} {x233_8 : Int32} {x233_9 : Int32} {u : (Int32 × Int32) ⊕ (Int32 × Int32)} (G1 : ∀ s', u = Sum.inl s' → zG l E Γ 11 233 [(4, .int y233_4), (6, .int y233_6), (7, .int y233_7), (8, .int (s'.1)), (9, .int (s'.2))] [] mem233) (G2 : ∀ s', u = Sum.inr s' → zG l E Γ 11 256 [(4, .int y233_4), (6, .int y233_6), (7, .int y233_7), (8, .int (s'.1))] [] mem233) (h : fX7_rain_b233 y233_4 y233_6 y233_7 mem233 x233_8 x233_9 = some u) : zG l E Γ 11 233 [(4, .int y233_4), (6, .int y233_6), (7, .int y233_7), (8, .int x233_8), (9, .int x233_9)] [] mem233 := by
  unfold fX7_rain_b233 at h
  refine z_iload C dX7_rain_233 (j := 4) rfl ?_
  refine z_if_eq 256 C dX7_rain_235 (by decide) h (fun h => ?_) (fun h => ?_)
  · refine z_pick [0, 1, 2, 3] rfl ?_
    exact G2 _ (Option.some.inj h).symm
  · refine z_iload C dX7_rain_238 (j := 3) rfl ?_
    refine z_iload C dX7_rain_240 (j := 4) rfl ?_
    refine z_irem C dX7_rain_242 h (fun h => ?_)
    refine z_istore [(4, .int y233_4), (6, .int y233_6), (7, .int y233_7), (8, .int x233_8), (9, .int x233_9)] C dX7_rain_243 h (by decide) rfl (fun v32 h => ?_)
    refine z_iload C dX7_rain_245 (j := 5) rfl ?_
    refine z_istore [(10, .int v32), (4, .int y233_4), (6, .int y233_6), (7, .int y233_7), (9, .int x233_9)] C dX7_rain_247 h (by decide) rfl (fun v33 h => ?_)
    refine z_iload C dX7_rain_249 (j := 1) rfl ?_
    refine z_istore [(8, .int v33), (10, .int v32), (4, .int y233_4), (6, .int y233_6), (7, .int y233_7)] C dX7_rain_251 h (by decide) rfl (fun v34 h => ?_)
    refine z_goto 233 C dX7_rain_253 (by decide) ?_
    refine z_pick [3, 4, 5, 1, 0] rfl ?_
    exact G1 _ (Option.some.inj h).symm
theorem lX7_rain_233 {l : Launch} {E : ZE} {Γ : ZG} (C : zC E Γ RX7 cX7_rain 11 8)  {y233_4 : Int32} {y233_6 : Int32} {y233_7 : Int32} {mem233 : ZM} {s : Int32 × Int32} {r : Int32 × Int32} (h : fX7_rain_l233 y233_4 y233_6 y233_7 mem233 s = some r) (K1 : zG l E Γ 11 256 [(4, .int y233_4), (6, .int y233_6), (7, .int y233_7), (8, .int r.1)] [] mem233) : zG l E Γ 11 233 [(4, .int y233_4), (6, .int y233_6), (7, .int y233_7), (8, .int s.1), (9, .int s.2)] [] mem233 :=
  z_loop (body := fun s => fX7_rain_b233 y233_4 y233_6 y233_7 mem233 s.1 s.2) (fun s => zG l E Γ 11 233 [(4, .int y233_4), (6, .int y233_6), (7, .int y233_7), (8, .int s.1), (9, .int s.2)] [] mem233) (fun r => zG l E Γ 11 256 [(4, .int y233_4), (6, .int y233_6), (7, .int y233_7), (8, .int r.1)] [] mem233) (fun s u hb g1 g2 => bX7_rain_233 C  g1 g2 hb) 2000 s r h K1
def fX7_rain  (a1 : Int32) (a2 : Int32) (a3 : Int32) (a4 : Int32) (mem : ZM) : Option (Int32 × ZM) :=
  Option.bind (fX7_isThing a1 mem) (fun r1 => if r1 = 0 then (some ((-1000001 : Int32), mem)) else (Option.bind (fX7_in a2.toInt64 (0 : Int64) (60 : Int64)) (fun r2 => if r2 = 0 then (some ((-1000001 : Int32), mem)) else (Option.bind (fX7_in a3.toInt64 (0 : Int64) (10 : Int64)) (fun r3 => if r3 = 0 then (some ((-1000001 : Int32), mem)) else (Option.bind (fX7_isWhat a4) (fun r4 => if r4 = 0 then (some ((-1000001 : Int32), mem)) else (Option.bind (fX7_putAside mem) (fun r5 => zgd (zin (0 : Int32) 38) (zgd (zin (5 : Int32) 38) (zlet ((((1 : Int32) <<< ((r5 62 (0 : Int32).toNatClampNeg) &&& 31)) - (1 : Int32)) &&& ((r5 62 (5 : Int32).toNatClampNeg) ^^^ (-1 : Int32))) (fun v6 => zlet (0 : Int32) (fun v7 => zlet (1 : Int32) (fun v8 => Option.bind (fX7_ones v6) (fun r9 => zlet r9 (fun v10 => Option.bind (fX7_rain_l81 a1 a2 a3 a4 v6 v7 r5 (v8, v10)) (fun r11 => zlet (0 : Int32) (fun v14 => Option.bind (fX7_rain_l102 a1 a2 a3 a4 v6 r11.1 (v7, v14, r5)) (fun r15 => zlet r15.1 (fun v29 => zlet r11.1 (fun v30 => Option.bind (fX7_rain_l233 a4 r15.1 r11.1 r15.2.2 (v29, v30)) (fun r31 => if a4 = 0 then (zgd (decide (¬ r31.1 = 0)) (some ((r15.1 / r31.1), r15.2.2))) else (zgd (decide (¬ r31.1 = 0)) (some ((r11.1 / r31.1), r15.2.2)))))))))))))))))))))))))
set_option maxRecDepth 100000 in
set_option maxHeartbeats 4000000 in
theorem sX7_rain {l : Launch} {E : ZE}  {a1 : Int32} {a2 : Int32} {a3 : Int32} {a4 : Int32} {mem : ZM} {t : Int32 × ZM} (h : fX7_rain a1 a2 a3 a4 mem = some t) : zMet l E yX7_rain cX7_rain 11 (some .int) 8 [.ref (E.2.1 58), .int a1, .int a2, .int a3, .int a4] mem (some (.int t.1)) t.2 := by
  refine z_enter (by decide) (Nat.le_of_ble_eq_true rfl) (fun Γ C Rq => ?_)
  have C : zC E Γ RX7 cX7_rain 11 8 := C
  show zG l E Γ 11 0 [(0, .ref (E.2.1 58)), (1, .int a1), (2, .int a2), (3, .int a3), (4, .int a4)] [] mem
  unfold fX7_rain at h
  refine z_aload_n C dX7_rain_0 rfl (j := 0) rfl ?_
  refine z_iload_n C dX7_rain_1 rfl (j := 1) rfl ?_
  obtain ⟨r1, h1, h⟩ := Option.bind_eq_some_iff.mp h
  refine z_callVi [.int a1] [] C dX7_rain_2 (by decide) zen_58 rfl zk_X7_180 zw558 zw559 ⟨⟨by decide, by decide⟩, rfl, Nat.le_of_ble_eq_true rfl⟩ rfl (sX7_isThing  h1) ?_
  refine z_if_eq 40 C dX7_rain_5 (by decide) h (fun h => ?_) (fun h => ?_)
  · refine z_ldc C dX7_rain_40 zw141 ?_
    have e := Option.some.inj h; subst e; exact z_iret C dX7_rain_42 Rq
  · refine z_iload_n C dX7_rain_8 rfl (j := 2) rfl ?_
    refine z_i2l C dX7_rain_9 ?_
    refine z_lconst (v := 0) C dX7_rain_10 zl0 ?_
    refine z_ldc2 C dX7_rain_11 zw689 ?_
    obtain ⟨r2, h2, h⟩ := Option.bind_eq_some_iff.mp h
    refine z_callSi [.long a2.toInt64, .long (0 : Int64), .long (60 : Int64)] [] C dX7_rain_14 zk_X7_57 zw147 ⟨⟨by decide, by decide⟩, rfl, Nat.le_of_ble_eq_true rfl⟩ rfl (sX7_in  h2) ?_
    refine z_if_eq 40 C dX7_rain_17 (by decide) h (fun h => ?_) (fun h => ?_)
    · refine z_ldc C dX7_rain_40 zw141 ?_
      have e := Option.some.inj h; subst e; exact z_iret C dX7_rain_42 Rq
    · refine z_iload_n C dX7_rain_20 rfl (j := 3) rfl ?_
      refine z_i2l C dX7_rain_21 ?_
      refine z_lconst (v := 0) C dX7_rain_22 zl0 ?_
      refine z_ldc2 C dX7_rain_23 zw901 ?_
      obtain ⟨r3, h3, h⟩ := Option.bind_eq_some_iff.mp h
      refine z_callSi [.long a3.toInt64, .long (0 : Int64), .long (10 : Int64)] [] C dX7_rain_26 zk_X7_57 zw147 ⟨⟨by decide, by decide⟩, rfl, Nat.le_of_ble_eq_true rfl⟩ rfl (sX7_in  h3) ?_
      refine z_if_eq 40 C dX7_rain_29 (by decide) h (fun h => ?_) (fun h => ?_)
      · refine z_ldc C dX7_rain_40 zw141 ?_
        have e := Option.some.inj h; subst e; exact z_iret C dX7_rain_42 Rq
      · refine z_iload C dX7_rain_32 (j := 4) rfl ?_
        obtain ⟨r4, h4, h⟩ := Option.bind_eq_some_iff.mp h
        refine z_callSi [.int a4] [] C dX7_rain_34 zk_X7_197 zw691 ⟨⟨by decide, by decide⟩, rfl, Nat.le_of_ble_eq_true rfl⟩ rfl (sX7_isWhat  h4) ?_
        refine z_if_ne 43 C dX7_rain_37 (by decide) h (fun h => ?_) (fun h => ?_)
        · refine z_aload_n C dX7_rain_43 rfl (j := 0) rfl ?_
          obtain ⟨r5, h5, h⟩ := Option.bind_eq_some_iff.mp h
          refine z_callVv [] [] C dX7_rain_44 (by decide) zen_58 rfl zk_X7_200 zw694 zw695 ⟨⟨by decide, by decide⟩, rfl, Nat.le_of_ble_eq_true rfl⟩ rfl (sX7_putAside  h5) ?_
          refine z_iconst (v := 1) C dX7_rain_47 zc1 ?_
          refine z_aload_n C dX7_rain_48 rfl (j := 0) rfl ?_
          refine zg7_5 C dX7_rain_49 zw101 ?_
          refine z_iconst (v := 0) C dX7_rain_52 zc0 ?_
          refine z_iald C dX7_rain_53 zar62 h (fun h => ?_)
          refine z_ishl C dX7_rain_54 ?_
          refine z_iconst (v := 1) C dX7_rain_55 zc1 ?_
          refine z_isub C dX7_rain_56 ?_
          refine z_aload_n C dX7_rain_57 rfl (j := 0) rfl ?_
          refine zg7_5 C dX7_rain_58 zw101 ?_
          refine z_iconst (v := 5) C dX7_rain_61 zc5 ?_
          refine z_iald C dX7_rain_62 zar62 h (fun h => ?_)
          refine z_iconst (v := -1) C dX7_rain_63 zcm1 ?_
          refine z_ixor C dX7_rain_64 ?_
          refine z_iand C dX7_rain_65 ?_
          refine z_istore [(0, .ref (E.2.1 58)), (1, .int a1), (2, .int a2), (3, .int a3), (4, .int a4)] C dX7_rain_66 h (by decide) rfl (fun v6 h => ?_)
          refine z_iconst (v := 0) C dX7_rain_68 zc0 ?_
          refine z_istore [(5, .int v6), (0, .ref (E.2.1 58)), (1, .int a1), (2, .int a2), (3, .int a3), (4, .int a4)] C dX7_rain_69 h (by decide) rfl (fun v7 h => ?_)
          refine z_iconst (v := 1) C dX7_rain_71 zc1 ?_
          refine z_istore [(6, .int v7), (5, .int v6), (0, .ref (E.2.1 58)), (1, .int a1), (2, .int a2), (3, .int a3), (4, .int a4)] C dX7_rain_72 h (by decide) rfl (fun v8 h => ?_)
          refine z_iload C dX7_rain_74 (j := 2) rfl ?_
          obtain ⟨r9, h9, h⟩ := Option.bind_eq_some_iff.mp h
          refine z_callSi [.int v6] [] C dX7_rain_76 zk_X7_218 zw800 ⟨⟨by decide, by decide⟩, rfl, Nat.le_of_ble_eq_true rfl⟩ rfl (sX7_ones  h9) ?_
          refine z_istore [(7, .int v8), (6, .int v7), (5, .int v6), (0, .ref (E.2.1 58)), (1, .int a1), (2, .int a2), (3, .int a3), (4, .int a4)] C dX7_rain_79 h (by decide) rfl (fun v10 h => ?_)
          obtain ⟨r11, h11, h⟩ := Option.bind_eq_some_iff.mp h
          refine z_pick [4, 5, 6, 7, 8, 3, 2, 1, 0] rfl ?_
          refine lX7_rain_81 C  h11 ?_
          refine z_iconst (v := 0) C dX7_rain_99 zc0 ?_
          refine z_istore [(0, .ref (E.2.1 58)), (1, .int a1), (2, .int a2), (3, .int a3), (4, .int a4), (5, .int v6), (6, .int v7), (7, .int r11.1)] C dX7_rain_100 h (by decide) rfl (fun v14 h => ?_)
          obtain ⟨r15, h15, h⟩ := Option.bind_eq_some_iff.mp h
          refine z_pick [1, 2, 3, 4, 5, 6, 7, 8, 0] rfl ?_
          refine lX7_rain_102 C  h15 ?_
          refine z_iload C dX7_rain_225 (j := 1) rfl ?_
          refine z_istore [(4, .int a4), (6, .int r15.1), (7, .int r11.1)] C dX7_rain_227 h (by decide) rfl (fun v29 h => ?_)
          refine z_iload C dX7_rain_229 (j := 3) rfl ?_
          refine z_istore [(8, .int v29), (4, .int a4), (6, .int r15.1), (7, .int r11.1)] C dX7_rain_231 h (by decide) rfl (fun v30 h => ?_)
          obtain ⟨r31, h31, h⟩ := Option.bind_eq_some_iff.mp h
          refine z_pick [2, 3, 4, 1, 0] rfl ?_
          refine lX7_rain_233 C  h31 ?_
          refine z_iload C dX7_rain_256 (j := 0) rfl ?_
          refine z_if_ne 269 C dX7_rain_258 (by decide) h (fun h => ?_) (fun h => ?_)
          · refine z_iload C dX7_rain_269 (j := 2) rfl ?_
            refine z_iload C dX7_rain_271 (j := 3) rfl ?_
            refine z_idiv C dX7_rain_273 h (fun h => ?_)
            have e := Option.some.inj h; subst e; exact z_iret C dX7_rain_274 Rq
          · refine z_iload C dX7_rain_261 (j := 1) rfl ?_
            refine z_iload C dX7_rain_263 (j := 3) rfl ?_
            refine z_idiv C dX7_rain_265 h (fun h => ?_)
            refine z_goto 274 C dX7_rain_266 (by decide) ?_
            have e := Option.some.inj h; subst e; exact z_iret C dX7_rain_274 Rq
        · refine z_ldc C dX7_rain_40 zw141 ?_
          have e := Option.some.inj h; subst e; exact z_iret C dX7_rain_42 Rq
