-- X2_power
def fX2_power_b4  (y4_0 : Int32) (y4_1 : Int32) (x4_2 : Int32) (x4_3 : Int32) : Option ((Int32 × Int32) ⊕ (Int32 × Int32)) :=
  if y4_1 ≤ x4_3 then (some (Sum.inr (x4_2, x4_3))) else (zlet (x4_2 * y4_0) (fun v4 => zlet (x4_3 + (1 : Int32)) (fun v5 => some (Sum.inl (v4, v5)))))
def fX2_power_l4  (y4_0 : Int32) (y4_1 : Int32) (s : Int32 × Int32) : Option (Int32 × Int32) := ziter (fun s => fX2_power_b4 y4_0 y4_1 s.1 s.2) 2000 s
set_option maxRecDepth 100000 in
set_option maxHeartbeats 4000000 in
theorem bX2_power_4 {l : Launch} {E : ZE} {Γ : ZG} (C : zC E Γ RX2 cX2_power 4 0)  {y4_0 : Int32} {y4_1 : Int32} {mem4 : ZM} {x4_2 : Int32} {x4_3 : Int32} {u : (Int32 × Int32) ⊕ (Int32 × Int32)} (G1 : ∀ s', u = Sum.inl s' → zG l E Γ 4 4 [(0, .int y4_0), (1, .int y4_1), (2, .int (s'.1)), (3, .int (s'.2))] [] mem4) (G2 : ∀ s', u = Sum.inr s' → zG l E Γ 4 19 [(2, .int (s'.1))] [] mem4) (h : fX2_power_b4 y4_0 y4_1 x4_2 x4_3 = some u) : zG l E Γ 4 4 [(0, .int y4_0), (1, .int y4_1), (2, .int x4_2), (3, .int x4_3)] [] mem4 := by
  unfold fX2_power_b4 at h
  refine z_iload_n C dX2_power_4 rfl (j := 3) rfl ?_
  refine z_iload_n C dX2_power_5 rfl (j := 1) rfl ?_
  refine z_icmp_ge 19 C dX2_power_6 (by decide) h (fun h => ?_) (fun h => ?_)
  · refine z_pick [2] rfl ?_
    exact G2 _ (Option.some.inj h).symm
  · refine z_iload_n C dX2_power_9 rfl (j := 2) rfl ?_
    refine z_iload_n C dX2_power_10 rfl (j := 0) rfl ?_
    refine z_imul C dX2_power_11 ?_
    refine z_istore_n [(0, .int y4_0), (1, .int y4_1), (3, .int x4_3)] C dX2_power_12 h rfl (by decide) rfl (fun v4 h => ?_)
    refine z_iinc [(2, .int v4), (0, .int y4_0), (1, .int y4_1)] C dX2_power_13 zc1 h (j := 3) rfl (by decide) rfl (fun v5 h => ?_)
    refine z_goto 4 C dX2_power_16 (by decide) ?_
    refine z_pick [2, 3, 1, 0] rfl ?_
    exact G1 _ (Option.some.inj h).symm
theorem lX2_power_4 {l : Launch} {E : ZE} {Γ : ZG} (C : zC E Γ RX2 cX2_power 4 0)  {y4_0 : Int32} {y4_1 : Int32} {mem4 : ZM} {s : Int32 × Int32} {r : Int32 × Int32} (h : fX2_power_l4 y4_0 y4_1 s = some r) (K1 : zG l E Γ 4 19 [(2, .int r.1)] [] mem4) : zG l E Γ 4 4 [(0, .int y4_0), (1, .int y4_1), (2, .int s.1), (3, .int s.2)] [] mem4 :=
  z_loop (body := fun s => fX2_power_b4 y4_0 y4_1 s.1 s.2) (fun s => zG l E Γ 4 4 [(0, .int y4_0), (1, .int y4_1), (2, .int s.1), (3, .int s.2)] [] mem4) (fun r => zG l E Γ 4 19 [(2, .int r.1)] [] mem4) (fun s u hb g1 g2 => bX2_power_4 C  g1 g2 hb) 2000 s r h K1
def fX2_power  (a0 : Int32) (a1 : Int32) : Option (Int32) :=
  zlet (1 : Int32) (fun v1 => zlet (0 : Int32) (fun v2 => Option.bind (fX2_power_l4 a0 a1 (v1, v2)) (fun r3 => some r3.1)))
set_option maxRecDepth 100000 in
set_option maxHeartbeats 4000000 in
theorem sX2_power {l : Launch} {E : ZE}  {a0 : Int32} {a1 : Int32} {mem : ZM} {t : Int32} (h : fX2_power a0 a1 = some t) : zMet l E yX2_power cX2_power 4 (some .int) 0 [.int a0, .int a1] mem (some (.int t)) mem := by
  refine z_enter (by decide) (Nat.le_of_ble_eq_true rfl) (fun Γ C Rq => ?_)
  have C : zC E Γ RX2 cX2_power 4 0 := C
  show zG l E Γ 4 0 [(0, .int a0), (1, .int a1)] [] mem
  unfold fX2_power at h
  refine z_iconst (v := 1) C dX2_power_0 zc1 ?_
  refine z_istore_n [(0, .int a0), (1, .int a1)] C dX2_power_1 h rfl (by decide) rfl (fun v1 h => ?_)
  refine z_iconst (v := 0) C dX2_power_2 zc0 ?_
  refine z_istore_n [(2, .int v1), (0, .int a0), (1, .int a1)] C dX2_power_3 h rfl (by decide) rfl (fun v2 h => ?_)
  obtain ⟨r3, h3, h⟩ := Option.bind_eq_some_iff.mp h
  refine z_pick [2, 3, 1, 0] rfl ?_
  refine lX2_power_4 C  h3 ?_
  refine z_iload_n C dX2_power_19 rfl (j := 0) rfl ?_
  have e := Option.some.inj h; subst e; exact z_iret C dX2_power_20 Rq
-- X2_isAshWhenWetted
def fX2_isAshWhenWetted_j43 (q1 : Nat) (y11_2 : Int32) (y11_3 : Int32) (y11_4 : Int32) (x5 : Int32) (mem : ZM) : Option ((Int32 × ZM) ⊕ (Int32 × ZM)) :=
  zlet (x5 + (1 : Int32)) (fun v4 => some (Sum.inl (v4, mem)))
set_option maxRecDepth 100000 in
set_option maxHeartbeats 4000000 in
theorem jX2_isAshWhenWetted_43 {l : Launch} {E : ZE} {Γ : ZG} (C : zC E Γ RX2 cX2_isAshWhenWetted 6 4) {q1 : Nat} (hq1 : zH q1) {y11_2 : Int32} {y11_3 : Int32} {y11_4 : Int32} {x5 : Int32}  {mem : ZM}  {u : (Int32 × ZM) ⊕ (Int32 × ZM)}  (G1 : ∀ s', u = Sum.inl s' → zG l E Γ 6 11 [(0, .ref (E.2.1 14)), (2, .int y11_2), (3, .int y11_3), (4, .int y11_4), (5, .int (s'.1))] [] s'.2) (G2 : ∀ s', u = Sum.inr s' → zG l E Γ 6 49 [(0, .ref (E.2.1 14)), (3, .int y11_3), (4, .int y11_4)] [] s'.2) (h : fX2_isAshWhenWetted_j43 q1 y11_2 y11_3 y11_4 x5 mem = some u) : zG l E Γ 6 43 [(0, .ref (E.2.1 14)), (2, .int y11_2), (3, .int y11_3), (4, .int y11_4), (5, .int x5)] [] mem := by
  unfold fX2_isAshWhenWetted_j43 at h
  refine z_iinc [(0, .ref (E.2.1 14)), (2, .int y11_2), (3, .int y11_3), (4, .int y11_4)] C dX2_isAshWhenWetted_43 zc1 h (j := 4) rfl (by decide) rfl (fun v4 h => ?_)
  refine z_goto 11 C dX2_isAshWhenWetted_46 (by decide) ?_
  refine z_pick [1, 2, 3, 4, 0] rfl ?_
  exact G1 _ (Option.some.inj h).symm
def fX2_isAshWhenWetted_b11 (q1 : Nat) (y11_2 : Int32) (y11_3 : Int32) (y11_4 : Int32) (x11_5 : Int32) (memb : ZM) : Option ((Int32 × ZM) ⊕ (Int32 × ZM)) :=
  if (memb 37 0) ≤ x11_5 then (some (Sum.inr (x11_5, memb))) else (if ((y11_2 >>> (x11_5 &&& 31)) &&& (1 : Int32)) = (1 : Int32) then (Option.bind (fX3_pourOn 37 x11_5 (3 : Int32) memb) (fun r5 => fX2_isAshWhenWetted_j43 q1 y11_2 y11_3 y11_4 x11_5 r5)) else (fX2_isAshWhenWetted_j43 q1 y11_2 y11_3 y11_4 x11_5 memb))
def fX2_isAshWhenWetted_l11 (q1 : Nat) (y11_2 : Int32) (y11_3 : Int32) (y11_4 : Int32) (s : Int32 × ZM) : Option (Int32 × ZM) := ziter (fun s => fX2_isAshWhenWetted_b11 q1 y11_2 y11_3 y11_4 s.1 s.2) 2000 s
set_option maxRecDepth 100000 in
set_option maxHeartbeats 4000000 in
theorem bX2_isAshWhenWetted_11 {l : Launch} {E : ZE} {Γ : ZG} (C : zC E Γ RX2 cX2_isAshWhenWetted 6 4) {q1 : Nat} (hq1 : zH q1) {y11_2 : Int32} {y11_3 : Int32} {y11_4 : Int32} {x11_5 : Int32} {memb : ZM} {u : (Int32 × ZM) ⊕ (Int32 × ZM)} (G1 : ∀ s', u = Sum.inl s' → zG l E Γ 6 11 [(0, .ref (E.2.1 14)), (2, .int y11_2), (3, .int y11_3), (4, .int y11_4), (5, .int (s'.1))] [] s'.2) (G2 : ∀ s', u = Sum.inr s' → zG l E Γ 6 49 [(0, .ref (E.2.1 14)), (3, .int y11_3), (4, .int y11_4)] [] s'.2) (h : fX2_isAshWhenWetted_b11 q1 y11_2 y11_3 y11_4 x11_5 memb = some u) : zG l E Γ 6 11 [(0, .ref (E.2.1 14)), (2, .int y11_2), (3, .int y11_3), (4, .int y11_4), (5, .int x11_5)] [] memb := by
  unfold fX2_isAshWhenWetted_b11 at h
  refine z_iload C dX2_isAshWhenWetted_11 (j := 4) rfl ?_
  refine z_aload_n C dX2_isAshWhenWetted_13 rfl (j := 0) rfl ?_
  refine zg2_0 C dX2_isAshWhenWetted_14 zw78 ?_
  refine zg3_0 C dX2_isAshWhenWetted_17 zH37 zw832 ?_
  refine z_icmp_ge 49 C dX2_isAshWhenWetted_20 (by decide) h (fun h => ?_) (fun h => ?_)
  · refine z_pick [0, 2, 3] rfl ?_
    exact G2 _ (Option.some.inj h).symm
  · refine z_iload_n C dX2_isAshWhenWetted_23 rfl (j := 1) rfl ?_
    refine z_iload C dX2_isAshWhenWetted_24 (j := 4) rfl ?_
    refine z_ishr C dX2_isAshWhenWetted_26 ?_
    refine z_iconst (v := 1) C dX2_isAshWhenWetted_27 zc1 ?_
    refine z_iand C dX2_isAshWhenWetted_28 ?_
    refine z_iconst (v := 1) C dX2_isAshWhenWetted_29 zc1 ?_
    refine z_icmp_ne 43 C dX2_isAshWhenWetted_30 (by decide) h (fun h => ?_) (fun h => ?_)
    · refine z_pick [0, 1, 2, 3, 4] rfl ?_
      exact jX2_isAshWhenWetted_43 C hq1  G1 G2 h
    · refine z_aload_n C dX2_isAshWhenWetted_33 rfl (j := 0) rfl ?_
      refine zg2_0 C dX2_isAshWhenWetted_34 zw78 ?_
      refine z_iload C dX2_isAshWhenWetted_37 (j := 4) rfl ?_
      refine z_iconst (v := 3) C dX2_isAshWhenWetted_39 zc3 ?_
      obtain ⟨r5, h5, h⟩ := Option.bind_eq_some_iff.mp h
      refine z_callVv [.int x11_5, .int (3 : Int32)] [] C dX2_isAshWhenWetted_40 (zH_lt zH37) (zH_ent zH37) rfl zk_X2_68 zw572 zw573 ⟨⟨by decide, by decide⟩, rfl, Nat.le_of_ble_eq_true rfl⟩ rfl (sX3_pourOn zH37 h5) ?_
      refine z_pick [0, 1, 2, 3, 4] rfl ?_
      exact jX2_isAshWhenWetted_43 C hq1  G1 G2 h
theorem lX2_isAshWhenWetted_11 {l : Launch} {E : ZE} {Γ : ZG} (C : zC E Γ RX2 cX2_isAshWhenWetted 6 4) {q1 : Nat} (hq1 : zH q1) {y11_2 : Int32} {y11_3 : Int32} {y11_4 : Int32} {s : Int32 × ZM} {r : Int32 × ZM} (h : fX2_isAshWhenWetted_l11 q1 y11_2 y11_3 y11_4 s = some r) (K1 : zG l E Γ 6 49 [(0, .ref (E.2.1 14)), (3, .int y11_3), (4, .int y11_4)] [] r.2) : zG l E Γ 6 11 [(0, .ref (E.2.1 14)), (2, .int y11_2), (3, .int y11_3), (4, .int y11_4), (5, .int s.1)] [] s.2 :=
  z_loop (body := fun s => fX2_isAshWhenWetted_b11 q1 y11_2 y11_3 y11_4 s.1 s.2) (fun s => zG l E Γ 6 11 [(0, .ref (E.2.1 14)), (2, .int y11_2), (3, .int y11_3), (4, .int y11_4), (5, .int s.1)] [] s.2) (fun r => zG l E Γ 6 49 [(0, .ref (E.2.1 14)), (3, .int y11_3), (4, .int y11_4)] [] r.2) (fun s u hb g1 g2 => bX2_isAshWhenWetted_11 C hq1 g1 g2 hb) 2000 s r h K1
def fX2_isAshWhenWetted_b52 (q1 : Nat) (y52_3 : Int32) (y52_4 : Int32) (x52_5 : Int32) (memb : ZM) : Option ((Int32 × ZM) ⊕ (Int32 × ZM)) :=
  if y52_4 ≤ x52_5 then (some (Sum.inr (x52_5, memb))) else (if (memb 37 5) = 0 then (some (Sum.inr (x52_5, memb))) else (Option.bind (fX3_isAsh 37 y52_3 memb) (fun r8 => if r8 = 0 then (Option.bind (fX3_passHour 37 memb) (fun r9 => zlet (x52_5 + (1 : Int32)) (fun v10 => some (Sum.inl (v10, r9))))) else (some (Sum.inr (x52_5, memb))))))
def fX2_isAshWhenWetted_l52 (q1 : Nat) (y52_3 : Int32) (y52_4 : Int32) (s : Int32 × ZM) : Option (Int32 × ZM) := ziter (fun s => fX2_isAshWhenWetted_b52 q1 y52_3 y52_4 s.1 s.2) 2000 s
set_option maxRecDepth 100000 in
set_option maxHeartbeats 4000000 in
theorem bX2_isAshWhenWetted_52 {l : Launch} {E : ZE} {Γ : ZG} (C : zC E Γ RX2 cX2_isAshWhenWetted 6 4) {q1 : Nat} (hq1 : zH q1) {y52_3 : Int32} {y52_4 : Int32} {x52_5 : Int32} {memb : ZM} {u : (Int32 × ZM) ⊕ (Int32 × ZM)} (G1 : ∀ s', u = Sum.inl s' → zG l E Γ 6 52 [(0, .ref (E.2.1 14)), (3, .int y52_3), (4, .int y52_4), (5, .int (s'.1))] [] s'.2) (G2 : ∀ s', u = Sum.inr s' → zG l E Γ 6 93 [(0, .ref (E.2.1 14)), (3, .int y52_3)] [] s'.2) (h : fX2_isAshWhenWetted_b52 q1 y52_3 y52_4 x52_5 memb = some u) : zG l E Γ 6 52 [(0, .ref (E.2.1 14)), (3, .int y52_3), (4, .int y52_4), (5, .int x52_5)] [] memb := by
  unfold fX2_isAshWhenWetted_b52 at h
  refine z_iload C dX2_isAshWhenWetted_52 (j := 3) rfl ?_
  refine z_iload C dX2_isAshWhenWetted_54 (j := 2) rfl ?_
  refine z_icmp_ge 93 C dX2_isAshWhenWetted_56 (by decide) h (fun h => ?_) (fun h => ?_)
  · refine z_pick [0, 1] rfl ?_
    exact G2 _ (Option.some.inj h).symm
  · refine z_aload_n C dX2_isAshWhenWetted_59 rfl (j := 0) rfl ?_
    refine zg2_0 C dX2_isAshWhenWetted_60 zw78 ?_
    refine zg3_5 C dX2_isAshWhenWetted_63 zH37 zw683 ?_
    refine z_if_eq 93 C dX2_isAshWhenWetted_66 (by decide) h (fun h => ?_) (fun h => ?_)
    · refine z_pick [0, 1] rfl ?_
      exact G2 _ (Option.some.inj h).symm
    · refine z_aload_n C dX2_isAshWhenWetted_69 rfl (j := 0) rfl ?_
      refine zg2_0 C dX2_isAshWhenWetted_70 zw78 ?_
      refine z_iload_n C dX2_isAshWhenWetted_73 rfl (j := 1) rfl ?_
      obtain ⟨r8, h8, h⟩ := Option.bind_eq_some_iff.mp h
      refine z_callVi [.int y52_3] [] C dX2_isAshWhenWetted_74 (zH_lt zH37) (zH_ent zH37) rfl zk_X2_30 zw480 zw481 ⟨⟨by decide, by decide⟩, rfl, Nat.le_of_ble_eq_true rfl⟩ rfl (sX3_isAsh zH37 h8) ?_
      refine z_if_ne 93 C dX2_isAshWhenWetted_77 (by decide) h (fun h => ?_) (fun h => ?_)
      · refine z_pick [0, 1] rfl ?_
        exact G2 _ (Option.some.inj h).symm
      · refine z_aload_n C dX2_isAshWhenWetted_80 rfl (j := 0) rfl ?_
        refine zg2_0 C dX2_isAshWhenWetted_81 zw78 ?_
        obtain ⟨r9, h9, h⟩ := Option.bind_eq_some_iff.mp h
        refine z_callVv [] [] C dX2_isAshWhenWetted_84 (zH_lt zH37) (zH_ent zH37) rfl zk_X2_34 zw439 zw440 ⟨⟨by decide, by decide⟩, rfl, Nat.le_of_ble_eq_true rfl⟩ rfl (sX3_passHour zH37 h9) ?_
        refine z_iinc [(0, .ref (E.2.1 14)), (3, .int y52_3), (4, .int y52_4)] C dX2_isAshWhenWetted_87 zc1 h (j := 3) rfl (by decide) rfl (fun v10 h => ?_)
        refine z_goto 52 C dX2_isAshWhenWetted_90 (by decide) ?_
        refine z_pick [1, 2, 3, 0] rfl ?_
        exact G1 _ (Option.some.inj h).symm
theorem lX2_isAshWhenWetted_52 {l : Launch} {E : ZE} {Γ : ZG} (C : zC E Γ RX2 cX2_isAshWhenWetted 6 4) {q1 : Nat} (hq1 : zH q1) {y52_3 : Int32} {y52_4 : Int32} {s : Int32 × ZM} {r : Int32 × ZM} (h : fX2_isAshWhenWetted_l52 q1 y52_3 y52_4 s = some r) (K1 : zG l E Γ 6 93 [(0, .ref (E.2.1 14)), (3, .int y52_3)] [] r.2) : zG l E Γ 6 52 [(0, .ref (E.2.1 14)), (3, .int y52_3), (4, .int y52_4), (5, .int s.1)] [] s.2 :=
  z_loop (body := fun s => fX2_isAshWhenWetted_b52 q1 y52_3 y52_4 s.1 s.2) (fun s => zG l E Γ 6 52 [(0, .ref (E.2.1 14)), (3, .int y52_3), (4, .int y52_4), (5, .int s.1)] [] s.2) (fun r => zG l E Γ 6 93 [(0, .ref (E.2.1 14)), (3, .int y52_3)] [] r.2) (fun s u hb g1 g2 => bX2_isAshWhenWetted_52 C hq1 g1 g2 hb) 2000 s r h K1
def fX2_isAshWhenWetted_j93 (q1 : Nat) (x3 : Int32) (mem : ZM) : Option (Int32 × ZM) :=
  Option.bind (fX3_isAsh 37 x3 mem) (fun r11 => zgd (zbl r11) (some (r11, mem)))
set_option maxRecDepth 100000 in
set_option maxHeartbeats 4000000 in
theorem jX2_isAshWhenWetted_93 {l : Launch} {E : ZE} {Γ : ZG} (C : zC E Γ RX2 cX2_isAshWhenWetted 6 4) {q1 : Nat} (hq1 : zH q1) {x3 : Int32}  {mem : ZM}  {t : Int32 × ZM}  (Rq : zRq E Γ (some .boolean) (some (.int t.1)) t.2) (h : fX2_isAshWhenWetted_j93 q1 x3 mem = some t) : zG l E Γ 6 93 [(0, .ref (E.2.1 14)), (3, .int x3)] [] mem := by
  unfold fX2_isAshWhenWetted_j93 at h
  refine z_aload_n C dX2_isAshWhenWetted_93 rfl (j := 0) rfl ?_
  refine zg2_0 C dX2_isAshWhenWetted_94 zw78 ?_
  refine z_iload_n C dX2_isAshWhenWetted_97 rfl (j := 1) rfl ?_
  obtain ⟨r11, h11, h⟩ := Option.bind_eq_some_iff.mp h
  refine z_callVi [.int x3] [] C dX2_isAshWhenWetted_98 (zH_lt zH37) (zH_ent zH37) rfl zk_X2_30 zw480 zw481 ⟨⟨by decide, by decide⟩, rfl, Nat.le_of_ble_eq_true rfl⟩ rfl (sX3_isAsh zH37 h11) ?_
  obtain ⟨hg, h⟩ := zgd_some h
  have e := Option.some.inj h; subst e; exact z_zret C dX2_isAshWhenWetted_101 hg Rq
def fX2_isAshWhenWetted (q1 : Nat) (a2 : Int32) (a3 : Int32) (a4 : Int32) (mem : ZM) : Option (Int32 × ZM) :=
  Option.bind (fX3_takeFrom 37 q1 mem) (fun r1 => zlet (0 : Int32) (fun v2 => Option.bind (fX2_isAshWhenWetted_l11 q1 a2 a3 a4 (v2, r1)) (fun r3 => zlet (0 : Int32) (fun v6 => Option.bind (fX2_isAshWhenWetted_l52 q1 a3 a4 (v6, r3.2)) (fun r7 => fX2_isAshWhenWetted_j93 q1 a3 r7.2)))))
set_option maxRecDepth 100000 in
set_option maxHeartbeats 4000000 in
theorem sX2_isAshWhenWetted {l : Launch} {E : ZE} {q1 : Nat} (hq1 : zH q1) {a2 : Int32} {a3 : Int32} {a4 : Int32} {mem : ZM} {t : Int32 × ZM} (h : fX2_isAshWhenWetted q1 a2 a3 a4 mem = some t) : zMet l E yX2_isAshWhenWetted cX2_isAshWhenWetted 6 (some .boolean) 4 [.ref (E.2.1 14), .ref (E.2.1 q1), .int a2, .int a3, .int a4] mem (some (.int t.1)) t.2 := by
  refine z_enter (by decide) (Nat.le_of_ble_eq_true rfl) (fun Γ C Rq => ?_)
  have C : zC E Γ RX2 cX2_isAshWhenWetted 6 4 := C
  show zG l E Γ 6 0 [(0, .ref (E.2.1 14)), (1, .ref (E.2.1 q1)), (2, .int a2), (3, .int a3), (4, .int a4)] [] mem
  unfold fX2_isAshWhenWetted at h
  refine z_aload_n C dX2_isAshWhenWetted_0 rfl (j := 0) rfl ?_
  refine zg2_0 C dX2_isAshWhenWetted_1 zw78 ?_
  refine z_aload_n C dX2_isAshWhenWetted_4 rfl (j := 1) rfl ?_
  obtain ⟨r1, h1, h⟩ := Option.bind_eq_some_iff.mp h
  refine z_callVv [.ref (E.2.1 q1)] [] C dX2_isAshWhenWetted_5 (zH_lt zH37) (zH_ent zH37) rfl zk_X2_18 zw352 zw353 ⟨⟨by decide, by decide⟩, rfl, Nat.le_of_ble_eq_true rfl⟩ rfl (sX3_takeFrom zH37 hq1 h1) ?_
  refine z_iconst (v := 0) C dX2_isAshWhenWetted_8 zc0 ?_
  refine z_istore [(0, .ref (E.2.1 14)), (1, .ref (E.2.1 q1)), (2, .int a2), (3, .int a3), (4, .int a4)] C dX2_isAshWhenWetted_9 h (by decide) rfl (fun v2 h => ?_)
  obtain ⟨r3, h3, h⟩ := Option.bind_eq_some_iff.mp h
  refine z_pick [1, 3, 4, 5, 0] rfl ?_
  refine lX2_isAshWhenWetted_11 C hq1 h3 ?_
  refine z_iconst (v := 0) C dX2_isAshWhenWetted_49 zc0 ?_
  refine z_istore [(0, .ref (E.2.1 14)), (3, .int a3), (4, .int a4)] C dX2_isAshWhenWetted_50 h (by decide) rfl (fun v6 h => ?_)
  obtain ⟨r7, h7, h⟩ := Option.bind_eq_some_iff.mp h
  refine z_pick [1, 2, 3, 0] rfl ?_
  refine lX2_isAshWhenWetted_52 C hq1 h7 ?_
  refine z_pick [0, 1] rfl ?_
  exact jX2_isAshWhenWetted_93 C hq1  Rq h
-- X2_greatestDivisor
def fX2_greatestDivisor_b7   (x7_2 : Int32) (x7_3 : Int32) (x7_4 : Int32) : Option ((Int32 × Int32 × Int32) ⊕ (Int32 × Int32 × Int32)) :=
  if (64 : Int32) ≤ x7_4 then (some (Sum.inr (x7_2, x7_3, x7_4))) else (if x7_3 = 0 then (some (Sum.inr (x7_2, x7_3, x7_4))) else (zgd (decide (¬ x7_3 = 0)) (zlet (x7_2 - x7_2 / x7_3 * x7_3) (fun v5 => zlet x7_3 (fun v6 => zlet v5 (fun v7 => zlet (x7_4 + (1 : Int32)) (fun v8 => some (Sum.inl (v6, v7, v8)))))))))
def fX2_greatestDivisor_l7   (s : Int32 × Int32 × Int32) : Option (Int32 × Int32 × Int32) := ziter (fun s => fX2_greatestDivisor_b7  s.1 s.2.1 s.2.2) 2000 s
set_option maxRecDepth 100000 in
set_option maxHeartbeats 4000000 in
theorem bX2_greatestDivisor_7 {l : Launch} {E : ZE} {Γ : ZG} (C : zC E Γ RX2 cX2_greatestDivisor 6 0)   {mem7 : ZM} {x7_2 : Int32} {x7_3 : Int32} {x7_4 : Int32} {u : (Int32 × Int32 × Int32) ⊕ (Int32 × Int32 × Int32)} (G1 : ∀ s', u = Sum.inl s' → zG l E Γ 6 7 [(2, .int (s'.1)), (3, .int (s'.2.1)), (4, .int (s'.2.2))] [] mem7) (G2 : ∀ s', u = Sum.inr s' → zG l E Γ 6 34 [(2, .int (s'.1))] [] mem7) (h : fX2_greatestDivisor_b7  x7_2 x7_3 x7_4 = some u) : zG l E Γ 6 7 [(2, .int x7_2), (3, .int x7_3), (4, .int x7_4)] [] mem7 := by
  unfold fX2_greatestDivisor_b7 at h
  refine z_iload C dX2_greatestDivisor_7 (j := 2) rfl ?_
  refine z_bipush (v := 64) C dX2_greatestDivisor_9 zb64 ?_
  refine z_icmp_ge 34 C dX2_greatestDivisor_11 (by decide) h (fun h => ?_) (fun h => ?_)
  · refine z_pick [0] rfl ?_
    exact G2 _ (Option.some.inj h).symm
  · refine z_iload_n C dX2_greatestDivisor_14 rfl (j := 1) rfl ?_
    refine z_if_eq 34 C dX2_greatestDivisor_15 (by decide) h (fun h => ?_) (fun h => ?_)
    · refine z_pick [0] rfl ?_
      exact G2 _ (Option.some.inj h).symm
    · refine z_iload_n C dX2_greatestDivisor_18 rfl (j := 0) rfl ?_
      refine z_iload_n C dX2_greatestDivisor_19 rfl (j := 1) rfl ?_
      refine z_irem C dX2_greatestDivisor_20 h (fun h => ?_)
      refine z_istore [(2, .int x7_2), (3, .int x7_3), (4, .int x7_4)] C dX2_greatestDivisor_21 h (by decide) rfl (fun v5 h => ?_)
      refine z_iload_n C dX2_greatestDivisor_23 rfl (j := 2) rfl ?_
      refine z_istore_n [(5, .int v5), (3, .int x7_3), (4, .int x7_4)] C dX2_greatestDivisor_24 h rfl (by decide) rfl (fun v6 h => ?_)
      refine z_iload C dX2_greatestDivisor_25 (j := 1) rfl ?_
      refine z_istore_n [(2, .int v6), (5, .int v5), (4, .int x7_4)] C dX2_greatestDivisor_27 h rfl (by decide) rfl (fun v7 h => ?_)
      refine z_iinc [(3, .int v7), (2, .int v6), (5, .int v5)] C dX2_greatestDivisor_28 zc1 h (j := 3) rfl (by decide) rfl (fun v8 h => ?_)
      refine z_goto 7 C dX2_greatestDivisor_31 (by decide) ?_
      refine z_pick [2, 1, 0] rfl ?_
      exact G1 _ (Option.some.inj h).symm
theorem lX2_greatestDivisor_7 {l : Launch} {E : ZE} {Γ : ZG} (C : zC E Γ RX2 cX2_greatestDivisor 6 0)   {mem7 : ZM} {s : Int32 × Int32 × Int32} {r : Int32 × Int32 × Int32} (h : fX2_greatestDivisor_l7  s = some r) (K1 : zG l E Γ 6 34 [(2, .int r.1)] [] mem7) : zG l E Γ 6 7 [(2, .int s.1), (3, .int s.2.1), (4, .int s.2.2)] [] mem7 :=
  z_loop (body := fun s => fX2_greatestDivisor_b7  s.1 s.2.1 s.2.2) (fun s => zG l E Γ 6 7 [(2, .int s.1), (3, .int s.2.1), (4, .int s.2.2)] [] mem7) (fun r => zG l E Γ 6 34 [(2, .int r.1)] [] mem7) (fun s u hb g1 g2 => bX2_greatestDivisor_7 C  g1 g2 hb) 2000 s r h K1
def fX2_greatestDivisor  (a0 : Int32) (a1 : Int32) : Option (Int32) :=
  zlet a0 (fun v1 => zlet a1 (fun v2 => zlet (0 : Int32) (fun v3 => Option.bind (fX2_greatestDivisor_l7 (v1, v2, v3)) (fun r4 => some r4.1))))
set_option maxRecDepth 100000 in
set_option maxHeartbeats 4000000 in
theorem sX2_greatestDivisor {l : Launch} {E : ZE}  {a0 : Int32} {a1 : Int32} {mem : ZM} {t : Int32} (h : fX2_greatestDivisor a0 a1 = some t) : zMet l E yX2_greatestDivisor cX2_greatestDivisor 6 (some .int) 0 [.int a0, .int a1] mem (some (.int t)) mem := by
  refine z_enter (by decide) (Nat.le_of_ble_eq_true rfl) (fun Γ C Rq => ?_)
  have C : zC E Γ RX2 cX2_greatestDivisor 6 0 := C
  show zG l E Γ 6 0 [(0, .int a0), (1, .int a1)] [] mem
  unfold fX2_greatestDivisor at h
  refine z_iload_n C dX2_greatestDivisor_0 rfl (j := 0) rfl ?_
  refine z_istore_n [(0, .int a0), (1, .int a1)] C dX2_greatestDivisor_1 h rfl (by decide) rfl (fun v1 h => ?_)
  refine z_iload_n C dX2_greatestDivisor_2 rfl (j := 2) rfl ?_
  refine z_istore_n [(2, .int v1), (0, .int a0), (1, .int a1)] C dX2_greatestDivisor_3 h rfl (by decide) rfl (fun v2 h => ?_)
  refine z_iconst (v := 0) C dX2_greatestDivisor_4 zc0 ?_
  refine z_istore [(3, .int v2), (2, .int v1), (0, .int a0), (1, .int a1)] C dX2_greatestDivisor_5 h (by decide) rfl (fun v3 h => ?_)
  obtain ⟨r4, h4, h⟩ := Option.bind_eq_some_iff.mp h
  refine z_pick [2, 1, 0] rfl ?_
  refine lX2_greatestDivisor_7 C  h4 ?_
  refine z_iload_n C dX2_greatestDivisor_34 rfl (j := 0) rfl ?_
  have e := Option.some.inj h; subst e; exact z_iret C dX2_greatestDivisor_35 Rq
-- X2_ashInRain
def fX2_ashInRain_j90 (q1 : Nat) (y12_2 : Int32) (y12_3 : Int32) (y12_4 : Int32) (y12_5 : Int32) (y12_6 : Int32) (x7 : Int32) (x8 : Int32) (mem : ZM) : Option ((Int32 × Int32 × ZM) ⊕ (Int32 × Int32 × ZM)) :=
  zlet (x8 + (1 : Int32)) (fun v6 => some (Sum.inl (x7, v6, mem)))
set_option maxRecDepth 100000 in
set_option maxHeartbeats 4000000 in
theorem jX2_ashInRain_90 {l : Launch} {E : ZE} {Γ : ZG} (C : zC E Γ RX2 cX2_ashInRain 12 5) {q1 : Nat} (hq1 : zH q1) {y12_2 : Int32} {y12_3 : Int32} {y12_4 : Int32} {y12_5 : Int32} {y12_6 : Int32} {x7 : Int32} {x8 : Int32}  {mem : ZM}  {u : (Int32 × Int32 × ZM) ⊕ (Int32 × Int32 × ZM)}  (G1 : ∀ s', u = Sum.inl s' → zG l E Γ 12 12 [(0, .ref (E.2.1 14)), (1, .ref (E.2.1 q1)), (2, .int y12_2), (3, .int y12_3), (4, .int y12_4), (5, .int y12_5), (6, .int y12_6), (7, .int (s'.1)), (8, .int (s'.2.1))] [] s'.2.2) (G2 : ∀ s', u = Sum.inr s' → zG l E Γ 12 96 [(5, .int y12_5), (6, .int y12_6), (7, .int (s'.1))] [] s'.2.2) (h : fX2_ashInRain_j90 q1 y12_2 y12_3 y12_4 y12_5 y12_6 x7 x8 mem = some u) : zG l E Γ 12 90 [(0, .ref (E.2.1 14)), (1, .ref (E.2.1 q1)), (2, .int y12_2), (3, .int y12_3), (4, .int y12_4), (5, .int y12_5), (6, .int y12_6), (7, .int x7), (8, .int x8)] [] mem := by
  unfold fX2_ashInRain_j90 at h
  refine z_iinc [(0, .ref (E.2.1 14)), (1, .ref (E.2.1 q1)), (2, .int y12_2), (3, .int y12_3), (4, .int y12_4), (5, .int y12_5), (6, .int y12_6), (7, .int x7)] C dX2_ashInRain_90 zc1 h (j := 8) rfl (by decide) rfl (fun v6 h => ?_)
  refine z_goto 12 C dX2_ashInRain_93 (by decide) ?_
  refine z_pick [1, 2, 3, 4, 5, 6, 7, 8, 0] rfl ?_
  exact G1 _ (Option.some.inj h).symm
def fX2_ashInRain_b12 (q1 : Nat) (y12_2 : Int32) (y12_3 : Int32) (y12_4 : Int32) (y12_5 : Int32) (y12_6 : Int32) (x12_7 : Int32) (x12_8 : Int32) (memb : ZM) : Option ((Int32 × Int32 × ZM) ⊕ (Int32 × Int32 × ZM)) :=
  if y12_6 < x12_8 then (some (Sum.inr (x12_7, x12_8, memb))) else (if (x12_8 &&& (y12_6 ^^^ (-1 : Int32))) = 0 then (Option.bind (fJ6_bitCount_0f7a4 x12_8) (fun r7 => zlet r7 (fun v8 => Option.bind (fJ6_bitCount_0f7a4 y12_6) (fun r9 => zlet (r9 - v8) (fun v10 => Option.bind (fX2_power y12_4 v8) (fun r11 => Option.bind (fX2_power ((10 : Int32) - y12_4) v10) (fun r12 => zlet (r11 * r12) (fun v13 => if v13 ≤ 0 then (fX2_ashInRain_j90 q1 y12_2 y12_3 y12_4 y12_5 y12_6 x12_7 x12_8 memb) else (Option.bind (fX2_isAshWhenWetted q1 x12_8 y12_2 y12_3 memb) (fun r14 => if r14.1 = 0 then (fX2_ashInRain_j90 q1 y12_2 y12_3 y12_4 y12_5 y12_6 x12_7 x12_8 r14.2) else (zlet (x12_7 + v13) (fun v15 => fX2_ashInRain_j90 q1 y12_2 y12_3 y12_4 y12_5 y12_6 v15 x12_8 r14.2)))))))))))) else (fX2_ashInRain_j90 q1 y12_2 y12_3 y12_4 y12_5 y12_6 x12_7 x12_8 memb))
def fX2_ashInRain_l12 (q1 : Nat) (y12_2 : Int32) (y12_3 : Int32) (y12_4 : Int32) (y12_5 : Int32) (y12_6 : Int32) (s : Int32 × Int32 × ZM) : Option (Int32 × Int32 × ZM) := ziter (fun s => fX2_ashInRain_b12 q1 y12_2 y12_3 y12_4 y12_5 y12_6 s.1 s.2.1 s.2.2) 2000 s
set_option maxRecDepth 100000 in
set_option maxHeartbeats 4000000 in
theorem bX2_ashInRain_12 {l : Launch} {E : ZE} {Γ : ZG} (C : zC E Γ RX2 cX2_ashInRain 12 5) {q1 : Nat} (hq1 : zH q1) {y12_2 : Int32} {y12_3 : Int32} {y12_4 : Int32} {y12_5 : Int32} {y12_6 : Int32} {x12_7 : Int32} {x12_8 : Int32} {memb : ZM} {u : (Int32 × Int32 × ZM) ⊕ (Int32 × Int32 × ZM)} (G1 : ∀ s', u = Sum.inl s' → zG l E Γ 12 12 [(0, .ref (E.2.1 14)), (1, .ref (E.2.1 q1)), (2, .int y12_2), (3, .int y12_3), (4, .int y12_4), (5, .int y12_5), (6, .int y12_6), (7, .int (s'.1)), (8, .int (s'.2.1))] [] s'.2.2) (G2 : ∀ s', u = Sum.inr s' → zG l E Γ 12 96 [(5, .int y12_5), (6, .int y12_6), (7, .int (s'.1))] [] s'.2.2) (h : fX2_ashInRain_b12 q1 y12_2 y12_3 y12_4 y12_5 y12_6 x12_7 x12_8 memb = some u) : zG l E Γ 12 12 [(0, .ref (E.2.1 14)), (1, .ref (E.2.1 q1)), (2, .int y12_2), (3, .int y12_3), (4, .int y12_4), (5, .int y12_5), (6, .int y12_6), (7, .int x12_7), (8, .int x12_8)] [] memb := by
  unfold fX2_ashInRain_b12 at h
  refine z_iload C dX2_ashInRain_12 (j := 8) rfl ?_
  refine z_iload C dX2_ashInRain_14 (j := 6) rfl ?_
  refine z_icmp_gt 96 C dX2_ashInRain_16 (by decide) h (fun h => ?_) (fun h => ?_)
  · refine z_pick [5, 6, 7] rfl ?_
    exact G2 _ (Option.some.inj h).symm
  · refine z_iload C dX2_ashInRain_19 (j := 8) rfl ?_
    refine z_iload C dX2_ashInRain_21 (j := 6) rfl ?_
    refine z_iconst (v := -1) C dX2_ashInRain_23 zcm1 ?_
    refine z_ixor C dX2_ashInRain_24 ?_
    refine z_iand C dX2_ashInRain_25 ?_
    refine z_if_ne 90 C dX2_ashInRain_26 (by decide) h (fun h => ?_) (fun h => ?_)
    · refine z_pick [0, 1, 2, 3, 4, 5, 6, 7, 8] rfl ?_
      exact jX2_ashInRain_90 C hq1  G1 G2 h
    · refine z_iload C dX2_ashInRain_29 (j := 8) rfl ?_
      obtain ⟨r7, h7, h⟩ := Option.bind_eq_some_iff.mp h
      refine z_callSi [.int x12_8] [] C dX2_ashInRain_31 zk_X2_58 zw467 ⟨⟨by decide, by decide⟩, rfl, Nat.le_of_ble_eq_true rfl⟩ rfl (sJ6_bitCount_0f7a4  h7) ?_
      refine z_istore [(0, .ref (E.2.1 14)), (1, .ref (E.2.1 q1)), (2, .int y12_2), (3, .int y12_3), (4, .int y12_4), (5, .int y12_5), (6, .int y12_6), (7, .int x12_7), (8, .int x12_8)] C dX2_ashInRain_34 h (by decide) rfl (fun v8 h => ?_)
      refine z_iload C dX2_ashInRain_36 (j := 7) rfl ?_
      obtain ⟨r9, h9, h⟩ := Option.bind_eq_some_iff.mp h
      refine z_callSi [.int y12_6] [] C dX2_ashInRain_38 zk_X2_58 zw467 ⟨⟨by decide, by decide⟩, rfl, Nat.le_of_ble_eq_true rfl⟩ rfl (sJ6_bitCount_0f7a4  h9) ?_
      refine z_iload C dX2_ashInRain_41 (j := 0) rfl ?_
      refine z_isub C dX2_ashInRain_43 ?_
      refine z_istore [(9, .int v8), (0, .ref (E.2.1 14)), (1, .ref (E.2.1 q1)), (2, .int y12_2), (3, .int y12_3), (4, .int y12_4), (5, .int y12_5), (6, .int y12_6), (7, .int x12_7), (8, .int x12_8)] C dX2_ashInRain_44 h (by decide) rfl (fun v10 h => ?_)
      refine z_iload C dX2_ashInRain_46 (j := 6) rfl ?_
      refine z_iload C dX2_ashInRain_48 (j := 1) rfl ?_
      obtain ⟨r11, h11, h⟩ := Option.bind_eq_some_iff.mp h
      refine z_callSi [.int y12_4, .int v8] [] C dX2_ashInRain_50 zk_X2_93 zw888 ⟨⟨by decide, by decide⟩, rfl, Nat.le_of_ble_eq_true rfl⟩ rfl (sX2_power  h11) ?_
      refine z_bipush (v := 10) C dX2_ashInRain_53 zb10 ?_
      refine z_iload C dX2_ashInRain_55 (j := 6) rfl ?_
      refine z_isub C dX2_ashInRain_57 ?_
      refine z_iload C dX2_ashInRain_58 (j := 0) rfl ?_
      obtain ⟨r12, h12, h⟩ := Option.bind_eq_some_iff.mp h
      refine z_callSi [.int ((10 : Int32) - y12_4), .int v10] [.int r11] C dX2_ashInRain_60 zk_X2_93 zw888 ⟨⟨by decide, by decide⟩, rfl, Nat.le_of_ble_eq_true rfl⟩ rfl (sX2_power  h12) ?_
      refine z_imul C dX2_ashInRain_63 ?_
      refine z_istore [(10, .int v10), (9, .int v8), (0, .ref (E.2.1 14)), (1, .ref (E.2.1 q1)), (2, .int y12_2), (3, .int y12_3), (4, .int y12_4), (5, .int y12_5), (6, .int y12_6), (7, .int x12_7), (8, .int x12_8)] C dX2_ashInRain_64 h (by decide) rfl (fun v13 h => ?_)
      refine z_iload C dX2_ashInRain_66 (j := 0) rfl ?_
      refine z_if_le 90 C dX2_ashInRain_68 (by decide) h (fun h => ?_) (fun h => ?_)
      · refine z_pick [3, 4, 5, 6, 7, 8, 9, 10, 11] rfl ?_
        exact jX2_ashInRain_90 C hq1  G1 G2 h
      · refine z_aload_n C dX2_ashInRain_71 rfl (j := 3) rfl ?_
        refine z_aload_n C dX2_ashInRain_72 rfl (j := 4) rfl ?_
        refine z_iload C dX2_ashInRain_73 (j := 11) rfl ?_
        refine z_iload_n C dX2_ashInRain_75 rfl (j := 5) rfl ?_
        refine z_iload_n C dX2_ashInRain_76 rfl (j := 6) rfl ?_
        obtain ⟨r14, h14, h⟩ := Option.bind_eq_some_iff.mp h
        refine z_callVi [.ref (E.2.1 q1), .int x12_8, .int y12_2, .int y12_3] [] C dX2_ashInRain_77 (by decide) zen_14 rfl zk_X2_96 zw891 zw892 ⟨⟨by decide, by decide⟩, rfl, Nat.le_of_ble_eq_true rfl⟩ rfl (sX2_isAshWhenWetted hq1 h14) ?_
        refine z_if_eq 90 C dX2_ashInRain_80 (by decide) h (fun h => ?_) (fun h => ?_)
        · refine z_pick [3, 4, 5, 6, 7, 8, 9, 10, 11] rfl ?_
          exact jX2_ashInRain_90 C hq1  G1 G2 h
        · refine z_iload C dX2_ashInRain_83 (j := 10) rfl ?_
          refine z_iload C dX2_ashInRain_85 (j := 0) rfl ?_
          refine z_iadd C dX2_ashInRain_87 ?_
          refine z_istore [(11, .int v13), (10, .int v10), (9, .int v8), (0, .ref (E.2.1 14)), (1, .ref (E.2.1 q1)), (2, .int y12_2), (3, .int y12_3), (4, .int y12_4), (5, .int y12_5), (6, .int y12_6), (8, .int x12_8)] C dX2_ashInRain_88 h (by decide) rfl (fun v15 h => ?_)
          refine z_pick [4, 5, 6, 7, 8, 9, 10, 0, 11] rfl ?_
          exact jX2_ashInRain_90 C hq1  G1 G2 h
theorem lX2_ashInRain_12 {l : Launch} {E : ZE} {Γ : ZG} (C : zC E Γ RX2 cX2_ashInRain 12 5) {q1 : Nat} (hq1 : zH q1) {y12_2 : Int32} {y12_3 : Int32} {y12_4 : Int32} {y12_5 : Int32} {y12_6 : Int32} {s : Int32 × Int32 × ZM} {r : Int32 × Int32 × ZM} (h : fX2_ashInRain_l12 q1 y12_2 y12_3 y12_4 y12_5 y12_6 s = some r) (K1 : zG l E Γ 12 96 [(5, .int y12_5), (6, .int y12_6), (7, .int r.1)] [] r.2.2) : zG l E Γ 12 12 [(0, .ref (E.2.1 14)), (1, .ref (E.2.1 q1)), (2, .int y12_2), (3, .int y12_3), (4, .int y12_4), (5, .int y12_5), (6, .int y12_6), (7, .int s.1), (8, .int s.2.1)] [] s.2.2 :=
  z_loop (body := fun s => fX2_ashInRain_b12 q1 y12_2 y12_3 y12_4 y12_5 y12_6 s.1 s.2.1 s.2.2) (fun s => zG l E Γ 12 12 [(0, .ref (E.2.1 14)), (1, .ref (E.2.1 q1)), (2, .int y12_2), (3, .int y12_3), (4, .int y12_4), (5, .int y12_5), (6, .int y12_6), (7, .int s.1), (8, .int s.2.1)] [] s.2.2) (fun r => zG l E Γ 12 96 [(5, .int y12_5), (6, .int y12_6), (7, .int r.1)] [] r.2.2) (fun s u hb g1 g2 => bX2_ashInRain_12 C hq1 g1 g2 hb) 2000 s r h K1
def fX2_ashInRain_j129 (q1 : Nat) (x9 : Int32) (k0 : Int32) (mem : ZM) : Option (Int32 × ZM) :=
  zlet k0 (fun v21 => if x9 = 0 then (some (v21, mem)) else (zgd (decide (¬ x9 = 0)) (some ((v21 / x9), mem))))
set_option maxRecDepth 100000 in
set_option maxHeartbeats 4000000 in
theorem jX2_ashInRain_129 {l : Launch} {E : ZE} {Γ : ZG} (C : zC E Γ RX2 cX2_ashInRain 12 5) {q1 : Nat} (hq1 : zH q1) {x9 : Int32} {k0 : Int32}  {mem : ZM}  {t : Int32 × ZM}  (Rq : zRq E Γ (some .int) (some (.int t.1)) t.2) (h : fX2_ashInRain_j129 q1 x9 k0 mem = some t) : zG l E Γ 12 129 [(9, .int x9)] [.int k0] mem := by
  unfold fX2_ashInRain_j129 at h
  refine z_istore [(9, .int x9)] C dX2_ashInRain_129 h (by decide) rfl (fun v21 h => ?_)
  refine z_iload C dX2_ashInRain_131 (j := 1) rfl ?_
  refine z_if_ne 141 C dX2_ashInRain_133 (by decide) h (fun h => ?_) (fun h => ?_)
  · refine z_iload C dX2_ashInRain_141 (j := 0) rfl ?_
    refine z_iload C dX2_ashInRain_143 (j := 1) rfl ?_
    refine z_idiv C dX2_ashInRain_145 h (fun h => ?_)
    have e := Option.some.inj h; subst e; exact z_iret C dX2_ashInRain_146 Rq
  · refine z_iload C dX2_ashInRain_136 (j := 0) rfl ?_
    refine z_goto 146 C dX2_ashInRain_138 (by decide) ?_
    have e := Option.some.inj h; subst e; exact z_iret C dX2_ashInRain_146 Rq
def fX2_ashInRain (q1 : Nat) (a2 : Int32) (a3 : Int32) (a4 : Int32) (a5 : Int32) (mem : ZM) : Option (Int32 × ZM) :=
  Option.bind (fX3_burnables q1 mem) (fun r1 => zlet r1 (fun v2 => zlet (0 : Int32) (fun v3 => zlet (0 : Int32) (fun v4 => Option.bind (fX2_ashInRain_l12 q1 a2 a3 a4 a5 v2 (v3, v4, mem)) (fun r5 => Option.bind (fJ6_bitCount_0f7a4 v2) (fun r16 => Option.bind (fX2_power (10 : Int32) r16) (fun r17 => zlet r17 (fun v18 => Option.bind (fX2_greatestDivisor r5.1 v18) (fun r19 => zlet r19 (fun v20 => if a5 = 0 then (fX2_ashInRain_j129 q1 v20 v18 r5.2.2) else (fX2_ashInRain_j129 q1 v20 r5.1 r5.2.2)))))))))))
set_option maxRecDepth 100000 in
set_option maxHeartbeats 4000000 in
theorem sX2_ashInRain {l : Launch} {E : ZE} {q1 : Nat} (hq1 : zH q1) {a2 : Int32} {a3 : Int32} {a4 : Int32} {a5 : Int32} {mem : ZM} {t : Int32 × ZM} (h : fX2_ashInRain q1 a2 a3 a4 a5 mem = some t) : zMet l E yX2_ashInRain cX2_ashInRain 12 (some .int) 5 [.ref (E.2.1 14), .ref (E.2.1 q1), .int a2, .int a3, .int a4, .int a5] mem (some (.int t.1)) t.2 := by
  refine z_enter (by decide) (Nat.le_of_ble_eq_true rfl) (fun Γ C Rq => ?_)
  have C : zC E Γ RX2 cX2_ashInRain 12 5 := C
  show zG l E Γ 12 0 [(0, .ref (E.2.1 14)), (1, .ref (E.2.1 q1)), (2, .int a2), (3, .int a3), (4, .int a4), (5, .int a5)] [] mem
  unfold fX2_ashInRain at h
  refine z_aload_n C dX2_ashInRain_0 rfl (j := 1) rfl ?_
  obtain ⟨r1, h1, h⟩ := Option.bind_eq_some_iff.mp h
  refine z_callVi [] [] C dX2_ashInRain_1 (zH_lt hq1) (zH_ent hq1) rfl zk_X2_52 zw782 zw783 ⟨⟨by decide, by decide⟩, rfl, Nat.le_of_ble_eq_true rfl⟩ rfl (sX3_burnables hq1 h1) ?_
  refine z_istore [(0, .ref (E.2.1 14)), (1, .ref (E.2.1 q1)), (2, .int a2), (3, .int a3), (4, .int a4), (5, .int a5)] C dX2_ashInRain_4 h (by decide) rfl (fun v2 h => ?_)
  refine z_iconst (v := 0) C dX2_ashInRain_6 zc0 ?_
  refine z_istore [(6, .int v2), (0, .ref (E.2.1 14)), (1, .ref (E.2.1 q1)), (2, .int a2), (3, .int a3), (4, .int a4), (5, .int a5)] C dX2_ashInRain_7 h (by decide) rfl (fun v3 h => ?_)
  refine z_iconst (v := 0) C dX2_ashInRain_9 zc0 ?_
  refine z_istore [(7, .int v3), (6, .int v2), (0, .ref (E.2.1 14)), (1, .ref (E.2.1 q1)), (2, .int a2), (3, .int a3), (4, .int a4), (5, .int a5)] C dX2_ashInRain_10 h (by decide) rfl (fun v4 h => ?_)
  obtain ⟨r5, h5, h⟩ := Option.bind_eq_some_iff.mp h
  refine z_pick [3, 4, 5, 6, 7, 8, 2, 1, 0] rfl ?_
  refine lX2_ashInRain_12 C hq1 h5 ?_
  refine z_bipush (v := 10) C dX2_ashInRain_96 zb10 ?_
  refine z_iload C dX2_ashInRain_98 (j := 1) rfl ?_
  obtain ⟨r16, h16, h⟩ := Option.bind_eq_some_iff.mp h
  refine z_callSi [.int v2] [.int (10 : Int32)] C dX2_ashInRain_100 zk_X2_58 zw467 ⟨⟨by decide, by decide⟩, rfl, Nat.le_of_ble_eq_true rfl⟩ rfl (sJ6_bitCount_0f7a4  h16) ?_
  obtain ⟨r17, h17, h⟩ := Option.bind_eq_some_iff.mp h
  refine z_callSi [.int (10 : Int32), .int r16] [] C dX2_ashInRain_103 zk_X2_93 zw888 ⟨⟨by decide, by decide⟩, rfl, Nat.le_of_ble_eq_true rfl⟩ rfl (sX2_power  h17) ?_
  refine z_istore [(5, .int a5), (6, .int v2), (7, .int r5.1)] C dX2_ashInRain_106 h (by decide) rfl (fun v18 h => ?_)
  refine z_iload C dX2_ashInRain_108 (j := 3) rfl ?_
  refine z_iload C dX2_ashInRain_110 (j := 0) rfl ?_
  obtain ⟨r19, h19, h⟩ := Option.bind_eq_some_iff.mp h
  refine z_callSi [.int r5.1, .int v18] [] C dX2_ashInRain_112 zk_X2_99 zw895 ⟨⟨by decide, by decide⟩, rfl, Nat.le_of_ble_eq_true rfl⟩ rfl (sX2_greatestDivisor  h19) ?_
  refine z_istore [(8, .int v18), (5, .int a5), (6, .int v2), (7, .int r5.1)] C dX2_ashInRain_115 h (by decide) rfl (fun v20 h => ?_)
  refine z_iload C dX2_ashInRain_117 (j := 2) rfl ?_
  refine z_if_eq 127 C dX2_ashInRain_119 (by decide) h (fun h => ?_) (fun h => ?_)
  · refine z_iload C dX2_ashInRain_127 (j := 1) rfl ?_
    refine z_pick [0] rfl ?_
    exact jX2_ashInRain_129 C hq1  Rq h
  · refine z_iload C dX2_ashInRain_122 (j := 4) rfl ?_
    refine z_goto 129 C dX2_ashInRain_124 (by decide) ?_
    refine z_pick [0] rfl ?_
    exact jX2_ashInRain_129 C hq1  Rq h
-- X3_isNone
def fX3_isNone (b0 : Nat)  (mem : ZM) : Option (Int32) :=
  if (mem b0 0) = 0 then (some (1 : Int32)) else (some (0 : Int32))
set_option maxRecDepth 100000 in
set_option maxHeartbeats 4000000 in
theorem sX3_isNone {l : Launch} {E : ZE} {b0 : Nat} (hb0 : zH b0)  {mem : ZM} {t : Int32} (h : fX3_isNone b0 mem = some t) : zMet l E yX3_isNone cX3_isNone 1 (some .boolean) 0 [.ref (E.2.1 b0)] mem (some (.int t)) mem := by
  refine z_enter (by decide) (Nat.le_of_ble_eq_true rfl) (fun Γ C Rq => ?_)
  have C : zC E Γ RX3 cX3_isNone 1 0 := C
  show zG l E Γ 1 0 [(0, .ref (E.2.1 b0))] [] mem
  unfold fX3_isNone at h
  refine z_aload_n C dX3_isNone_0 rfl (j := 0) rfl ?_
  refine zg3_0 C dX3_isNone_1 hb0 zw42 ?_
  refine z_if_ne 11 C dX3_isNone_4 (by decide) h (fun h => ?_) (fun h => ?_)
  · refine z_iconst (v := 0) C dX3_isNone_11 zc0 ?_
    have e := Option.some.inj h; subst e; exact z_zret C dX3_isNone_12 zbl0 Rq
  · refine z_iconst (v := 1) C dX3_isNone_7 zc1 ?_
    refine z_goto 12 C dX3_isNone_8 (by decide) ?_
    have e := Option.some.inj h; subst e; exact z_zret C dX3_isNone_12 zbl1 Rq
-- X3_lightByHand
def fX3_lightByHand (b0 : Nat) (a1 : Int32) (mem : ZM) : Option (ZM) :=
  zlet (zst mem b0 5 ((mem b0 5) ||| ((1 : Int32) <<< (a1 &&& 31)))) (fun m1 => some m1)
set_option maxRecDepth 100000 in
set_option maxHeartbeats 4000000 in
theorem sX3_lightByHand {l : Launch} {E : ZE} {b0 : Nat} (hb0 : zH b0) {a1 : Int32} {mem : ZM} {t : ZM} (h : fX3_lightByHand b0 a1 mem = some t) : zMet l E yX3_lightByHand cX3_lightByHand 2 none 0 [.ref (E.2.1 b0), .int a1] mem none t := by
  refine z_enter (by decide) (Nat.le_of_ble_eq_true rfl) (fun Γ C Rq => ?_)
  have C : zC E Γ RX3 cX3_lightByHand 2 0 := C
  show zG l E Γ 2 0 [(0, .ref (E.2.1 b0)), (1, .int a1)] [] mem
  unfold fX3_lightByHand at h
  refine z_aload_n C dX3_lightByHand_0 rfl (j := 0) rfl ?_
  refine z_dup C dX3_lightByHand_1 rfl ?_
  refine zg3_5 C dX3_lightByHand_2 hb0 zw48 ?_
  refine z_iconst (v := 1) C dX3_lightByHand_5 zc1 ?_
  refine z_iload_n C dX3_lightByHand_6 rfl (j := 1) rfl ?_
  refine z_ishl C dX3_lightByHand_7 ?_
  refine z_ior C dX3_lightByHand_8 ?_
  refine zp3_5 C dX3_lightByHand_9 hb0 zw48 h (fun m1 h => ?_)
  have e := Option.some.inj h; subst e; exact z_vret C dX3_lightByHand_12 Rq
-- X3_turnWind
def fX3_turnWind (b0 : Nat)  (mem : ZM) : Option (ZM) :=
  zlet (zst mem b0 7 ((1 : Int32) - (mem b0 7))) (fun m1 => some m1)
set_option maxRecDepth 100000 in
set_option maxHeartbeats 4000000 in
theorem sX3_turnWind {l : Launch} {E : ZE} {b0 : Nat} (hb0 : zH b0)  {mem : ZM} {t : ZM} (h : fX3_turnWind b0 mem = some t) : zMet l E yX3_turnWind cX3_turnWind 1 none 0 [.ref (E.2.1 b0)] mem none t := by
  refine z_enter (by decide) (Nat.le_of_ble_eq_true rfl) (fun Γ C Rq => ?_)
  have C : zC E Γ RX3 cX3_turnWind 1 0 := C
  show zG l E Γ 1 0 [(0, .ref (E.2.1 b0))] [] mem
  unfold fX3_turnWind at h
  refine z_aload_n C dX3_turnWind_0 rfl (j := 0) rfl ?_
  refine z_iconst (v := 1) C dX3_turnWind_1 zc1 ?_
  refine z_aload_n C dX3_turnWind_2 rfl (j := 0) rfl ?_
  refine zg3_7 C dX3_turnWind_3 hb0 zw50 ?_
  refine z_isub C dX3_turnWind_6 ?_
  refine zp3_7 C dX3_turnWind_7 hb0 zw50 h (fun m1 h => ?_)
  have e := Option.some.inj h; subst e; exact z_vret C dX3_turnWind_10 Rq
-- X2_tryDraw
def fX2_tryDraw_j90  (x1 : Int64) (mem : ZM) : Option (ZM) :=
  if (lg_cmp (x1 - x1 / (7 : Int64) * (7 : Int64)) (0 : Int64)) = 0 then (Option.bind (fX3_turnWind 37 mem) (fun r3 => some r3)) else (some mem)
set_option maxRecDepth 100000 in
set_option maxHeartbeats 4000000 in
theorem jX2_tryDraw_90 {l : Launch} {E : ZE} {Γ : ZG} (C : zC E Γ RX2 cX2_tryDraw 4 3)  {x1 : Int64}  {mem : ZM}  {t : ZM}  (Rq : zRq E Γ none none t) (h : fX2_tryDraw_j90  x1 mem = some t) : zG l E Γ 4 90 [(0, .ref (E.2.1 14)), (1, .long x1)] [] mem := by
  unfold fX2_tryDraw_j90 at h
  refine z_lload_n C dX2_tryDraw_90 rfl (j := 1) rfl ?_
  refine z_ldc2 C dX2_tryDraw_91 zw921 ?_
  refine z_lrem0 C dX2_tryDraw_94 (by decide) ?_
  refine z_lconst (v := 0) C dX2_tryDraw_95 zl0 ?_
  refine z_lcmp C dX2_tryDraw_96 ?_
  refine z_if_ne 107 C dX2_tryDraw_97 (by decide) h (fun h => ?_) (fun h => ?_)
  · have e := Option.some.inj h; subst e; exact z_vret C dX2_tryDraw_107 Rq
  · refine z_aload_n C dX2_tryDraw_100 rfl (j := 0) rfl ?_
    refine zg2_0 C dX2_tryDraw_101 zw78 ?_
    obtain ⟨r3, h3, h⟩ := Option.bind_eq_some_iff.mp h
    refine z_callVv [] [] C dX2_tryDraw_104 (zH_lt zH37) (zH_ent zH37) rfl zk_X2_134 zw627 zw628 ⟨⟨by decide, by decide⟩, rfl, Nat.le_of_ble_eq_true rfl⟩ rfl (sX3_turnWind zH37 h3) ?_
    have e := Option.some.inj h; subst e; exact z_vret C dX2_tryDraw_107 Rq
def fX2_tryDraw_j55  (x1 : Int64) (x3 : Int32) (mem : ZM) : Option (ZM) :=
  if (lg_cmp (x1 - x1 / (5 : Int64) * (5 : Int64)) (0 : Int64)) = 0 then (Option.bind (fX3_isOut 37 x3 mem) (fun r4 => if r4 = 0 then (Option.bind (fX3_pourOn 37 x3 ((x1 - x1 / (4 : Int64) * (4 : Int64)).toInt32) mem) (fun r5 => fX2_tryDraw_j90  x1 r5)) else (fX2_tryDraw_j90  x1 mem))) else (fX2_tryDraw_j90  x1 mem)
set_option maxRecDepth 100000 in
set_option maxHeartbeats 4000000 in
theorem jX2_tryDraw_55 {l : Launch} {E : ZE} {Γ : ZG} (C : zC E Γ RX2 cX2_tryDraw 4 3)  {x1 : Int64} {x3 : Int32}  {mem : ZM}  {t : ZM}  (Rq : zRq E Γ none none t) (h : fX2_tryDraw_j55  x1 x3 mem = some t) : zG l E Γ 4 55 [(0, .ref (E.2.1 14)), (1, .long x1), (3, .int x3)] [] mem := by
  unfold fX2_tryDraw_j55 at h
  refine z_lload_n C dX2_tryDraw_55 rfl (j := 1) rfl ?_
  refine z_ldc2 C dX2_tryDraw_56 zw919 ?_
  refine z_lrem0 C dX2_tryDraw_59 (by decide) ?_
  refine z_lconst (v := 0) C dX2_tryDraw_60 zl0 ?_
  refine z_lcmp C dX2_tryDraw_61 ?_
  refine z_if_ne 90 C dX2_tryDraw_62 (by decide) h (fun h => ?_) (fun h => ?_)
  · refine z_pick [0, 1] rfl ?_
    exact jX2_tryDraw_90 C   Rq h
  · refine z_aload_n C dX2_tryDraw_65 rfl (j := 0) rfl ?_
    refine zg2_0 C dX2_tryDraw_66 zw78 ?_
    refine z_iload_n C dX2_tryDraw_69 rfl (j := 2) rfl ?_
    obtain ⟨r4, h4, h⟩ := Option.bind_eq_some_iff.mp h
    refine z_callVi [.int x3] [] C dX2_tryDraw_70 (zH_lt zH37) (zH_ent zH37) rfl zk_X2_127 zw456 zw457 ⟨⟨by decide, by decide⟩, rfl, Nat.le_of_ble_eq_true rfl⟩ rfl (sX3_isOut zH37 h4) ?_
    refine z_if_ne 90 C dX2_tryDraw_73 (by decide) h (fun h => ?_) (fun h => ?_)
    · refine z_pick [0, 1] rfl ?_
      exact jX2_tryDraw_90 C   Rq h
    · refine z_aload_n C dX2_tryDraw_76 rfl (j := 0) rfl ?_
      refine zg2_0 C dX2_tryDraw_77 zw78 ?_
      refine z_iload_n C dX2_tryDraw_80 rfl (j := 2) rfl ?_
      refine z_lload_n C dX2_tryDraw_81 rfl (j := 1) rfl ?_
      refine z_ldc2 C dX2_tryDraw_82 zw920 ?_
      refine z_lrem0 C dX2_tryDraw_85 (by decide) ?_
      refine z_l2i C dX2_tryDraw_86 ?_
      obtain ⟨r5, h5, h⟩ := Option.bind_eq_some_iff.mp h
      refine z_callVv [.int x3, .int ((x1 - x1 / (4 : Int64) * (4 : Int64)).toInt32)] [] C dX2_tryDraw_87 (zH_lt zH37) (zH_ent zH37) rfl zk_X2_68 zw572 zw573 ⟨⟨by decide, by decide⟩, rfl, Nat.le_of_ble_eq_true rfl⟩ rfl (sX3_pourOn zH37 h5) ?_
      refine z_pick [0, 1] rfl ?_
      exact jX2_tryDraw_90 C   Rq h
def fX2_tryDraw  (a1 : Int64) (mem : ZM) : Option (ZM) :=
  Option.bind (fX3_isNone 37 mem) (fun r1 => if r1 = 0 then (zgd (decide (¬ ((mem 37 0).toInt64) = 0)) (zlet ((a1 - a1 / ((mem 37 0).toInt64) * ((mem 37 0).toInt64)).toInt32) (fun v2 => if (lg_cmp (a1 - a1 / (2 : Int64) * (2 : Int64)) (0 : Int64)) = 0 then (Option.bind (fX3_mayBeLit 37 v2 mem) (fun r6 => if r6 = 0 then (fX2_tryDraw_j55  a1 v2 mem) else (Option.bind (fX3_lightByHand 37 v2 mem) (fun r7 => fX2_tryDraw_j90  a1 r7)))) else (fX2_tryDraw_j55  a1 v2 mem)))) else (some mem))
set_option maxRecDepth 100000 in
set_option maxHeartbeats 4000000 in
theorem sX2_tryDraw {l : Launch} {E : ZE}  {a1 : Int64} {mem : ZM} {t : ZM} (h : fX2_tryDraw a1 mem = some t) : zMet l E yX2_tryDraw cX2_tryDraw 4 none 3 [.ref (E.2.1 14), .long a1] mem none t := by
  refine z_enter (by decide) (Nat.le_of_ble_eq_true rfl) (fun Γ C Rq => ?_)
  have C : zC E Γ RX2 cX2_tryDraw 4 3 := C
  show zG l E Γ 4 0 [(0, .ref (E.2.1 14)), (1, .long a1)] [] mem
  unfold fX2_tryDraw at h
  refine z_aload_n C dX2_tryDraw_0 rfl (j := 0) rfl ?_
  refine zg2_0 C dX2_tryDraw_1 zw78 ?_
  obtain ⟨r1, h1, h⟩ := Option.bind_eq_some_iff.mp h
  refine z_callVi [] [] C dX2_tryDraw_4 (zH_lt zH37) (zH_ent zH37) rfl zk_X2_113 zw421 zw422 ⟨⟨by decide, by decide⟩, rfl, Nat.le_of_ble_eq_true rfl⟩ rfl (sX3_isNone zH37 h1) ?_
  refine z_if_eq 11 C dX2_tryDraw_7 (by decide) h (fun h => ?_) (fun h => ?_)
  · refine z_lload_n C dX2_tryDraw_11 rfl (j := 1) rfl ?_
    refine z_aload_n C dX2_tryDraw_12 rfl (j := 0) rfl ?_
    refine zg2_0 C dX2_tryDraw_13 zw78 ?_
    refine zg3_0 C dX2_tryDraw_16 zH37 zw832 ?_
    refine z_i2l C dX2_tryDraw_19 ?_
    refine z_lrem C dX2_tryDraw_20 h (fun h => ?_)
    refine z_l2i C dX2_tryDraw_21 ?_
    refine z_istore_n [(0, .ref (E.2.1 14)), (1, .long a1)] C dX2_tryDraw_22 h rfl (by decide) rfl (fun v2 h => ?_)
    refine z_lload_n C dX2_tryDraw_23 rfl (j := 2) rfl ?_
    refine z_ldc2 C dX2_tryDraw_24 zw918 ?_
    refine z_lrem0 C dX2_tryDraw_27 (by decide) ?_
    refine z_lconst (v := 0) C dX2_tryDraw_28 zl0 ?_
    refine z_lcmp C dX2_tryDraw_29 ?_
    refine z_if_ne 55 C dX2_tryDraw_30 (by decide) h (fun h => ?_) (fun h => ?_)
    · refine z_pick [1, 2, 0] rfl ?_
      exact jX2_tryDraw_55 C   Rq h
    · refine z_aload_n C dX2_tryDraw_33 rfl (j := 1) rfl ?_
      refine zg2_0 C dX2_tryDraw_34 zw78 ?_
      refine z_iload_n C dX2_tryDraw_37 rfl (j := 0) rfl ?_
      obtain ⟨r6, h6, h⟩ := Option.bind_eq_some_iff.mp h
      refine z_callVi [.int v2] [] C dX2_tryDraw_38 (zH_lt zH37) (zH_ent zH37) rfl zk_X2_119 zw488 zw489 ⟨⟨by decide, by decide⟩, rfl, Nat.le_of_ble_eq_true rfl⟩ rfl (sX3_mayBeLit zH37 h6) ?_
      refine z_if_eq 55 C dX2_tryDraw_41 (by decide) h (fun h => ?_) (fun h => ?_)
      · refine z_pick [1, 2, 0] rfl ?_
        exact jX2_tryDraw_55 C   Rq h
      · refine z_aload_n C dX2_tryDraw_44 rfl (j := 1) rfl ?_
        refine zg2_0 C dX2_tryDraw_45 zw78 ?_
        refine z_iload_n C dX2_tryDraw_48 rfl (j := 0) rfl ?_
        obtain ⟨r7, h7, h⟩ := Option.bind_eq_some_iff.mp h
        refine z_callVv [.int v2] [] C dX2_tryDraw_49 (zH_lt zH37) (zH_ent zH37) rfl zk_X2_122 zw550 zw551 ⟨⟨by decide, by decide⟩, rfl, Nat.le_of_ble_eq_true rfl⟩ rfl (sX3_lightByHand zH37 h7) ?_
        refine z_goto 90 C dX2_tryDraw_52 (by decide) ?_
        refine z_pick [1, 2] rfl ?_
        exact jX2_tryDraw_90 C   Rq h
  · have e := Option.some.inj h; subst e; exact z_vret C dX2_tryDraw_10 Rq
-- X2_yearByDraws
def fX2_yearByDraws_b23 (q1 : Nat) (y23_2 : Int32) (x23_4 : Int64) (x23_6 : Int32) (memb : ZM) : Option ((Int64 × Int32 × ZM) ⊕ (Int64 × Int32 × ZM)) :=
  if y23_2 ≤ x23_6 then (some (Sum.inr (x23_4, x23_6, memb))) else (zlet ((x23_4 * (16807 : Int64)) - (x23_4 * (16807 : Int64)) / (2147483647 : Int64) * (2147483647 : Int64)) (fun v6 => Option.bind (fX2_tryDraw v6 memb) (fun r7 => Option.bind (fX3_passHour 37 r7) (fun r8 => zlet (x23_6 + (1 : Int32)) (fun v9 => some (Sum.inl (v6, v9, r8)))))))
def fX2_yearByDraws_l23 (q1 : Nat) (y23_2 : Int32) (s : Int64 × Int32 × ZM) : Option (Int64 × Int32 × ZM) := ziter (fun s => fX2_yearByDraws_b23 q1 y23_2 s.1 s.2.1 s.2.2) 2000 s
set_option maxRecDepth 100000 in
set_option maxHeartbeats 4000000 in
theorem bX2_yearByDraws_23 {l : Launch} {E : ZE} {Γ : ZG} (C : zC E Γ RX2 cX2_yearByDraws 7 4) {q1 : Nat} (hq1 : zH q1) {y23_2 : Int32} {x23_4 : Int64} {x23_6 : Int32} {memb : ZM} {u : (Int64 × Int32 × ZM) ⊕ (Int64 × Int32 × ZM)} (G1 : ∀ s', u = Sum.inl s' → zG l E Γ 7 23 [(0, .ref (E.2.1 14)), (2, .int y23_2), (4, .long (s'.1)), (6, .int (s'.2.1))] [] s'.2.2) (G2 : ∀ s', u = Sum.inr s' → zG l E Γ 7 60 [(0, .ref (E.2.1 14))] [] s'.2.2) (h : fX2_yearByDraws_b23 q1 y23_2 x23_4 x23_6 memb = some u) : zG l E Γ 7 23 [(0, .ref (E.2.1 14)), (2, .int y23_2), (4, .long x23_4), (6, .int x23_6)] [] memb := by
  unfold fX2_yearByDraws_b23 at h
  refine z_iload C dX2_yearByDraws_23 (j := 3) rfl ?_
  refine z_iload_n C dX2_yearByDraws_25 rfl (j := 1) rfl ?_
  refine z_icmp_ge 60 C dX2_yearByDraws_26 (by decide) h (fun h => ?_) (fun h => ?_)
  · refine z_pick [0] rfl ?_
    exact G2 _ (Option.some.inj h).symm
  · refine z_lload C dX2_yearByDraws_29 (j := 2) rfl ?_
    refine z_ldc2 C dX2_yearByDraws_31 zw912 ?_
    refine z_lmul C dX2_yearByDraws_34 ?_
    refine z_ldc2 C dX2_yearByDraws_35 zw913 ?_
    refine z_lrem0 C dX2_yearByDraws_38 (by decide) ?_
    refine z_lstore [(0, .ref (E.2.1 14)), (2, .int y23_2), (6, .int x23_6)] C dX2_yearByDraws_39 h (by decide) rfl (fun v6 h => ?_)
    refine z_aload_n C dX2_yearByDraws_41 rfl (j := 1) rfl ?_
    refine z_lload C dX2_yearByDraws_42 (j := 0) rfl ?_
    obtain ⟨r7, h7, h⟩ := Option.bind_eq_some_iff.mp h
    refine z_callVv [.long v6] [] C dX2_yearByDraws_44 (by decide) zen_14 rfl zk_X2_109 zw915 zw916 ⟨⟨by decide, by decide⟩, rfl, Nat.le_of_ble_eq_true rfl⟩ rfl (sX2_tryDraw  h7) ?_
    refine z_aload_n C dX2_yearByDraws_47 rfl (j := 1) rfl ?_
    refine zg2_0 C dX2_yearByDraws_48 zw78 ?_
    obtain ⟨r8, h8, h⟩ := Option.bind_eq_some_iff.mp h
    refine z_callVv [] [] C dX2_yearByDraws_51 (zH_lt zH37) (zH_ent zH37) rfl zk_X2_34 zw439 zw440 ⟨⟨by decide, by decide⟩, rfl, Nat.le_of_ble_eq_true rfl⟩ rfl (sX3_passHour zH37 h8) ?_
    refine z_iinc [(4, .long v6), (0, .ref (E.2.1 14)), (2, .int y23_2)] C dX2_yearByDraws_54 zc1 h (j := 3) rfl (by decide) rfl (fun v9 h => ?_)
    refine z_goto 23 C dX2_yearByDraws_57 (by decide) ?_
    refine z_pick [2, 3, 1, 0] rfl ?_
    exact G1 _ (Option.some.inj h).symm
theorem lX2_yearByDraws_23 {l : Launch} {E : ZE} {Γ : ZG} (C : zC E Γ RX2 cX2_yearByDraws 7 4) {q1 : Nat} (hq1 : zH q1) {y23_2 : Int32} {s : Int64 × Int32 × ZM} {r : Int64 × Int32 × ZM} (h : fX2_yearByDraws_l23 q1 y23_2 s = some r) (K1 : zG l E Γ 7 60 [(0, .ref (E.2.1 14))] [] r.2.2) : zG l E Γ 7 23 [(0, .ref (E.2.1 14)), (2, .int y23_2), (4, .long s.1), (6, .int s.2.1)] [] s.2.2 :=
  z_loop (body := fun s => fX2_yearByDraws_b23 q1 y23_2 s.1 s.2.1 s.2.2) (fun s => zG l E Γ 7 23 [(0, .ref (E.2.1 14)), (2, .int y23_2), (4, .long s.1), (6, .int s.2.1)] [] s.2.2) (fun r => zG l E Γ 7 60 [(0, .ref (E.2.1 14))] [] r.2.2) (fun s u hb g1 g2 => bX2_yearByDraws_23 C hq1 g1 g2 hb) 2000 s r h K1
def fX2_yearByDraws (q1 : Nat) (a2 : Int32) (a3 : Int32) (mem : ZM) : Option (ZM) :=
  Option.bind (fX3_takeFrom 37 q1 mem) (fun r1 => zlet (zst r1 37 8 (0 : Int32)) (fun m2 => zlet a3.toInt64 (fun v3 => zlet (0 : Int32) (fun v4 => Option.bind (fX2_yearByDraws_l23 q1 a2 (v3, v4, m2)) (fun r5 => some r5.2.2)))))
set_option maxRecDepth 100000 in
set_option maxHeartbeats 4000000 in
theorem sX2_yearByDraws {l : Launch} {E : ZE} {q1 : Nat} (hq1 : zH q1) {a2 : Int32} {a3 : Int32} {mem : ZM} {t : ZM} (h : fX2_yearByDraws q1 a2 a3 mem = some t) : zMet l E yX2_yearByDraws cX2_yearByDraws 7 (some (.object "BonfireHeaps$Heap")) 4 [.ref (E.2.1 14), .ref (E.2.1 q1), .int a2, .int a3] mem (some (.ref (E.2.1 37))) t := by
  refine z_enter (by decide) (Nat.le_of_ble_eq_true rfl) (fun Γ C Rq => ?_)
  have C : zC E Γ RX2 cX2_yearByDraws 7 4 := C
  show zG l E Γ 7 0 [(0, .ref (E.2.1 14)), (1, .ref (E.2.1 q1)), (2, .int a2), (3, .int a3)] [] mem
  unfold fX2_yearByDraws at h
  refine z_aload_n C dX2_yearByDraws_0 rfl (j := 0) rfl ?_
  refine zg2_0 C dX2_yearByDraws_1 zw78 ?_
  refine z_aload_n C dX2_yearByDraws_4 rfl (j := 1) rfl ?_
  obtain ⟨r1, h1, h⟩ := Option.bind_eq_some_iff.mp h
  refine z_callVv [.ref (E.2.1 q1)] [] C dX2_yearByDraws_5 (zH_lt zH37) (zH_ent zH37) rfl zk_X2_18 zw352 zw353 ⟨⟨by decide, by decide⟩, rfl, Nat.le_of_ble_eq_true rfl⟩ rfl (sX3_takeFrom zH37 hq1 h1) ?_
  refine z_aload_n C dX2_yearByDraws_8 rfl (j := 0) rfl ?_
  refine zg2_0 C dX2_yearByDraws_9 zw78 ?_
  refine z_iconst (v := 0) C dX2_yearByDraws_12 zc0 ?_
  refine zp3_8 C dX2_yearByDraws_13 zH37 zw911 h (fun m2 h => ?_)
  refine z_iload_n C dX2_yearByDraws_16 rfl (j := 3) rfl ?_
  refine z_i2l C dX2_yearByDraws_17 ?_
  refine z_lstore [(0, .ref (E.2.1 14)), (1, .ref (E.2.1 q1)), (2, .int a2), (3, .int a3)] C dX2_yearByDraws_18 h (by decide) rfl (fun v3 h => ?_)
  refine z_iconst (v := 0) C dX2_yearByDraws_20 zc0 ?_
  refine z_istore [(4, .long v3), (0, .ref (E.2.1 14)), (1, .ref (E.2.1 q1)), (2, .int a2), (3, .int a3)] C dX2_yearByDraws_21 h (by decide) rfl (fun v4 h => ?_)
  obtain ⟨r5, h5, h⟩ := Option.bind_eq_some_iff.mp h
  refine z_pick [2, 4, 1, 0] rfl ?_
  refine lX2_yearByDraws_23 C hq1 h5 ?_
  refine z_aload_n C dX2_yearByDraws_60 rfl (j := 0) rfl ?_
  refine zg2_0 C dX2_yearByDraws_61 zw78 ?_
  have e := Option.some.inj h; subst e; exact z_aret C dX2_yearByDraws_64 Rq
-- X3_begin
def fX3_begin (b0 : Nat) (a1 : Int32) (mem : ZM) : Option (ZM) :=
  zlet (zst mem b0 0 (0 : Int32)) (fun m1 => zlet (zst m1 b0 5 (0 : Int32)) (fun m2 => zlet (zst m2 b0 6 (0 : Int32)) (fun m3 => zlet (zst m3 b0 7 a1) (fun m4 => zlet (zst m4 b0 8 (0 : Int32)) (fun m5 => zlet (zst m5 b0 9 (0 : Int32)) (fun m6 => some m6))))))
set_option maxRecDepth 100000 in
set_option maxHeartbeats 4000000 in
theorem sX3_begin {l : Launch} {E : ZE} {b0 : Nat} (hb0 : zH b0) {a1 : Int32} {mem : ZM} {t : ZM} (h : fX3_begin b0 a1 mem = some t) : zMet l E yX3_begin cX3_begin 2 none 0 [.ref (E.2.1 b0), .int a1] mem none t := by
  refine z_enter (by decide) (Nat.le_of_ble_eq_true rfl) (fun Γ C Rq => ?_)
  have C : zC E Γ RX3 cX3_begin 2 0 := C
  show zG l E Γ 2 0 [(0, .ref (E.2.1 b0)), (1, .int a1)] [] mem
  unfold fX3_begin at h
  refine z_aload_n C dX3_begin_0 rfl (j := 0) rfl ?_
  refine z_iconst (v := 0) C dX3_begin_1 zc0 ?_
  refine zp3_0 C dX3_begin_2 hb0 zw42 h (fun m1 h => ?_)
  refine z_aload_n C dX3_begin_5 rfl (j := 0) rfl ?_
  refine z_iconst (v := 0) C dX3_begin_6 zc0 ?_
  refine zp3_5 C dX3_begin_7 hb0 zw48 h (fun m2 h => ?_)
  refine z_aload_n C dX3_begin_10 rfl (j := 0) rfl ?_
  refine z_iconst (v := 0) C dX3_begin_11 zc0 ?_
  refine zp3_6 C dX3_begin_12 hb0 zw49 h (fun m3 h => ?_)
  refine z_aload_n C dX3_begin_15 rfl (j := 0) rfl ?_
  refine z_iload_n C dX3_begin_16 rfl (j := 1) rfl ?_
  refine zp3_7 C dX3_begin_17 hb0 zw50 h (fun m4 h => ?_)
  refine z_aload_n C dX3_begin_20 rfl (j := 0) rfl ?_
  refine z_iconst (v := 0) C dX3_begin_21 zc0 ?_
  refine zp3_8 C dX3_begin_22 hb0 zw51 h (fun m5 h => ?_)
  refine z_aload_n C dX3_begin_25 rfl (j := 0) rfl ?_
  refine z_iconst (v := 0) C dX3_begin_26 zc0 ?_
  refine zp3_9 C dX3_begin_27 hb0 zw52 h (fun m6 h => ?_)
  have e := Option.some.inj h; subst e; exact z_vret C dX3_begin_30 Rq
-- X3_layThing
def fX3_layThing (b0 : Nat) (a1 : Int32) (a2 : Int32) (a3 : Int32) (mem : ZM) : Option (ZM) :=
  if (8 : Int32) ≤ (mem b0 0) then (some mem) else (zgd (zin (mem b0 0) 8) (zlet (zst mem (b0 + 1) (mem b0 0).toNatClampNeg a1) (fun m1 => zgd (zin (m1 b0 0) 8) (zlet (zst m1 (b0 + 2) (m1 b0 0).toNatClampNeg a2) (fun m2 => zgd (zin (m2 b0 0) 8) (zlet (zst m2 (b0 + 3) (m2 b0 0).toNatClampNeg a3) (fun m3 => zgd (zin (m3 b0 0) 8) (zlet (zst m3 (b0 + 4) (m3 b0 0).toNatClampNeg (m3 b0 0)) (fun m4 => zlet (zst m4 b0 0 ((m4 b0 0) + (1 : Int32))) (fun m5 => some m5))))))))))
set_option maxRecDepth 100000 in
set_option maxHeartbeats 4000000 in
theorem sX3_layThing {l : Launch} {E : ZE} {b0 : Nat} (hb0 : zH b0) {a1 : Int32} {a2 : Int32} {a3 : Int32} {mem : ZM} {t : ZM} (h : fX3_layThing b0 a1 a2 a3 mem = some t) : zMet l E yX3_layThing cX3_layThing 4 none 0 [.ref (E.2.1 b0), .int a1, .int a2, .int a3] mem none t := by
  refine z_enter (by decide) (Nat.le_of_ble_eq_true rfl) (fun Γ C Rq => ?_)
  have C : zC E Γ RX3 cX3_layThing 4 0 := C
  show zG l E Γ 4 0 [(0, .ref (E.2.1 b0)), (1, .int a1), (2, .int a2), (3, .int a3)] [] mem
  unfold fX3_layThing at h
  refine z_aload_n C dX3_layThing_0 rfl (j := 0) rfl ?_
  refine zg3_0 C dX3_layThing_1 hb0 zw42 ?_
  refine z_bipush (v := 8) C dX3_layThing_4 zb8 ?_
  refine z_icmp_ge 62 C dX3_layThing_6 (by decide) h (fun h => ?_) (fun h => ?_)
  · have e := Option.some.inj h; subst e; exact z_vret C dX3_layThing_62 Rq
  · refine z_aload_n C dX3_layThing_9 rfl (j := 0) rfl ?_
    refine zg3_1 C dX3_layThing_10 hb0 zw44 ?_
    refine z_aload_n C dX3_layThing_13 rfl (j := 0) rfl ?_
    refine zg3_0 C dX3_layThing_14 hb0 zw42 ?_
    refine z_iload_n C dX3_layThing_17 rfl (j := 1) rfl ?_
    refine z_iast C dX3_layThing_18 (zH_ar1 hb0) h (fun m1 h => ?_)
    refine z_aload_n C dX3_layThing_19 rfl (j := 0) rfl ?_
    refine zg3_2 C dX3_layThing_20 hb0 zw45 ?_
    refine z_aload_n C dX3_layThing_23 rfl (j := 0) rfl ?_
    refine zg3_0 C dX3_layThing_24 hb0 zw42 ?_
    refine z_iload_n C dX3_layThing_27 rfl (j := 2) rfl ?_
    refine z_iast C dX3_layThing_28 (zH_ar2 hb0) h (fun m2 h => ?_)
    refine z_aload_n C dX3_layThing_29 rfl (j := 0) rfl ?_
    refine zg3_3 C dX3_layThing_30 hb0 zw46 ?_
    refine z_aload_n C dX3_layThing_33 rfl (j := 0) rfl ?_
    refine zg3_0 C dX3_layThing_34 hb0 zw42 ?_
    refine z_iload_n C dX3_layThing_37 rfl (j := 3) rfl ?_
    refine z_iast C dX3_layThing_38 (zH_ar3 hb0) h (fun m3 h => ?_)
    refine z_aload_n C dX3_layThing_39 rfl (j := 0) rfl ?_
    refine zg3_4 C dX3_layThing_40 hb0 zw47 ?_
    refine z_aload_n C dX3_layThing_43 rfl (j := 0) rfl ?_
    refine zg3_0 C dX3_layThing_44 hb0 zw42 ?_
    refine z_aload_n C dX3_layThing_47 rfl (j := 0) rfl ?_
    refine zg3_0 C dX3_layThing_48 hb0 zw42 ?_
    refine z_iast C dX3_layThing_51 (zH_ar4 hb0) h (fun m4 h => ?_)
    refine z_aload_n C dX3_layThing_52 rfl (j := 0) rfl ?_
    refine z_dup C dX3_layThing_53 rfl ?_
    refine zg3_0 C dX3_layThing_54 hb0 zw42 ?_
    refine z_iconst (v := 1) C dX3_layThing_57 zc1 ?_
    refine z_iadd C dX3_layThing_58 ?_
    refine zp3_0 C dX3_layThing_59 hb0 zw42 h (fun m5 h => ?_)
    have e := Option.some.inj h; subst e; exact z_vret C dX3_layThing_62 Rq
-- X3_hasThing
def fX3_hasThing (b0 : Nat) (a1 : Int32) (mem : ZM) : Option (Int32) :=
  if a1 < 0 then (some (0 : Int32)) else (if (mem b0 0) ≤ a1 then (some (0 : Int32)) else (some (1 : Int32)))
set_option maxRecDepth 100000 in
set_option maxHeartbeats 4000000 in
theorem sX3_hasThing {l : Launch} {E : ZE} {b0 : Nat} (hb0 : zH b0) {a1 : Int32} {mem : ZM} {t : Int32} (h : fX3_hasThing b0 a1 mem = some t) : zMet l E yX3_hasThing cX3_hasThing 2 (some .boolean) 0 [.ref (E.2.1 b0), .int a1] mem (some (.int t)) mem := by
  refine z_enter (by decide) (Nat.le_of_ble_eq_true rfl) (fun Γ C Rq => ?_)
  have C : zC E Γ RX3 cX3_hasThing 2 0 := C
  show zG l E Γ 2 0 [(0, .ref (E.2.1 b0)), (1, .int a1)] [] mem
  unfold fX3_hasThing at h
  refine z_iload_n C dX3_hasThing_0 rfl (j := 1) rfl ?_
  refine z_if_lt 16 C dX3_hasThing_1 (by decide) h (fun h => ?_) (fun h => ?_)
  · refine z_iconst (v := 0) C dX3_hasThing_16 zc0 ?_
    have e := Option.some.inj h; subst e; exact z_zret C dX3_hasThing_17 zbl0 Rq
  · refine z_iload_n C dX3_hasThing_4 rfl (j := 1) rfl ?_
    refine z_aload_n C dX3_hasThing_5 rfl (j := 0) rfl ?_
    refine zg3_0 C dX3_hasThing_6 hb0 zw42 ?_
    refine z_icmp_ge 16 C dX3_hasThing_9 (by decide) h (fun h => ?_) (fun h => ?_)
    · refine z_iconst (v := 0) C dX3_hasThing_16 zc0 ?_
      have e := Option.some.inj h; subst e; exact z_zret C dX3_hasThing_17 zbl0 Rq
    · refine z_iconst (v := 1) C dX3_hasThing_12 zc1 ?_
      refine z_goto 17 C dX3_hasThing_13 (by decide) ?_
      have e := Option.some.inj h; subst e; exact z_zret C dX3_hasThing_17 zbl1 Rq
-- X3_rakeOut
def fX3_rakeOut (b0 : Nat) (a1 : Int32) (mem : ZM) : Option (ZM) :=
  zlet (zst mem b0 6 ((mem b0 6) ||| ((1 : Int32) <<< (a1 &&& 31)))) (fun m1 => Option.bind (fX3_quench b0 a1 m1) (fun r2 => some r2))
set_option maxRecDepth 100000 in
set_option maxHeartbeats 4000000 in
theorem sX3_rakeOut {l : Launch} {E : ZE} {b0 : Nat} (hb0 : zH b0) {a1 : Int32} {mem : ZM} {t : ZM} (h : fX3_rakeOut b0 a1 mem = some t) : zMet l E yX3_rakeOut cX3_rakeOut 2 none 1 [.ref (E.2.1 b0), .int a1] mem none t := by
  refine z_enter (by decide) (Nat.le_of_ble_eq_true rfl) (fun Γ C Rq => ?_)
  have C : zC E Γ RX3 cX3_rakeOut 2 1 := C
  show zG l E Γ 2 0 [(0, .ref (E.2.1 b0)), (1, .int a1)] [] mem
  unfold fX3_rakeOut at h
  refine z_aload_n C dX3_rakeOut_0 rfl (j := 0) rfl ?_
  refine z_dup C dX3_rakeOut_1 rfl ?_
  refine zg3_6 C dX3_rakeOut_2 hb0 zw49 ?_
  refine z_iconst (v := 1) C dX3_rakeOut_5 zc1 ?_
  refine z_iload_n C dX3_rakeOut_6 rfl (j := 1) rfl ?_
  refine z_ishl C dX3_rakeOut_7 ?_
  refine z_ior C dX3_rakeOut_8 ?_
  refine zp3_6 C dX3_rakeOut_9 hb0 zw49 h (fun m1 h => ?_)
  refine z_aload_n C dX3_rakeOut_12 rfl (j := 0) rfl ?_
  refine z_iload_n C dX3_rakeOut_13 rfl (j := 1) rfl ?_
  obtain ⟨r2, h2, h⟩ := Option.bind_eq_some_iff.mp h
  refine z_callVv [.int a1] [] C dX3_rakeOut_14 (zH_lt hb0) (zH_ent hb0) rfl zk_X3_74 zw484 zw485 ⟨⟨by decide, by decide⟩, rfl, Nat.le_of_ble_eq_true rfl⟩ rfl (sX3_quench hb0 h2) ?_
  have e := Option.some.inj h; subst e; exact z_vret C dX3_rakeOut_17 Rq
-- X3_layOn
def fX3_layOn (b0 : Nat) (a1 : Int32) (mem : ZM) : Option (ZM) :=
  zlet (zst mem b0 6 ((mem b0 6) &&& (((1 : Int32) <<< (a1 &&& 31)) ^^^ (-1 : Int32)))) (fun m1 => some m1)
set_option maxRecDepth 100000 in
set_option maxHeartbeats 4000000 in
theorem sX3_layOn {l : Launch} {E : ZE} {b0 : Nat} (hb0 : zH b0) {a1 : Int32} {mem : ZM} {t : ZM} (h : fX3_layOn b0 a1 mem = some t) : zMet l E yX3_layOn cX3_layOn 2 none 0 [.ref (E.2.1 b0), .int a1] mem none t := by
  refine z_enter (by decide) (Nat.le_of_ble_eq_true rfl) (fun Γ C Rq => ?_)
  have C : zC E Γ RX3 cX3_layOn 2 0 := C
  show zG l E Γ 2 0 [(0, .ref (E.2.1 b0)), (1, .int a1)] [] mem
  unfold fX3_layOn at h
  refine z_aload_n C dX3_layOn_0 rfl (j := 0) rfl ?_
  refine z_dup C dX3_layOn_1 rfl ?_
  refine zg3_6 C dX3_layOn_2 hb0 zw49 ?_
  refine z_iconst (v := 1) C dX3_layOn_5 zc1 ?_
  refine z_iload_n C dX3_layOn_6 rfl (j := 1) rfl ?_
  refine z_ishl C dX3_layOn_7 ?_
  refine z_iconst (v := -1) C dX3_layOn_8 zcm1 ?_
  refine z_ixor C dX3_layOn_9 ?_
  refine z_iand C dX3_layOn_10 ?_
  refine zp3_6 C dX3_layOn_11 hb0 zw49 h (fun m1 h => ?_)
  have e := Option.some.inj h; subst e; exact z_vret C dX3_layOn_14 Rq
-- X3_heatOf
def fX3_heatOf (b0 : Nat) (a1 : Int32) (mem : ZM) : Option (Int32) :=
  Option.bind (fX3_placesLit b0 mem) (fun r1 => zlet r1 (fun v2 => Option.bind (fX3_isOut b0 a1 mem) (fun r3 => if r3 = 0 then (zgd (zin a1 8) (Option.bind (fX3_placesOfHotIron b0 v2 mem) (fun r4 => Option.bind (fX3_heatAt b0 (mem (b0 + 4) a1.toNatClampNeg) v2 r4 mem) (fun r5 => some r5)))) else (some (0 : Int32)))))
set_option maxRecDepth 100000 in
set_option maxHeartbeats 4000000 in
theorem sX3_heatOf {l : Launch} {E : ZE} {b0 : Nat} (hb0 : zH b0) {a1 : Int32} {mem : ZM} {t : Int32} (h : fX3_heatOf b0 a1 mem = some t) : zMet l E yX3_heatOf cX3_heatOf 3 (some .int) 2 [.ref (E.2.1 b0), .int a1] mem (some (.int t)) mem := by
  refine z_enter (by decide) (Nat.le_of_ble_eq_true rfl) (fun Γ C Rq => ?_)
  have C : zC E Γ RX3 cX3_heatOf 3 2 := C
  show zG l E Γ 3 0 [(0, .ref (E.2.1 b0)), (1, .int a1)] [] mem
  unfold fX3_heatOf at h
  refine z_aload_n C dX3_heatOf_0 rfl (j := 0) rfl ?_
  obtain ⟨r1, h1, h⟩ := Option.bind_eq_some_iff.mp h
  refine z_callVi [] [] C dX3_heatOf_1 (zH_lt hb0) (zH_ent hb0) rfl zk_X3_78 zw444 zw445 ⟨⟨by decide, by decide⟩, rfl, Nat.le_of_ble_eq_true rfl⟩ rfl (sX3_placesLit hb0 h1) ?_
  refine z_istore_n [(0, .ref (E.2.1 b0)), (1, .int a1)] C dX3_heatOf_4 h rfl (by decide) rfl (fun v2 h => ?_)
  refine z_aload_n C dX3_heatOf_5 rfl (j := 1) rfl ?_
  refine z_iload_n C dX3_heatOf_6 rfl (j := 2) rfl ?_
  obtain ⟨r3, h3, h⟩ := Option.bind_eq_some_iff.mp h
  refine z_callVi [.int a1] [] C dX3_heatOf_7 (zH_lt hb0) (zH_ent hb0) rfl zk_X3_56 zw456 zw457 ⟨⟨by decide, by decide⟩, rfl, Nat.le_of_ble_eq_true rfl⟩ rfl (sX3_isOut hb0 h3) ?_
  refine z_if_eq 17 C dX3_heatOf_10 (by decide) h (fun h => ?_) (fun h => ?_)
  · refine z_aload_n C dX3_heatOf_17 rfl (j := 1) rfl ?_
    refine z_aload_n C dX3_heatOf_18 rfl (j := 1) rfl ?_
    refine zg3_4 C dX3_heatOf_19 hb0 zw47 ?_
    refine z_iload_n C dX3_heatOf_22 rfl (j := 2) rfl ?_
    refine z_iald C dX3_heatOf_23 (zH_ar4 hb0) h (fun h => ?_)
    refine z_iload_n C dX3_heatOf_24 rfl (j := 0) rfl ?_
    refine z_aload_n C dX3_heatOf_25 rfl (j := 1) rfl ?_
    refine z_iload_n C dX3_heatOf_26 rfl (j := 0) rfl ?_
    obtain ⟨r4, h4, h⟩ := Option.bind_eq_some_iff.mp h
    refine z_callVi [.int v2] [.int v2, .int (mem (b0 + 4) a1.toNatClampNeg), .ref (E.2.1 b0)] C dX3_heatOf_27 (zH_lt hb0) (zH_ent hb0) rfl zk_X3_82 zw452 zw453 ⟨⟨by decide, by decide⟩, rfl, Nat.le_of_ble_eq_true rfl⟩ rfl (sX3_placesOfHotIron hb0 h4) ?_
    obtain ⟨r5, h5, h⟩ := Option.bind_eq_some_iff.mp h
    refine z_callVi [.int (mem (b0 + 4) a1.toNatClampNeg), .int v2, .int r4] [] C dX3_heatOf_30 (zH_lt hb0) (zH_ent hb0) rfl zk_X3_86 zw463 zw464 ⟨⟨by decide, by decide⟩, rfl, Nat.le_of_ble_eq_true rfl⟩ rfl (sX3_heatAt hb0 h5) ?_
    have e := Option.some.inj h; subst e; exact z_iret C dX3_heatOf_33 Rq
  · refine z_iconst (v := 0) C dX3_heatOf_13 zc0 ?_
    refine z_goto 33 C dX3_heatOf_14 (by decide) ?_
    have e := Option.some.inj h; subst e; exact z_iret C dX3_heatOf_33 Rq
-- X4_isMissing
def fX4_isMissing (b0 : Nat)  (mem : ZM) : Option (Int32) :=
  if (mem b0 0) = (-1 : Int32) then (some (1 : Int32)) else (some (0 : Int32))
set_option maxRecDepth 100000 in
set_option maxHeartbeats 4000000 in
theorem sX4_isMissing {l : Launch} {E : ZE} {b0 : Nat} (hb0 : zRw b0)  {mem : ZM} {t : Int32} (h : fX4_isMissing b0 mem = some t) : zMet l E yX4_isMissing cX4_isMissing 1 (some .boolean) 0 [.ref (E.2.1 b0)] mem (some (.int t)) mem := by
  refine z_enter (by decide) (Nat.le_of_ble_eq_true rfl) (fun Γ C Rq => ?_)
  have C : zC E Γ RX4 cX4_isMissing 1 0 := C
  show zG l E Γ 1 0 [(0, .ref (E.2.1 b0))] [] mem
  unfold fX4_isMissing at h
  refine z_aload_n C dX4_isMissing_0 rfl (j := 0) rfl ?_
  refine zg4_0 C dX4_isMissing_1 hb0 zw91 ?_
  refine z_iconst (v := -1) C dX4_isMissing_4 zcm1 ?_
  refine z_icmp_ne 12 C dX4_isMissing_5 (by decide) h (fun h => ?_) (fun h => ?_)
  · refine z_iconst (v := 0) C dX4_isMissing_12 zc0 ?_
    have e := Option.some.inj h; subst e; exact z_zret C dX4_isMissing_13 zbl0 Rq
  · refine z_iconst (v := 1) C dX4_isMissing_8 zc1 ?_
    refine z_goto 13 C dX4_isMissing_9 (by decide) ?_
    have e := Option.some.inj h; subst e; exact z_zret C dX4_isMissing_13 zbl1 Rq
-- X4_begin
def fX4_begin_b12 (b0 : Nat)  (x12_3 : Int32) (memb : ZM) : Option ((Int32 × ZM) ⊕ (Int32 × ZM)) :=
  if (40 : Int32) ≤ x12_3 then (some (Sum.inr (x12_3, memb))) else (zgd (zin x12_3 40) (zlet (zst memb (b0 + 1) x12_3.toNatClampNeg (0 : Int32)) (fun m5 => zlet (x12_3 + (1 : Int32)) (fun v6 => some (Sum.inl (v6, m5))))))
def fX4_begin_l12 (b0 : Nat)  (s : Int32 × ZM) : Option (Int32 × ZM) := ziter (fun s => fX4_begin_b12 b0 s.1 s.2) 2000 s
set_option maxRecDepth 100000 in
set_option maxHeartbeats 4000000 in
theorem bX4_begin_12 {l : Launch} {E : ZE} {Γ : ZG} (C : zC E Γ RX4 cX4_begin 4 0) {b0 : Nat} (hb0 : zRw b0)  {x12_3 : Int32} {memb : ZM} {u : (Int32 × ZM) ⊕ (Int32 × ZM)} (G1 : ∀ s', u = Sum.inl s' → zG l E Γ 4 12 [(0, .ref (E.2.1 b0)), (3, .int (s'.1))] [] s'.2) (G2 : ∀ s', u = Sum.inr s' → zG l E Γ 4 31 [] [] s'.2) (h : fX4_begin_b12 b0 x12_3 memb = some u) : zG l E Γ 4 12 [(0, .ref (E.2.1 b0)), (3, .int x12_3)] [] memb := by
  unfold fX4_begin_b12 at h
  refine z_iload_n C dX4_begin_12 rfl (j := 1) rfl ?_
  refine z_bipush (v := 40) C dX4_begin_13 zb40 ?_
  refine z_icmp_ge 31 C dX4_begin_15 (by decide) h (fun h => ?_) (fun h => ?_)
  · refine z_pick [] rfl ?_
    exact G2 _ (Option.some.inj h).symm
  · refine z_aload_n C dX4_begin_18 rfl (j := 0) rfl ?_
    refine zg4_2 C dX4_begin_19 hb0 zw93 ?_
    refine z_iload_n C dX4_begin_22 rfl (j := 1) rfl ?_
    refine z_iconst (v := 0) C dX4_begin_23 zc0 ?_
    refine z_iast C dX4_begin_24 (zRw_ar hb0) h (fun m5 h => ?_)
    refine z_iinc [(0, .ref (E.2.1 b0))] C dX4_begin_25 zc1 h (j := 1) rfl (by decide) rfl (fun v6 h => ?_)
    refine z_goto 12 C dX4_begin_28 (by decide) ?_
    refine z_pick [1, 0] rfl ?_
    exact G1 _ (Option.some.inj h).symm
theorem lX4_begin_12 {l : Launch} {E : ZE} {Γ : ZG} (C : zC E Γ RX4 cX4_begin 4 0) {b0 : Nat} (hb0 : zRw b0)  {s : Int32 × ZM} {r : Int32 × ZM} (h : fX4_begin_l12 b0 s = some r) (K1 : zG l E Γ 4 31 [] [] r.2) : zG l E Γ 4 12 [(0, .ref (E.2.1 b0)), (3, .int s.1)] [] s.2 :=
  z_loop (body := fun s => fX4_begin_b12 b0 s.1 s.2) (fun s => zG l E Γ 4 12 [(0, .ref (E.2.1 b0)), (3, .int s.1)] [] s.2) (fun r => zG l E Γ 4 31 [] [] r.2) (fun s u hb g1 g2 => bX4_begin_12 C hb0 g1 g2 hb) 2000 s r h K1
def fX4_begin (b0 : Nat) (a1 : Int32) (a2 : Int32) (mem : ZM) : Option (ZM) :=
  zlet (zst mem b0 0 a1) (fun m1 => zlet (zst m1 b0 1 a2) (fun m2 => zlet (0 : Int32) (fun v3 => Option.bind (fX4_begin_l12 b0 (v3, m2)) (fun r4 => some r4.2))))
set_option maxRecDepth 100000 in
set_option maxHeartbeats 4000000 in
theorem sX4_begin {l : Launch} {E : ZE} {b0 : Nat} (hb0 : zRw b0) {a1 : Int32} {a2 : Int32} {mem : ZM} {t : ZM} (h : fX4_begin b0 a1 a2 mem = some t) : zMet l E yX4_begin cX4_begin 4 none 0 [.ref (E.2.1 b0), .int a1, .int a2] mem none t := by
  refine z_enter (by decide) (Nat.le_of_ble_eq_true rfl) (fun Γ C Rq => ?_)
  have C : zC E Γ RX4 cX4_begin 4 0 := C
  show zG l E Γ 4 0 [(0, .ref (E.2.1 b0)), (1, .int a1), (2, .int a2)] [] mem
  unfold fX4_begin at h
  refine z_aload_n C dX4_begin_0 rfl (j := 0) rfl ?_
  refine z_iload_n C dX4_begin_1 rfl (j := 1) rfl ?_
  refine zp4_0 C dX4_begin_2 hb0 zw91 h (fun m1 h => ?_)
  refine z_aload_n C dX4_begin_5 rfl (j := 0) rfl ?_
  refine z_iload_n C dX4_begin_6 rfl (j := 2) rfl ?_
  refine zp4_1 C dX4_begin_7 hb0 zw92 h (fun m2 h => ?_)
  refine z_iconst (v := 0) C dX4_begin_10 zc0 ?_
  refine z_istore_n [(0, .ref (E.2.1 b0)), (1, .int a1), (2, .int a2)] C dX4_begin_11 h rfl (by decide) rfl (fun v3 h => ?_)
  obtain ⟨r4, h4, h⟩ := Option.bind_eq_some_iff.mp h
  refine z_pick [1, 0] rfl ?_
  refine lX4_begin_12 C hb0 h4 ?_
  have e := Option.some.inj h; subst e; exact z_vret C dX4_begin_31 Rq
-- X4_lose
def fX4_lose (b0 : Nat)  (mem : ZM) : Option (ZM) :=
  zlet (zst mem b0 0 (-1 : Int32)) (fun m1 => zlet (zst m1 b0 1 (0 : Int32)) (fun m2 => some m2))
set_option maxRecDepth 100000 in
set_option maxHeartbeats 4000000 in
theorem sX4_lose {l : Launch} {E : ZE} {b0 : Nat} (hb0 : zRw b0)  {mem : ZM} {t : ZM} (h : fX4_lose b0 mem = some t) : zMet l E yX4_lose cX4_lose 1 none 0 [.ref (E.2.1 b0)] mem none t := by
  refine z_enter (by decide) (Nat.le_of_ble_eq_true rfl) (fun Γ C Rq => ?_)
  have C : zC E Γ RX4 cX4_lose 1 0 := C
  show zG l E Γ 1 0 [(0, .ref (E.2.1 b0))] [] mem
  unfold fX4_lose at h
  refine z_aload_n C dX4_lose_0 rfl (j := 0) rfl ?_
  refine z_iconst (v := -1) C dX4_lose_1 zcm1 ?_
  refine zp4_0 C dX4_lose_2 hb0 zw91 h (fun m1 h => ?_)
  refine z_aload_n C dX4_lose_5 rfl (j := 0) rfl ?_
  refine z_iconst (v := 0) C dX4_lose_6 zc0 ?_
  refine zp4_1 C dX4_lose_7 hb0 zw92 h (fun m2 h => ?_)
  have e := Option.some.inj h; subst e; exact z_vret C dX4_lose_10 Rq
-- X4_holds
def fX4_holds (b0 : Nat) (a1 : Int32) (a2 : Int32) (mem : ZM) : Option (Int32) :=
  if a1 < 0 then (some (0 : Int32)) else (if a2 < 0 then (some (0 : Int32)) else (if (mem b0 1) < a1 then (some (0 : Int32)) else (if ((mem b0 1) - a1) < a2 then (some (0 : Int32)) else (some (1 : Int32)))))
set_option maxRecDepth 100000 in
set_option maxHeartbeats 4000000 in
theorem sX4_holds {l : Launch} {E : ZE} {b0 : Nat} (hb0 : zRw b0) {a1 : Int32} {a2 : Int32} {mem : ZM} {t : Int32} (h : fX4_holds b0 a1 a2 mem = some t) : zMet l E yX4_holds cX4_holds 3 (some .boolean) 0 [.ref (E.2.1 b0), .int a1, .int a2] mem (some (.int t)) mem := by
  refine z_enter (by decide) (Nat.le_of_ble_eq_true rfl) (fun Γ C Rq => ?_)
  have C : zC E Γ RX4 cX4_holds 3 0 := C
  show zG l E Γ 3 0 [(0, .ref (E.2.1 b0)), (1, .int a1), (2, .int a2)] [] mem
  unfold fX4_holds at h
  refine z_iload_n C dX4_holds_0 rfl (j := 1) rfl ?_
  refine z_if_lt 30 C dX4_holds_1 (by decide) h (fun h => ?_) (fun h => ?_)
  · refine z_iconst (v := 0) C dX4_holds_30 zc0 ?_
    have e := Option.some.inj h; subst e; exact z_zret C dX4_holds_31 zbl0 Rq
  · refine z_iload_n C dX4_holds_4 rfl (j := 2) rfl ?_
    refine z_if_lt 30 C dX4_holds_5 (by decide) h (fun h => ?_) (fun h => ?_)
    · refine z_iconst (v := 0) C dX4_holds_30 zc0 ?_
      have e := Option.some.inj h; subst e; exact z_zret C dX4_holds_31 zbl0 Rq
    · refine z_iload_n C dX4_holds_8 rfl (j := 1) rfl ?_
      refine z_aload_n C dX4_holds_9 rfl (j := 0) rfl ?_
      refine zg4_1 C dX4_holds_10 hb0 zw92 ?_
      refine z_icmp_gt 30 C dX4_holds_13 (by decide) h (fun h => ?_) (fun h => ?_)
      · refine z_iconst (v := 0) C dX4_holds_30 zc0 ?_
        have e := Option.some.inj h; subst e; exact z_zret C dX4_holds_31 zbl0 Rq
      · refine z_iload_n C dX4_holds_16 rfl (j := 2) rfl ?_
        refine z_aload_n C dX4_holds_17 rfl (j := 0) rfl ?_
        refine zg4_1 C dX4_holds_18 hb0 zw92 ?_
        refine z_iload_n C dX4_holds_21 rfl (j := 1) rfl ?_
        refine z_isub C dX4_holds_22 ?_
        refine z_icmp_gt 30 C dX4_holds_23 (by decide) h (fun h => ?_) (fun h => ?_)
        · refine z_iconst (v := 0) C dX4_holds_30 zc0 ?_
          have e := Option.some.inj h; subst e; exact z_zret C dX4_holds_31 zbl0 Rq
        · refine z_iconst (v := 1) C dX4_holds_26 zc1 ?_
          refine z_goto 31 C dX4_holds_27 (by decide) ?_
          have e := Option.some.inj h; subst e; exact z_zret C dX4_holds_31 zbl1 Rq
-- X4_put
def fX4_put_j26 (b0 : Nat) (x1 : Int32) (x3 : Int32) (mem : ZM) : Option (Int32 × ZM) :=
  zgd (zin x1 40) (zlet (zst mem (b0 + 1) x1.toNatClampNeg x3) (fun m2 => some (x3, m2)))
set_option maxRecDepth 100000 in
set_option maxHeartbeats 4000000 in
theorem jX4_put_26 {l : Launch} {E : ZE} {Γ : ZG} (C : zC E Γ RX4 cX4_put 4 0) {b0 : Nat} (hb0 : zRw b0) {x1 : Int32} {x3 : Int32}  {mem : ZM}  {t : Int32 × ZM}  (Rq : zRq E Γ (some .int) (some (.int t.1)) t.2) (h : fX4_put_j26 b0 x1 x3 mem = some t) : zG l E Γ 4 26 [(0, .ref (E.2.1 b0)), (1, .int x1), (3, .int x3)] [] mem := by
  unfold fX4_put_j26 at h
  refine z_aload_n C dX4_put_26 rfl (j := 0) rfl ?_
  refine zg4_2 C dX4_put_27 hb0 zw93 ?_
  refine z_iload_n C dX4_put_30 rfl (j := 1) rfl ?_
  refine z_iload_n C dX4_put_31 rfl (j := 2) rfl ?_
  refine z_iast C dX4_put_32 (zRw_ar hb0) h (fun m2 h => ?_)
  refine z_iload_n C dX4_put_33 rfl (j := 2) rfl ?_
  have e := Option.some.inj h; subst e; exact z_iret C dX4_put_34 Rq
def fX4_put (b0 : Nat) (a1 : Int32) (a2 : Int32) (mem : ZM) : Option (Int32 × ZM) :=
  zlet a2 (fun v1 => if (mem b0 0) = 0 then (zlet a2.toInt8.toInt32 (fun v4 => fX4_put_j26 b0 a1 v4 mem)) else (if (mem b0 0) = (1 : Int32) then (zlet a2.toInt16.toInt32 (fun v3 => fX4_put_j26 b0 a1 v3 mem)) else (fX4_put_j26 b0 a1 v1 mem)))
set_option maxRecDepth 100000 in
set_option maxHeartbeats 4000000 in
theorem sX4_put {l : Launch} {E : ZE} {b0 : Nat} (hb0 : zRw b0) {a1 : Int32} {a2 : Int32} {mem : ZM} {t : Int32 × ZM} (h : fX4_put b0 a1 a2 mem = some t) : zMet l E yX4_put cX4_put 4 (some .int) 0 [.ref (E.2.1 b0), .int a1, .int a2] mem (some (.int t.1)) t.2 := by
  refine z_enter (by decide) (Nat.le_of_ble_eq_true rfl) (fun Γ C Rq => ?_)
  have C : zC E Γ RX4 cX4_put 4 0 := C
  show zG l E Γ 4 0 [(0, .ref (E.2.1 b0)), (1, .int a1), (2, .int a2)] [] mem
  unfold fX4_put at h
  refine z_iload_n C dX4_put_0 rfl (j := 2) rfl ?_
  refine z_istore_n [(0, .ref (E.2.1 b0)), (1, .int a1), (2, .int a2)] C dX4_put_1 h rfl (by decide) rfl (fun v1 h => ?_)
  refine z_aload_n C dX4_put_2 rfl (j := 1) rfl ?_
  refine zg4_0 C dX4_put_3 hb0 zw91 ?_
  refine z_if_ne 15 C dX4_put_6 (by decide) h (fun h => ?_) (fun h => ?_)
  · refine z_aload_n C dX4_put_15 rfl (j := 1) rfl ?_
    refine zg4_0 C dX4_put_16 hb0 zw91 ?_
    refine z_iconst (v := 1) C dX4_put_19 zc1 ?_
    refine z_icmp_ne 26 C dX4_put_20 (by decide) h (fun h => ?_) (fun h => ?_)
    · refine z_pick [1, 2, 0] rfl ?_
      exact jX4_put_26 C hb0  Rq h
    · refine z_iload_n C dX4_put_23 rfl (j := 3) rfl ?_
      refine z_i2s C dX4_put_24 ?_
      refine z_istore_n [(0, .ref (E.2.1 b0)), (1, .int a1), (2, .int a2)] C dX4_put_25 h rfl (by decide) rfl (fun v3 h => ?_)
      refine z_pick [1, 2, 0] rfl ?_
      exact jX4_put_26 C hb0  Rq h
  · refine z_iload_n C dX4_put_9 rfl (j := 3) rfl ?_
    refine z_i2b C dX4_put_10 ?_
    refine z_istore_n [(0, .ref (E.2.1 b0)), (1, .int a1), (2, .int a2)] C dX4_put_11 h rfl (by decide) rfl (fun v4 h => ?_)
    refine z_goto 26 C dX4_put_12 (by decide) ?_
    refine z_pick [1, 2, 0] rfl ?_
    exact jX4_put_26 C hb0  Rq h
-- X5_takeByte
def fX5_takeByte  (a1 : Int32) (mem : ZM) : Option (Int32 × ZM) :=
  if (mem 3 1) < (90 : Int32) then (zgd (zin (mem 3 1) 90) (zlet (zst mem 4 (mem 3 1).toNatClampNeg a1) (fun m1 => zlet (zst m1 3 1 ((m1 3 1) + (1 : Int32))) (fun m2 => some ((1 : Int32), m2))))) else (some ((0 : Int32), mem))
set_option maxRecDepth 100000 in
set_option maxHeartbeats 4000000 in
theorem sX5_takeByte {l : Launch} {E : ZE}  {a1 : Int32} {mem : ZM} {t : Int32 × ZM} (h : fX5_takeByte a1 mem = some t) : zMet l E yX5_takeByte cX5_takeByte 2 (some .boolean) 0 [.ref (E.2.1 3), .int a1] mem (some (.int t.1)) t.2 := by
  refine z_enter (by decide) (Nat.le_of_ble_eq_true rfl) (fun Γ C Rq => ?_)
  have C : zC E Γ RX5 cX5_takeByte 2 0 := C
  show zG l E Γ 2 0 [(0, .ref (E.2.1 3)), (1, .int a1)] [] mem
  unfold fX5_takeByte at h
  refine z_aload_n C dX5_takeByte_0 rfl (j := 0) rfl ?_
  refine zg5_1 C dX5_takeByte_1 zw57 ?_
  refine z_bipush (v := 90) C dX5_takeByte_4 zb90 ?_
  refine z_icmp_lt 11 C dX5_takeByte_6 (by decide) h (fun h => ?_) (fun h => ?_)
  · refine z_aload_n C dX5_takeByte_11 rfl (j := 0) rfl ?_
    refine zg5_0 C dX5_takeByte_12 zw56 ?_
    refine z_aload_n C dX5_takeByte_15 rfl (j := 0) rfl ?_
    refine zg5_1 C dX5_takeByte_16 zw57 ?_
    refine z_iload_n C dX5_takeByte_19 rfl (j := 1) rfl ?_
    refine z_iast C dX5_takeByte_20 zar4 h (fun m1 h => ?_)
    refine z_aload_n C dX5_takeByte_21 rfl (j := 0) rfl ?_
    refine z_dup C dX5_takeByte_22 rfl ?_
    refine zg5_1 C dX5_takeByte_23 zw57 ?_
    refine z_iconst (v := 1) C dX5_takeByte_26 zc1 ?_
    refine z_iadd C dX5_takeByte_27 ?_
    refine zp5_1 C dX5_takeByte_28 zw57 h (fun m2 h => ?_)
    refine z_iconst (v := 1) C dX5_takeByte_31 zc1 ?_
    have e := Option.some.inj h; subst e; exact z_zret C dX5_takeByte_32 zbl1 Rq
  · refine z_iconst (v := 0) C dX5_takeByte_9 zc0 ?_
    have e := Option.some.inj h; subst e; exact z_zret C dX5_takeByte_10 zbl0 Rq
-- X5_failWith
def fX5_failWith  (a1 : Int32) (mem : ZM) : Option (Int32 × ZM) :=
  zlet (zst mem 3 3 a1) (fun m1 => some ((0 : Int32), m1))
set_option maxRecDepth 100000 in
set_option maxHeartbeats 4000000 in
theorem sX5_failWith {l : Launch} {E : ZE}  {a1 : Int32} {mem : ZM} {t : Int32 × ZM} (h : fX5_failWith a1 mem = some t) : zMet l E yX5_failWith cX5_failWith 2 (some .boolean) 0 [.ref (E.2.1 3), .int a1] mem (some (.int t.1)) t.2 := by
  refine z_enter (by decide) (Nat.le_of_ble_eq_true rfl) (fun Γ C Rq => ?_)
  have C : zC E Γ RX5 cX5_failWith 2 0 := C
  show zG l E Γ 2 0 [(0, .ref (E.2.1 3)), (1, .int a1)] [] mem
  unfold fX5_failWith at h
  refine z_aload_n C dX5_failWith_0 rfl (j := 0) rfl ?_
  refine z_iload_n C dX5_failWith_1 rfl (j := 1) rfl ?_
  refine zp5_3 C dX5_failWith_2 zw59 h (fun m1 h => ?_)
  refine z_iconst (v := 0) C dX5_failWith_5 zc0 ?_
  have e := Option.some.inj h; subst e; exact z_zret C dX5_failWith_6 zbl0 Rq
-- X5_readSign
def fX5_readSign_j24   (mem : ZM) : Option (Int32 × ZM) :=
  Option.bind (fX5_failWith (1 : Int32) mem) (fun r1 => zgd (zbl r1.1) (some (r1.1, r1.2)))
set_option maxRecDepth 100000 in
set_option maxHeartbeats 4000000 in
theorem jX5_readSign_24 {l : Launch} {E : ZE} {Γ : ZG} (C : zC E Γ RX5 cX5_readSign 2 1)    {mem : ZM}  {t : Int32 × ZM}  (Rq : zRq E Γ (some .boolean) (some (.int t.1)) t.2) (h : fX5_readSign_j24  mem = some t) : zG l E Γ 2 24 [(0, .ref (E.2.1 3))] [] mem := by
  unfold fX5_readSign_j24 at h
  refine z_aload_n C dX5_readSign_24 rfl (j := 0) rfl ?_
  refine z_iconst (v := 1) C dX5_readSign_25 zc1 ?_
  obtain ⟨r1, h1, h⟩ := Option.bind_eq_some_iff.mp h
  refine z_callVi [.int (1 : Int32)] [] C dX5_readSign_26 (by decide) zen_3 rfl zk_X5_54 zw242 zw243 ⟨⟨by decide, by decide⟩, rfl, Nat.le_of_ble_eq_true rfl⟩ rfl (sX5_failWith  h1) ?_
  obtain ⟨hg, h⟩ := zgd_some h
  have e := Option.some.inj h; subst e; exact z_zret C dX5_readSign_29 hg Rq
def fX5_readSign  (a1 : Int32) (mem : ZM) : Option (Int32 × ZM) :=
  if (mem 3 1) ≤ (mem 3 2) then (fX5_readSign_j24  mem) else (zgd (zin (mem 3 2) 90) (if (mem 4 (mem 3 2).toNatClampNeg) = a1 then (zlet (zst mem 3 2 ((mem 3 2) + (1 : Int32))) (fun m2 => some ((1 : Int32), m2))) else (fX5_readSign_j24  mem)))
set_option maxRecDepth 100000 in
set_option maxHeartbeats 4000000 in
theorem sX5_readSign {l : Launch} {E : ZE}  {a1 : Int32} {mem : ZM} {t : Int32 × ZM} (h : fX5_readSign a1 mem = some t) : zMet l E yX5_readSign cX5_readSign 2 (some .boolean) 1 [.ref (E.2.1 3), .int a1] mem (some (.int t.1)) t.2 := by
  refine z_enter (by decide) (Nat.le_of_ble_eq_true rfl) (fun Γ C Rq => ?_)
  have C : zC E Γ RX5 cX5_readSign 2 1 := C
  show zG l E Γ 2 0 [(0, .ref (E.2.1 3)), (1, .int a1)] [] mem
  unfold fX5_readSign at h
  refine z_aload_n C dX5_readSign_0 rfl (j := 0) rfl ?_
  refine zg5_2 C dX5_readSign_1 zw58 ?_
  refine z_aload_n C dX5_readSign_4 rfl (j := 0) rfl ?_
  refine zg5_1 C dX5_readSign_5 zw57 ?_
  refine z_icmp_ge 24 C dX5_readSign_8 (by decide) h (fun h => ?_) (fun h => ?_)
  · refine z_pick [0] rfl ?_
    exact jX5_readSign_24 C   Rq h
  · refine z_aload_n C dX5_readSign_11 rfl (j := 0) rfl ?_
    refine zg5_0 C dX5_readSign_12 zw56 ?_
    refine z_aload_n C dX5_readSign_15 rfl (j := 0) rfl ?_
    refine zg5_2 C dX5_readSign_16 zw58 ?_
    refine z_iald C dX5_readSign_19 zar4 h (fun h => ?_)
    refine z_iload_n C dX5_readSign_20 rfl (j := 1) rfl ?_
    refine z_icmp_eq 30 C dX5_readSign_21 (by decide) h (fun h => ?_) (fun h => ?_)
    · refine z_aload_n C dX5_readSign_30 rfl (j := 0) rfl ?_
      refine z_dup C dX5_readSign_31 rfl ?_
      refine zg5_2 C dX5_readSign_32 zw58 ?_
      refine z_iconst (v := 1) C dX5_readSign_35 zc1 ?_
      refine z_iadd C dX5_readSign_36 ?_
      refine zp5_2 C dX5_readSign_37 zw58 h (fun m2 h => ?_)
      refine z_iconst (v := 1) C dX5_readSign_40 zc1 ?_
      have e := Option.some.inj h; subst e; exact z_zret C dX5_readSign_41 zbl1 Rq
    · refine z_pick [0] rfl ?_
      exact jX5_readSign_24 C   Rq h
