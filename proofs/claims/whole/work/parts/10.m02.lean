-- X2_hoursOn
def fX2_hoursOn (q1 : Nat) (a2 : Int32) (mem : ZM) : Option (ZM) :=
  Option.bind (fX3_takeFrom 37 q1 mem) (fun r1 => Option.bind (fX2_tryHours a2 r1) (fun r2 => some r2))
set_option maxRecDepth 100000 in
set_option maxHeartbeats 4000000 in
theorem sX2_hoursOn {l : Launch} {E : ZE} {q1 : Nat} (hq1 : zH q1) {a2 : Int32} {mem : ZM} {t : ZM} (h : fX2_hoursOn q1 a2 mem = some t) : zMet l E yX2_hoursOn cX2_hoursOn 3 (some (.object "BonfireHeaps$Heap")) 5 [.ref (E.2.1 14), .ref (E.2.1 q1), .int a2] mem (some (.ref (E.2.1 37))) t := by
  refine z_enter (by decide) (Nat.le_of_ble_eq_true rfl) (fun Γ C Rq => ?_)
  have C : zC E Γ RX2 cX2_hoursOn 3 5 := C
  show zG l E Γ 3 0 [(0, .ref (E.2.1 14)), (1, .ref (E.2.1 q1)), (2, .int a2)] [] mem
  unfold fX2_hoursOn at h
  refine z_aload_n C dX2_hoursOn_0 rfl (j := 0) rfl ?_
  refine zg2_0 C dX2_hoursOn_1 zw78 ?_
  refine z_aload_n C dX2_hoursOn_4 rfl (j := 1) rfl ?_
  obtain ⟨r1, h1, h⟩ := Option.bind_eq_some_iff.mp h
  refine z_callVv [.ref (E.2.1 q1)] [] C dX2_hoursOn_5 (zH_lt zH37) (zH_ent zH37) rfl zk_X2_18 zw352 zw353 ⟨⟨by decide, by decide⟩, rfl, Nat.le_of_ble_eq_true rfl⟩ rfl (sX3_takeFrom zH37 hq1 h1) ?_
  refine z_aload_n C dX2_hoursOn_8 rfl (j := 0) rfl ?_
  refine z_iload_n C dX2_hoursOn_9 rfl (j := 2) rfl ?_
  obtain ⟨r2, h2, h⟩ := Option.bind_eq_some_iff.mp h
  refine z_callVv [.int a2] [] C dX2_hoursOn_10 (by decide) zen_14 rfl zk_X2_22 zw680 zw681 ⟨⟨by decide, by decide⟩, rfl, Nat.le_of_ble_eq_true rfl⟩ rfl (sX2_tryHours  h2) ?_
  refine z_aload_n C dX2_hoursOn_13 rfl (j := 0) rfl ?_
  refine zg2_0 C dX2_hoursOn_14 zw78 ?_
  have e := Option.some.inj h; subst e; exact z_aret C dX2_hoursOn_17 Rq
-- X2_tryUntilLit
def fX2_tryUntilLit_b2  (y2_1 : Int32) (y2_2 : Int32) (x2_3 : Int32) (memb : ZM) : Option ((Int32 × ZM) ⊕ ((Int32 × ZM) ⊕ (Int32 × ZM))) :=
  if y2_2 < x2_3 then (some (Sum.inr (Sum.inl (x2_3, memb)))) else (if (memb 37 5) = 0 then (some (Sum.inr (Sum.inl (x2_3, memb)))) else (Option.bind (fX3_isLit 37 y2_1 memb) (fun r3 => if r3 = 0 then (Option.bind (fX3_passHour 37 memb) (fun r4 => zlet (x2_3 + (1 : Int32)) (fun v5 => some (Sum.inl (v5, r4))))) else (some (Sum.inr (Sum.inr (x2_3, memb)))))))
def fX2_tryUntilLit_l2  (y2_1 : Int32) (y2_2 : Int32) (s : Int32 × ZM) : Option ((Int32 × ZM) ⊕ (Int32 × ZM)) := ziter (fun s => fX2_tryUntilLit_b2 y2_1 y2_2 s.1 s.2) 2000 s
set_option maxRecDepth 100000 in
set_option maxHeartbeats 4000000 in
theorem bX2_tryUntilLit_2 {l : Launch} {E : ZE} {Γ : ZG} (C : zC E Γ RX2 cX2_tryUntilLit 4 4)  {y2_1 : Int32} {y2_2 : Int32} {x2_3 : Int32} {memb : ZM} {u : (Int32 × ZM) ⊕ ((Int32 × ZM) ⊕ (Int32 × ZM))} (G1 : ∀ s', u = Sum.inl s' → zG l E Γ 4 2 [(0, .ref (E.2.1 14)), (1, .int y2_1), (2, .int y2_2), (3, .int (s'.1))] [] s'.2) (G2 : ∀ s', u = Sum.inr (Sum.inl s') → zG l E Γ 4 43 [] [] s'.2) (G3 : ∀ t', u = Sum.inr (Sum.inr t') → zRq E Γ (some .int) (some (.int t'.1)) t'.2) (h : fX2_tryUntilLit_b2 y2_1 y2_2 x2_3 memb = some u) : zG l E Γ 4 2 [(0, .ref (E.2.1 14)), (1, .int y2_1), (2, .int y2_2), (3, .int x2_3)] [] memb := by
  unfold fX2_tryUntilLit_b2 at h
  refine z_iload_n C dX2_tryUntilLit_2 rfl (j := 3) rfl ?_
  refine z_iload_n C dX2_tryUntilLit_3 rfl (j := 2) rfl ?_
  refine z_icmp_gt 43 C dX2_tryUntilLit_4 (by decide) h (fun h => ?_) (fun h => ?_)
  · refine z_pick [] rfl ?_
    exact G2 _ (Option.some.inj h).symm
  · refine z_aload_n C dX2_tryUntilLit_7 rfl (j := 0) rfl ?_
    refine zg2_0 C dX2_tryUntilLit_8 zw78 ?_
    refine zg3_5 C dX2_tryUntilLit_11 zH37 zw683 ?_
    refine z_if_eq 43 C dX2_tryUntilLit_14 (by decide) h (fun h => ?_) (fun h => ?_)
    · refine z_pick [] rfl ?_
      exact G2 _ (Option.some.inj h).symm
    · refine z_aload_n C dX2_tryUntilLit_17 rfl (j := 0) rfl ?_
      refine zg2_0 C dX2_tryUntilLit_18 zw78 ?_
      refine z_iload_n C dX2_tryUntilLit_21 rfl (j := 1) rfl ?_
      obtain ⟨r3, h3, h⟩ := Option.bind_eq_some_iff.mp h
      refine z_callVi [.int y2_1] [] C dX2_tryUntilLit_22 (zH_lt zH37) (zH_ent zH37) rfl zk_X2_137 zw448 zw449 ⟨⟨by decide, by decide⟩, rfl, Nat.le_of_ble_eq_true rfl⟩ rfl (sX3_isLit zH37 h3) ?_
      refine z_if_eq 30 C dX2_tryUntilLit_25 (by decide) h (fun h => ?_) (fun h => ?_)
      · refine z_aload_n C dX2_tryUntilLit_30 rfl (j := 0) rfl ?_
        refine zg2_0 C dX2_tryUntilLit_31 zw78 ?_
        obtain ⟨r4, h4, h⟩ := Option.bind_eq_some_iff.mp h
        refine z_callVv [] [] C dX2_tryUntilLit_34 (zH_lt zH37) (zH_ent zH37) rfl zk_X2_34 zw439 zw440 ⟨⟨by decide, by decide⟩, rfl, Nat.le_of_ble_eq_true rfl⟩ rfl (sX3_passHour zH37 h4) ?_
        refine z_iinc [(0, .ref (E.2.1 14)), (1, .int y2_1), (2, .int y2_2)] C dX2_tryUntilLit_37 zc1 h (j := 3) rfl (by decide) rfl (fun v5 h => ?_)
        refine z_goto 2 C dX2_tryUntilLit_40 (by decide) ?_
        refine z_pick [1, 2, 3, 0] rfl ?_
        exact G1 _ (Option.some.inj h).symm
      · refine z_iload_n C dX2_tryUntilLit_28 rfl (j := 3) rfl ?_
        exact z_iret C dX2_tryUntilLit_29 (G3 _ (Option.some.inj h).symm)
theorem lX2_tryUntilLit_2 {l : Launch} {E : ZE} {Γ : ZG} (C : zC E Γ RX2 cX2_tryUntilLit 4 4)  {y2_1 : Int32} {y2_2 : Int32} {s : Int32 × ZM} {r : (Int32 × ZM) ⊕ (Int32 × ZM)} (h : fX2_tryUntilLit_l2 y2_1 y2_2 s = some r) (K1 : ∀ s', r = Sum.inl s' → zG l E Γ 4 43 [] [] s'.2) (K2 : ∀ t', r = Sum.inr t' → zRq E Γ (some .int) (some (.int t'.1)) t'.2) : zG l E Γ 4 2 [(0, .ref (E.2.1 14)), (1, .int y2_1), (2, .int y2_2), (3, .int s.1)] [] s.2 :=
  z_loop (body := fun s => fX2_tryUntilLit_b2 y2_1 y2_2 s.1 s.2) (fun s => zG l E Γ 4 2 [(0, .ref (E.2.1 14)), (1, .int y2_1), (2, .int y2_2), (3, .int s.1)] [] s.2) (fun r => (∀ s', r = Sum.inl s' → zG l E Γ 4 43 [] [] s'.2) ∧ (∀ t', r = Sum.inr t' → zRq E Γ (some .int) (some (.int t'.1)) t'.2)) (fun s u hb g1 g2 => bX2_tryUntilLit_2 C  g1 (fun s' e => (g2 _ e).1 _ rfl) (fun t' e => (g2 _ e).2 _ rfl) hb) 2000 s r h ⟨K1, K2⟩
def fX2_tryUntilLit  (a1 : Int32) (a2 : Int32) (mem : ZM) : Option (Int32 × ZM) :=
  zlet (0 : Int32) (fun v1 => Option.bind (fX2_tryUntilLit_l2 a1 a2 (v1, mem)) (fun r2 => Sum.elim (fun s2 => some ((-1000000 : Int32), s2.2)) (fun t2 => some t2) r2))
set_option maxRecDepth 100000 in
set_option maxHeartbeats 4000000 in
theorem sX2_tryUntilLit {l : Launch} {E : ZE}  {a1 : Int32} {a2 : Int32} {mem : ZM} {t : Int32 × ZM} (h : fX2_tryUntilLit a1 a2 mem = some t) : zMet l E yX2_tryUntilLit cX2_tryUntilLit 4 (some .int) 4 [.ref (E.2.1 14), .int a1, .int a2] mem (some (.int t.1)) t.2 := by
  refine z_enter (by decide) (Nat.le_of_ble_eq_true rfl) (fun Γ C Rq => ?_)
  have C : zC E Γ RX2 cX2_tryUntilLit 4 4 := C
  show zG l E Γ 4 0 [(0, .ref (E.2.1 14)), (1, .int a1), (2, .int a2)] [] mem
  unfold fX2_tryUntilLit at h
  refine z_iconst (v := 0) C dX2_tryUntilLit_0 zc0 ?_
  refine z_istore_n [(0, .ref (E.2.1 14)), (1, .int a1), (2, .int a2)] C dX2_tryUntilLit_1 h rfl (by decide) rfl (fun v1 h => ?_)
  obtain ⟨r2, h2, h⟩ := Option.bind_eq_some_iff.mp h
  refine z_pick [1, 2, 3, 0] rfl ?_
  refine lX2_tryUntilLit_2 C  h2 (fun s2 e2 => ?_) (fun t2 e2 => ?_)
  · subst e2
    replace h := z_el h
    refine z_ldc C dX2_tryUntilLit_43 zw726 ?_
    have e := Option.some.inj h; subst e; exact z_iret C dX2_tryUntilLit_45 Rq
  · subst e2
    replace h := z_er h
    have e := Option.some.inj h; subst e; exact Rq
-- X2_caughtBehind
def fX2_caughtBehind (q1 : Nat) (a2 : Int32) (mem : ZM) : Option (Int32 × ZM) :=
  Option.bind (fX3_takeFrom 37 q1 mem) (fun r1 => Option.bind (fX2_tryUntilLit a2 (60 : Int32) r1) (fun r2 => some (r2.1, r2.2)))
set_option maxRecDepth 100000 in
set_option maxHeartbeats 4000000 in
theorem sX2_caughtBehind {l : Launch} {E : ZE} {q1 : Nat} (hq1 : zH q1) {a2 : Int32} {mem : ZM} {t : Int32 × ZM} (h : fX2_caughtBehind q1 a2 mem = some t) : zMet l E yX2_caughtBehind cX2_caughtBehind 3 (some .int) 5 [.ref (E.2.1 14), .ref (E.2.1 q1), .int a2] mem (some (.int t.1)) t.2 := by
  refine z_enter (by decide) (Nat.le_of_ble_eq_true rfl) (fun Γ C Rq => ?_)
  have C : zC E Γ RX2 cX2_caughtBehind 3 5 := C
  show zG l E Γ 3 0 [(0, .ref (E.2.1 14)), (1, .ref (E.2.1 q1)), (2, .int a2)] [] mem
  unfold fX2_caughtBehind at h
  refine z_aload_n C dX2_caughtBehind_0 rfl (j := 0) rfl ?_
  refine zg2_0 C dX2_caughtBehind_1 zw78 ?_
  refine z_aload_n C dX2_caughtBehind_4 rfl (j := 1) rfl ?_
  obtain ⟨r1, h1, h⟩ := Option.bind_eq_some_iff.mp h
  refine z_callVv [.ref (E.2.1 q1)] [] C dX2_caughtBehind_5 (zH_lt zH37) (zH_ent zH37) rfl zk_X2_18 zw352 zw353 ⟨⟨by decide, by decide⟩, rfl, Nat.le_of_ble_eq_true rfl⟩ rfl (sX3_takeFrom zH37 hq1 h1) ?_
  refine z_aload_n C dX2_caughtBehind_8 rfl (j := 0) rfl ?_
  refine z_iload_n C dX2_caughtBehind_9 rfl (j := 2) rfl ?_
  refine z_bipush (v := 60) C dX2_caughtBehind_10 zb60 ?_
  obtain ⟨r2, h2, h⟩ := Option.bind_eq_some_iff.mp h
  refine z_callVi [.int a2, .int (60 : Int32)] [] C dX2_caughtBehind_12 (by decide) zen_14 rfl zk_X2_26 zw723 zw724 ⟨⟨by decide, by decide⟩, rfl, Nat.le_of_ble_eq_true rfl⟩ rfl (sX2_tryUntilLit  h2) ?_
  have e := Option.some.inj h; subst e; exact z_iret C dX2_caughtBehind_15 Rq
-- X2_ashBehind
def fX2_ashBehind_b10 (q1 : Nat) (y10_2 : Int32) (x10_3 : Int32) (memb : ZM) : Option ((Int32 × ZM) ⊕ ((Int32 × ZM) ⊕ (Int32 × ZM))) :=
  if (60 : Int32) < x10_3 then (some (Sum.inr (Sum.inl (x10_3, memb)))) else (Option.bind (fX3_isAsh 37 y10_2 memb) (fun r4 => if r4 = 0 then (Option.bind (fX3_passHour 37 memb) (fun r5 => zlet (x10_3 + (1 : Int32)) (fun v6 => some (Sum.inl (v6, r5))))) else (some (Sum.inr (Sum.inr (x10_3, memb))))))
def fX2_ashBehind_l10 (q1 : Nat) (y10_2 : Int32) (s : Int32 × ZM) : Option ((Int32 × ZM) ⊕ (Int32 × ZM)) := ziter (fun s => fX2_ashBehind_b10 q1 y10_2 s.1 s.2) 2000 s
set_option maxRecDepth 100000 in
set_option maxHeartbeats 4000000 in
theorem bX2_ashBehind_10 {l : Launch} {E : ZE} {Γ : ZG} (C : zC E Γ RX2 cX2_ashBehind 4 4) {q1 : Nat} (hq1 : zH q1) {y10_2 : Int32} {x10_3 : Int32} {memb : ZM} {u : (Int32 × ZM) ⊕ ((Int32 × ZM) ⊕ (Int32 × ZM))} (G1 : ∀ s', u = Sum.inl s' → zG l E Γ 4 10 [(0, .ref (E.2.1 14)), (2, .int y10_2), (3, .int (s'.1))] [] s'.2) (G2 : ∀ s', u = Sum.inr (Sum.inl s') → zG l E Γ 4 42 [] [] s'.2) (G3 : ∀ t', u = Sum.inr (Sum.inr t') → zRq E Γ (some .int) (some (.int t'.1)) t'.2) (h : fX2_ashBehind_b10 q1 y10_2 x10_3 memb = some u) : zG l E Γ 4 10 [(0, .ref (E.2.1 14)), (2, .int y10_2), (3, .int x10_3)] [] memb := by
  unfold fX2_ashBehind_b10 at h
  refine z_iload_n C dX2_ashBehind_10 rfl (j := 2) rfl ?_
  refine z_bipush (v := 60) C dX2_ashBehind_11 zb60 ?_
  refine z_icmp_gt 42 C dX2_ashBehind_13 (by decide) h (fun h => ?_) (fun h => ?_)
  · refine z_pick [] rfl ?_
    exact G2 _ (Option.some.inj h).symm
  · refine z_aload_n C dX2_ashBehind_16 rfl (j := 0) rfl ?_
    refine zg2_0 C dX2_ashBehind_17 zw78 ?_
    refine z_iload_n C dX2_ashBehind_20 rfl (j := 1) rfl ?_
    obtain ⟨r4, h4, h⟩ := Option.bind_eq_some_iff.mp h
    refine z_callVi [.int y10_2] [] C dX2_ashBehind_21 (zH_lt zH37) (zH_ent zH37) rfl zk_X2_30 zw480 zw481 ⟨⟨by decide, by decide⟩, rfl, Nat.le_of_ble_eq_true rfl⟩ rfl (sX3_isAsh zH37 h4) ?_
    refine z_if_eq 29 C dX2_ashBehind_24 (by decide) h (fun h => ?_) (fun h => ?_)
    · refine z_aload_n C dX2_ashBehind_29 rfl (j := 0) rfl ?_
      refine zg2_0 C dX2_ashBehind_30 zw78 ?_
      obtain ⟨r5, h5, h⟩ := Option.bind_eq_some_iff.mp h
      refine z_callVv [] [] C dX2_ashBehind_33 (zH_lt zH37) (zH_ent zH37) rfl zk_X2_34 zw439 zw440 ⟨⟨by decide, by decide⟩, rfl, Nat.le_of_ble_eq_true rfl⟩ rfl (sX3_passHour zH37 h5) ?_
      refine z_iinc [(0, .ref (E.2.1 14)), (2, .int y10_2)] C dX2_ashBehind_36 zc1 h (j := 2) rfl (by decide) rfl (fun v6 h => ?_)
      refine z_goto 10 C dX2_ashBehind_39 (by decide) ?_
      refine z_pick [1, 2, 0] rfl ?_
      exact G1 _ (Option.some.inj h).symm
    · refine z_iload_n C dX2_ashBehind_27 rfl (j := 2) rfl ?_
      exact z_iret C dX2_ashBehind_28 (G3 _ (Option.some.inj h).symm)
theorem lX2_ashBehind_10 {l : Launch} {E : ZE} {Γ : ZG} (C : zC E Γ RX2 cX2_ashBehind 4 4) {q1 : Nat} (hq1 : zH q1) {y10_2 : Int32} {s : Int32 × ZM} {r : (Int32 × ZM) ⊕ (Int32 × ZM)} (h : fX2_ashBehind_l10 q1 y10_2 s = some r) (K1 : ∀ s', r = Sum.inl s' → zG l E Γ 4 42 [] [] s'.2) (K2 : ∀ t', r = Sum.inr t' → zRq E Γ (some .int) (some (.int t'.1)) t'.2) : zG l E Γ 4 10 [(0, .ref (E.2.1 14)), (2, .int y10_2), (3, .int s.1)] [] s.2 :=
  z_loop (body := fun s => fX2_ashBehind_b10 q1 y10_2 s.1 s.2) (fun s => zG l E Γ 4 10 [(0, .ref (E.2.1 14)), (2, .int y10_2), (3, .int s.1)] [] s.2) (fun r => (∀ s', r = Sum.inl s' → zG l E Γ 4 42 [] [] s'.2) ∧ (∀ t', r = Sum.inr t' → zRq E Γ (some .int) (some (.int t'.1)) t'.2)) (fun s u hb g1 g2 => bX2_ashBehind_10 C hq1 g1 (fun s' e => (g2 _ e).1 _ rfl) (fun t' e => (g2 _ e).2 _ rfl) hb) 2000 s r h ⟨K1, K2⟩
def fX2_ashBehind (q1 : Nat) (a2 : Int32) (mem : ZM) : Option (Int32 × ZM) :=
  Option.bind (fX3_takeFrom 37 q1 mem) (fun r1 => zlet (0 : Int32) (fun v2 => Option.bind (fX2_ashBehind_l10 q1 a2 (v2, r1)) (fun r3 => Sum.elim (fun s3 => some ((-1000000 : Int32), s3.2)) (fun t3 => some t3) r3)))
set_option maxRecDepth 100000 in
set_option maxHeartbeats 4000000 in
theorem sX2_ashBehind {l : Launch} {E : ZE} {q1 : Nat} (hq1 : zH q1) {a2 : Int32} {mem : ZM} {t : Int32 × ZM} (h : fX2_ashBehind q1 a2 mem = some t) : zMet l E yX2_ashBehind cX2_ashBehind 4 (some .int) 4 [.ref (E.2.1 14), .ref (E.2.1 q1), .int a2] mem (some (.int t.1)) t.2 := by
  refine z_enter (by decide) (Nat.le_of_ble_eq_true rfl) (fun Γ C Rq => ?_)
  have C : zC E Γ RX2 cX2_ashBehind 4 4 := C
  show zG l E Γ 4 0 [(0, .ref (E.2.1 14)), (1, .ref (E.2.1 q1)), (2, .int a2)] [] mem
  unfold fX2_ashBehind at h
  refine z_aload_n C dX2_ashBehind_0 rfl (j := 0) rfl ?_
  refine zg2_0 C dX2_ashBehind_1 zw78 ?_
  refine z_aload_n C dX2_ashBehind_4 rfl (j := 1) rfl ?_
  obtain ⟨r1, h1, h⟩ := Option.bind_eq_some_iff.mp h
  refine z_callVv [.ref (E.2.1 q1)] [] C dX2_ashBehind_5 (zH_lt zH37) (zH_ent zH37) rfl zk_X2_18 zw352 zw353 ⟨⟨by decide, by decide⟩, rfl, Nat.le_of_ble_eq_true rfl⟩ rfl (sX3_takeFrom zH37 hq1 h1) ?_
  refine z_iconst (v := 0) C dX2_ashBehind_8 zc0 ?_
  refine z_istore_n [(0, .ref (E.2.1 14)), (1, .ref (E.2.1 q1)), (2, .int a2)] C dX2_ashBehind_9 h rfl (by decide) rfl (fun v2 h => ?_)
  obtain ⟨r3, h3, h⟩ := Option.bind_eq_some_iff.mp h
  refine z_pick [1, 3, 0] rfl ?_
  refine lX2_ashBehind_10 C hq1 h3 (fun s3 e3 => ?_) (fun t3 e3 => ?_)
  · subst e3
    replace h := z_el h
    refine z_ldc C dX2_ashBehind_42 zw726 ?_
    have e := Option.some.inj h; subst e; exact z_iret C dX2_ashBehind_44 Rq
  · subst e3
    replace h := z_er h
    have e := Option.some.inj h; subst e; exact Rq
-- X2_deadBehind
def fX2_deadBehind_b10 (q1 : Nat)  (x10_2 : Int32) (memb : ZM) : Option ((Int32 × ZM) ⊕ ((Int32 × ZM) ⊕ (Int32 × ZM))) :=
  if (200 : Int32) < x10_2 then (some (Sum.inr (Sum.inl (x10_2, memb)))) else (if (memb 37 5) = 0 then (some (Sum.inr (Sum.inr (x10_2, memb)))) else (Option.bind (fX3_passHour 37 memb) (fun r4 => zlet (x10_2 + (1 : Int32)) (fun v5 => some (Sum.inl (v5, r4))))))
def fX2_deadBehind_l10 (q1 : Nat)  (s : Int32 × ZM) : Option ((Int32 × ZM) ⊕ (Int32 × ZM)) := ziter (fun s => fX2_deadBehind_b10 q1 s.1 s.2) 2000 s
set_option maxRecDepth 100000 in
set_option maxHeartbeats 4000000 in
theorem bX2_deadBehind_10 {l : Launch} {E : ZE} {Γ : ZG} (C : zC E Γ RX2 cX2_deadBehind 3 4) {q1 : Nat} (hq1 : zH q1)  {x10_2 : Int32} {memb : ZM} {u : (Int32 × ZM) ⊕ ((Int32 × ZM) ⊕ (Int32 × ZM))} (G1 : ∀ s', u = Sum.inl s' → zG l E Γ 3 10 [(0, .ref (E.2.1 14)), (2, .int (s'.1))] [] s'.2) (G2 : ∀ s', u = Sum.inr (Sum.inl s') → zG l E Γ 3 42 [] [] s'.2) (G3 : ∀ t', u = Sum.inr (Sum.inr t') → zRq E Γ (some .int) (some (.int t'.1)) t'.2) (h : fX2_deadBehind_b10 q1 x10_2 memb = some u) : zG l E Γ 3 10 [(0, .ref (E.2.1 14)), (2, .int x10_2)] [] memb := by
  unfold fX2_deadBehind_b10 at h
  refine z_iload_n C dX2_deadBehind_10 rfl (j := 1) rfl ?_
  refine z_sipush (v := 200) C dX2_deadBehind_11 zs200 ?_
  refine z_icmp_gt 42 C dX2_deadBehind_14 (by decide) h (fun h => ?_) (fun h => ?_)
  · refine z_pick [] rfl ?_
    exact G2 _ (Option.some.inj h).symm
  · refine z_aload_n C dX2_deadBehind_17 rfl (j := 0) rfl ?_
    refine zg2_0 C dX2_deadBehind_18 zw78 ?_
    refine zg3_5 C dX2_deadBehind_21 zH37 zw683 ?_
    refine z_if_ne 29 C dX2_deadBehind_24 (by decide) h (fun h => ?_) (fun h => ?_)
    · refine z_aload_n C dX2_deadBehind_29 rfl (j := 0) rfl ?_
      refine zg2_0 C dX2_deadBehind_30 zw78 ?_
      obtain ⟨r4, h4, h⟩ := Option.bind_eq_some_iff.mp h
      refine z_callVv [] [] C dX2_deadBehind_33 (zH_lt zH37) (zH_ent zH37) rfl zk_X2_34 zw439 zw440 ⟨⟨by decide, by decide⟩, rfl, Nat.le_of_ble_eq_true rfl⟩ rfl (sX3_passHour zH37 h4) ?_
      refine z_iinc [(0, .ref (E.2.1 14))] C dX2_deadBehind_36 zc1 h (j := 1) rfl (by decide) rfl (fun v5 h => ?_)
      refine z_goto 10 C dX2_deadBehind_39 (by decide) ?_
      refine z_pick [1, 0] rfl ?_
      exact G1 _ (Option.some.inj h).symm
    · refine z_iload_n C dX2_deadBehind_27 rfl (j := 1) rfl ?_
      exact z_iret C dX2_deadBehind_28 (G3 _ (Option.some.inj h).symm)
theorem lX2_deadBehind_10 {l : Launch} {E : ZE} {Γ : ZG} (C : zC E Γ RX2 cX2_deadBehind 3 4) {q1 : Nat} (hq1 : zH q1)  {s : Int32 × ZM} {r : (Int32 × ZM) ⊕ (Int32 × ZM)} (h : fX2_deadBehind_l10 q1 s = some r) (K1 : ∀ s', r = Sum.inl s' → zG l E Γ 3 42 [] [] s'.2) (K2 : ∀ t', r = Sum.inr t' → zRq E Γ (some .int) (some (.int t'.1)) t'.2) : zG l E Γ 3 10 [(0, .ref (E.2.1 14)), (2, .int s.1)] [] s.2 :=
  z_loop (body := fun s => fX2_deadBehind_b10 q1 s.1 s.2) (fun s => zG l E Γ 3 10 [(0, .ref (E.2.1 14)), (2, .int s.1)] [] s.2) (fun r => (∀ s', r = Sum.inl s' → zG l E Γ 3 42 [] [] s'.2) ∧ (∀ t', r = Sum.inr t' → zRq E Γ (some .int) (some (.int t'.1)) t'.2)) (fun s u hb g1 g2 => bX2_deadBehind_10 C hq1 g1 (fun s' e => (g2 _ e).1 _ rfl) (fun t' e => (g2 _ e).2 _ rfl) hb) 2000 s r h ⟨K1, K2⟩
def fX2_deadBehind (q1 : Nat)  (mem : ZM) : Option (Int32 × ZM) :=
  Option.bind (fX3_takeFrom 37 q1 mem) (fun r1 => zlet (0 : Int32) (fun v2 => Option.bind (fX2_deadBehind_l10 q1 (v2, r1)) (fun r3 => Sum.elim (fun s3 => some ((-1000000 : Int32), s3.2)) (fun t3 => some t3) r3)))
set_option maxRecDepth 100000 in
set_option maxHeartbeats 4000000 in
theorem sX2_deadBehind {l : Launch} {E : ZE} {q1 : Nat} (hq1 : zH q1)  {mem : ZM} {t : Int32 × ZM} (h : fX2_deadBehind q1 mem = some t) : zMet l E yX2_deadBehind cX2_deadBehind 3 (some .int) 4 [.ref (E.2.1 14), .ref (E.2.1 q1)] mem (some (.int t.1)) t.2 := by
  refine z_enter (by decide) (Nat.le_of_ble_eq_true rfl) (fun Γ C Rq => ?_)
  have C : zC E Γ RX2 cX2_deadBehind 3 4 := C
  show zG l E Γ 3 0 [(0, .ref (E.2.1 14)), (1, .ref (E.2.1 q1))] [] mem
  unfold fX2_deadBehind at h
  refine z_aload_n C dX2_deadBehind_0 rfl (j := 0) rfl ?_
  refine zg2_0 C dX2_deadBehind_1 zw78 ?_
  refine z_aload_n C dX2_deadBehind_4 rfl (j := 1) rfl ?_
  obtain ⟨r1, h1, h⟩ := Option.bind_eq_some_iff.mp h
  refine z_callVv [.ref (E.2.1 q1)] [] C dX2_deadBehind_5 (zH_lt zH37) (zH_ent zH37) rfl zk_X2_18 zw352 zw353 ⟨⟨by decide, by decide⟩, rfl, Nat.le_of_ble_eq_true rfl⟩ rfl (sX3_takeFrom zH37 hq1 h1) ?_
  refine z_iconst (v := 0) C dX2_deadBehind_8 zc0 ?_
  refine z_istore_n [(0, .ref (E.2.1 14)), (1, .ref (E.2.1 q1))] C dX2_deadBehind_9 h rfl (by decide) rfl (fun v2 h => ?_)
  obtain ⟨r3, h3, h⟩ := Option.bind_eq_some_iff.mp h
  refine z_pick [1, 0] rfl ?_
  refine lX2_deadBehind_10 C hq1 h3 (fun s3 e3 => ?_) (fun t3 e3 => ?_)
  · subst e3
    replace h := z_el h
    refine z_ldc C dX2_deadBehind_42 zw726 ?_
    have e := Option.some.inj h; subst e; exact z_iret C dX2_deadBehind_44 Rq
  · subst e3
    replace h := z_er h
    have e := Option.some.inj h; subst e; exact Rq
-- X3_allThings
def fX3_allThings (b0 : Nat)  (mem : ZM) : Option (Int32) :=
  some (((1 : Int32) <<< ((mem b0 0) &&& 31)) - (1 : Int32))
set_option maxRecDepth 100000 in
set_option maxHeartbeats 4000000 in
theorem sX3_allThings {l : Launch} {E : ZE} {b0 : Nat} (hb0 : zH b0)  {mem : ZM} {t : Int32} (h : fX3_allThings b0 mem = some t) : zMet l E yX3_allThings cX3_allThings 1 (some .int) 0 [.ref (E.2.1 b0)] mem (some (.int t)) mem := by
  refine z_enter (by decide) (Nat.le_of_ble_eq_true rfl) (fun Γ C Rq => ?_)
  have C : zC E Γ RX3 cX3_allThings 1 0 := C
  show zG l E Γ 1 0 [(0, .ref (E.2.1 b0))] [] mem
  unfold fX3_allThings at h
  refine z_iconst (v := 1) C dX3_allThings_0 zc1 ?_
  refine z_aload_n C dX3_allThings_1 rfl (j := 0) rfl ?_
  refine zg3_0 C dX3_allThings_2 hb0 zw42 ?_
  refine z_ishl C dX3_allThings_5 ?_
  refine z_iconst (v := 1) C dX3_allThings_6 zc1 ?_
  refine z_isub C dX3_allThings_7 ?_
  have e := Option.some.inj h; subst e; exact z_iret C dX3_allThings_8 Rq
-- X3_ashes
def fX3_ashes_j26 (b0 : Nat) (x1 : Int32) (x2 : Int32) (mem4 : ZM) : Option ((Int32 × Int32) ⊕ (Int32 × Int32)) :=
  zlet (x2 + (1 : Int32)) (fun v5 => some (Sum.inl (x1, v5)))
set_option maxRecDepth 100000 in
set_option maxHeartbeats 4000000 in
theorem jX3_ashes_26 {l : Launch} {E : ZE} {Γ : ZG} (C : zC E Γ RX3 cX3_ashes 3 1) {b0 : Nat} (hb0 : zH b0) {x1 : Int32} {x2 : Int32}  {mem4 : ZM}  {u : (Int32 × Int32) ⊕ (Int32 × Int32)}  (G1 : ∀ s', u = Sum.inl s' → zG l E Γ 3 4 [(0, .ref (E.2.1 b0)), (1, .int (s'.1)), (2, .int (s'.2))] [] mem4) (G2 : ∀ s', u = Sum.inr s' → zG l E Γ 3 32 [(1, .int (s'.1))] [] mem4) (h : fX3_ashes_j26 b0 x1 x2 mem4 = some u) : zG l E Γ 3 26 [(0, .ref (E.2.1 b0)), (1, .int x1), (2, .int x2)] [] mem4 := by
  unfold fX3_ashes_j26 at h
  refine z_iinc [(0, .ref (E.2.1 b0)), (1, .int x1)] C dX3_ashes_26 zc1 h (j := 2) rfl (by decide) rfl (fun v5 h => ?_)
  refine z_goto 4 C dX3_ashes_29 (by decide) ?_
  refine z_pick [1, 2, 0] rfl ?_
  exact G1 _ (Option.some.inj h).symm
def fX3_ashes_b4 (b0 : Nat)  (mem4 : ZM) (x4_1 : Int32) (x4_2 : Int32) : Option ((Int32 × Int32) ⊕ (Int32 × Int32)) :=
  if (mem4 b0 0) ≤ x4_2 then (some (Sum.inr (x4_1, x4_2))) else (Option.bind (fX3_isAsh b0 x4_2 mem4) (fun r4 => if r4 = 0 then (fX3_ashes_j26 b0 x4_1 x4_2 mem4) else (zlet (x4_1 ||| ((1 : Int32) <<< (x4_2 &&& 31))) (fun v6 => fX3_ashes_j26 b0 v6 x4_2 mem4))))
def fX3_ashes_l4 (b0 : Nat)  (mem4 : ZM) (s : Int32 × Int32) : Option (Int32 × Int32) := ziter (fun s => fX3_ashes_b4 b0 mem4 s.1 s.2) 2000 s
set_option maxRecDepth 100000 in
set_option maxHeartbeats 4000000 in
theorem bX3_ashes_4 {l : Launch} {E : ZE} {Γ : ZG} (C : zC E Γ RX3 cX3_ashes 3 1) {b0 : Nat} (hb0 : zH b0)  {mem4 : ZM} {x4_1 : Int32} {x4_2 : Int32} {u : (Int32 × Int32) ⊕ (Int32 × Int32)} (G1 : ∀ s', u = Sum.inl s' → zG l E Γ 3 4 [(0, .ref (E.2.1 b0)), (1, .int (s'.1)), (2, .int (s'.2))] [] mem4) (G2 : ∀ s', u = Sum.inr s' → zG l E Γ 3 32 [(1, .int (s'.1))] [] mem4) (h : fX3_ashes_b4 b0 mem4 x4_1 x4_2 = some u) : zG l E Γ 3 4 [(0, .ref (E.2.1 b0)), (1, .int x4_1), (2, .int x4_2)] [] mem4 := by
  unfold fX3_ashes_b4 at h
  refine z_iload_n C dX3_ashes_4 rfl (j := 2) rfl ?_
  refine z_aload_n C dX3_ashes_5 rfl (j := 0) rfl ?_
  refine zg3_0 C dX3_ashes_6 hb0 zw42 ?_
  refine z_icmp_ge 32 C dX3_ashes_9 (by decide) h (fun h => ?_) (fun h => ?_)
  · refine z_pick [1] rfl ?_
    exact G2 _ (Option.some.inj h).symm
  · refine z_aload_n C dX3_ashes_12 rfl (j := 0) rfl ?_
    refine z_iload_n C dX3_ashes_13 rfl (j := 2) rfl ?_
    obtain ⟨r4, h4, h⟩ := Option.bind_eq_some_iff.mp h
    refine z_callVi [.int x4_2] [] C dX3_ashes_14 (zH_lt hb0) (zH_ent hb0) rfl zk_X3_52 zw480 zw481 ⟨⟨by decide, by decide⟩, rfl, Nat.le_of_ble_eq_true rfl⟩ rfl (sX3_isAsh hb0 h4) ?_
    refine z_if_eq 26 C dX3_ashes_17 (by decide) h (fun h => ?_) (fun h => ?_)
    · refine z_pick [0, 1, 2] rfl ?_
      exact jX3_ashes_26 C hb0  G1 G2 h
    · refine z_iload_n C dX3_ashes_20 rfl (j := 1) rfl ?_
      refine z_iconst (v := 1) C dX3_ashes_21 zc1 ?_
      refine z_iload_n C dX3_ashes_22 rfl (j := 2) rfl ?_
      refine z_ishl C dX3_ashes_23 ?_
      refine z_ior C dX3_ashes_24 ?_
      refine z_istore_n [(0, .ref (E.2.1 b0)), (2, .int x4_2)] C dX3_ashes_25 h rfl (by decide) rfl (fun v6 h => ?_)
      refine z_pick [1, 0, 2] rfl ?_
      exact jX3_ashes_26 C hb0  G1 G2 h
theorem lX3_ashes_4 {l : Launch} {E : ZE} {Γ : ZG} (C : zC E Γ RX3 cX3_ashes 3 1) {b0 : Nat} (hb0 : zH b0)  {mem4 : ZM} {s : Int32 × Int32} {r : Int32 × Int32} (h : fX3_ashes_l4 b0 mem4 s = some r) (K1 : zG l E Γ 3 32 [(1, .int r.1)] [] mem4) : zG l E Γ 3 4 [(0, .ref (E.2.1 b0)), (1, .int s.1), (2, .int s.2)] [] mem4 :=
  z_loop (body := fun s => fX3_ashes_b4 b0 mem4 s.1 s.2) (fun s => zG l E Γ 3 4 [(0, .ref (E.2.1 b0)), (1, .int s.1), (2, .int s.2)] [] mem4) (fun r => zG l E Γ 3 32 [(1, .int r.1)] [] mem4) (fun s u hb g1 g2 => bX3_ashes_4 C hb0 g1 g2 hb) 2000 s r h K1
def fX3_ashes (b0 : Nat)  (mem : ZM) : Option (Int32) :=
  zlet (0 : Int32) (fun v1 => zlet (0 : Int32) (fun v2 => Option.bind (fX3_ashes_l4 b0 mem (v1, v2)) (fun r3 => some r3.1)))
set_option maxRecDepth 100000 in
set_option maxHeartbeats 4000000 in
theorem sX3_ashes {l : Launch} {E : ZE} {b0 : Nat} (hb0 : zH b0)  {mem : ZM} {t : Int32} (h : fX3_ashes b0 mem = some t) : zMet l E yX3_ashes cX3_ashes 3 (some .int) 1 [.ref (E.2.1 b0)] mem (some (.int t)) mem := by
  refine z_enter (by decide) (Nat.le_of_ble_eq_true rfl) (fun Γ C Rq => ?_)
  have C : zC E Γ RX3 cX3_ashes 3 1 := C
  show zG l E Γ 3 0 [(0, .ref (E.2.1 b0))] [] mem
  unfold fX3_ashes at h
  refine z_iconst (v := 0) C dX3_ashes_0 zc0 ?_
  refine z_istore_n [(0, .ref (E.2.1 b0))] C dX3_ashes_1 h rfl (by decide) rfl (fun v1 h => ?_)
  refine z_iconst (v := 0) C dX3_ashes_2 zc0 ?_
  refine z_istore_n [(1, .int v1), (0, .ref (E.2.1 b0))] C dX3_ashes_3 h rfl (by decide) rfl (fun v2 h => ?_)
  obtain ⟨r3, h3, h⟩ := Option.bind_eq_some_iff.mp h
  refine z_pick [2, 1, 0] rfl ?_
  refine lX3_ashes_4 C hb0 h3 ?_
  refine z_iload_n C dX3_ashes_32 rfl (j := 0) rfl ?_
  have e := Option.some.inj h; subst e; exact z_iret C dX3_ashes_33 Rq
-- X2_leftWhenDead
def fX2_leftWhenDead (q1 : Nat)  (mem : ZM) : Option (Int32 × ZM) :=
  Option.bind (fX3_takeFrom 37 q1 mem) (fun r1 => Option.bind (fX2_tryHours (200 : Int32) r1) (fun r2 => Option.bind (fX3_allThings 37 r2) (fun r3 => Option.bind (fX3_ashes 37 r2) (fun r4 => some (((r3 &&& (r4 ^^^ (-1 : Int32))) &&& ((r2 37 6) ^^^ (-1 : Int32))), r2)))))
set_option maxRecDepth 100000 in
set_option maxHeartbeats 4000000 in
theorem sX2_leftWhenDead {l : Launch} {E : ZE} {q1 : Nat} (hq1 : zH q1)  {mem : ZM} {t : Int32 × ZM} (h : fX2_leftWhenDead q1 mem = some t) : zMet l E yX2_leftWhenDead cX2_leftWhenDead 2 (some .int) 5 [.ref (E.2.1 14), .ref (E.2.1 q1)] mem (some (.int t.1)) t.2 := by
  refine z_enter (by decide) (Nat.le_of_ble_eq_true rfl) (fun Γ C Rq => ?_)
  have C : zC E Γ RX2 cX2_leftWhenDead 2 5 := C
  show zG l E Γ 2 0 [(0, .ref (E.2.1 14)), (1, .ref (E.2.1 q1))] [] mem
  unfold fX2_leftWhenDead at h
  refine z_aload_n C dX2_leftWhenDead_0 rfl (j := 0) rfl ?_
  refine zg2_0 C dX2_leftWhenDead_1 zw78 ?_
  refine z_aload_n C dX2_leftWhenDead_4 rfl (j := 1) rfl ?_
  obtain ⟨r1, h1, h⟩ := Option.bind_eq_some_iff.mp h
  refine z_callVv [.ref (E.2.1 q1)] [] C dX2_leftWhenDead_5 (zH_lt zH37) (zH_ent zH37) rfl zk_X2_18 zw352 zw353 ⟨⟨by decide, by decide⟩, rfl, Nat.le_of_ble_eq_true rfl⟩ rfl (sX3_takeFrom zH37 hq1 h1) ?_
  refine z_aload_n C dX2_leftWhenDead_8 rfl (j := 0) rfl ?_
  refine z_sipush (v := 200) C dX2_leftWhenDead_9 zs200 ?_
  obtain ⟨r2, h2, h⟩ := Option.bind_eq_some_iff.mp h
  refine z_callVv [.int (200 : Int32)] [] C dX2_leftWhenDead_12 (by decide) zen_14 rfl zk_X2_22 zw680 zw681 ⟨⟨by decide, by decide⟩, rfl, Nat.le_of_ble_eq_true rfl⟩ rfl (sX2_tryHours  h2) ?_
  refine z_aload_n C dX2_leftWhenDead_15 rfl (j := 0) rfl ?_
  refine zg2_0 C dX2_leftWhenDead_16 zw78 ?_
  obtain ⟨r3, h3, h⟩ := Option.bind_eq_some_iff.mp h
  refine z_callVi [] [] C dX2_leftWhenDead_19 (zH_lt zH37) (zH_ent zH37) rfl zk_X2_42 zw756 zw757 ⟨⟨by decide, by decide⟩, rfl, Nat.le_of_ble_eq_true rfl⟩ rfl (sX3_allThings zH37 h3) ?_
  refine z_aload_n C dX2_leftWhenDead_22 rfl (j := 0) rfl ?_
  refine zg2_0 C dX2_leftWhenDead_23 zw78 ?_
  obtain ⟨r4, h4, h⟩ := Option.bind_eq_some_iff.mp h
  refine z_callVi [] [.int r3] C dX2_leftWhenDead_26 (zH_lt zH37) (zH_ent zH37) rfl zk_X2_46 zw760 zw761 ⟨⟨by decide, by decide⟩, rfl, Nat.le_of_ble_eq_true rfl⟩ rfl (sX3_ashes zH37 h4) ?_
  refine z_iconst (v := -1) C dX2_leftWhenDead_29 zcm1 ?_
  refine z_ixor C dX2_leftWhenDead_30 ?_
  refine z_iand C dX2_leftWhenDead_31 ?_
  refine z_aload_n C dX2_leftWhenDead_32 rfl (j := 0) rfl ?_
  refine zg2_0 C dX2_leftWhenDead_33 zw78 ?_
  refine zg3_6 C dX2_leftWhenDead_36 zH37 zw754 ?_
  refine z_iconst (v := -1) C dX2_leftWhenDead_39 zcm1 ?_
  refine z_ixor C dX2_leftWhenDead_40 ?_
  refine z_iand C dX2_leftWhenDead_41 ?_
  have e := Option.some.inj h; subst e; exact z_iret C dX2_leftWhenDead_42 Rq
-- X3_burnables
def fX3_burnables_j26 (b0 : Nat) (x1 : Int32) (x2 : Int32) (mem4 : ZM) : Option ((Int32 × Int32) ⊕ (Int32 × Int32)) :=
  zlet (x2 + (1 : Int32)) (fun v5 => some (Sum.inl (x1, v5)))
set_option maxRecDepth 100000 in
set_option maxHeartbeats 4000000 in
theorem jX3_burnables_26 {l : Launch} {E : ZE} {Γ : ZG} (C : zC E Γ RX3 cX3_burnables 3 2) {b0 : Nat} (hb0 : zH b0) {x1 : Int32} {x2 : Int32}  {mem4 : ZM}  {u : (Int32 × Int32) ⊕ (Int32 × Int32)}  (G1 : ∀ s', u = Sum.inl s' → zG l E Γ 3 4 [(0, .ref (E.2.1 b0)), (1, .int (s'.1)), (2, .int (s'.2))] [] mem4) (G2 : ∀ s', u = Sum.inr s' → zG l E Γ 3 32 [(1, .int (s'.1))] [] mem4) (h : fX3_burnables_j26 b0 x1 x2 mem4 = some u) : zG l E Γ 3 26 [(0, .ref (E.2.1 b0)), (1, .int x1), (2, .int x2)] [] mem4 := by
  unfold fX3_burnables_j26 at h
  refine z_iinc [(0, .ref (E.2.1 b0)), (1, .int x1)] C dX3_burnables_26 zc1 h (j := 2) rfl (by decide) rfl (fun v5 h => ?_)
  refine z_goto 4 C dX3_burnables_29 (by decide) ?_
  refine z_pick [1, 2, 0] rfl ?_
  exact G1 _ (Option.some.inj h).symm
def fX3_burnables_b4 (b0 : Nat)  (mem4 : ZM) (x4_1 : Int32) (x4_2 : Int32) : Option ((Int32 × Int32) ⊕ (Int32 × Int32)) :=
  if (mem4 b0 0) ≤ x4_2 then (some (Sum.inr (x4_1, x4_2))) else (Option.bind (fX3_canBurn b0 x4_2 mem4) (fun r4 => if r4 = 0 then (fX3_burnables_j26 b0 x4_1 x4_2 mem4) else (zlet (x4_1 ||| ((1 : Int32) <<< (x4_2 &&& 31))) (fun v6 => fX3_burnables_j26 b0 v6 x4_2 mem4))))
def fX3_burnables_l4 (b0 : Nat)  (mem4 : ZM) (s : Int32 × Int32) : Option (Int32 × Int32) := ziter (fun s => fX3_burnables_b4 b0 mem4 s.1 s.2) 2000 s
set_option maxRecDepth 100000 in
set_option maxHeartbeats 4000000 in
theorem bX3_burnables_4 {l : Launch} {E : ZE} {Γ : ZG} (C : zC E Γ RX3 cX3_burnables 3 2) {b0 : Nat} (hb0 : zH b0)  {mem4 : ZM} {x4_1 : Int32} {x4_2 : Int32} {u : (Int32 × Int32) ⊕ (Int32 × Int32)} (G1 : ∀ s', u = Sum.inl s' → zG l E Γ 3 4 [(0, .ref (E.2.1 b0)), (1, .int (s'.1)), (2, .int (s'.2))] [] mem4) (G2 : ∀ s', u = Sum.inr s' → zG l E Γ 3 32 [(1, .int (s'.1))] [] mem4) (h : fX3_burnables_b4 b0 mem4 x4_1 x4_2 = some u) : zG l E Γ 3 4 [(0, .ref (E.2.1 b0)), (1, .int x4_1), (2, .int x4_2)] [] mem4 := by
  unfold fX3_burnables_b4 at h
  refine z_iload_n C dX3_burnables_4 rfl (j := 2) rfl ?_
  refine z_aload_n C dX3_burnables_5 rfl (j := 0) rfl ?_
  refine zg3_0 C dX3_burnables_6 hb0 zw42 ?_
  refine z_icmp_ge 32 C dX3_burnables_9 (by decide) h (fun h => ?_) (fun h => ?_)
  · refine z_pick [1] rfl ?_
    exact G2 _ (Option.some.inj h).symm
  · refine z_aload_n C dX3_burnables_12 rfl (j := 0) rfl ?_
    refine z_iload_n C dX3_burnables_13 rfl (j := 2) rfl ?_
    obtain ⟨r4, h4, h⟩ := Option.bind_eq_some_iff.mp h
    refine z_callVi [.int x4_2] [] C dX3_burnables_14 (zH_lt hb0) (zH_ent hb0) rfl zk_X3_59 zw492 zw493 ⟨⟨by decide, by decide⟩, rfl, Nat.le_of_ble_eq_true rfl⟩ rfl (sX3_canBurn hb0 h4) ?_
    refine z_if_eq 26 C dX3_burnables_17 (by decide) h (fun h => ?_) (fun h => ?_)
    · refine z_pick [0, 1, 2] rfl ?_
      exact jX3_burnables_26 C hb0  G1 G2 h
    · refine z_iload_n C dX3_burnables_20 rfl (j := 1) rfl ?_
      refine z_iconst (v := 1) C dX3_burnables_21 zc1 ?_
      refine z_iload_n C dX3_burnables_22 rfl (j := 2) rfl ?_
      refine z_ishl C dX3_burnables_23 ?_
      refine z_ior C dX3_burnables_24 ?_
      refine z_istore_n [(0, .ref (E.2.1 b0)), (2, .int x4_2)] C dX3_burnables_25 h rfl (by decide) rfl (fun v6 h => ?_)
      refine z_pick [1, 0, 2] rfl ?_
      exact jX3_burnables_26 C hb0  G1 G2 h
theorem lX3_burnables_4 {l : Launch} {E : ZE} {Γ : ZG} (C : zC E Γ RX3 cX3_burnables 3 2) {b0 : Nat} (hb0 : zH b0)  {mem4 : ZM} {s : Int32 × Int32} {r : Int32 × Int32} (h : fX3_burnables_l4 b0 mem4 s = some r) (K1 : zG l E Γ 3 32 [(1, .int r.1)] [] mem4) : zG l E Γ 3 4 [(0, .ref (E.2.1 b0)), (1, .int s.1), (2, .int s.2)] [] mem4 :=
  z_loop (body := fun s => fX3_burnables_b4 b0 mem4 s.1 s.2) (fun s => zG l E Γ 3 4 [(0, .ref (E.2.1 b0)), (1, .int s.1), (2, .int s.2)] [] mem4) (fun r => zG l E Γ 3 32 [(1, .int r.1)] [] mem4) (fun s u hb g1 g2 => bX3_burnables_4 C hb0 g1 g2 hb) 2000 s r h K1
def fX3_burnables (b0 : Nat)  (mem : ZM) : Option (Int32) :=
  zlet (0 : Int32) (fun v1 => zlet (0 : Int32) (fun v2 => Option.bind (fX3_burnables_l4 b0 mem (v1, v2)) (fun r3 => some r3.1)))
set_option maxRecDepth 100000 in
set_option maxHeartbeats 4000000 in
theorem sX3_burnables {l : Launch} {E : ZE} {b0 : Nat} (hb0 : zH b0)  {mem : ZM} {t : Int32} (h : fX3_burnables b0 mem = some t) : zMet l E yX3_burnables cX3_burnables 3 (some .int) 2 [.ref (E.2.1 b0)] mem (some (.int t)) mem := by
  refine z_enter (by decide) (Nat.le_of_ble_eq_true rfl) (fun Γ C Rq => ?_)
  have C : zC E Γ RX3 cX3_burnables 3 2 := C
  show zG l E Γ 3 0 [(0, .ref (E.2.1 b0))] [] mem
  unfold fX3_burnables at h
  refine z_iconst (v := 0) C dX3_burnables_0 zc0 ?_
  refine z_istore_n [(0, .ref (E.2.1 b0))] C dX3_burnables_1 h rfl (by decide) rfl (fun v1 h => ?_)
  refine z_iconst (v := 0) C dX3_burnables_2 zc0 ?_
  refine z_istore_n [(1, .int v1), (0, .ref (E.2.1 b0))] C dX3_burnables_3 h rfl (by decide) rfl (fun v2 h => ?_)
  obtain ⟨r3, h3, h⟩ := Option.bind_eq_some_iff.mp h
  refine z_pick [2, 1, 0] rfl ?_
  refine lX3_burnables_4 C hb0 h3 ?_
  refine z_iload_n C dX3_burnables_32 rfl (j := 0) rfl ?_
  have e := Option.some.inj h; subst e; exact z_iret C dX3_burnables_33 Rq
-- X3_lightables
def fX3_lightables_j26 (b0 : Nat) (x1 : Int32) (x2 : Int32) (mem4 : ZM) : Option ((Int32 × Int32) ⊕ (Int32 × Int32)) :=
  zlet (x2 + (1 : Int32)) (fun v5 => some (Sum.inl (x1, v5)))
set_option maxRecDepth 100000 in
set_option maxHeartbeats 4000000 in
theorem jX3_lightables_26 {l : Launch} {E : ZE} {Γ : ZG} (C : zC E Γ RX3 cX3_lightables 3 3) {b0 : Nat} (hb0 : zH b0) {x1 : Int32} {x2 : Int32}  {mem4 : ZM}  {u : (Int32 × Int32) ⊕ (Int32 × Int32)}  (G1 : ∀ s', u = Sum.inl s' → zG l E Γ 3 4 [(0, .ref (E.2.1 b0)), (1, .int (s'.1)), (2, .int (s'.2))] [] mem4) (G2 : ∀ s', u = Sum.inr s' → zG l E Γ 3 32 [(1, .int (s'.1))] [] mem4) (h : fX3_lightables_j26 b0 x1 x2 mem4 = some u) : zG l E Γ 3 26 [(0, .ref (E.2.1 b0)), (1, .int x1), (2, .int x2)] [] mem4 := by
  unfold fX3_lightables_j26 at h
  refine z_iinc [(0, .ref (E.2.1 b0)), (1, .int x1)] C dX3_lightables_26 zc1 h (j := 2) rfl (by decide) rfl (fun v5 h => ?_)
  refine z_goto 4 C dX3_lightables_29 (by decide) ?_
  refine z_pick [1, 2, 0] rfl ?_
  exact G1 _ (Option.some.inj h).symm
def fX3_lightables_b4 (b0 : Nat)  (mem4 : ZM) (x4_1 : Int32) (x4_2 : Int32) : Option ((Int32 × Int32) ⊕ (Int32 × Int32)) :=
  if (mem4 b0 0) ≤ x4_2 then (some (Sum.inr (x4_1, x4_2))) else (Option.bind (fX3_mayBeLit b0 x4_2 mem4) (fun r4 => if r4 = 0 then (fX3_lightables_j26 b0 x4_1 x4_2 mem4) else (zlet (x4_1 ||| ((1 : Int32) <<< (x4_2 &&& 31))) (fun v6 => fX3_lightables_j26 b0 v6 x4_2 mem4))))
def fX3_lightables_l4 (b0 : Nat)  (mem4 : ZM) (s : Int32 × Int32) : Option (Int32 × Int32) := ziter (fun s => fX3_lightables_b4 b0 mem4 s.1 s.2) 2000 s
set_option maxRecDepth 100000 in
set_option maxHeartbeats 4000000 in
theorem bX3_lightables_4 {l : Launch} {E : ZE} {Γ : ZG} (C : zC E Γ RX3 cX3_lightables 3 3) {b0 : Nat} (hb0 : zH b0)  {mem4 : ZM} {x4_1 : Int32} {x4_2 : Int32} {u : (Int32 × Int32) ⊕ (Int32 × Int32)} (G1 : ∀ s', u = Sum.inl s' → zG l E Γ 3 4 [(0, .ref (E.2.1 b0)), (1, .int (s'.1)), (2, .int (s'.2))] [] mem4) (G2 : ∀ s', u = Sum.inr s' → zG l E Γ 3 32 [(1, .int (s'.1))] [] mem4) (h : fX3_lightables_b4 b0 mem4 x4_1 x4_2 = some u) : zG l E Γ 3 4 [(0, .ref (E.2.1 b0)), (1, .int x4_1), (2, .int x4_2)] [] mem4 := by
  unfold fX3_lightables_b4 at h
  refine z_iload_n C dX3_lightables_4 rfl (j := 2) rfl ?_
  refine z_aload_n C dX3_lightables_5 rfl (j := 0) rfl ?_
  refine zg3_0 C dX3_lightables_6 hb0 zw42 ?_
  refine z_icmp_ge 32 C dX3_lightables_9 (by decide) h (fun h => ?_) (fun h => ?_)
  · refine z_pick [1] rfl ?_
    exact G2 _ (Option.some.inj h).symm
  · refine z_aload_n C dX3_lightables_12 rfl (j := 0) rfl ?_
    refine z_iload_n C dX3_lightables_13 rfl (j := 2) rfl ?_
    obtain ⟨r4, h4, h⟩ := Option.bind_eq_some_iff.mp h
    refine z_callVi [.int x4_2] [] C dX3_lightables_14 (zH_lt hb0) (zH_ent hb0) rfl zk_X3_65 zw488 zw489 ⟨⟨by decide, by decide⟩, rfl, Nat.le_of_ble_eq_true rfl⟩ rfl (sX3_mayBeLit hb0 h4) ?_
    refine z_if_eq 26 C dX3_lightables_17 (by decide) h (fun h => ?_) (fun h => ?_)
    · refine z_pick [0, 1, 2] rfl ?_
      exact jX3_lightables_26 C hb0  G1 G2 h
    · refine z_iload_n C dX3_lightables_20 rfl (j := 1) rfl ?_
      refine z_iconst (v := 1) C dX3_lightables_21 zc1 ?_
      refine z_iload_n C dX3_lightables_22 rfl (j := 2) rfl ?_
      refine z_ishl C dX3_lightables_23 ?_
      refine z_ior C dX3_lightables_24 ?_
      refine z_istore_n [(0, .ref (E.2.1 b0)), (2, .int x4_2)] C dX3_lightables_25 h rfl (by decide) rfl (fun v6 h => ?_)
      refine z_pick [1, 0, 2] rfl ?_
      exact jX3_lightables_26 C hb0  G1 G2 h
theorem lX3_lightables_4 {l : Launch} {E : ZE} {Γ : ZG} (C : zC E Γ RX3 cX3_lightables 3 3) {b0 : Nat} (hb0 : zH b0)  {mem4 : ZM} {s : Int32 × Int32} {r : Int32 × Int32} (h : fX3_lightables_l4 b0 mem4 s = some r) (K1 : zG l E Γ 3 32 [(1, .int r.1)] [] mem4) : zG l E Γ 3 4 [(0, .ref (E.2.1 b0)), (1, .int s.1), (2, .int s.2)] [] mem4 :=
  z_loop (body := fun s => fX3_lightables_b4 b0 mem4 s.1 s.2) (fun s => zG l E Γ 3 4 [(0, .ref (E.2.1 b0)), (1, .int s.1), (2, .int s.2)] [] mem4) (fun r => zG l E Γ 3 32 [(1, .int r.1)] [] mem4) (fun s u hb g1 g2 => bX3_lightables_4 C hb0 g1 g2 hb) 2000 s r h K1
def fX3_lightables (b0 : Nat)  (mem : ZM) : Option (Int32) :=
  zlet (0 : Int32) (fun v1 => zlet (0 : Int32) (fun v2 => Option.bind (fX3_lightables_l4 b0 mem (v1, v2)) (fun r3 => some r3.1)))
set_option maxRecDepth 100000 in
set_option maxHeartbeats 4000000 in
theorem sX3_lightables {l : Launch} {E : ZE} {b0 : Nat} (hb0 : zH b0)  {mem : ZM} {t : Int32} (h : fX3_lightables b0 mem = some t) : zMet l E yX3_lightables cX3_lightables 3 (some .int) 3 [.ref (E.2.1 b0)] mem (some (.int t)) mem := by
  refine z_enter (by decide) (Nat.le_of_ble_eq_true rfl) (fun Γ C Rq => ?_)
  have C : zC E Γ RX3 cX3_lightables 3 3 := C
  show zG l E Γ 3 0 [(0, .ref (E.2.1 b0))] [] mem
  unfold fX3_lightables at h
  refine z_iconst (v := 0) C dX3_lightables_0 zc0 ?_
  refine z_istore_n [(0, .ref (E.2.1 b0))] C dX3_lightables_1 h rfl (by decide) rfl (fun v1 h => ?_)
  refine z_iconst (v := 0) C dX3_lightables_2 zc0 ?_
  refine z_istore_n [(1, .int v1), (0, .ref (E.2.1 b0))] C dX3_lightables_3 h rfl (by decide) rfl (fun v2 h => ?_)
  obtain ⟨r3, h3, h⟩ := Option.bind_eq_some_iff.mp h
  refine z_pick [2, 1, 0] rfl ?_
  refine lX3_lightables_4 C hb0 h3 ?_
  refine z_iload_n C dX3_lightables_32 rfl (j := 0) rfl ?_
  have e := Option.some.inj h; subst e; exact z_iret C dX3_lightables_33 Rq
-- X2_makesAsh
def fX2_makesAsh (q1 : Nat) (a2 : Int32) (a3 : Int32) (a4 : Int32) (mem : ZM) : Option (Int32 × ZM) :=
  Option.bind (fX3_takeFrom 37 q1 mem) (fun r1 => zlet (zst r1 37 5 ((r1 37 5) ||| a2)) (fun m2 => Option.bind (fX2_tryHours a4 m2) (fun r3 => Option.bind (fX3_ashes 37 r3) (fun r4 => if (a3 &&& (r4 ^^^ (-1 : Int32))) = 0 then (some ((1 : Int32), r3)) else (some ((0 : Int32), r3))))))
set_option maxRecDepth 100000 in
set_option maxHeartbeats 4000000 in
theorem sX2_makesAsh {l : Launch} {E : ZE} {q1 : Nat} (hq1 : zH q1) {a2 : Int32} {a3 : Int32} {a4 : Int32} {mem : ZM} {t : Int32 × ZM} (h : fX2_makesAsh q1 a2 a3 a4 mem = some t) : zMet l E yX2_makesAsh cX2_makesAsh 5 (some .boolean) 5 [.ref (E.2.1 14), .ref (E.2.1 q1), .int a2, .int a3, .int a4] mem (some (.int t.1)) t.2 := by
  refine z_enter (by decide) (Nat.le_of_ble_eq_true rfl) (fun Γ C Rq => ?_)
  have C : zC E Γ RX2 cX2_makesAsh 5 5 := C
  show zG l E Γ 5 0 [(0, .ref (E.2.1 14)), (1, .ref (E.2.1 q1)), (2, .int a2), (3, .int a3), (4, .int a4)] [] mem
  unfold fX2_makesAsh at h
  refine z_aload_n C dX2_makesAsh_0 rfl (j := 0) rfl ?_
  refine zg2_0 C dX2_makesAsh_1 zw78 ?_
  refine z_aload_n C dX2_makesAsh_4 rfl (j := 1) rfl ?_
  obtain ⟨r1, h1, h⟩ := Option.bind_eq_some_iff.mp h
  refine z_callVv [.ref (E.2.1 q1)] [] C dX2_makesAsh_5 (zH_lt zH37) (zH_ent zH37) rfl zk_X2_18 zw352 zw353 ⟨⟨by decide, by decide⟩, rfl, Nat.le_of_ble_eq_true rfl⟩ rfl (sX3_takeFrom zH37 hq1 h1) ?_
  refine z_aload_n C dX2_makesAsh_8 rfl (j := 0) rfl ?_
  refine zg2_0 C dX2_makesAsh_9 zw78 ?_
  refine z_dup C dX2_makesAsh_12 rfl ?_
  refine zg3_5 C dX2_makesAsh_13 zH37 zw683 ?_
  refine z_iload_n C dX2_makesAsh_16 rfl (j := 2) rfl ?_
  refine z_ior C dX2_makesAsh_17 ?_
  refine zp3_5 C dX2_makesAsh_18 zH37 zw683 h (fun m2 h => ?_)
  refine z_aload_n C dX2_makesAsh_21 rfl (j := 0) rfl ?_
  refine z_iload C dX2_makesAsh_22 (j := 4) rfl ?_
  obtain ⟨r3, h3, h⟩ := Option.bind_eq_some_iff.mp h
  refine z_callVv [.int a4] [] C dX2_makesAsh_24 (by decide) zen_14 rfl zk_X2_22 zw680 zw681 ⟨⟨by decide, by decide⟩, rfl, Nat.le_of_ble_eq_true rfl⟩ rfl (sX2_tryHours  h3) ?_
  refine z_iload_n C dX2_makesAsh_27 rfl (j := 3) rfl ?_
  refine z_aload_n C dX2_makesAsh_28 rfl (j := 0) rfl ?_
  refine zg2_0 C dX2_makesAsh_29 zw78 ?_
  obtain ⟨r4, h4, h⟩ := Option.bind_eq_some_iff.mp h
  refine z_callVi [] [.int a3] C dX2_makesAsh_32 (zH_lt zH37) (zH_ent zH37) rfl zk_X2_46 zw760 zw761 ⟨⟨by decide, by decide⟩, rfl, Nat.le_of_ble_eq_true rfl⟩ rfl (sX3_ashes zH37 h4) ?_
  refine z_iconst (v := -1) C dX2_makesAsh_35 zcm1 ?_
  refine z_ixor C dX2_makesAsh_36 ?_
  refine z_iand C dX2_makesAsh_37 ?_
  refine z_if_ne 45 C dX2_makesAsh_38 (by decide) h (fun h => ?_) (fun h => ?_)
  · refine z_iconst (v := 0) C dX2_makesAsh_45 zc0 ?_
    have e := Option.some.inj h; subst e; exact z_zret C dX2_makesAsh_46 zbl0 Rq
  · refine z_iconst (v := 1) C dX2_makesAsh_41 zc1 ?_
    refine z_goto 46 C dX2_makesAsh_42 (by decide) ?_
    have e := Option.some.inj h; subst e; exact z_zret C dX2_makesAsh_46 zbl1 Rq
-- X2_fewestToLight
def fX2_fewestToLight_j89 (q1 : Nat) (y38_2 : Int32) (y38_3 : Int32) (y38_4 : Int32) (x5 : Int32) (x6 : Int32) (x7 : Int32) (mem : ZM) : Option ((Int32 × Int32 × Int32 × ZM) ⊕ (Int32 × Int32 × Int32 × ZM)) :=
  zlet (x7 + (1 : Int32)) (fun v12 => some (Sum.inl (x5, x6, v12, mem)))
set_option maxRecDepth 100000 in
set_option maxHeartbeats 4000000 in
theorem jX2_fewestToLight_89 {l : Launch} {E : ZE} {Γ : ZG} (C : zC E Γ RX2 cX2_fewestToLight 9 6) {q1 : Nat} (hq1 : zH q1) {y38_2 : Int32} {y38_3 : Int32} {y38_4 : Int32} {x5 : Int32} {x6 : Int32} {x7 : Int32}  {mem : ZM}  {u : (Int32 × Int32 × Int32 × ZM) ⊕ (Int32 × Int32 × Int32 × ZM)}  (G1 : ∀ s', u = Sum.inl s' → zG l E Γ 9 38 [(0, .ref (E.2.1 14)), (1, .ref (E.2.1 q1)), (2, .int y38_2), (3, .int y38_3), (4, .int y38_4), (5, .int (s'.1)), (6, .int (s'.2.1)), (7, .int (s'.2.2.1))] [] s'.2.2.2) (G2 : ∀ s', u = Sum.inr s' → zG l E Γ 9 95 [(5, .int (s'.1))] [] s'.2.2.2) (h : fX2_fewestToLight_j89 q1 y38_2 y38_3 y38_4 x5 x6 x7 mem = some u) : zG l E Γ 9 89 [(0, .ref (E.2.1 14)), (1, .ref (E.2.1 q1)), (2, .int y38_2), (3, .int y38_3), (4, .int y38_4), (5, .int x5), (6, .int x6), (7, .int x7)] [] mem := by
  unfold fX2_fewestToLight_j89 at h
  refine z_iinc [(0, .ref (E.2.1 14)), (1, .ref (E.2.1 q1)), (2, .int y38_2), (3, .int y38_3), (4, .int y38_4), (5, .int x5), (6, .int x6)] C dX2_fewestToLight_89 zc1 h (j := 7) rfl (by decide) rfl (fun v12 h => ?_)
  refine z_goto 38 C dX2_fewestToLight_92 (by decide) ?_
  refine z_pick [1, 2, 3, 4, 5, 6, 7, 0] rfl ?_
  exact G1 _ (Option.some.inj h).symm
def fX2_fewestToLight_b38 (q1 : Nat) (y38_2 : Int32) (y38_3 : Int32) (y38_4 : Int32) (x38_5 : Int32) (x38_6 : Int32) (x38_7 : Int32) (memb : ZM) : Option ((Int32 × Int32 × Int32 × ZM) ⊕ (Int32 × Int32 × Int32 × ZM)) :=
  Option.bind (fX3_allThings q1 memb) (fun r9 => if r9 < x38_7 then (some (Sum.inr (x38_5, x38_6, x38_7, memb))) else (Option.bind (fJ6_bitCount_0f7a4 x38_7) (fun r10 => zlet r10 (fun v11 => if (x38_7 &&& y38_4) = 0 then (if x38_6 ≤ v11 then (fX2_fewestToLight_j89 q1 y38_2 y38_3 y38_4 x38_5 x38_6 x38_7 memb) else (Option.bind (fX2_makesAsh q1 x38_7 y38_2 y38_3 memb) (fun r13 => if r13.1 = 0 then (fX2_fewestToLight_j89 q1 y38_2 y38_3 y38_4 x38_5 x38_6 x38_7 r13.2) else (zlet x38_7 (fun v14 => zlet v11 (fun v15 => fX2_fewestToLight_j89 q1 y38_2 y38_3 y38_4 v14 v15 x38_7 r13.2)))))) else (fX2_fewestToLight_j89 q1 y38_2 y38_3 y38_4 x38_5 x38_6 x38_7 memb)))))
def fX2_fewestToLight_l38 (q1 : Nat) (y38_2 : Int32) (y38_3 : Int32) (y38_4 : Int32) (s : Int32 × Int32 × Int32 × ZM) : Option (Int32 × Int32 × Int32 × ZM) := ziter (fun s => fX2_fewestToLight_b38 q1 y38_2 y38_3 y38_4 s.1 s.2.1 s.2.2.1 s.2.2.2) 2000 s
set_option maxRecDepth 100000 in
set_option maxHeartbeats 4000000 in
theorem bX2_fewestToLight_38 {l : Launch} {E : ZE} {Γ : ZG} (C : zC E Γ RX2 cX2_fewestToLight 9 6) {q1 : Nat} (hq1 : zH q1) {y38_2 : Int32} {y38_3 : Int32} {y38_4 : Int32} {x38_5 : Int32} {x38_6 : Int32} {x38_7 : Int32} {memb : ZM} {u : (Int32 × Int32 × Int32 × ZM) ⊕ (Int32 × Int32 × Int32 × ZM)} (G1 : ∀ s', u = Sum.inl s' → zG l E Γ 9 38 [(0, .ref (E.2.1 14)), (1, .ref (E.2.1 q1)), (2, .int y38_2), (3, .int y38_3), (4, .int y38_4), (5, .int (s'.1)), (6, .int (s'.2.1)), (7, .int (s'.2.2.1))] [] s'.2.2.2) (G2 : ∀ s', u = Sum.inr s' → zG l E Γ 9 95 [(5, .int (s'.1))] [] s'.2.2.2) (h : fX2_fewestToLight_b38 q1 y38_2 y38_3 y38_4 x38_5 x38_6 x38_7 memb = some u) : zG l E Γ 9 38 [(0, .ref (E.2.1 14)), (1, .ref (E.2.1 q1)), (2, .int y38_2), (3, .int y38_3), (4, .int y38_4), (5, .int x38_5), (6, .int x38_6), (7, .int x38_7)] [] memb := by
  unfold fX2_fewestToLight_b38 at h
  refine z_iload C dX2_fewestToLight_38 (j := 7) rfl ?_
  refine z_aload_n C dX2_fewestToLight_40 rfl (j := 1) rfl ?_
  obtain ⟨r9, h9, h⟩ := Option.bind_eq_some_iff.mp h
  refine z_callVi [] [.int x38_7] C dX2_fewestToLight_41 (zH_lt hq1) (zH_ent hq1) rfl zk_X2_42 zw756 zw757 ⟨⟨by decide, by decide⟩, rfl, Nat.le_of_ble_eq_true rfl⟩ rfl (sX3_allThings hq1 h9) ?_
  refine z_icmp_gt 95 C dX2_fewestToLight_44 (by decide) h (fun h => ?_) (fun h => ?_)
  · refine z_pick [5] rfl ?_
    exact G2 _ (Option.some.inj h).symm
  · refine z_iload C dX2_fewestToLight_47 (j := 7) rfl ?_
    obtain ⟨r10, h10, h⟩ := Option.bind_eq_some_iff.mp h
    refine z_callSi [.int x38_7] [] C dX2_fewestToLight_49 zk_X2_58 zw467 ⟨⟨by decide, by decide⟩, rfl, Nat.le_of_ble_eq_true rfl⟩ rfl (sJ6_bitCount_0f7a4  h10) ?_
    refine z_istore [(0, .ref (E.2.1 14)), (1, .ref (E.2.1 q1)), (2, .int y38_2), (3, .int y38_3), (4, .int y38_4), (5, .int x38_5), (6, .int x38_6), (7, .int x38_7)] C dX2_fewestToLight_52 h (by decide) rfl (fun v11 h => ?_)
    refine z_iload C dX2_fewestToLight_54 (j := 8) rfl ?_
    refine z_iload C dX2_fewestToLight_56 (j := 5) rfl ?_
    refine z_iand C dX2_fewestToLight_58 ?_
    refine z_if_ne 89 C dX2_fewestToLight_59 (by decide) h (fun h => ?_) (fun h => ?_)
    · refine z_pick [1, 2, 3, 4, 5, 6, 7, 8] rfl ?_
      exact jX2_fewestToLight_89 C hq1  G1 G2 h
    · refine z_iload C dX2_fewestToLight_62 (j := 0) rfl ?_
      refine z_iload C dX2_fewestToLight_64 (j := 7) rfl ?_
      refine z_icmp_ge 89 C dX2_fewestToLight_66 (by decide) h (fun h => ?_) (fun h => ?_)
      · refine z_pick [1, 2, 3, 4, 5, 6, 7, 8] rfl ?_
        exact jX2_fewestToLight_89 C hq1  G1 G2 h
      · refine z_aload_n C dX2_fewestToLight_69 rfl (j := 1) rfl ?_
        refine z_aload_n C dX2_fewestToLight_70 rfl (j := 2) rfl ?_
        refine z_iload C dX2_fewestToLight_71 (j := 8) rfl ?_
        refine z_iload_n C dX2_fewestToLight_73 rfl (j := 3) rfl ?_
        refine z_iload_n C dX2_fewestToLight_74 rfl (j := 4) rfl ?_
        obtain ⟨r13, h13, h⟩ := Option.bind_eq_some_iff.mp h
        refine z_callVi [.ref (E.2.1 q1), .int x38_7, .int y38_2, .int y38_3] [] C dX2_fewestToLight_75 (by decide) zen_14 rfl zk_X2_64 zw791 zw792 ⟨⟨by decide, by decide⟩, rfl, Nat.le_of_ble_eq_true rfl⟩ rfl (sX2_makesAsh hq1 h13) ?_
        refine z_if_eq 89 C dX2_fewestToLight_78 (by decide) h (fun h => ?_) (fun h => ?_)
        · refine z_pick [1, 2, 3, 4, 5, 6, 7, 8] rfl ?_
          exact jX2_fewestToLight_89 C hq1  G1 G2 h
        · refine z_iload C dX2_fewestToLight_81 (j := 8) rfl ?_
          refine z_istore [(8, .int v11), (0, .ref (E.2.1 14)), (1, .ref (E.2.1 q1)), (2, .int y38_2), (3, .int y38_3), (4, .int y38_4), (6, .int x38_6), (7, .int x38_7)] C dX2_fewestToLight_83 h (by decide) rfl (fun v14 h => ?_)
          refine z_iload C dX2_fewestToLight_85 (j := 1) rfl ?_
          refine z_istore [(5, .int v14), (8, .int v11), (0, .ref (E.2.1 14)), (1, .ref (E.2.1 q1)), (2, .int y38_2), (3, .int y38_3), (4, .int y38_4), (7, .int x38_7)] C dX2_fewestToLight_87 h (by decide) rfl (fun v15 h => ?_)
          refine z_pick [3, 4, 5, 6, 7, 1, 0, 8] rfl ?_
          exact jX2_fewestToLight_89 C hq1  G1 G2 h
theorem lX2_fewestToLight_38 {l : Launch} {E : ZE} {Γ : ZG} (C : zC E Γ RX2 cX2_fewestToLight 9 6) {q1 : Nat} (hq1 : zH q1) {y38_2 : Int32} {y38_3 : Int32} {y38_4 : Int32} {s : Int32 × Int32 × Int32 × ZM} {r : Int32 × Int32 × Int32 × ZM} (h : fX2_fewestToLight_l38 q1 y38_2 y38_3 y38_4 s = some r) (K1 : zG l E Γ 9 95 [(5, .int r.1)] [] r.2.2.2) : zG l E Γ 9 38 [(0, .ref (E.2.1 14)), (1, .ref (E.2.1 q1)), (2, .int y38_2), (3, .int y38_3), (4, .int y38_4), (5, .int s.1), (6, .int s.2.1), (7, .int s.2.2.1)] [] s.2.2.2 :=
  z_loop (body := fun s => fX2_fewestToLight_b38 q1 y38_2 y38_3 y38_4 s.1 s.2.1 s.2.2.1 s.2.2.2) (fun s => zG l E Γ 9 38 [(0, .ref (E.2.1 14)), (1, .ref (E.2.1 q1)), (2, .int y38_2), (3, .int y38_3), (4, .int y38_4), (5, .int s.1), (6, .int s.2.1), (7, .int s.2.2.1)] [] s.2.2.2) (fun r => zG l E Γ 9 95 [(5, .int r.1)] [] r.2.2.2) (fun s u hb g1 g2 => bX2_fewestToLight_38 C hq1 g1 g2 hb) 2000 s r h K1
def fX2_fewestToLight (q1 : Nat) (a2 : Int32) (a3 : Int32) (mem : ZM) : Option (Int32 × ZM) :=
  Option.bind (fX3_ashes q1 mem) (fun r1 => Option.bind (fX3_burnables q1 mem) (fun r2 => if (a2 &&& ((r1 ||| r2) ^^^ (-1 : Int32))) = 0 then (Option.bind (fX3_lightables q1 mem) (fun r3 => zlet (r3 ^^^ (-1 : Int32)) (fun v4 => zlet (-1000000 : Int32) (fun v5 => zlet (9 : Int32) (fun v6 => zlet (0 : Int32) (fun v7 => Option.bind (fX2_fewestToLight_l38 q1 a2 a3 v4 (v5, v6, v7, mem)) (fun r8 => some (r8.1, r8.2.2.2)))))))) else (some ((-1000000 : Int32), mem))))
set_option maxRecDepth 100000 in
set_option maxHeartbeats 4000000 in
theorem sX2_fewestToLight {l : Launch} {E : ZE} {q1 : Nat} (hq1 : zH q1) {a2 : Int32} {a3 : Int32} {mem : ZM} {t : Int32 × ZM} (h : fX2_fewestToLight q1 a2 a3 mem = some t) : zMet l E yX2_fewestToLight cX2_fewestToLight 9 (some .int) 6 [.ref (E.2.1 14), .ref (E.2.1 q1), .int a2, .int a3] mem (some (.int t.1)) t.2 := by
  refine z_enter (by decide) (Nat.le_of_ble_eq_true rfl) (fun Γ C Rq => ?_)
  have C : zC E Γ RX2 cX2_fewestToLight 9 6 := C
  show zG l E Γ 9 0 [(0, .ref (E.2.1 14)), (1, .ref (E.2.1 q1)), (2, .int a2), (3, .int a3)] [] mem
  unfold fX2_fewestToLight at h
  refine z_iload_n C dX2_fewestToLight_0 rfl (j := 2) rfl ?_
  refine z_aload_n C dX2_fewestToLight_1 rfl (j := 1) rfl ?_
  obtain ⟨r1, h1, h⟩ := Option.bind_eq_some_iff.mp h
  refine z_callVi [] [.int a2] C dX2_fewestToLight_2 (zH_lt hq1) (zH_ent hq1) rfl zk_X2_46 zw760 zw761 ⟨⟨by decide, by decide⟩, rfl, Nat.le_of_ble_eq_true rfl⟩ rfl (sX3_ashes hq1 h1) ?_
  refine z_aload_n C dX2_fewestToLight_5 rfl (j := 1) rfl ?_
  obtain ⟨r2, h2, h⟩ := Option.bind_eq_some_iff.mp h
  refine z_callVi [] [.int r1, .int a2] C dX2_fewestToLight_6 (zH_lt hq1) (zH_ent hq1) rfl zk_X2_52 zw782 zw783 ⟨⟨by decide, by decide⟩, rfl, Nat.le_of_ble_eq_true rfl⟩ rfl (sX3_burnables hq1 h2) ?_
  refine z_ior C dX2_fewestToLight_9 ?_
  refine z_iconst (v := -1) C dX2_fewestToLight_10 zcm1 ?_
  refine z_ixor C dX2_fewestToLight_11 ?_
  refine z_iand C dX2_fewestToLight_12 ?_
  refine z_if_eq 19 C dX2_fewestToLight_13 (by decide) h (fun h => ?_) (fun h => ?_)
  · refine z_aload_n C dX2_fewestToLight_19 rfl (j := 1) rfl ?_
    obtain ⟨r3, h3, h⟩ := Option.bind_eq_some_iff.mp h
    refine z_callVi [] [] C dX2_fewestToLight_20 (zH_lt hq1) (zH_ent hq1) rfl zk_X2_55 zw786 zw787 ⟨⟨by decide, by decide⟩, rfl, Nat.le_of_ble_eq_true rfl⟩ rfl (sX3_lightables hq1 h3) ?_
    refine z_iconst (v := -1) C dX2_fewestToLight_23 zcm1 ?_
    refine z_ixor C dX2_fewestToLight_24 ?_
    refine z_istore [(0, .ref (E.2.1 14)), (1, .ref (E.2.1 q1)), (2, .int a2), (3, .int a3)] C dX2_fewestToLight_25 h (by decide) rfl (fun v4 h => ?_)
    refine z_ldc C dX2_fewestToLight_27 zw726 ?_
    refine z_istore [(4, .int v4), (0, .ref (E.2.1 14)), (1, .ref (E.2.1 q1)), (2, .int a2), (3, .int a3)] C dX2_fewestToLight_29 h (by decide) rfl (fun v5 h => ?_)
    refine z_bipush (v := 9) C dX2_fewestToLight_31 zb9 ?_
    refine z_istore [(5, .int v5), (4, .int v4), (0, .ref (E.2.1 14)), (1, .ref (E.2.1 q1)), (2, .int a2), (3, .int a3)] C dX2_fewestToLight_33 h (by decide) rfl (fun v6 h => ?_)
    refine z_iconst (v := 0) C dX2_fewestToLight_35 zc0 ?_
    refine z_istore [(6, .int v6), (5, .int v5), (4, .int v4), (0, .ref (E.2.1 14)), (1, .ref (E.2.1 q1)), (2, .int a2), (3, .int a3)] C dX2_fewestToLight_36 h (by decide) rfl (fun v7 h => ?_)
    obtain ⟨r8, h8, h⟩ := Option.bind_eq_some_iff.mp h
    refine z_pick [4, 5, 6, 7, 3, 2, 1, 0] rfl ?_
    refine lX2_fewestToLight_38 C hq1 h8 ?_
    refine z_iload C dX2_fewestToLight_95 (j := 0) rfl ?_
    have e := Option.some.inj h; subst e; exact z_iret C dX2_fewestToLight_97 Rq
  · refine z_ldc C dX2_fewestToLight_16 zw726 ?_
    have e := Option.some.inj h; subst e; exact z_iret C dX2_fewestToLight_18 Rq
-- X3_pourOn
def fX3_pourOn (b0 : Nat) (a1 : Int32) (a2 : Int32) (mem : ZM) : Option (ZM) :=
  zgd (zin a1 8) (zgd (zin a1 8) (zlet (zst mem (b0 + 3) a1.toNatClampNeg (if ((mem (b0 + 3) a1.toNatClampNeg) + a2) < (20 : Int32) then ((mem (b0 + 3) a1.toNatClampNeg) + a2) else (20 : Int32))) (fun m1 => Option.bind (fX3_quench b0 a1 m1) (fun r2 => some r2))))
set_option maxRecDepth 100000 in
set_option maxHeartbeats 4000000 in
theorem sX3_pourOn {l : Launch} {E : ZE} {b0 : Nat} (hb0 : zH b0) {a1 : Int32} {a2 : Int32} {mem : ZM} {t : ZM} (h : fX3_pourOn b0 a1 a2 mem = some t) : zMet l E yX3_pourOn cX3_pourOn 3 none 1 [.ref (E.2.1 b0), .int a1, .int a2] mem none t := by
  refine z_enter (by decide) (Nat.le_of_ble_eq_true rfl) (fun Γ C Rq => ?_)
  have C : zC E Γ RX3 cX3_pourOn 3 1 := C
  show zG l E Γ 3 0 [(0, .ref (E.2.1 b0)), (1, .int a1), (2, .int a2)] [] mem
  unfold fX3_pourOn at h
  refine z_aload_n C dX3_pourOn_0 rfl (j := 0) rfl ?_
  refine zg3_3 C dX3_pourOn_1 hb0 zw46 ?_
  refine z_iload_n C dX3_pourOn_4 rfl (j := 1) rfl ?_
  refine z_bipush (v := 20) C dX3_pourOn_5 zb20 ?_
  refine z_aload_n C dX3_pourOn_7 rfl (j := 0) rfl ?_
  refine zg3_3 C dX3_pourOn_8 hb0 zw46 ?_
  refine z_iload_n C dX3_pourOn_11 rfl (j := 1) rfl ?_
  refine z_iald C dX3_pourOn_12 (zH_ar3 hb0) h (fun h => ?_)
  refine z_iload_n C dX3_pourOn_13 rfl (j := 2) rfl ?_
  refine z_iadd C dX3_pourOn_14 ?_
  refine z_mmin C dX3_pourOn_15 zw478 zw291 zw288 zw292 ⟨by decide, Nat.le_of_ble_eq_true rfl⟩ ?_
  refine z_iast C dX3_pourOn_18 (zH_ar3 hb0) h (fun m1 h => ?_)
  refine z_aload_n C dX3_pourOn_19 rfl (j := 0) rfl ?_
  refine z_iload_n C dX3_pourOn_20 rfl (j := 1) rfl ?_
  obtain ⟨r2, h2, h⟩ := Option.bind_eq_some_iff.mp h
  refine z_callVv [.int a1] [] C dX3_pourOn_21 (zH_lt hb0) (zH_ent hb0) rfl zk_X3_74 zw484 zw485 ⟨⟨by decide, by decide⟩, rfl, Nat.le_of_ble_eq_true rfl⟩ rfl (sX3_quench hb0 h2) ?_
  have e := Option.some.inj h; subst e; exact z_vret C dX3_pourOn_24 Rq
-- X2_leastWater
def fX2_leastWater_j33 (q1 : Nat) (y3_2 : Int32) (y3_3 : Int32) (x4 : Int32) (mem : ZM) : Option ((Int32 × ZM) ⊕ ((Int32 × ZM) ⊕ (Int32 × ZM))) :=
  Option.bind (fX2_tryUntilLit y3_2 y3_3 mem) (fun r4 => if r4.1 = (-1000000 : Int32) then (some (Sum.inr (Sum.inr (x4, r4.2)))) else (zlet (x4 + (1 : Int32)) (fun v5 => some (Sum.inl (v5, r4.2)))))
set_option maxRecDepth 100000 in
set_option maxHeartbeats 4000000 in
theorem jX2_leastWater_33 {l : Launch} {E : ZE} {Γ : ZG} (C : zC E Γ RX2 cX2_leastWater 5 5) {q1 : Nat} (hq1 : zH q1) {y3_2 : Int32} {y3_3 : Int32} {x4 : Int32}  {mem : ZM}  {u : (Int32 × ZM) ⊕ ((Int32 × ZM) ⊕ (Int32 × ZM))}  (G1 : ∀ s', u = Sum.inl s' → zG l E Γ 5 3 [(0, .ref (E.2.1 14)), (1, .ref (E.2.1 q1)), (2, .int y3_2), (3, .int y3_3), (4, .int (s'.1))] [] s'.2) (G2 : ∀ s', u = Sum.inr (Sum.inl s') → zG l E Γ 5 53 [] [] s'.2) (G3 : ∀ t', u = Sum.inr (Sum.inr t') → zRq E Γ (some .int) (some (.int t'.1)) t'.2) (h : fX2_leastWater_j33 q1 y3_2 y3_3 x4 mem = some u) : zG l E Γ 5 33 [(0, .ref (E.2.1 14)), (1, .ref (E.2.1 q1)), (2, .int y3_2), (3, .int y3_3), (4, .int x4)] [] mem := by
  unfold fX2_leastWater_j33 at h
  refine z_aload_n C dX2_leastWater_33 rfl (j := 0) rfl ?_
  refine z_iload_n C dX2_leastWater_34 rfl (j := 2) rfl ?_
  refine z_iload_n C dX2_leastWater_35 rfl (j := 3) rfl ?_
  obtain ⟨r4, h4, h⟩ := Option.bind_eq_some_iff.mp h
  refine z_callVi [.int y3_2, .int y3_3] [] C dX2_leastWater_36 (by decide) zen_14 rfl zk_X2_26 zw723 zw724 ⟨⟨by decide, by decide⟩, rfl, Nat.le_of_ble_eq_true rfl⟩ rfl (sX2_tryUntilLit  h4) ?_
  refine z_ldc C dX2_leastWater_39 zw726 ?_
  refine z_icmp_ne 47 C dX2_leastWater_41 (by decide) h (fun h => ?_) (fun h => ?_)
  · refine z_iinc [(0, .ref (E.2.1 14)), (1, .ref (E.2.1 q1)), (2, .int y3_2), (3, .int y3_3)] C dX2_leastWater_47 zc1 h (j := 4) rfl (by decide) rfl (fun v5 h => ?_)
    refine z_goto 3 C dX2_leastWater_50 (by decide) ?_
    refine z_pick [1, 2, 3, 4, 0] rfl ?_
    exact G1 _ (Option.some.inj h).symm
  · refine z_iload C dX2_leastWater_44 (j := 4) rfl ?_
    exact z_iret C dX2_leastWater_46 (G3 _ (Option.some.inj h).symm)
def fX2_leastWater_b3 (q1 : Nat) (y3_2 : Int32) (y3_3 : Int32) (x3_4 : Int32) (memb : ZM) : Option ((Int32 × ZM) ⊕ ((Int32 × ZM) ⊕ (Int32 × ZM))) :=
  if (20 : Int32) < x3_4 then (some (Sum.inr (Sum.inl (x3_4, memb)))) else (Option.bind (fX3_takeFrom 37 q1 memb) (fun r3 => if x3_4 ≤ 0 then (fX2_leastWater_j33 q1 y3_2 y3_3 x3_4 r3) else (Option.bind (fX3_pourOn 37 y3_2 x3_4 r3) (fun r6 => fX2_leastWater_j33 q1 y3_2 y3_3 x3_4 r6))))
def fX2_leastWater_l3 (q1 : Nat) (y3_2 : Int32) (y3_3 : Int32) (s : Int32 × ZM) : Option ((Int32 × ZM) ⊕ (Int32 × ZM)) := ziter (fun s => fX2_leastWater_b3 q1 y3_2 y3_3 s.1 s.2) 2000 s
set_option maxRecDepth 100000 in
set_option maxHeartbeats 4000000 in
theorem bX2_leastWater_3 {l : Launch} {E : ZE} {Γ : ZG} (C : zC E Γ RX2 cX2_leastWater 5 5) {q1 : Nat} (hq1 : zH q1) {y3_2 : Int32} {y3_3 : Int32} {x3_4 : Int32} {memb : ZM} {u : (Int32 × ZM) ⊕ ((Int32 × ZM) ⊕ (Int32 × ZM))} (G1 : ∀ s', u = Sum.inl s' → zG l E Γ 5 3 [(0, .ref (E.2.1 14)), (1, .ref (E.2.1 q1)), (2, .int y3_2), (3, .int y3_3), (4, .int (s'.1))] [] s'.2) (G2 : ∀ s', u = Sum.inr (Sum.inl s') → zG l E Γ 5 53 [] [] s'.2) (G3 : ∀ t', u = Sum.inr (Sum.inr t') → zRq E Γ (some .int) (some (.int t'.1)) t'.2) (h : fX2_leastWater_b3 q1 y3_2 y3_3 x3_4 memb = some u) : zG l E Γ 5 3 [(0, .ref (E.2.1 14)), (1, .ref (E.2.1 q1)), (2, .int y3_2), (3, .int y3_3), (4, .int x3_4)] [] memb := by
  unfold fX2_leastWater_b3 at h
  refine z_iload C dX2_leastWater_3 (j := 4) rfl ?_
  refine z_bipush (v := 20) C dX2_leastWater_5 zb20 ?_
  refine z_icmp_gt 53 C dX2_leastWater_7 (by decide) h (fun h => ?_) (fun h => ?_)
  · refine z_pick [] rfl ?_
    exact G2 _ (Option.some.inj h).symm
  · refine z_aload_n C dX2_leastWater_10 rfl (j := 0) rfl ?_
    refine zg2_0 C dX2_leastWater_11 zw78 ?_
    refine z_aload_n C dX2_leastWater_14 rfl (j := 1) rfl ?_
    obtain ⟨r3, h3, h⟩ := Option.bind_eq_some_iff.mp h
    refine z_callVv [.ref (E.2.1 q1)] [] C dX2_leastWater_15 (zH_lt zH37) (zH_ent zH37) rfl zk_X2_18 zw352 zw353 ⟨⟨by decide, by decide⟩, rfl, Nat.le_of_ble_eq_true rfl⟩ rfl (sX3_takeFrom zH37 hq1 h3) ?_
    refine z_iload C dX2_leastWater_18 (j := 4) rfl ?_
    refine z_if_le 33 C dX2_leastWater_20 (by decide) h (fun h => ?_) (fun h => ?_)
    · refine z_pick [0, 1, 2, 3, 4] rfl ?_
      exact jX2_leastWater_33 C hq1  G1 G2 G3 h
    · refine z_aload_n C dX2_leastWater_23 rfl (j := 0) rfl ?_
      refine zg2_0 C dX2_leastWater_24 zw78 ?_
      refine z_iload_n C dX2_leastWater_27 rfl (j := 2) rfl ?_
      refine z_iload C dX2_leastWater_28 (j := 4) rfl ?_
      obtain ⟨r6, h6, h⟩ := Option.bind_eq_some_iff.mp h
      refine z_callVv [.int y3_2, .int x3_4] [] C dX2_leastWater_30 (zH_lt zH37) (zH_ent zH37) rfl zk_X2_68 zw572 zw573 ⟨⟨by decide, by decide⟩, rfl, Nat.le_of_ble_eq_true rfl⟩ rfl (sX3_pourOn zH37 h6) ?_
      refine z_pick [0, 1, 2, 3, 4] rfl ?_
      exact jX2_leastWater_33 C hq1  G1 G2 G3 h
theorem lX2_leastWater_3 {l : Launch} {E : ZE} {Γ : ZG} (C : zC E Γ RX2 cX2_leastWater 5 5) {q1 : Nat} (hq1 : zH q1) {y3_2 : Int32} {y3_3 : Int32} {s : Int32 × ZM} {r : (Int32 × ZM) ⊕ (Int32 × ZM)} (h : fX2_leastWater_l3 q1 y3_2 y3_3 s = some r) (K1 : ∀ s', r = Sum.inl s' → zG l E Γ 5 53 [] [] s'.2) (K2 : ∀ t', r = Sum.inr t' → zRq E Γ (some .int) (some (.int t'.1)) t'.2) : zG l E Γ 5 3 [(0, .ref (E.2.1 14)), (1, .ref (E.2.1 q1)), (2, .int y3_2), (3, .int y3_3), (4, .int s.1)] [] s.2 :=
  z_loop (body := fun s => fX2_leastWater_b3 q1 y3_2 y3_3 s.1 s.2) (fun s => zG l E Γ 5 3 [(0, .ref (E.2.1 14)), (1, .ref (E.2.1 q1)), (2, .int y3_2), (3, .int y3_3), (4, .int s.1)] [] s.2) (fun r => (∀ s', r = Sum.inl s' → zG l E Γ 5 53 [] [] s'.2) ∧ (∀ t', r = Sum.inr t' → zRq E Γ (some .int) (some (.int t'.1)) t'.2)) (fun s u hb g1 g2 => bX2_leastWater_3 C hq1 g1 (fun s' e => (g2 _ e).1 _ rfl) (fun t' e => (g2 _ e).2 _ rfl) hb) 2000 s r h ⟨K1, K2⟩
def fX2_leastWater (q1 : Nat) (a2 : Int32) (a3 : Int32) (mem : ZM) : Option (Int32 × ZM) :=
  zlet (0 : Int32) (fun v1 => Option.bind (fX2_leastWater_l3 q1 a2 a3 (v1, mem)) (fun r2 => Sum.elim (fun s2 => some ((-1000000 : Int32), s2.2)) (fun t2 => some t2) r2))
set_option maxRecDepth 100000 in
set_option maxHeartbeats 4000000 in
theorem sX2_leastWater {l : Launch} {E : ZE} {q1 : Nat} (hq1 : zH q1) {a2 : Int32} {a3 : Int32} {mem : ZM} {t : Int32 × ZM} (h : fX2_leastWater q1 a2 a3 mem = some t) : zMet l E yX2_leastWater cX2_leastWater 5 (some .int) 5 [.ref (E.2.1 14), .ref (E.2.1 q1), .int a2, .int a3] mem (some (.int t.1)) t.2 := by
  refine z_enter (by decide) (Nat.le_of_ble_eq_true rfl) (fun Γ C Rq => ?_)
  have C : zC E Γ RX2 cX2_leastWater 5 5 := C
  show zG l E Γ 5 0 [(0, .ref (E.2.1 14)), (1, .ref (E.2.1 q1)), (2, .int a2), (3, .int a3)] [] mem
  unfold fX2_leastWater at h
  refine z_iconst (v := 0) C dX2_leastWater_0 zc0 ?_
  refine z_istore [(0, .ref (E.2.1 14)), (1, .ref (E.2.1 q1)), (2, .int a2), (3, .int a3)] C dX2_leastWater_1 h (by decide) rfl (fun v1 h => ?_)
  obtain ⟨r2, h2, h⟩ := Option.bind_eq_some_iff.mp h
  refine z_pick [1, 2, 3, 4, 0] rfl ?_
  refine lX2_leastWater_3 C hq1 h2 (fun s2 e2 => ?_) (fun t2 e2 => ?_)
  · subst e2
    replace h := z_el h
    refine z_ldc C dX2_leastWater_53 zw726 ?_
    have e := Option.some.inj h; subst e; exact z_iret C dX2_leastWater_55 Rq
  · subst e2
    replace h := z_er h
    have e := Option.some.inj h; subst e; exact Rq
-- X3_changePlaces
def fX3_changePlaces (b0 : Nat) (a1 : Int32) (a2 : Int32) (mem : ZM) : Option (ZM) :=
  zgd (zin a1 8) (zlet (mem (b0 + 4) a1.toNatClampNeg) (fun v1 => zgd (zin a2 8) (zgd (zin a1 8) (zlet (zst mem (b0 + 4) a1.toNatClampNeg (mem (b0 + 4) a2.toNatClampNeg)) (fun m2 => zgd (zin a2 8) (zlet (zst m2 (b0 + 4) a2.toNatClampNeg v1) (fun m3 => some m3)))))))
set_option maxRecDepth 100000 in
set_option maxHeartbeats 4000000 in
theorem sX3_changePlaces {l : Launch} {E : ZE} {b0 : Nat} (hb0 : zH b0) {a1 : Int32} {a2 : Int32} {mem : ZM} {t : ZM} (h : fX3_changePlaces b0 a1 a2 mem = some t) : zMet l E yX3_changePlaces cX3_changePlaces 4 none 0 [.ref (E.2.1 b0), .int a1, .int a2] mem none t := by
  refine z_enter (by decide) (Nat.le_of_ble_eq_true rfl) (fun Γ C Rq => ?_)
  have C : zC E Γ RX3 cX3_changePlaces 4 0 := C
  show zG l E Γ 4 0 [(0, .ref (E.2.1 b0)), (1, .int a1), (2, .int a2)] [] mem
  unfold fX3_changePlaces at h
  refine z_aload_n C dX3_changePlaces_0 rfl (j := 0) rfl ?_
  refine zg3_4 C dX3_changePlaces_1 hb0 zw47 ?_
  refine z_iload_n C dX3_changePlaces_4 rfl (j := 1) rfl ?_
  refine z_iald C dX3_changePlaces_5 (zH_ar4 hb0) h (fun h => ?_)
  refine z_istore_n [(0, .ref (E.2.1 b0)), (1, .int a1), (2, .int a2)] C dX3_changePlaces_6 h rfl (by decide) rfl (fun v1 h => ?_)
  refine z_aload_n C dX3_changePlaces_7 rfl (j := 1) rfl ?_
  refine zg3_4 C dX3_changePlaces_8 hb0 zw47 ?_
  refine z_iload_n C dX3_changePlaces_11 rfl (j := 2) rfl ?_
  refine z_aload_n C dX3_changePlaces_12 rfl (j := 1) rfl ?_
  refine zg3_4 C dX3_changePlaces_13 hb0 zw47 ?_
  refine z_iload_n C dX3_changePlaces_16 rfl (j := 3) rfl ?_
  refine z_iald C dX3_changePlaces_17 (zH_ar4 hb0) h (fun h => ?_)
  refine z_iast C dX3_changePlaces_18 (zH_ar4 hb0) h (fun m2 h => ?_)
  refine z_aload_n C dX3_changePlaces_19 rfl (j := 1) rfl ?_
  refine zg3_4 C dX3_changePlaces_20 hb0 zw47 ?_
  refine z_iload_n C dX3_changePlaces_23 rfl (j := 3) rfl ?_
  refine z_iload_n C dX3_changePlaces_24 rfl (j := 0) rfl ?_
  refine z_iast C dX3_changePlaces_25 (zH_ar4 hb0) h (fun m3 h => ?_)
  have e := Option.some.inj h; subst e; exact z_vret C dX3_changePlaces_26 Rq
-- X2_bestLaying
def fX2_bestLaying_j92 (q1 : Nat) (y26_2 : Int32) (y26_3 : Int32) (x4 : Int32) (x5 : Int32) (y26_6 : Int32) (x7 : Int32) (mem : ZM) : Option ((Int32 × Int32 × Int32 × ZM) ⊕ (Int32 × Int32 × Int32 × ZM)) :=
  zlet (x7 + (1 : Int32)) (fun v13 => some (Sum.inl (x4, x5, v13, mem)))
set_option maxRecDepth 100000 in
set_option maxHeartbeats 4000000 in
theorem jX2_bestLaying_92 {l : Launch} {E : ZE} {Γ : ZG} (C : zC E Γ RX2 cX2_bestLaying 9 5) {q1 : Nat} (hq1 : zH q1) {y26_2 : Int32} {y26_3 : Int32} {x4 : Int32} {x5 : Int32} {y26_6 : Int32} {x7 : Int32}  {mem : ZM}  {u : (Int32 × Int32 × Int32 × ZM) ⊕ (Int32 × Int32 × Int32 × ZM)}  (G1 : ∀ s', u = Sum.inl s' → zG l E Γ 9 26 [(0, .ref (E.2.1 14)), (1, .ref (E.2.1 q1)), (2, .int y26_2), (3, .int y26_3), (4, .int (s'.1)), (5, .int (s'.2.1)), (6, .int y26_6), (7, .int (s'.2.2.1))] [] s'.2.2.2) (G2 : ∀ s', u = Sum.inr s' → zG l E Γ 9 98 [(0, .ref (E.2.1 14)), (1, .ref (E.2.1 q1)), (2, .int y26_2), (3, .int y26_3), (4, .int (s'.1)), (5, .int (s'.2.1)), (6, .int y26_6)] [] s'.2.2.2) (h : fX2_bestLaying_j92 q1 y26_2 y26_3 x4 x5 y26_6 x7 mem = some u) : zG l E Γ 9 92 [(0, .ref (E.2.1 14)), (1, .ref (E.2.1 q1)), (2, .int y26_2), (3, .int y26_3), (4, .int x4), (5, .int x5), (6, .int y26_6), (7, .int x7)] [] mem := by
  unfold fX2_bestLaying_j92 at h
  refine z_iinc [(0, .ref (E.2.1 14)), (1, .ref (E.2.1 q1)), (2, .int y26_2), (3, .int y26_3), (4, .int x4), (5, .int x5), (6, .int y26_6)] C dX2_bestLaying_92 zc1 h (j := 7) rfl (by decide) rfl (fun v13 h => ?_)
  refine z_goto 26 C dX2_bestLaying_95 (by decide) ?_
  refine z_pick [1, 2, 3, 4, 5, 6, 7, 0] rfl ?_
  exact G1 _ (Option.some.inj h).symm
def fX2_bestLaying_b26 (q1 : Nat) (y26_2 : Int32) (y26_3 : Int32) (y26_6 : Int32) (x26_4 : Int32) (x26_5 : Int32) (x26_7 : Int32) (memb : ZM) : Option ((Int32 × Int32 × Int32 × ZM) ⊕ (Int32 × Int32 × Int32 × ZM)) :=
  if (memb q1 0) ≤ x26_7 then (some (Sum.inr (x26_4, x26_5, x26_7, memb))) else (Option.bind (fX3_takeFrom 37 q1 memb) (fun r7 => Option.bind (fX3_changePlaces 37 y26_6 x26_7 r7) (fun r8 => Option.bind (fX2_tryHours y26_2 r8) (fun r9 => Option.bind (fX3_ashes 37 r9) (fun r10 => Option.bind (fJ6_bitCount_0f7a4 r10) (fun r11 => zlet r11 (fun v12 => if v12 ≤ x26_5 then (fX2_bestLaying_j92 q1 y26_2 y26_3 x26_4 x26_5 y26_6 x26_7 r9) else (zlet (((10 : Int32) * y26_6) + x26_7) (fun v14 => zlet v12 (fun v15 => fX2_bestLaying_j92 q1 y26_2 y26_3 v14 v15 y26_6 x26_7 r9))))))))))
def fX2_bestLaying_l26 (q1 : Nat) (y26_2 : Int32) (y26_3 : Int32) (y26_6 : Int32) (s : Int32 × Int32 × Int32 × ZM) : Option (Int32 × Int32 × Int32 × ZM) := ziter (fun s => fX2_bestLaying_b26 q1 y26_2 y26_3 y26_6 s.1 s.2.1 s.2.2.1 s.2.2.2) 2000 s
set_option maxRecDepth 100000 in
set_option maxHeartbeats 4000000 in
theorem bX2_bestLaying_26 {l : Launch} {E : ZE} {Γ : ZG} (C : zC E Γ RX2 cX2_bestLaying 9 5) {q1 : Nat} (hq1 : zH q1) {y26_2 : Int32} {y26_3 : Int32} {y26_6 : Int32} {x26_4 : Int32} {x26_5 : Int32} {x26_7 : Int32} {memb : ZM} {u : (Int32 × Int32 × Int32 × ZM) ⊕ (Int32 × Int32 × Int32 × ZM)} (G1 : ∀ s', u = Sum.inl s' → zG l E Γ 9 26 [(0, .ref (E.2.1 14)), (1, .ref (E.2.1 q1)), (2, .int y26_2), (3, .int y26_3), (4, .int (s'.1)), (5, .int (s'.2.1)), (6, .int y26_6), (7, .int (s'.2.2.1))] [] s'.2.2.2) (G2 : ∀ s', u = Sum.inr s' → zG l E Γ 9 98 [(0, .ref (E.2.1 14)), (1, .ref (E.2.1 q1)), (2, .int y26_2), (3, .int y26_3), (4, .int (s'.1)), (5, .int (s'.2.1)), (6, .int y26_6)] [] s'.2.2.2) (h : fX2_bestLaying_b26 q1 y26_2 y26_3 y26_6 x26_4 x26_5 x26_7 memb = some u) : zG l E Γ 9 26 [(0, .ref (E.2.1 14)), (1, .ref (E.2.1 q1)), (2, .int y26_2), (3, .int y26_3), (4, .int x26_4), (5, .int x26_5), (6, .int y26_6), (7, .int x26_7)] [] memb := by
  unfold fX2_bestLaying_b26 at h
  refine z_iload C dX2_bestLaying_26 (j := 7) rfl ?_
  refine z_aload_n C dX2_bestLaying_28 rfl (j := 1) rfl ?_
  refine zg3_0 C dX2_bestLaying_29 hq1 zw832 ?_
  refine z_icmp_ge 98 C dX2_bestLaying_32 (by decide) h (fun h => ?_) (fun h => ?_)
  · refine z_pick [0, 1, 2, 3, 4, 5, 6] rfl ?_
    exact G2 _ (Option.some.inj h).symm
  · refine z_aload_n C dX2_bestLaying_35 rfl (j := 0) rfl ?_
    refine zg2_0 C dX2_bestLaying_36 zw78 ?_
    refine z_aload_n C dX2_bestLaying_39 rfl (j := 1) rfl ?_
    obtain ⟨r7, h7, h⟩ := Option.bind_eq_some_iff.mp h
    refine z_callVv [.ref (E.2.1 q1)] [] C dX2_bestLaying_40 (zH_lt zH37) (zH_ent zH37) rfl zk_X2_18 zw352 zw353 ⟨⟨by decide, by decide⟩, rfl, Nat.le_of_ble_eq_true rfl⟩ rfl (sX3_takeFrom zH37 hq1 h7) ?_
    refine z_aload_n C dX2_bestLaying_43 rfl (j := 0) rfl ?_
    refine zg2_0 C dX2_bestLaying_44 zw78 ?_
    refine z_iload C dX2_bestLaying_47 (j := 6) rfl ?_
    refine z_iload C dX2_bestLaying_49 (j := 7) rfl ?_
    obtain ⟨r8, h8, h⟩ := Option.bind_eq_some_iff.mp h
    refine z_callVv [.int y26_6, .int x26_7] [] C dX2_bestLaying_51 (zH_lt zH37) (zH_ent zH37) rfl zk_X2_75 zw610 zw611 ⟨⟨by decide, by decide⟩, rfl, Nat.le_of_ble_eq_true rfl⟩ rfl (sX3_changePlaces zH37 h8) ?_
    refine z_aload_n C dX2_bestLaying_54 rfl (j := 0) rfl ?_
    refine z_iload_n C dX2_bestLaying_55 rfl (j := 2) rfl ?_
    obtain ⟨r9, h9, h⟩ := Option.bind_eq_some_iff.mp h
    refine z_callVv [.int y26_2] [] C dX2_bestLaying_56 (by decide) zen_14 rfl zk_X2_22 zw680 zw681 ⟨⟨by decide, by decide⟩, rfl, Nat.le_of_ble_eq_true rfl⟩ rfl (sX2_tryHours  h9) ?_
    refine z_aload_n C dX2_bestLaying_59 rfl (j := 0) rfl ?_
    refine zg2_0 C dX2_bestLaying_60 zw78 ?_
    obtain ⟨r10, h10, h⟩ := Option.bind_eq_some_iff.mp h
    refine z_callVi [] [] C dX2_bestLaying_63 (zH_lt zH37) (zH_ent zH37) rfl zk_X2_46 zw760 zw761 ⟨⟨by decide, by decide⟩, rfl, Nat.le_of_ble_eq_true rfl⟩ rfl (sX3_ashes zH37 h10) ?_
    obtain ⟨r11, h11, h⟩ := Option.bind_eq_some_iff.mp h
    refine z_callSi [.int r10] [] C dX2_bestLaying_66 zk_X2_58 zw467 ⟨⟨by decide, by decide⟩, rfl, Nat.le_of_ble_eq_true rfl⟩ rfl (sJ6_bitCount_0f7a4  h11) ?_
    refine z_istore [(0, .ref (E.2.1 14)), (1, .ref (E.2.1 q1)), (2, .int y26_2), (3, .int y26_3), (4, .int x26_4), (5, .int x26_5), (6, .int y26_6), (7, .int x26_7)] C dX2_bestLaying_69 h (by decide) rfl (fun v12 h => ?_)
    refine z_iload C dX2_bestLaying_71 (j := 0) rfl ?_
    refine z_iload C dX2_bestLaying_73 (j := 6) rfl ?_
    refine z_icmp_le 92 C dX2_bestLaying_75 (by decide) h (fun h => ?_) (fun h => ?_)
    · refine z_pick [1, 2, 3, 4, 5, 6, 7, 8] rfl ?_
      exact jX2_bestLaying_92 C hq1  G1 G2 h
    · refine z_bipush (v := 10) C dX2_bestLaying_78 zb10 ?_
      refine z_iload C dX2_bestLaying_80 (j := 7) rfl ?_
      refine z_imul C dX2_bestLaying_82 ?_
      refine z_iload C dX2_bestLaying_83 (j := 8) rfl ?_
      refine z_iadd C dX2_bestLaying_85 ?_
      refine z_istore [(8, .int v12), (0, .ref (E.2.1 14)), (1, .ref (E.2.1 q1)), (2, .int y26_2), (3, .int y26_3), (5, .int x26_5), (6, .int y26_6), (7, .int x26_7)] C dX2_bestLaying_86 h (by decide) rfl (fun v14 h => ?_)
      refine z_iload C dX2_bestLaying_88 (j := 1) rfl ?_
      refine z_istore [(4, .int v14), (8, .int v12), (0, .ref (E.2.1 14)), (1, .ref (E.2.1 q1)), (2, .int y26_2), (3, .int y26_3), (6, .int y26_6), (7, .int x26_7)] C dX2_bestLaying_90 h (by decide) rfl (fun v15 h => ?_)
      refine z_pick [3, 4, 5, 6, 1, 0, 7, 8] rfl ?_
      exact jX2_bestLaying_92 C hq1  G1 G2 h
theorem lX2_bestLaying_26 {l : Launch} {E : ZE} {Γ : ZG} (C : zC E Γ RX2 cX2_bestLaying 9 5) {q1 : Nat} (hq1 : zH q1) {y26_2 : Int32} {y26_3 : Int32} {y26_6 : Int32} {s : Int32 × Int32 × Int32 × ZM} {r : Int32 × Int32 × Int32 × ZM} (h : fX2_bestLaying_l26 q1 y26_2 y26_3 y26_6 s = some r) (K1 : zG l E Γ 9 98 [(0, .ref (E.2.1 14)), (1, .ref (E.2.1 q1)), (2, .int y26_2), (3, .int y26_3), (4, .int r.1), (5, .int r.2.1), (6, .int y26_6)] [] r.2.2.2) : zG l E Γ 9 26 [(0, .ref (E.2.1 14)), (1, .ref (E.2.1 q1)), (2, .int y26_2), (3, .int y26_3), (4, .int s.1), (5, .int s.2.1), (6, .int y26_6), (7, .int s.2.2.1)] [] s.2.2.2 :=
  z_loop (body := fun s => fX2_bestLaying_b26 q1 y26_2 y26_3 y26_6 s.1 s.2.1 s.2.2.1 s.2.2.2) (fun s => zG l E Γ 9 26 [(0, .ref (E.2.1 14)), (1, .ref (E.2.1 q1)), (2, .int y26_2), (3, .int y26_3), (4, .int s.1), (5, .int s.2.1), (6, .int y26_6), (7, .int s.2.2.1)] [] s.2.2.2) (fun r => zG l E Γ 9 98 [(0, .ref (E.2.1 14)), (1, .ref (E.2.1 q1)), (2, .int y26_2), (3, .int y26_3), (4, .int r.1), (5, .int r.2.1), (6, .int y26_6)] [] r.2.2.2) (fun s u hb g1 g2 => bX2_bestLaying_26 C hq1 g1 g2 hb) 2000 s r h K1
def fX2_bestLaying_b11 (q1 : Nat) (y11_2 : Int32) (y11_3 : Int32) (x11_4 : Int32) (x11_5 : Int32) (x11_6 : Int32) (memb : ZM) : Option ((Int32 × Int32 × Int32 × ZM) ⊕ (Int32 × Int32 × Int32 × ZM)) :=
  if (memb q1 0) ≤ x11_6 then (some (Sum.inr (x11_4, x11_5, x11_6, memb))) else (zlet (x11_6 + (1 : Int32)) (fun v5 => Option.bind (fX2_bestLaying_l26 q1 y11_2 y11_3 x11_6 (x11_4, x11_5, v5, memb)) (fun r6 => zlet (x11_6 + (1 : Int32)) (fun v16 => some (Sum.inl (r6.1, r6.2.1, v16, r6.2.2.2))))))
def fX2_bestLaying_l11 (q1 : Nat) (y11_2 : Int32) (y11_3 : Int32) (s : Int32 × Int32 × Int32 × ZM) : Option (Int32 × Int32 × Int32 × ZM) := ziter (fun s => fX2_bestLaying_b11 q1 y11_2 y11_3 s.1 s.2.1 s.2.2.1 s.2.2.2) 2000 s
set_option maxRecDepth 100000 in
set_option maxHeartbeats 4000000 in
theorem bX2_bestLaying_11 {l : Launch} {E : ZE} {Γ : ZG} (C : zC E Γ RX2 cX2_bestLaying 9 5) {q1 : Nat} (hq1 : zH q1) {y11_2 : Int32} {y11_3 : Int32} {x11_4 : Int32} {x11_5 : Int32} {x11_6 : Int32} {memb : ZM} {u : (Int32 × Int32 × Int32 × ZM) ⊕ (Int32 × Int32 × Int32 × ZM)} (G1 : ∀ s', u = Sum.inl s' → zG l E Γ 9 11 [(0, .ref (E.2.1 14)), (1, .ref (E.2.1 q1)), (2, .int y11_2), (3, .int y11_3), (4, .int (s'.1)), (5, .int (s'.2.1)), (6, .int (s'.2.2.1))] [] s'.2.2.2) (G2 : ∀ s', u = Sum.inr s' → zG l E Γ 9 104 [(3, .int y11_3), (4, .int (s'.1)), (5, .int (s'.2.1))] [] s'.2.2.2) (h : fX2_bestLaying_b11 q1 y11_2 y11_3 x11_4 x11_5 x11_6 memb = some u) : zG l E Γ 9 11 [(0, .ref (E.2.1 14)), (1, .ref (E.2.1 q1)), (2, .int y11_2), (3, .int y11_3), (4, .int x11_4), (5, .int x11_5), (6, .int x11_6)] [] memb := by
  unfold fX2_bestLaying_b11 at h
  refine z_iload C dX2_bestLaying_11 (j := 6) rfl ?_
  refine z_aload_n C dX2_bestLaying_13 rfl (j := 1) rfl ?_
  refine zg3_0 C dX2_bestLaying_14 hq1 zw832 ?_
  refine z_icmp_ge 104 C dX2_bestLaying_17 (by decide) h (fun h => ?_) (fun h => ?_)
  · refine z_pick [3, 4, 5] rfl ?_
    exact G2 _ (Option.some.inj h).symm
  · refine z_iload C dX2_bestLaying_20 (j := 6) rfl ?_
    refine z_iconst (v := 1) C dX2_bestLaying_22 zc1 ?_
    refine z_iadd C dX2_bestLaying_23 ?_
    refine z_istore [(0, .ref (E.2.1 14)), (1, .ref (E.2.1 q1)), (2, .int y11_2), (3, .int y11_3), (4, .int x11_4), (5, .int x11_5), (6, .int x11_6)] C dX2_bestLaying_24 h (by decide) rfl (fun v5 h => ?_)
    obtain ⟨r6, h6, h⟩ := Option.bind_eq_some_iff.mp h
    refine z_pick [1, 2, 3, 4, 5, 6, 7, 0] rfl ?_
    refine lX2_bestLaying_26 C hq1 h6 ?_
    refine z_iinc [(0, .ref (E.2.1 14)), (1, .ref (E.2.1 q1)), (2, .int y11_2), (3, .int y11_3), (4, .int r6.1), (5, .int r6.2.1)] C dX2_bestLaying_98 zc1 h (j := 6) rfl (by decide) rfl (fun v16 h => ?_)
    refine z_goto 11 C dX2_bestLaying_101 (by decide) ?_
    refine z_pick [1, 2, 3, 4, 5, 6, 0] rfl ?_
    exact G1 _ (Option.some.inj h).symm
theorem lX2_bestLaying_11 {l : Launch} {E : ZE} {Γ : ZG} (C : zC E Γ RX2 cX2_bestLaying 9 5) {q1 : Nat} (hq1 : zH q1) {y11_2 : Int32} {y11_3 : Int32} {s : Int32 × Int32 × Int32 × ZM} {r : Int32 × Int32 × Int32 × ZM} (h : fX2_bestLaying_l11 q1 y11_2 y11_3 s = some r) (K1 : zG l E Γ 9 104 [(3, .int y11_3), (4, .int r.1), (5, .int r.2.1)] [] r.2.2.2) : zG l E Γ 9 11 [(0, .ref (E.2.1 14)), (1, .ref (E.2.1 q1)), (2, .int y11_2), (3, .int y11_3), (4, .int s.1), (5, .int s.2.1), (6, .int s.2.2.1)] [] s.2.2.2 :=
  z_loop (body := fun s => fX2_bestLaying_b11 q1 y11_2 y11_3 s.1 s.2.1 s.2.2.1 s.2.2.2) (fun s => zG l E Γ 9 11 [(0, .ref (E.2.1 14)), (1, .ref (E.2.1 q1)), (2, .int y11_2), (3, .int y11_3), (4, .int s.1), (5, .int s.2.1), (6, .int s.2.2.1)] [] s.2.2.2) (fun r => zG l E Γ 9 104 [(3, .int y11_3), (4, .int r.1), (5, .int r.2.1)] [] r.2.2.2) (fun s u hb g1 g2 => bX2_bestLaying_11 C hq1 g1 g2 hb) 2000 s r h K1
def fX2_bestLaying (q1 : Nat) (a2 : Int32) (a3 : Int32) (mem : ZM) : Option (Int32 × ZM) :=
  zlet (-1000000 : Int32) (fun v1 => zlet (-1000000 : Int32) (fun v2 => zlet (0 : Int32) (fun v3 => Option.bind (fX2_bestLaying_l11 q1 a2 a3 (v1, v2, v3, mem)) (fun r4 => if a3 = 0 then (some (r4.2.1, r4.2.2.2)) else (some (r4.1, r4.2.2.2))))))
set_option maxRecDepth 100000 in
set_option maxHeartbeats 4000000 in
theorem sX2_bestLaying {l : Launch} {E : ZE} {q1 : Nat} (hq1 : zH q1) {a2 : Int32} {a3 : Int32} {mem : ZM} {t : Int32 × ZM} (h : fX2_bestLaying q1 a2 a3 mem = some t) : zMet l E yX2_bestLaying cX2_bestLaying 9 (some .int) 5 [.ref (E.2.1 14), .ref (E.2.1 q1), .int a2, .int a3] mem (some (.int t.1)) t.2 := by
  refine z_enter (by decide) (Nat.le_of_ble_eq_true rfl) (fun Γ C Rq => ?_)
  have C : zC E Γ RX2 cX2_bestLaying 9 5 := C
  show zG l E Γ 9 0 [(0, .ref (E.2.1 14)), (1, .ref (E.2.1 q1)), (2, .int a2), (3, .int a3)] [] mem
  unfold fX2_bestLaying at h
  refine z_ldc C dX2_bestLaying_0 zw726 ?_
  refine z_istore [(0, .ref (E.2.1 14)), (1, .ref (E.2.1 q1)), (2, .int a2), (3, .int a3)] C dX2_bestLaying_2 h (by decide) rfl (fun v1 h => ?_)
  refine z_ldc C dX2_bestLaying_4 zw726 ?_
  refine z_istore [(4, .int v1), (0, .ref (E.2.1 14)), (1, .ref (E.2.1 q1)), (2, .int a2), (3, .int a3)] C dX2_bestLaying_6 h (by decide) rfl (fun v2 h => ?_)
  refine z_iconst (v := 0) C dX2_bestLaying_8 zc0 ?_
  refine z_istore [(5, .int v2), (4, .int v1), (0, .ref (E.2.1 14)), (1, .ref (E.2.1 q1)), (2, .int a2), (3, .int a3)] C dX2_bestLaying_9 h (by decide) rfl (fun v3 h => ?_)
  obtain ⟨r4, h4, h⟩ := Option.bind_eq_some_iff.mp h
  refine z_pick [3, 4, 5, 6, 2, 1, 0] rfl ?_
  refine lX2_bestLaying_11 C hq1 h4 ?_
  refine z_iload_n C dX2_bestLaying_104 rfl (j := 0) rfl ?_
  refine z_if_eq 113 C dX2_bestLaying_105 (by decide) h (fun h => ?_) (fun h => ?_)
  · refine z_iload C dX2_bestLaying_113 (j := 2) rfl ?_
    have e := Option.some.inj h; subst e; exact z_iret C dX2_bestLaying_115 Rq
  · refine z_iload C dX2_bestLaying_108 (j := 1) rfl ?_
    refine z_goto 115 C dX2_bestLaying_110 (by decide) ?_
    have e := Option.some.inj h; subst e; exact z_iret C dX2_bestLaying_115 Rq
-- X6_isWithin
def fX6_isWithin  (a0 : Int32) (a1 : Int32) (a2 : Int32) : Option (Int32) :=
  if a0 < a1 then (some (0 : Int32)) else (if a2 < a0 then (some (0 : Int32)) else (some (1 : Int32)))
set_option maxRecDepth 100000 in
set_option maxHeartbeats 4000000 in
theorem sX6_isWithin {l : Launch} {E : ZE}  {a0 : Int32} {a1 : Int32} {a2 : Int32} {mem : ZM} {t : Int32} (h : fX6_isWithin a0 a1 a2 = some t) : zMet l E yX6_isWithin cX6_isWithin 3 (some .boolean) 0 [.int a0, .int a1, .int a2] mem (some (.int t)) mem := by
  refine z_enter (by decide) (Nat.le_of_ble_eq_true rfl) (fun Γ C Rq => ?_)
  have C : zC E Γ RX6 cX6_isWithin 3 0 := C
  show zG l E Γ 3 0 [(0, .int a0), (1, .int a1), (2, .int a2)] [] mem
  unfold fX6_isWithin at h
  refine z_iload_n C dX6_isWithin_0 rfl (j := 0) rfl ?_
  refine z_iload_n C dX6_isWithin_1 rfl (j := 1) rfl ?_
  refine z_icmp_lt 14 C dX6_isWithin_2 (by decide) h (fun h => ?_) (fun h => ?_)
  · refine z_iconst (v := 0) C dX6_isWithin_14 zc0 ?_
    have e := Option.some.inj h; subst e; exact z_zret C dX6_isWithin_15 zbl0 Rq
  · refine z_iload_n C dX6_isWithin_5 rfl (j := 0) rfl ?_
    refine z_iload_n C dX6_isWithin_6 rfl (j := 2) rfl ?_
    refine z_icmp_gt 14 C dX6_isWithin_7 (by decide) h (fun h => ?_) (fun h => ?_)
    · refine z_iconst (v := 0) C dX6_isWithin_14 zc0 ?_
      have e := Option.some.inj h; subst e; exact z_zret C dX6_isWithin_15 zbl0 Rq
    · refine z_iconst (v := 1) C dX6_isWithin_10 zc1 ?_
      refine z_goto 15 C dX6_isWithin_11 (by decide) ?_
      have e := Option.some.inj h; subst e; exact z_zret C dX6_isWithin_15 zbl1 Rq
-- X6_isOfKind
def fX6_isOfKind_b4  (y4_1 : Int32) (x4_2 : Int32) (x4_3 : Int32) : Option ((Int32 × Int32) ⊕ ((Int32 × Int32) ⊕ (Int32))) :=
  if (6 : Int32) ≤ x4_3 then (some (Sum.inr (Sum.inl (x4_2, x4_3)))) else (Option.bind (fX6_isWithin x4_2 (0 : Int32) (5 : Int32)) (fun r4 => if r4 = 0 then (some (Sum.inr (Sum.inl (x4_2, x4_3)))) else (if x4_2 = y4_1 then (some (Sum.inr (Sum.inr (1 : Int32)))) else (zgd (zin x4_2 6) (zlet (zt0.getD x4_2.toNatClampNeg 0) (fun v5 => zlet (x4_3 + (1 : Int32)) (fun v6 => some (Sum.inl (v5, v6)))))))))
def fX6_isOfKind_l4  (y4_1 : Int32) (s : Int32 × Int32) : Option ((Int32 × Int32) ⊕ (Int32)) := ziter (fun s => fX6_isOfKind_b4 y4_1 s.1 s.2) 2000 s
set_option maxRecDepth 100000 in
set_option maxHeartbeats 4000000 in
theorem bX6_isOfKind_4 {l : Launch} {E : ZE} {Γ : ZG} (C : zC E Γ RX6 cX6_isOfKind 4 1)  {y4_1 : Int32} {mem4 : ZM} {x4_2 : Int32} {x4_3 : Int32} {u : (Int32 × Int32) ⊕ ((Int32 × Int32) ⊕ (Int32))} (G1 : ∀ s', u = Sum.inl s' → zG l E Γ 4 4 [(1, .int y4_1), (2, .int (s'.1)), (3, .int (s'.2))] [] mem4) (G2 : ∀ s', u = Sum.inr (Sum.inl s') → zG l E Γ 4 40 [] [] mem4) (G3 : ∀ t', u = Sum.inr (Sum.inr t') → zRq E Γ (some .boolean) (some (.int t')) mem4) (h : fX6_isOfKind_b4 y4_1 x4_2 x4_3 = some u) : zG l E Γ 4 4 [(1, .int y4_1), (2, .int x4_2), (3, .int x4_3)] [] mem4 := by
  unfold fX6_isOfKind_b4 at h
  refine z_iload_n C dX6_isOfKind_4 rfl (j := 2) rfl ?_
  refine z_gets C dX6_isOfKind_5 C.2.2.2.2.2.2.2.1.1.1 zw858 ?_
  refine z_tlen (v := 6) C dX6_isOfKind_8 C.2.2.2.2.2.2.2.1.1.2 (by decide) ?_
  refine z_icmp_ge 40 C dX6_isOfKind_9 (by decide) h (fun h => ?_) (fun h => ?_)
  · refine z_pick [] rfl ?_
    exact G2 _ (Option.some.inj h).symm
  · refine z_iload_n C dX6_isOfKind_12 rfl (j := 1) rfl ?_
    refine z_iconst (v := 0) C dX6_isOfKind_13 zc0 ?_
    refine z_iconst (v := 5) C dX6_isOfKind_14 zc5 ?_
    obtain ⟨r4, h4, h⟩ := Option.bind_eq_some_iff.mp h
    refine z_callSi [.int x4_2, .int (0 : Int32), .int (5 : Int32)] [] C dX6_isOfKind_15 zk_X6_212 zw121 ⟨⟨by decide, by decide⟩, rfl, Nat.le_of_ble_eq_true rfl⟩ rfl (sX6_isWithin  h4) ?_
    refine z_if_eq 40 C dX6_isOfKind_18 (by decide) h (fun h => ?_) (fun h => ?_)
    · refine z_pick [] rfl ?_
      exact G2 _ (Option.some.inj h).symm
    · refine z_iload_n C dX6_isOfKind_21 rfl (j := 1) rfl ?_
      refine z_iload_n C dX6_isOfKind_22 rfl (j := 0) rfl ?_
      refine z_icmp_ne 28 C dX6_isOfKind_23 (by decide) h (fun h => ?_) (fun h => ?_)
      · refine z_gets C dX6_isOfKind_28 C.2.2.2.2.2.2.2.1.1.1 zw858 ?_
        refine z_iload_n C dX6_isOfKind_31 rfl (j := 1) rfl ?_
        refine z_tald C dX6_isOfKind_32 C.2.2.2.2.2.2.2.1.1.2 h (fun h => ?_)
        refine z_istore_n [(1, .int y4_1), (3, .int x4_3)] C dX6_isOfKind_33 h rfl (by decide) rfl (fun v5 h => ?_)
        refine z_iinc [(2, .int v5), (1, .int y4_1)] C dX6_isOfKind_34 zc1 h (j := 2) rfl (by decide) rfl (fun v6 h => ?_)
        refine z_goto 4 C dX6_isOfKind_37 (by decide) ?_
        refine z_pick [2, 1, 0] rfl ?_
        exact G1 _ (Option.some.inj h).symm
      · refine z_iconst (v := 1) C dX6_isOfKind_26 zc1 ?_
        exact z_zret C dX6_isOfKind_27 zbl1 (G3 _ (Option.some.inj h).symm)
theorem lX6_isOfKind_4 {l : Launch} {E : ZE} {Γ : ZG} (C : zC E Γ RX6 cX6_isOfKind 4 1)  {y4_1 : Int32} {mem4 : ZM} {s : Int32 × Int32} {r : (Int32 × Int32) ⊕ (Int32)} (h : fX6_isOfKind_l4 y4_1 s = some r) (K1 : ∀ s', r = Sum.inl s' → zG l E Γ 4 40 [] [] mem4) (K2 : ∀ t', r = Sum.inr t' → zRq E Γ (some .boolean) (some (.int t')) mem4) : zG l E Γ 4 4 [(1, .int y4_1), (2, .int s.1), (3, .int s.2)] [] mem4 :=
  z_loop (body := fun s => fX6_isOfKind_b4 y4_1 s.1 s.2) (fun s => zG l E Γ 4 4 [(1, .int y4_1), (2, .int s.1), (3, .int s.2)] [] mem4) (fun r => (∀ s', r = Sum.inl s' → zG l E Γ 4 40 [] [] mem4) ∧ (∀ t', r = Sum.inr t' → zRq E Γ (some .boolean) (some (.int t')) mem4)) (fun s u hb g1 g2 => bX6_isOfKind_4 C  g1 (fun s' e => (g2 _ e).1 _ rfl) (fun t' e => (g2 _ e).2 _ rfl) hb) 2000 s r h ⟨K1, K2⟩
def fX6_isOfKind  (a0 : Int32) (a1 : Int32) : Option (Int32) :=
  zlet a0 (fun v1 => zlet (0 : Int32) (fun v2 => Option.bind (fX6_isOfKind_l4 a1 (v1, v2)) (fun r3 => Sum.elim (fun s3 => some (0 : Int32)) (fun t3 => some t3) r3)))
set_option maxRecDepth 100000 in
set_option maxHeartbeats 4000000 in
theorem sX6_isOfKind {l : Launch} {E : ZE}  {a0 : Int32} {a1 : Int32} {mem : ZM} {t : Int32} (h : fX6_isOfKind a0 a1 = some t) : zMet l E yX6_isOfKind cX6_isOfKind 4 (some .boolean) 1 [.int a0, .int a1] mem (some (.int t)) mem := by
  refine z_enter (by decide) (Nat.le_of_ble_eq_true rfl) (fun Γ C Rq => ?_)
  have C : zC E Γ RX6 cX6_isOfKind 4 1 := C
  show zG l E Γ 4 0 [(0, .int a0), (1, .int a1)] [] mem
  unfold fX6_isOfKind at h
  refine z_iload_n C dX6_isOfKind_0 rfl (j := 0) rfl ?_
  refine z_istore_n [(0, .int a0), (1, .int a1)] C dX6_isOfKind_1 h rfl (by decide) rfl (fun v1 h => ?_)
  refine z_iconst (v := 0) C dX6_isOfKind_2 zc0 ?_
  refine z_istore_n [(2, .int v1), (0, .int a0), (1, .int a1)] C dX6_isOfKind_3 h rfl (by decide) rfl (fun v2 h => ?_)
  obtain ⟨r3, h3, h⟩ := Option.bind_eq_some_iff.mp h
  refine z_pick [3, 1, 0] rfl ?_
  refine lX6_isOfKind_4 C  h3 (fun s3 e3 => ?_) (fun t3 e3 => ?_)
  · subst e3
    replace h := z_el h
    refine z_iconst (v := 0) C dX6_isOfKind_40 zc0 ?_
    have e := Option.some.inj h; subst e; exact z_zret C dX6_isOfKind_41 zbl0 Rq
  · subst e3
    replace h := z_er h
    have e := Option.some.inj h; subst e; exact Rq
-- X2_suppose
def fX2_suppose  (a1 : Int32) (a2 : Int32) (a3 : Int32) (mem : ZM) : Option (ZM) :=
  if a2 = 0 then (zgd (zin a1 8) (zlet (zst mem (37 + 1) a1.toNatClampNeg a3) (fun m4 => Option.bind (fX6_isOfKind a3 (1 : Int32)) (fun r5 => if r5 = 0 then (Option.bind (fX3_quench 37 a1 m4) (fun r6 => some r6)) else (some m4))))) else (if a2 = (1 : Int32) then (zgd (zin a1 8) (zlet (zst mem (37 + 3) a1.toNatClampNeg a3) (fun m3 => some m3))) else (if a2 = (2 : Int32) then (zgd (zin a1 8) (zlet (zst mem (37 + 2) a1.toNatClampNeg a3) (fun m2 => some m2))) else (zlet (zst mem 37 7 a3) (fun m1 => some m1))))
set_option maxRecDepth 100000 in
set_option maxHeartbeats 4000000 in
theorem sX2_suppose {l : Launch} {E : ZE}  {a1 : Int32} {a2 : Int32} {a3 : Int32} {mem : ZM} {t : ZM} (h : fX2_suppose a1 a2 a3 mem = some t) : zMet l E yX2_suppose cX2_suppose 4 none 2 [.ref (E.2.1 14), .int a1, .int a2, .int a3] mem none t := by
  refine z_enter (by decide) (Nat.le_of_ble_eq_true rfl) (fun Γ C Rq => ?_)
  have C : zC E Γ RX2 cX2_suppose 4 2 := C
  show zG l E Γ 4 0 [(0, .ref (E.2.1 14)), (1, .int a1), (2, .int a2), (3, .int a3)] [] mem
  unfold fX2_suppose at h
  refine z_iload_n C dX2_suppose_0 rfl (j := 2) rfl ?_
  refine z_if_ne 33 C dX2_suppose_1 (by decide) h (fun h => ?_) (fun h => ?_)
  · refine z_iload_n C dX2_suppose_33 rfl (j := 2) rfl ?_
    refine z_iconst (v := 1) C dX2_suppose_34 zc1 ?_
    refine z_icmp_ne 51 C dX2_suppose_35 (by decide) h (fun h => ?_) (fun h => ?_)
    · refine z_iload_n C dX2_suppose_51 rfl (j := 2) rfl ?_
      refine z_iconst (v := 2) C dX2_suppose_52 zc2 ?_
      refine z_icmp_ne 69 C dX2_suppose_53 (by decide) h (fun h => ?_) (fun h => ?_)
      · refine z_aload_n C dX2_suppose_69 rfl (j := 0) rfl ?_
        refine zg2_0 C dX2_suppose_70 zw78 ?_
        refine z_iload_n C dX2_suppose_73 rfl (j := 3) rfl ?_
        refine zp3_7 C dX2_suppose_74 zH37 zw855 h (fun m1 h => ?_)
        have e := Option.some.inj h; subst e; exact z_vret C dX2_suppose_77 Rq
      · refine z_aload_n C dX2_suppose_56 rfl (j := 0) rfl ?_
        refine zg2_0 C dX2_suppose_57 zw78 ?_
        refine zg3_2 C dX2_suppose_60 zH37 zw854 ?_
        refine z_iload_n C dX2_suppose_63 rfl (j := 1) rfl ?_
        refine z_iload_n C dX2_suppose_64 rfl (j := 3) rfl ?_
        refine z_iast C dX2_suppose_65 (zH_ar2 zH37) h (fun m2 h => ?_)
        refine z_goto 77 C dX2_suppose_66 (by decide) ?_
        have e := Option.some.inj h; subst e; exact z_vret C dX2_suppose_77 Rq
    · refine z_aload_n C dX2_suppose_38 rfl (j := 0) rfl ?_
      refine zg2_0 C dX2_suppose_39 zw78 ?_
      refine zg3_3 C dX2_suppose_42 zH37 zw853 ?_
      refine z_iload_n C dX2_suppose_45 rfl (j := 1) rfl ?_
      refine z_iload_n C dX2_suppose_46 rfl (j := 3) rfl ?_
      refine z_iast C dX2_suppose_47 (zH_ar3 zH37) h (fun m3 h => ?_)
      refine z_goto 77 C dX2_suppose_48 (by decide) ?_
      have e := Option.some.inj h; subst e; exact z_vret C dX2_suppose_77 Rq
  · refine z_aload_n C dX2_suppose_4 rfl (j := 0) rfl ?_
    refine zg2_0 C dX2_suppose_5 zw78 ?_
    refine zg3_1 C dX2_suppose_8 zH37 zw852 ?_
    refine z_iload_n C dX2_suppose_11 rfl (j := 1) rfl ?_
    refine z_iload_n C dX2_suppose_12 rfl (j := 3) rfl ?_
    refine z_iast C dX2_suppose_13 (zH_ar1 zH37) h (fun m4 h => ?_)
    refine z_iload_n C dX2_suppose_14 rfl (j := 3) rfl ?_
    refine z_iconst (v := 1) C dX2_suppose_15 zc1 ?_
    obtain ⟨r5, h5, h⟩ := Option.bind_eq_some_iff.mp h
    refine z_callSNi (n := 2) [.int a3, .int (1 : Int32)] [] C dX2_suppose_16 C.2.2.2.2.2.2.2.1.2.2.2.2.2.2.1.2 zw2 zw857 (by decide +kernel) zw856 ⟨⟨by decide, by decide⟩, rfl, Nat.le_of_ble_eq_true rfl⟩ rfl (sX6_isOfKind  h5) ?_
    refine z_if_ne 77 C dX2_suppose_19 (by decide) h (fun h => ?_) (fun h => ?_)
    · have e := Option.some.inj h; subst e; exact z_vret C dX2_suppose_77 Rq
    · refine z_aload_n C dX2_suppose_22 rfl (j := 0) rfl ?_
      refine zg2_0 C dX2_suppose_23 zw78 ?_
      refine z_iload_n C dX2_suppose_26 rfl (j := 1) rfl ?_
      obtain ⟨r6, h6, h⟩ := Option.bind_eq_some_iff.mp h
      refine z_callVv [.int a1] [] C dX2_suppose_27 (zH_lt zH37) (zH_ent zH37) rfl zk_X2_147 zw484 zw485 ⟨⟨by decide, by decide⟩, rfl, Nat.le_of_ble_eq_true rfl⟩ rfl (sX3_quench zH37 h6) ?_
      refine z_goto 77 C dX2_suppose_30 (by decide) ?_
      have e := Option.some.inj h; subst e; exact z_vret C dX2_suppose_77 Rq
-- X2_burnsAsTold
def fX2_burnsAsTold_b3 (q2 : Nat) (y3_1 : Int32) (y3_3 : Int32) (y3_4 : Int32) (x3_5 : Int32) (memb : ZM) : Option ((Int32 × ZM) ⊕ ((Int32 × ZM) ⊕ (Int32 × ZM))) :=
  if y3_4 ≤ x3_5 then (some (Sum.inr (Sum.inl (x3_5, memb)))) else (Option.bind (fX3_passHour 37 memb) (fun r3 => zgd (zin y3_1 8) (zgd (zin (y3_3 + x3_5) 40) (if (r3 (37 + 2) y3_1.toNatClampNeg) = (r3 (q2 + 1) (y3_3 + x3_5).toNatClampNeg) then (zlet (x3_5 + (1 : Int32)) (fun v4 => some (Sum.inl (v4, r3)))) else (some (Sum.inr (Sum.inr ((0 : Int32), r3))))))))
def fX2_burnsAsTold_l3 (q2 : Nat) (y3_1 : Int32) (y3_3 : Int32) (y3_4 : Int32) (s : Int32 × ZM) : Option ((Int32 × ZM) ⊕ (Int32 × ZM)) := ziter (fun s => fX2_burnsAsTold_b3 q2 y3_1 y3_3 y3_4 s.1 s.2) 2000 s
set_option maxRecDepth 100000 in
set_option maxHeartbeats 4000000 in
theorem bX2_burnsAsTold_3 {l : Launch} {E : ZE} {Γ : ZG} (C : zC E Γ RX2 cX2_burnsAsTold 6 4) {q2 : Nat} (hq2 : zRw q2) {y3_1 : Int32} {y3_3 : Int32} {y3_4 : Int32} {x3_5 : Int32} {memb : ZM} {u : (Int32 × ZM) ⊕ ((Int32 × ZM) ⊕ (Int32 × ZM))} (G1 : ∀ s', u = Sum.inl s' → zG l E Γ 6 3 [(0, .ref (E.2.1 14)), (1, .int y3_1), (2, .ref (E.2.1 q2)), (3, .int y3_3), (4, .int y3_4), (5, .int (s'.1))] [] s'.2) (G2 : ∀ s', u = Sum.inr (Sum.inl s') → zG l E Γ 6 46 [] [] s'.2) (G3 : ∀ t', u = Sum.inr (Sum.inr t') → zRq E Γ (some .boolean) (some (.int t'.1)) t'.2) (h : fX2_burnsAsTold_b3 q2 y3_1 y3_3 y3_4 x3_5 memb = some u) : zG l E Γ 6 3 [(0, .ref (E.2.1 14)), (1, .int y3_1), (2, .ref (E.2.1 q2)), (3, .int y3_3), (4, .int y3_4), (5, .int x3_5)] [] memb := by
  unfold fX2_burnsAsTold_b3 at h
  refine z_iload C dX2_burnsAsTold_3 (j := 5) rfl ?_
  refine z_iload C dX2_burnsAsTold_5 (j := 4) rfl ?_
  refine z_icmp_ge 46 C dX2_burnsAsTold_7 (by decide) h (fun h => ?_) (fun h => ?_)
  · refine z_pick [] rfl ?_
    exact G2 _ (Option.some.inj h).symm
  · refine z_aload_n C dX2_burnsAsTold_10 rfl (j := 0) rfl ?_
    refine zg2_0 C dX2_burnsAsTold_11 zw78 ?_
    obtain ⟨r3, h3, h⟩ := Option.bind_eq_some_iff.mp h
    refine z_callVv [] [] C dX2_burnsAsTold_14 (zH_lt zH37) (zH_ent zH37) rfl zk_X2_34 zw439 zw440 ⟨⟨by decide, by decide⟩, rfl, Nat.le_of_ble_eq_true rfl⟩ rfl (sX3_passHour zH37 h3) ?_
    refine z_aload_n C dX2_burnsAsTold_17 rfl (j := 0) rfl ?_
    refine zg2_0 C dX2_burnsAsTold_18 zw78 ?_
    refine zg3_2 C dX2_burnsAsTold_21 zH37 zw854 ?_
    refine z_iload_n C dX2_burnsAsTold_24 rfl (j := 1) rfl ?_
    refine z_iald C dX2_burnsAsTold_25 (zH_ar2 zH37) h (fun h => ?_)
    refine z_aload_n C dX2_burnsAsTold_26 rfl (j := 2) rfl ?_
    refine zg4_2 C dX2_burnsAsTold_27 hq2 zw864 ?_
    refine z_iload_n C dX2_burnsAsTold_30 rfl (j := 3) rfl ?_
    refine z_iload C dX2_burnsAsTold_31 (j := 5) rfl ?_
    refine z_iadd C dX2_burnsAsTold_33 ?_
    refine z_iald C dX2_burnsAsTold_34 (zRw_ar hq2) h (fun h => ?_)
    refine z_icmp_eq 40 C dX2_burnsAsTold_35 (by decide) h (fun h => ?_) (fun h => ?_)
    · refine z_iinc [(0, .ref (E.2.1 14)), (1, .int y3_1), (2, .ref (E.2.1 q2)), (3, .int y3_3), (4, .int y3_4)] C dX2_burnsAsTold_40 zc1 h (j := 5) rfl (by decide) rfl (fun v4 h => ?_)
      refine z_goto 3 C dX2_burnsAsTold_43 (by decide) ?_
      refine z_pick [1, 2, 3, 4, 5, 0] rfl ?_
      exact G1 _ (Option.some.inj h).symm
    · refine z_iconst (v := 0) C dX2_burnsAsTold_38 zc0 ?_
      exact z_zret C dX2_burnsAsTold_39 zbl0 (G3 _ (Option.some.inj h).symm)
theorem lX2_burnsAsTold_3 {l : Launch} {E : ZE} {Γ : ZG} (C : zC E Γ RX2 cX2_burnsAsTold 6 4) {q2 : Nat} (hq2 : zRw q2) {y3_1 : Int32} {y3_3 : Int32} {y3_4 : Int32} {s : Int32 × ZM} {r : (Int32 × ZM) ⊕ (Int32 × ZM)} (h : fX2_burnsAsTold_l3 q2 y3_1 y3_3 y3_4 s = some r) (K1 : ∀ s', r = Sum.inl s' → zG l E Γ 6 46 [] [] s'.2) (K2 : ∀ t', r = Sum.inr t' → zRq E Γ (some .boolean) (some (.int t'.1)) t'.2) : zG l E Γ 6 3 [(0, .ref (E.2.1 14)), (1, .int y3_1), (2, .ref (E.2.1 q2)), (3, .int y3_3), (4, .int y3_4), (5, .int s.1)] [] s.2 :=
  z_loop (body := fun s => fX2_burnsAsTold_b3 q2 y3_1 y3_3 y3_4 s.1 s.2) (fun s => zG l E Γ 6 3 [(0, .ref (E.2.1 14)), (1, .int y3_1), (2, .ref (E.2.1 q2)), (3, .int y3_3), (4, .int y3_4), (5, .int s.1)] [] s.2) (fun r => (∀ s', r = Sum.inl s' → zG l E Γ 6 46 [] [] s'.2) ∧ (∀ t', r = Sum.inr t' → zRq E Γ (some .boolean) (some (.int t'.1)) t'.2)) (fun s u hb g1 g2 => bX2_burnsAsTold_3 C hq2 g1 (fun s' e => (g2 _ e).1 _ rfl) (fun t' e => (g2 _ e).2 _ rfl) hb) 2000 s r h ⟨K1, K2⟩
def fX2_burnsAsTold (q2 : Nat) (a1 : Int32) (a3 : Int32) (a4 : Int32) (mem : ZM) : Option (Int32 × ZM) :=
  zlet (0 : Int32) (fun v1 => Option.bind (fX2_burnsAsTold_l3 q2 a1 a3 a4 (v1, mem)) (fun r2 => Sum.elim (fun s2 => some ((1 : Int32), s2.2)) (fun t2 => some t2) r2))
set_option maxRecDepth 100000 in
set_option maxHeartbeats 4000000 in
theorem sX2_burnsAsTold {l : Launch} {E : ZE} {q2 : Nat} (hq2 : zRw q2) {a1 : Int32} {a3 : Int32} {a4 : Int32} {mem : ZM} {t : Int32 × ZM} (h : fX2_burnsAsTold q2 a1 a3 a4 mem = some t) : zMet l E yX2_burnsAsTold cX2_burnsAsTold 6 (some .boolean) 4 [.ref (E.2.1 14), .int a1, .ref (E.2.1 q2), .int a3, .int a4] mem (some (.int t.1)) t.2 := by
  refine z_enter (by decide) (Nat.le_of_ble_eq_true rfl) (fun Γ C Rq => ?_)
  have C : zC E Γ RX2 cX2_burnsAsTold 6 4 := C
  show zG l E Γ 6 0 [(0, .ref (E.2.1 14)), (1, .int a1), (2, .ref (E.2.1 q2)), (3, .int a3), (4, .int a4)] [] mem
  unfold fX2_burnsAsTold at h
  refine z_iconst (v := 0) C dX2_burnsAsTold_0 zc0 ?_
  refine z_istore [(0, .ref (E.2.1 14)), (1, .int a1), (2, .ref (E.2.1 q2)), (3, .int a3), (4, .int a4)] C dX2_burnsAsTold_1 h (by decide) rfl (fun v1 h => ?_)
  obtain ⟨r2, h2, h⟩ := Option.bind_eq_some_iff.mp h
  refine z_pick [1, 2, 3, 4, 5, 0] rfl ?_
  refine lX2_burnsAsTold_3 C hq2 h2 (fun s2 e2 => ?_) (fun t2 e2 => ?_)
  · subst e2
    replace h := z_el h
    refine z_iconst (v := 1) C dX2_burnsAsTold_46 zc1 ?_
    have e := Option.some.inj h; subst e; exact z_zret C dX2_burnsAsTold_47 zbl1 Rq
  · subst e2
    replace h := z_er h
    have e := Option.some.inj h; subst e; exact Rq
-- X2_whatFits
def fX2_whatFits_j61 (q1 : Nat) (q3 : Nat) (y11_2 : Int32) (y11_4 : Int32) (y11_5 : Int32) (y11_6 : Int32) (x7 : Int32) (x8 : Int32) (mem : ZM) : Option ((Int32 × Int32 × ZM) ⊕ (Int32 × Int32 × ZM)) :=
  zlet (x8 + (1 : Int32)) (fun v7 => some (Sum.inl (x7, v7, mem)))
set_option maxRecDepth 100000 in
set_option maxHeartbeats 4000000 in
theorem jX2_whatFits_61 {l : Launch} {E : ZE} {Γ : ZG} (C : zC E Γ RX2 cX2_whatFits 9 5) {q1 : Nat} {q3 : Nat} (hq1 : zH q1) (hq3 : zRw q3) {y11_2 : Int32} {y11_4 : Int32} {y11_5 : Int32} {y11_6 : Int32} {x7 : Int32} {x8 : Int32}  {mem : ZM}  {u : (Int32 × Int32 × ZM) ⊕ (Int32 × Int32 × ZM)}  (G1 : ∀ s', u = Sum.inl s' → zG l E Γ 9 11 [(0, .ref (E.2.1 14)), (1, .ref (E.2.1 q1)), (2, .int y11_2), (3, .ref (E.2.1 q3)), (4, .int y11_4), (5, .int y11_5), (6, .int y11_6), (7, .int (s'.1)), (8, .int (s'.2.1))] [] s'.2.2) (G2 : ∀ s', u = Sum.inr s' → zG l E Γ 9 67 [(7, .int (s'.1))] [] s'.2.2) (h : fX2_whatFits_j61 q1 q3 y11_2 y11_4 y11_5 y11_6 x7 x8 mem = some u) : zG l E Γ 9 61 [(0, .ref (E.2.1 14)), (1, .ref (E.2.1 q1)), (2, .int y11_2), (3, .ref (E.2.1 q3)), (4, .int y11_4), (5, .int y11_5), (6, .int y11_6), (7, .int x7), (8, .int x8)] [] mem := by
  unfold fX2_whatFits_j61 at h
  refine z_iinc [(0, .ref (E.2.1 14)), (1, .ref (E.2.1 q1)), (2, .int y11_2), (3, .ref (E.2.1 q3)), (4, .int y11_4), (5, .int y11_5), (6, .int y11_6), (7, .int x7)] C dX2_whatFits_61 zc1 h (j := 8) rfl (by decide) rfl (fun v7 h => ?_)
  refine z_goto 11 C dX2_whatFits_64 (by decide) ?_
  refine z_pick [1, 2, 3, 4, 5, 6, 7, 8, 0] rfl ?_
  exact G1 _ (Option.some.inj h).symm
def fX2_whatFits_b11 (q1 : Nat) (q3 : Nat) (y11_2 : Int32) (y11_4 : Int32) (y11_5 : Int32) (y11_6 : Int32) (x11_7 : Int32) (x11_8 : Int32) (memb : ZM) : Option ((Int32 × Int32 × ZM) ⊕ (Int32 × Int32 × ZM)) :=
  zgd (zin y11_6 4) (if (zt4.getD y11_6.toNatClampNeg 0) < x11_8 then (some (Sum.inr (x11_7, x11_8, memb))) else (Option.bind (fX3_takeFrom 37 q1 memb) (fun r4 => Option.bind (fX2_suppose y11_2 y11_6 x11_8 r4) (fun r5 => Option.bind (fX2_burnsAsTold q3 y11_2 y11_4 y11_5 r5) (fun r6 => if r6.1 = 0 then (fX2_whatFits_j61 q1 q3 y11_2 y11_4 y11_5 y11_6 x11_7 x11_8 r6.2) else (zlet (x11_7 ||| ((1 : Int32) <<< (x11_8 &&& 31))) (fun v8 => fX2_whatFits_j61 q1 q3 y11_2 y11_4 y11_5 y11_6 v8 x11_8 r6.2)))))))
def fX2_whatFits_l11 (q1 : Nat) (q3 : Nat) (y11_2 : Int32) (y11_4 : Int32) (y11_5 : Int32) (y11_6 : Int32) (s : Int32 × Int32 × ZM) : Option (Int32 × Int32 × ZM) := ziter (fun s => fX2_whatFits_b11 q1 q3 y11_2 y11_4 y11_5 y11_6 s.1 s.2.1 s.2.2) 2000 s
set_option maxRecDepth 100000 in
set_option maxHeartbeats 4000000 in
theorem bX2_whatFits_11 {l : Launch} {E : ZE} {Γ : ZG} (C : zC E Γ RX2 cX2_whatFits 9 5) {q1 : Nat} {q3 : Nat} (hq1 : zH q1) (hq3 : zRw q3) {y11_2 : Int32} {y11_4 : Int32} {y11_5 : Int32} {y11_6 : Int32} {x11_7 : Int32} {x11_8 : Int32} {memb : ZM} {u : (Int32 × Int32 × ZM) ⊕ (Int32 × Int32 × ZM)} (G1 : ∀ s', u = Sum.inl s' → zG l E Γ 9 11 [(0, .ref (E.2.1 14)), (1, .ref (E.2.1 q1)), (2, .int y11_2), (3, .ref (E.2.1 q3)), (4, .int y11_4), (5, .int y11_5), (6, .int y11_6), (7, .int (s'.1)), (8, .int (s'.2.1))] [] s'.2.2) (G2 : ∀ s', u = Sum.inr s' → zG l E Γ 9 67 [(7, .int (s'.1))] [] s'.2.2) (h : fX2_whatFits_b11 q1 q3 y11_2 y11_4 y11_5 y11_6 x11_7 x11_8 memb = some u) : zG l E Γ 9 11 [(0, .ref (E.2.1 14)), (1, .ref (E.2.1 q1)), (2, .int y11_2), (3, .ref (E.2.1 q3)), (4, .int y11_4), (5, .int y11_5), (6, .int y11_6), (7, .int x11_7), (8, .int x11_8)] [] memb := by
  unfold fX2_whatFits_b11 at h
  refine z_iload C dX2_whatFits_11 (j := 8) rfl ?_
  refine z_gets C dX2_whatFits_13 C.2.2.2.2.2.2.2.1.2.2.2.2.1.1 zw847 ?_
  refine z_iload C dX2_whatFits_16 (j := 6) rfl ?_
  refine z_tald C dX2_whatFits_18 C.2.2.2.2.2.2.2.1.2.2.2.2.1.2 h (fun h => ?_)
  refine z_icmp_gt 67 C dX2_whatFits_19 (by decide) h (fun h => ?_) (fun h => ?_)
  · refine z_pick [7] rfl ?_
    exact G2 _ (Option.some.inj h).symm
  · refine z_aload_n C dX2_whatFits_22 rfl (j := 0) rfl ?_
    refine zg2_0 C dX2_whatFits_23 zw78 ?_
    refine z_aload_n C dX2_whatFits_26 rfl (j := 1) rfl ?_
    obtain ⟨r4, h4, h⟩ := Option.bind_eq_some_iff.mp h
    refine z_callVv [.ref (E.2.1 q1)] [] C dX2_whatFits_27 (zH_lt zH37) (zH_ent zH37) rfl zk_X2_18 zw352 zw353 ⟨⟨by decide, by decide⟩, rfl, Nat.le_of_ble_eq_true rfl⟩ rfl (sX3_takeFrom zH37 hq1 h4) ?_
    refine z_aload_n C dX2_whatFits_30 rfl (j := 0) rfl ?_
    refine z_iload_n C dX2_whatFits_31 rfl (j := 2) rfl ?_
    refine z_iload C dX2_whatFits_32 (j := 6) rfl ?_
    refine z_iload C dX2_whatFits_34 (j := 8) rfl ?_
    obtain ⟨r5, h5, h⟩ := Option.bind_eq_some_iff.mp h
    refine z_callVv [.int y11_2, .int y11_6, .int x11_8] [] C dX2_whatFits_36 (by decide) zen_14 rfl zk_X2_85 zw849 zw850 ⟨⟨by decide, by decide⟩, rfl, Nat.le_of_ble_eq_true rfl⟩ rfl (sX2_suppose  h5) ?_
    refine z_aload_n C dX2_whatFits_39 rfl (j := 0) rfl ?_
    refine z_iload_n C dX2_whatFits_40 rfl (j := 2) rfl ?_
    refine z_aload_n C dX2_whatFits_41 rfl (j := 3) rfl ?_
    refine z_iload C dX2_whatFits_42 (j := 4) rfl ?_
    refine z_iload C dX2_whatFits_44 (j := 5) rfl ?_
    obtain ⟨r6, h6, h⟩ := Option.bind_eq_some_iff.mp h
    refine z_callVi [.int y11_2, .ref (E.2.1 q3), .int y11_4, .int y11_5] [] C dX2_whatFits_46 (by decide) zen_14 rfl zk_X2_89 zw861 zw862 ⟨⟨by decide, by decide⟩, rfl, Nat.le_of_ble_eq_true rfl⟩ rfl (sX2_burnsAsTold hq3 h6) ?_
    refine z_if_eq 61 C dX2_whatFits_49 (by decide) h (fun h => ?_) (fun h => ?_)
    · refine z_pick [0, 1, 2, 3, 4, 5, 6, 7, 8] rfl ?_
      exact jX2_whatFits_61 C hq1 hq3  G1 G2 h
    · refine z_iload C dX2_whatFits_52 (j := 7) rfl ?_
      refine z_iconst (v := 1) C dX2_whatFits_54 zc1 ?_
      refine z_iload C dX2_whatFits_55 (j := 8) rfl ?_
      refine z_ishl C dX2_whatFits_57 ?_
      refine z_ior C dX2_whatFits_58 ?_
      refine z_istore [(0, .ref (E.2.1 14)), (1, .ref (E.2.1 q1)), (2, .int y11_2), (3, .ref (E.2.1 q3)), (4, .int y11_4), (5, .int y11_5), (6, .int y11_6), (8, .int x11_8)] C dX2_whatFits_59 h (by decide) rfl (fun v8 h => ?_)
      refine z_pick [1, 2, 3, 4, 5, 6, 7, 0, 8] rfl ?_
      exact jX2_whatFits_61 C hq1 hq3  G1 G2 h
theorem lX2_whatFits_11 {l : Launch} {E : ZE} {Γ : ZG} (C : zC E Γ RX2 cX2_whatFits 9 5) {q1 : Nat} {q3 : Nat} (hq1 : zH q1) (hq3 : zRw q3) {y11_2 : Int32} {y11_4 : Int32} {y11_5 : Int32} {y11_6 : Int32} {s : Int32 × Int32 × ZM} {r : Int32 × Int32 × ZM} (h : fX2_whatFits_l11 q1 q3 y11_2 y11_4 y11_5 y11_6 s = some r) (K1 : zG l E Γ 9 67 [(7, .int r.1)] [] r.2.2) : zG l E Γ 9 11 [(0, .ref (E.2.1 14)), (1, .ref (E.2.1 q1)), (2, .int y11_2), (3, .ref (E.2.1 q3)), (4, .int y11_4), (5, .int y11_5), (6, .int y11_6), (7, .int s.1), (8, .int s.2.1)] [] s.2.2 :=
  z_loop (body := fun s => fX2_whatFits_b11 q1 q3 y11_2 y11_4 y11_5 y11_6 s.1 s.2.1 s.2.2) (fun s => zG l E Γ 9 11 [(0, .ref (E.2.1 14)), (1, .ref (E.2.1 q1)), (2, .int y11_2), (3, .ref (E.2.1 q3)), (4, .int y11_4), (5, .int y11_5), (6, .int y11_6), (7, .int s.1), (8, .int s.2.1)] [] s.2.2) (fun r => zG l E Γ 9 67 [(7, .int r.1)] [] r.2.2) (fun s u hb g1 g2 => bX2_whatFits_11 C hq1 hq3 g1 g2 hb) 2000 s r h K1
def fX2_whatFits (q1 : Nat) (q3 : Nat) (a2 : Int32) (a4 : Int32) (a5 : Int32) (a6 : Int32) (mem : ZM) : Option (Int32 × ZM) :=
  zlet (0 : Int32) (fun v1 => zgd (zin a6 4) (zlet (zt3.getD a6.toNatClampNeg 0) (fun v2 => Option.bind (fX2_whatFits_l11 q1 q3 a2 a4 a5 a6 (v1, v2, mem)) (fun r3 => some (r3.1, r3.2.2)))))
set_option maxRecDepth 100000 in
set_option maxHeartbeats 4000000 in
theorem sX2_whatFits {l : Launch} {E : ZE} {q1 : Nat} {q3 : Nat} (hq1 : zH q1) (hq3 : zRw q3) {a2 : Int32} {a4 : Int32} {a5 : Int32} {a6 : Int32} {mem : ZM} {t : Int32 × ZM} (h : fX2_whatFits q1 q3 a2 a4 a5 a6 mem = some t) : zMet l E yX2_whatFits cX2_whatFits 9 (some .int) 5 [.ref (E.2.1 14), .ref (E.2.1 q1), .int a2, .ref (E.2.1 q3), .int a4, .int a5, .int a6] mem (some (.int t.1)) t.2 := by
  refine z_enter (by decide) (Nat.le_of_ble_eq_true rfl) (fun Γ C Rq => ?_)
  have C : zC E Γ RX2 cX2_whatFits 9 5 := C
  show zG l E Γ 9 0 [(0, .ref (E.2.1 14)), (1, .ref (E.2.1 q1)), (2, .int a2), (3, .ref (E.2.1 q3)), (4, .int a4), (5, .int a5), (6, .int a6)] [] mem
  unfold fX2_whatFits at h
  refine z_iconst (v := 0) C dX2_whatFits_0 zc0 ?_
  refine z_istore [(0, .ref (E.2.1 14)), (1, .ref (E.2.1 q1)), (2, .int a2), (3, .ref (E.2.1 q3)), (4, .int a4), (5, .int a5), (6, .int a6)] C dX2_whatFits_1 h (by decide) rfl (fun v1 h => ?_)
  refine z_gets C dX2_whatFits_3 C.2.2.2.2.2.2.2.1.2.2.2.1.1 zw846 ?_
  refine z_iload C dX2_whatFits_6 (j := 7) rfl ?_
  refine z_tald C dX2_whatFits_8 C.2.2.2.2.2.2.2.1.2.2.2.1.2 h (fun h => ?_)
  refine z_istore [(7, .int v1), (0, .ref (E.2.1 14)), (1, .ref (E.2.1 q1)), (2, .int a2), (3, .ref (E.2.1 q3)), (4, .int a4), (5, .int a5), (6, .int a6)] C dX2_whatFits_9 h (by decide) rfl (fun v2 h => ?_)
  obtain ⟨r3, h3, h⟩ := Option.bind_eq_some_iff.mp h
  refine z_pick [2, 3, 4, 5, 6, 7, 8, 1, 0] rfl ?_
  refine lX2_whatFits_11 C hq1 hq3 h3 ?_
  refine z_iload C dX2_whatFits_67 (j := 0) rfl ?_
  have e := Option.some.inj h; subst e; exact z_iret C dX2_whatFits_69 Rq
