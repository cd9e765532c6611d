/-! frames that make cells -/
abbrev zty (cA : Nat → ClassId) : List (ClassId × FieldType) := [(cA 0, .int), (cA 1, .boolean), (cA 2, .object "BonfireHeaps$Heap"), (cA 3, .object "BonfireHeaps$Row")]
def zNW (U : State) : Prop :=
  va_Nw (.methodLinkNest RX6 21 yX3_init "BonfireHeaps") U ∧ va_Nw (.methodLinkNest RX6 31 yX5_init "BonfireHeaps") U ∧ va_Nw (.methodLinkNest RX6 38 yX0_init "BonfireHeaps") U ∧ va_Nw (.methodLinkNest RX6 45 yX2_init "BonfireHeaps") U ∧ va_Nw (.methodLinkNest RX6 52 yX1_init "BonfireHeaps") U ∧ va_Nw (.methodLinkNest RX6 61 yX4_init "BonfireHeaps") U ∧ va_Nw (.methodLinkNest RX2 11 yX3_init "BonfireHeaps") U ∧ va_AO "BonfireHeaps$Heap" U ∧ va_AO "BonfireHeaps$Row" U
theorem zNW.warm {s U : State} (h : zNW s) (hW : s.WarmedH U.vm) : zNW U := by
  obtain ⟨a, b, c, d, e, f, g, i, j⟩ := h
  exact ⟨a.warmM hW, b.warmM hW, c.warmM hW, d.warmM hW, e.warmM hW, f.warmM hW, g.warmM hW, i.moved hW.alike, j.moved hW.alike⟩
theorem zNW.same {s U : State} (h : zNW s) (e : s.vm = U.vm) : zNW U := by
  have hv : s.vm.Alike U.vm := by rw [e]; exact Vm.Alike.refl _
  obtain ⟨a1, b1, c1, d1, e1, f1, g1, i, j⟩ := h
  exact ⟨va_Nw.same rfl e a1, va_Nw.same rfl e b1, va_Nw.same rfl e c1, va_Nw.same rfl e d1, va_Nw.same rfl e e1, va_Nw.same rfl e f1, va_Nw.same rfl e g1, i.moved hv, j.moved hv⟩
def yG (l : Launch) (D : va_G) (A : Nat → Prop) (Γ : ZG) (nL pc : Nat) (loc : List (Nat × Value)) (stk : List Value) (ws : va_W) (kc ks : Nat) : Prop :=
  ∀ (H : Heap) (locs : List Loc) (ls : Array Slot), va_P D vwCl ws H → va_D A ws → va_S A (gS Γ).heap H locs → lv_has ls nL loc →
    W (gP Γ) l (gE Γ) (gR Γ) (gS Γ) (gM Γ) (gA Γ) (gB Γ) (gMe Γ) (gC Γ) H locs kc ks (gQ Γ) (F0 (gM Γ) pc ls stk)
def yC (D : va_G) (cA : Nat → ClassId) (A : Nat → Prop) (Γ : ZG) (own : String) (cc : ByteArray) (nL dd MC MS : Nat) : Prop :=
  (gP Γ).tables.exec = Jvm.exec ∧ (gC Γ).code = cc ∧ (gC Γ).maxLocals = nL ∧ (gS Γ).vm.findClass own = some (gM Γ).cls ∧ (∀ w ∈ wsL_law, w.before (gA Γ) (gS Γ) = true) ∧ va_K D vwCl (zty cA) (gS Γ) ∧ (∀ q, (gS Γ).heap.size ≤ q → A q) ∧ zNW (gS Γ) ∧ (dd ≤ (gR Γ).frames ∧ 40 * dd ≤ (gR Γ).locals) ∧ (MC ≤ (gR Γ).cells ∧ MS ≤ (gR Γ).slots)
abbrev yRm (d mc ms : Nat) : Room := { frames := d, cells := mc, slots := ms, locals := 40 * d }
def yPc (D : va_G) (cA : Nat → ClassId) (q ci : Nat) (fs : List Value) (sz : Nat) : Array Value → State → Prop := va_Pc [.ref q] (fun U => U.heap.size = sz ∧ va_P D vwCl [(q, .inr (ci, fs))] U.heap ∧ va_K D vwCl (zty cA) U ∧ va_D (fun _ => True) [(q, .inr (ci, fs))] ∧ zNW U)
def yQc (D : va_G) (q ci : Nat) (fs : List Value) (sz : Nat) (Wd : (Nat → Nat) → va_W) : Array Value → State → Outcome → State → Prop := va_Qv (fun _ : Nat → Nat => True) (fun ad t => va_P D vwCl (Wd ad) t.heap ∧ va_D (va_A [(q, .inr (ci, fs))] sz) (Wd ad)) (va_A [(q, .inr (ci, fs))] sz)
def yMet (l : Launch) (D : va_G) (cA : Nat → ClassId) (y : MethodName) (cc : ByteArray) (nL d mc ms q ci : Nat) (fs : List Value) (sz : Nat) (Wd : (Nat → Nat) → va_W) : Prop :=
  Met l y (Cond.code y cc nL none :: wsL_law) (yRm d mc ms) (yPc D cA q ci fs sz) (yQc D q ci fs sz Wd) mc ms (va_A [(q, .inr (ci, fs))] sz)
def yRq (D : va_G) (Γ : ZG) (q ci : Nat) (fs : List Value) (Wd : (Nat → Nat) → va_W) (mc ms : Nat) : Prop :=
  (gMe Γ).sig.returnType = none ∧ (gMe Γ).locks = false ∧ gQ Γ = MQ (gB Γ) (yQc D q ci fs (gS Γ).heap.size Wd) (gA Γ) (gS Γ) mc ms (va_A [(q, .inr (ci, fs))] (gS Γ).heap.size)
theorem y_blind (D : va_G) (cA : Nat → ClassId) (q ci : Nat) (fs : List Value) (sz : Nat) : FrameBlind (yPc D cA q ci fs sz) := by
  intro a U g mk h
  obtain ⟨q0, q1, qP, qK, qD, qN⟩ := h
  exact ⟨q0, q1, qP, va_K.moved (u := U) (U := U.calling g mk a) (Vm.Alike.refl U.vm) qK, qD, zNW.same qN rfl⟩
theorem y_enter {l : Launch} {D : va_G} {cA : Nat → ClassId} {y : MethodName} {cc : ByteArray} {nL d mc ms q ci : Nat} {fs : List Value} {sz : Nat} {Wd : (Nat → Nat) → va_W} (hy : plainName y.cls = true) (hni : y.name = "<init>") (hn : (lg_sl [Value.ref q]).length ≤ nL)
    (body : ∀ (Γ : ZG) (A : Nat → Prop), A = va_A [(q, .inr (ci, fs))] (gS Γ).heap.size → yC D cA A Γ y.cls cc nL d mc ms → (gMe Γ).name = "<init>" → yRq D Γ q ci fs Wd mc ms → yG l D A Γ nL 0 [(0, .ref q)] [] [(q, .inr (ci, fs))] 0 0) : yMet l D cA y cc nL d mc ms q ci fs sz Wd := by
  unfold yMet
  refine Met.ofW (cc := cc) (maxL := nL) (ret := none) hy rfl ?_
  intro p e s m av below meth c s₁ B hml hv
  obtain ⟨rfl, hsz, hP, hK, hD, hN⟩ := hv
  subst hsz
  have hts := atoms_spec (ws := Cond.code y cc nL none :: wsL_law) B.pre
  have hown : s.vm.findClass y.cls = some m.cls := findClass_of_methodNamed B.named
  have hname : meth.name = "<init>" := by rw [(name_of_methodNamed B.named B.method).1]; exact hni
  have h := body (p, e, (headSpec (Cond.code y cc nL none :: wsL_law) (yRm d mc ms)).room, s, m, [Value.ref q].toArray, below, meth, c, MQ below (yQc D q ci fs s.heap.size Wd) [Value.ref q].toArray s mc ms (va_A [(q, .inr (ci, fs))] s.heap.size), 0, 0) (va_A [(q, .inr (ci, fs))] s.heap.size) rfl
    ⟨B.exec, B.bytes, hml, hown, fun w hw => hts w (List.mem_cons_of_mem _ hw), hK, fun _ h => Or.inr h, hN, ⟨Nat.le_refl _, Nat.le_refl _⟩, ⟨Nat.le_refl _, Nat.le_refl _⟩⟩ hname ⟨B.returns, B.notSynchronized, rfl⟩
  have hl := lv_entry [Value.ref q] (n := nL) hn
  rw [lg_entry_eq]
  exact h s.heap [] _ hP hD.self va_S.rf hl
section YR
variable {l : Launch} {D : va_G} {cA : Nat → ClassId} {A : Nat → Prop} {Γ : ZG} {own : String} {cc : ByteArray} {nL dd MC MS pc : Nat} {loc : List (Nat × Value)} {stk : List Value} {ws : va_W} {kc ks : Nat} {index : Nat}
theorem y_aload {k : Fin 4} {i j x : Nat} (C : yC D cA A Γ own cc nL dd MC MS) (d : decode cc pc = .ok (.aload_n k, 1)) (hi : (k : Nat) = i) (hj : loc[j]? = some (i, .ref x)) (kk : yG l D A Γ nL (pc + 1) loc (.ref x :: stk) ws kc ks) : yG l D A Γ nL pc loc stk ws kc ks :=
  fun H locs ls hP hD hS hl => lv_aload_n C.1 C.2.1 d hi (lv_at hl j hj) (kk H locs ls hP hD hS hl)
theorem y_iload {k : Fin 4} {i j : Nat} {x : Int32} (C : yC D cA A Γ own cc nL dd MC MS) (d : decode cc pc = .ok (.iload_n k, 1)) (hi : (k : Nat) = i) (hj : loc[j]? = some (i, .int x)) (kk : yG l D A Γ nL (pc + 1) loc (.int x :: stk) ws kc ks) : yG l D A Γ nL pc loc stk ws kc ks :=
  fun H locs ls hP hD hS hl => lv_iload_n C.1 C.2.1 d hi (lv_at hl j hj) (kk H locs ls hP hD hS hl)
theorem y_iconst {n : Int} {v : Int32} (C : yC D cA A Γ own cc nL dd MC MS) (d : decode cc pc = .ok (.iconst n, 1)) (hv : Int32.ofInt n = v) (kk : yG l D A Γ nL (pc + 1) loc (.int v :: stk) ws kc ks) : yG l D A Γ nL pc loc stk ws kc ks :=
  fun H locs ls hP hD hS hl => lv_iconst C.1 C.2.1 d hv (kk H locs ls hP hD hS hl)
theorem y_bipush {n : Int} {v : Int32} (C : yC D cA A Γ own cc nL dd MC MS) (d : decode cc pc = .ok (.bipush n, 2)) (hv : (Int8.ofInt n).toInt32 = v) (kk : yG l D A Γ nL (pc + 2) loc (.int v :: stk) ws kc ks) : yG l D A Γ nL pc loc stk ws kc ks :=
  fun H locs ls hP hD hS hl => lv_bipush C.1 C.2.1 d hv (kk H locs ls hP hD hS hl)
theorem y_sipush {n : Int} {v : Int32} (C : yC D cA A Γ own cc nL dd MC MS) (d : decode cc pc = .ok (.sipush n, 3)) (hv : (Int16.ofInt n).toInt32 = v) (kk : yG l D A Γ nL (pc + 3) loc (.int v :: stk) ws kc ks) : yG l D A Γ nL pc loc stk ws kc ks :=
  fun H locs ls hP hD hS hl => lv_sipush C.1 C.2.1 d hv (kk H locs ls hP hD hS hl)
theorem y_istore {k : Fin 4} {i : Nat} {x : Int32} (loc' : List (Nat × Value)) (C : yC D cA A Γ own cc nL dd MC MS) (d : decode cc pc = .ok (.istore_n k, 1)) (hi : (k : Nat) = i) (hn : i < nL) (hf : loc.filter (fun q => !(q.1 == i) && !(q.1 + 1 == i && q.2.category == 2)) = loc') (kk : yG l D A Γ nL (pc + 1) ((i, .int x) :: loc') stk ws kc ks) : yG l D A Γ nL pc loc (.int x :: stk) ws kc ks :=
  fun H locs ls hP hD hS hl => lv_istore_n C.1 C.2.1 d hi hl hn (congrArg (List.cons (i, Value.int x)) hf) (fun ls' hl' => kk H locs ls' hP hD hS hl')
theorem y_astore {k : Fin 4} {i x : Nat} (loc' : List (Nat × Value)) (C : yC D cA A Γ own cc nL dd MC MS) (d : decode cc pc = .ok (.astore_n k, 1)) (hi : (k : Nat) = i) (hn : i < nL) (hf : loc.filter (fun q => !(q.1 == i) && !(q.1 + 1 == i && q.2.category == 2)) = loc') (kk : yG l D A Γ nL (pc + 1) ((i, .ref x) :: loc') stk ws kc ks) : yG l D A Γ nL pc loc (.ref x :: stk) ws kc ks :=
  fun H locs ls hP hD hS hl => lv_astore_n C.1 C.2.1 d hi hl hn (congrArg (List.cons (i, Value.ref x)) hf) (fun ls' hl' => kk H locs ls' hP hD hS hl')
theorem y_iinc {i j : Nat} {n : Int} {x cst v : Int32} (loc' : List (Nat × Value)) (C : yC D cA A Γ own cc nL dd MC MS) (d : decode cc pc = .ok (.iinc i n, 3)) (hc : Int32.ofInt n = cst) (hv : x + cst = v) (hj : loc[j]? = some (i, .int x)) (hn : i < nL) (hf : loc.filter (fun q => !(q.1 == i) && !(q.1 + 1 == i && q.2.category == 2)) = loc') (kk : yG l D A Γ nL (pc + 3) ((i, .int v) :: loc') stk ws kc ks) : yG l D A Γ nL pc loc stk ws kc ks := by
  subst hv
  exact fun H locs ls hP hD hS hl => lv_iinc (v := x + cst) C.1 C.2.1 d hl hj (congrArg (fun z => x + z) hc) hn (congrArg (List.cons (i, Value.int (x + cst))) hf) (fun ls' hl' => kk H locs ls' hP hD hS hl')
theorem y_goto {off : Int} (tgt : Nat) (C : yC D cA A Γ own cc nL dd MC MS) (d : decode cc pc = .ok (.goto off, 3)) (ht : (pc : Int) + off = (tgt : Int)) (kk : yG l D A Γ nL tgt loc stk ws kc ks) : yG l D A Γ nL pc loc stk ws kc ks :=
  fun H locs ls hP hD hS hl => lv_goto C.1 C.2.1 d ht (kk H locs ls hP hD hS hl)
theorem y_ge {x y : Int32} {off : Int} (tgt : Nat) (C : yC D cA A Γ own cc nL dd MC MS) (d : decode cc pc = .ok (.if_icmp .ge off, 3)) (ht : (pc : Int) + off = (tgt : Int)) (hc : y ≤ x) (kk : yG l D A Γ nL tgt loc stk ws kc ks) : yG l D A Γ nL pc loc (.int y :: .int x :: stk) ws kc ks :=
  fun H locs ls hP hD hS hl => lv_icmp_ge C.1 C.2.1 d ht (fun _ => kk H locs ls hP hD hS hl) (fun h => absurd hc h)
theorem y_lt {x y : Int32} {off : Int} (tgt : Nat) (C : yC D cA A Γ own cc nL dd MC MS) (d : decode cc pc = .ok (.if_icmp .ge off, 3)) (ht : (pc : Int) + off = (tgt : Int)) (hc : ¬ y ≤ x) (kk : yG l D A Γ nL (pc + 3) loc stk ws kc ks) : yG l D A Γ nL pc loc (.int y :: .int x :: stk) ws kc ks :=
  fun H locs ls hP hD hS hl => lv_icmp_ge C.1 C.2.1 d ht (fun h => absurd h hc) (fun _ => kk H locs ls hP hD hS hl)
theorem y_obj {a : Nat} (C : yC D cA A Γ own cc nL dd MC MS) (d : decode cc pc = .ok (.invokespecial index, 3)) (w1 : Cond.methodLink own index objectInit ∈ wsL_law) (w2 : Cond.instanceMethod objectInit ∈ wsL_law) (w3 : Cond.code objectInit ⟨#[0xb1]⟩ 1 none ∈ wsL_law) (hd : 1 ≤ dd ∧ (stk.map fun v => v.category).sum + 12 ≤ 40 * dd) (kk : yG l D A Γ nL (pc + 3) loc stk ws kc ks) : yG l D A Γ nL pc loc (.ref a :: stk) ws kc ks := by
  intro H locs ls hP hD hS hl
  refine W.objInit C.1 C.2.1 C.2.2.2.1 (C.2.2.2.2.1 _ w1) (C.2.2.2.2.1 _ w2) (C.2.2.2.2.1 _ w3) rfl (by rw [C.2.2.1]; exact hl.1) rfl d (Nat.le_trans hd.1 C.2.2.2.2.2.2.2.2.1.1) ?_ ?_
  · have h40 := C.2.2.2.2.2.2.2.2.1.2
    show 2 * 0 + _ + 12 ≤ _
    omega
  · exact W.eq (g2 := F0 (gM Γ) (pc + 3) ls stk) rfl (kk H locs ls hP hD hS hl)
/-- of one name there is one class of arrays -/
theorem y_cA (hK : va_K D vwCl (zty cA) (gS Γ)) (k : Nat) {ty : FieldType} {c : ClassId} (ht : (zty cA)[k]? = some (cA k, ty)) (hr : va_RA (gS Γ) c ty) : c = cA k := by
  have h2 := (hK.2 k _ ht).2
  cases ty with
  | object C =>
    obtain ⟨kA, comp, -, -, -, h4⟩ := hr
    obtain ⟨kA', comp', -, -, -, h4'⟩ := h2
    exact Option.some.inj (h4.symm.trans h4')
  | _ => exact Option.some.inj (Eq.trans (Eq.symm hr) h2)
theorem y_newI {n : Int32} (N : Nat) (C : yC D cA A Γ own cc nL dd MC MS) (d : decode cc pc = .ok (.newarray .int, 2)) (w1 : Cond.arrayClass .int ∈ wsL_law) (hn : ¬ n < 0) (hN : n.toNatClampNeg = N) (hb : N ≤ 1000) (hk : kc + 1 ≤ MC ∧ ks + N ≤ MS)
    (kk : ∀ q : Nat, yG l D A Γ nL (pc + 2) loc (.ref q :: stk) (ws ++ [(q, .inl (cA 0, N, .inl (fun _ => 0)))]) (kc + 1) (ks + N)) : yG l D A Γ nL pc loc (.int n :: stk) ws kc ks := by
  intro H locs ls hP hD hS hl
  refine va_newa (ty := .int) (a0 := (N, .inl (fun _ => 0))) C.1 C.2.1 (atype := .int) (C.2.2.2.2.1 _ w1) rfl C.2.2.2.2.2.1 hP hD hS C.2.2.2.2.2.2.1 (fun _ => rfl) hn hN (by show N * 4 ≤ _; omega) (Nat.le_trans hk.1 C.2.2.2.2.2.2.2.2.2.1) (Nat.le_trans hk.2 C.2.2.2.2.2.2.2.2.2.2) d (fun q c H1 hK1 hP1 hD1 hS1 => ?_)
  have e : c = cA 0 := y_cA C.2.2.2.2.2.1 0 rfl (hK1.2 4 (c, .int) rfl).2
  subst e
  exact kk q H1 locs ls hP1 hD1 hS1 hl
theorem y_newZ {n : Int32} (N : Nat) (C : yC D cA A Γ own cc nL dd MC MS) (d : decode cc pc = .ok (.newarray .boolean, 2)) (w1 : Cond.arrayClass .boolean ∈ wsL_law) (hn : ¬ n < 0) (hN : n.toNatClampNeg = N) (hb : N ≤ 1000) (hk : kc + 1 ≤ MC ∧ ks + N ≤ MS)
    (kk : ∀ q : Nat, yG l D A Γ nL (pc + 2) loc (.ref q :: stk) (ws ++ [(q, .inl (cA 1, N, .inl (fun _ => 0)))]) (kc + 1) (ks + N)) : yG l D A Γ nL pc loc (.int n :: stk) ws kc ks := by
  intro H locs ls hP hD hS hl
  refine va_newa (ty := .boolean) (a0 := (N, .inl (fun _ => 0))) C.1 C.2.1 (atype := .boolean) (C.2.2.2.2.1 _ w1) rfl C.2.2.2.2.2.1 hP hD hS C.2.2.2.2.2.2.1 (fun _ => rfl) hn hN (by show N * 1 ≤ _; omega) (Nat.le_trans hk.1 C.2.2.2.2.2.2.2.2.2.1) (Nat.le_trans hk.2 C.2.2.2.2.2.2.2.2.2.2) d (fun q c H1 hK1 hP1 hD1 hS1 => ?_)
  have e : c = cA 1 := y_cA C.2.2.2.2.2.1 1 rfl (hK1.2 4 (c, .boolean) rfl).2
  subst e
  exact kk q H1 locs ls hP1 hD1 hS1 hl
theorem y_newQ {n : Int32} {Cn : String} (N k : Nat) (C : yC D cA A Γ own cc nL dd MC MS) (d : decode cc pc = .ok (.anewarray index, 3)) (w1 : Cond.classLink own index Cn ∈ wsL_law) (ho : va_AO Cn (gS Γ)) (ht : (zty cA)[k]? = some (cA k, .object Cn)) (hn : ¬ n < 0) (hN : n.toNatClampNeg = N) (hb : N ≤ 1000) (hk : kc + 1 ≤ MC ∧ ks + N ≤ MS)
    (kk : ∀ q : Nat, yG l D A Γ nL (pc + 3) loc (.ref q :: stk) (ws ++ [(q, .inl (cA k, N, .inr (.inr (.inr (.inr (fun _ => none))))))]) (kc + 1) (ks + N)) : yG l D A Γ nL pc loc (.int n :: stk) ws kc ks := by
  intro H locs ls hP hD hS hl
  refine va_newq C.1 C.2.1 C.2.2.2.1 (C.2.2.2.2.1 _ w1) ho C.2.2.2.2.2.1 hP hD hS C.2.2.2.2.2.2.1 hn hN (by omega) (Nat.le_trans hk.1 C.2.2.2.2.2.2.2.2.2.1) (Nat.le_trans hk.2 C.2.2.2.2.2.2.2.2.2.2) d (fun q c H1 hK1 hP1 hD1 hS1 => ?_)
  have e : c = cA k := y_cA C.2.2.2.2.2.1 k ht (hK1.2 4 (c, .object Cn) rfl).2
  subst e
  exact kk q H1 locs ls hP1 hD1 hS1 hl
theorem y_put {ci : Nat} {fs : List Value} {a : Nat} {Cn ref nm ds : String} {T : u_T} {N : Nat} {x : Int32} {ty0 : Nat → FieldType} (j : Nat) (C : yC D cA A Γ own cc nL dd MC MS) (d : decode cc pc = .ok (.putfield index, 3)) (he : ws[j]? = some (a, .inr (ci, fs))) (hcl : vwCl[ci]? = some (Cn, T, N)) (hin : ∀ w ∈ u_ws Cn T N, w ∈ wsL_law) (hty : ∀ k, k < N → parseFieldDescriptor (T k).2.2.1 = some (ty0 k)) (hnm : ∀ a, a < N → ∀ b, b < N → a ≠ b → (T a).2.1 ≠ (T b).2.1) (k : Nat) (hk : k < N) (hT : T k = (ref, nm, ds, false)) (hw : Cond.fieldLink own index ref nm ds ∈ wsL_law) (hd : parseFieldDescriptor ds = some .int) (hl0 : k < fs.length)
    (kk : yG l D A Γ nL (pc + 3) loc stk (ws.set j (a, .inr (ci, fs.set k (.int x)))) kc ks) : yG l D A Γ nL pc loc (.int x :: .ref a :: stk) ws kc ks := by
  have e1 : (T k).1 = ref := by rw [hT]
  have e2 : (T k).2.1 = nm := by rw [hT]
  have e3 : (T k).2.2.1 = ds := by rw [hT]
  have e4 : (T k).2.2.2 = false := by rw [hT]
  subst e1; subst e2; subst e3
  intro H locs ls hP hD hS hl
  exact va_put (D := D) (ci := ci) (v := .int x) (ty := .int) (C := Cn) (T := T) (N := N) C.1 C.2.1 C.2.2.2.2.1 hin ty0 hty hnm C.2.2.2.1 C.2.2.2.2.2.1 hP hD hS j he hcl k hk (C.2.2.2.2.1 _ hw) (fun _ h9 => h9) e4 hd rfl rfl hl0 d (fun H1 locs1 hP1 hD1 hS1 => kk H1 locs1 ls hP1 hD1 hS1 hl)
theorem y_putF {ci : Nat} {fs : List Value} {a v : Nat} {ref nm ds : String} {T : u_T} {N : Nat} {ty : FieldType} {ty0 : Nat → FieldType} (j : Nat) (C : yC D cA A Γ own cc nL dd MC MS) (hi : (gMe Γ).name = "<init>") (d : decode cc pc = .ok (.putfield index, 3)) (he : ws[j]? = some (a, .inr (ci, fs))) (hcl : vwCl[ci]? = some (own, T, N)) (hin : ∀ w ∈ u_ws own T N, w ∈ wsL_law) (hty : ∀ k, k < N → parseFieldDescriptor (T k).2.2.1 = some (ty0 k)) (hnm : ∀ a, a < N → ∀ b, b < N → a ≠ b → (T a).2.1 ≠ (T b).2.1) (k : Nat) (hk : k < N) (hT : T k = (ref, nm, ds, true)) (hro : ref = own) (hw : Cond.fieldLink own index ref nm ds ∈ wsL_law) (hd : parseFieldDescriptor ds = some ty) (hn : narrow ty (.ref v) = .ref v) (hfit : fits ty (.ref v) = true) (hl0 : k < fs.length)
    (kk : yG l D A Γ nL (pc + 3) loc stk (ws.set j (a, .inr (ci, fs.set k (.ref v)))) kc ks) : yG l D A Γ nL pc loc (.ref v :: .ref a :: stk) ws kc ks := by
  have e1 : (T k).1 = ref := by rw [hT]
  have e2 : (T k).2.1 = nm := by rw [hT]
  have e3 : (T k).2.2.1 = ds := by rw [hT]
  have e4 : (T k).2.2.2 = true := by rw [hT]
  subst e1; subst e2; subst e3
  intro H locs ls hP hD hS hl
  exact va_putF (D := D) (ci := ci) (v := .ref v) (ty := ty) (C := own) (T := T) (N := N) C.1 C.2.1 C.2.2.2.2.1 hin ty0 hty hnm C.2.2.2.1 C.2.2.2.2.2.1 hP hD hS j he hcl k hk (C.2.2.2.2.1 _ hw) (fun _ h9 => h9) e4 hi hro hd hn hfit hl0 d (fun H1 locs1 hP1 hD1 hS1 => kk H1 locs1 ls hP1 hD1 hS1 hl)
theorem y_get {ci : Nat} {fs : List Value} {a : Nat} {Cn ref nm ds : String} {T : u_T} {N : Nat} {v : Value} (j : Nat) (C : yC D cA A Γ own cc nL dd MC MS) (d : decode cc pc = .ok (.getfield index, 3)) (he : ws[j]? = some (a, .inr (ci, fs))) (hcl : vwCl[ci]? = some (Cn, T, N)) (hin : ∀ w ∈ u_ws Cn T N, w ∈ wsL_law) (k : Nat) (hk : k < N) (hT : ((T k).1, (T k).2.1, (T k).2.2.1) = (ref, nm, ds)) (hw : Cond.fieldLink own index ref nm ds ∈ wsL_law) (hv : fs[k]? = some v) (kk : yG l D A Γ nL (pc + 3) loc (v :: stk) ws kc ks) : yG l D A Γ nL pc loc (.ref a :: stk) ws kc ks := by
  cases hT
  exact fun H locs ls hP hD hS hl => va_get (D := D) (ci := ci) (v := v) (C := Cn) (T := T) (N := N) C.1 C.2.1 C.2.2.2.2.1 hin C.2.2.2.1 C.2.2.2.2.2.1 hP j he hcl k hk (C.2.2.2.2.1 _ hw) (fun _ h9 => h9) hv d (kk H locs ls hP hD hS hl)
theorem y_iast {a n : Nat} {f : Nat → Int32} {i x : Int32} (j : Nat) (C : yC D cA A Γ own cc nL dd MC MS) (d : decode cc pc = .ok (.iastore, 1)) (he : ws[j]? = some (a, .inl (cA 0, n, .inl f))) (hi : zin i n = true) (kk : yG l D A Γ nL (pc + 1) loc stk (ws.set j (a, .inl (cA 0, n, .inl (upd f i.toNatClampNeg x)))) kc ks) : yG l D A Γ nL pc loc (.int x :: .int i :: .ref a :: stk) ws kc ks :=
  fun H locs ls hP hD hS hl => va_iast C.1 C.2.1 C.2.2.2.2.2.1 hP hD hS j 0 he rfl (zin_in hi) d (fun H1 locs1 hP1 hD1 hS1 => kk H1 locs1 ls hP1 hD1 hS1 hl)
theorem y_aast {a n v ci : Nat} {f : Nat → Option Nat} {vs : List Value} {r : vw_C} {i : Int32} (j qk k : Nat) (C : yC D cA A Γ own cc nL dd MC MS) (d : decode cc pc = .ok (.aastore, 1)) (he : ws[j]? = some (a, .inl (cA k, n, .inr (.inr (.inr (.inr f)))))) (ht : (zty cA)[k]? = some (cA k, .object r.1)) (hv : ws[qk]? = some (v, .inr (ci, vs))) (hc : vwCl[ci]? = some r) (hi : zin i n = true) (kk : yG l D A Γ nL (pc + 1) loc stk (ws.set j (a, .inl (cA k, n, .inr (.inr (.inr (.inr (va_up f i.toNatClampNeg (some v)))))))) kc ks) : yG l D A Γ nL pc loc (.ref v :: .int i :: .ref a :: stk) ws kc ks :=
  fun H locs ls hP hD hS hl => va_astq C.1 C.2.1 C.2.2.2.2.2.1 hP hD hS j k qk ci he ht hv hc (zin_in hi) d (fun H1 locs1 hP1 hD1 hS1 => kk H1 locs1 ls hP1 hD1 hS1 hl)
theorem y_vret {q ci : Nat} {fs : List Value} {Wd : (Nat → Nat) → va_W} {mc ms : Nat} (ad : Nat → Nat) (C : yC D cA A Γ own cc nL dd MC MS) (hA : A = va_A [(q, .inr (ci, fs))] (gS Γ).heap.size) (d : decode cc pc = .ok (.return_, 1)) (Rq : yRq D Γ q ci fs Wd mc ms) (hw : ws = Wd ad) (hk : kc ≤ mc ∧ ks ≤ ms) (hm : mc ≤ MC ∧ ms ≤ MS) : yG l D A Γ nL pc loc [] ws kc ks := by
  intro H locs ls hP hD hS hl
  obtain ⟨q1, q2, q3⟩ := Rq
  refine W.widen (k := mc) (n := ms) hk.1 hk.2 ?_
  rw [q3]
  subst hA
  subst hw
  exact W.vret C.1 C.2.1 q1 (fun t ht hW => ⟨⟨ad, rfl, trivial, by rw [ht]; exact hP, hD⟩, hS.F ht⟩) hS.2.2 d q2
/-- the same array of cells -/
theorem y_ext {a n : Nat} {c : ClassId} {f : Nat → Option Nat} (g : Nat → Option Nat) (j : Nat) (he : ws[j]? = some (a, .inl (c, n, .inr (.inr (.inr (.inr f)))))) (hfg : ∀ i, i < n → f i = g i) (kk : yG l D A Γ nL pc loc stk (ws.set j (a, .inl (c, n, .inr (.inr (.inr (.inr g)))))) kc ks) : yG l D A Γ nL pc loc stk ws kc ks := by
  intro H locs ls hP hD hS hl
  refine kk H locs ls (hP.set hD he ?_ (fun _ _ => rfl)) (hD.set he) hS hl
  have h := hP j _ he
  show H[a]? = some (vp_cell c (n, .inr (.inr (.inr (.inr g)))))
  have h' : H[a]? = some (vp_cell c (n, .inr (.inr (.inr (.inr f))))) := h
  rw [h', vp_cell_q, vp_cell_q]
  unfold arrV
  congr 2
  congr 1
  funext j
  show va_rf (f j.val) = va_rf (g j.val)
  rw [hfg j.val j.isLt]
theorem y_eq (ws' : va_W) (e : ws = ws') (kk : yG l D A Γ nL pc loc stk ws' kc ks) : yG l D A Γ nL pc loc stk ws kc ks := by
  subst e; exact kk
theorem nd_range : ∀ n, va_nd (List.range n) = true := by
  intro n
  have : ∀ (l : List Nat), l.Nodup → va_nd l = true := by
    intro l
    induction l with
    | nil => intro _; rfl
    | cons a l ih =>
      intro h
      rw [List.nodup_cons] at h
      unfold va_nd
      rw [Bool.and_eq_true, decide_eq_true_eq]
      exact ⟨h.1, ih h.2⟩
  exact this _ List.nodup_range
theorem map_range {α : Type} (w : List α) (x : α) : (List.range w.length).map (fun i => (w ++ [x])[i]?) = w.map some := by
  apply List.ext_getElem?
  intro i
  by_cases hi : i < w.length
  · rw [List.getElem?_map, List.getElem?_range hi, List.getElem?_map]
    show some ((w ++ [x])[i]?) = _
    rw [List.getElem?_append_left hi, List.getElem?_eq_getElem hi]
    rfl
  · rw [List.getElem?_eq_none (by rw [List.length_map, List.length_range]; omega), List.getElem?_eq_none (by rw [List.length_map]; omega)]
/-- new, dup, and the constructor, of one nest -/
theorem y_mk {ci N maxL mc ms d' index2 : Nat} {Cn : String} {T : u_T} {ty0 : Nat → FieldType} {fs0 : List Value} {y : MethodName} {bytes : ByteArray} {Wd : Nat → (Nat → Nat) → va_W} (C : yC D cA A Γ own cc nL dd MC MS)
    (d1 : decode cc pc = .ok (.new index, 3)) (d2 : decode cc (pc + 3) = .ok (.dup, 1)) (d3 : decode cc (pc + 3 + 1) = .ok (.invokespecial index2, 3))
    (hcl : vwCl[ci]? = some (Cn, T, N)) (hin : ∀ w ∈ u_ws Cn T N, w ∈ wsL_law) (hty : ∀ k, k < N → parseFieldDescriptor (T k).2.2.1 = some (ty0 k)) (w1 : Cond.classLink own index Cn ∈ wsL_law) (w2 : Cond.instantiable Cn N ∈ wsL_law) (w3 : Cond.initialized Cn ∈ wsL_law) (hfs : ∀ j, j < N → defaultValue (ty0 j) = vp_V fs0 j)
    (hyc : y.cls = Cn) (hnl : va_Nw (.methodLinkNest own index2 y "BonfireHeaps") (gS Γ)) (w4 : Cond.code y bytes maxL none ∈ wsL_law) (w5 : Cond.instanceMethod y ∈ wsL_law) (w6 : y.name = "<init>" ∧ (y.cls ≠ "java/lang/invoke/MethodHandle" ∧ y.cls ≠ "java/lang/invoke/VarHandle" ∧ (parseMethodDescriptor y.desc).map (fun d => d.parameters.length) = some 0))
    (M : ∀ q sz, yMet l D cA y bytes maxL d' mc ms q ci fs0 sz (Wd q)) (hd : d' + 1 ≤ dd ∧ 8 + (maxL + 11) + 40 * d' ≤ 40 * dd) (hr : (stk.map fun v => v.category).sum ≤ 7) (hk : kc + 1 + mc ≤ MC ∧ ks + N + ms ≤ MS)
    (kk : ∀ (q : Nat) (ad : Nat → Nat), yG l D A Γ nL (pc + 3 + 1 + 3) loc (.ref q :: stk) (ws ++ Wd q ad) (kc + 1 + mc) (ks + N + ms)) : yG l D A Γ nL pc loc stk ws kc ks := by
  intro H locs ls hP hD hS hl
  have hts := C.2.2.2.2.1
  have hA := C.2.2.2.2.2.2.1
  have hK := C.2.2.2.2.2.1
  have hN := C.2.2.2.2.2.2.2.1
  have hc := C.2.2.2.2.2.2.2.2.2
  refine va_new (ci := ci) (fs := fs0) (C := Cn) (T := T) (N := N) C.1 C.2.1 hts hin ty0 hty C.2.2.2.1 (hts _ w1) (hts _ w2) (hts _ w3) hK hP hD hS hA hcl hfs (by omega) (by omega) d1 (fun q H1 hP1 hD1 hS1 => ?_)
  refine lv_dup C.1 C.2.1 d2 rfl ?_
  have hlen : (ws ++ [(q, (Sum.inr (ci, fs0) : va_E))])[ws.length]? = some (q, .inr (ci, fs0)) := by rw [List.getElem?_append_right (Nat.le_refl _), Nat.sub_self]; rfl
  have hCm : [ws.length].map (fun i => (ws ++ [(q, (Sum.inr (ci, fs0) : va_E))])[i]?) = ([(q, (Sum.inr (ci, fs0) : va_E))] : va_W).map some := by
    show [(ws ++ [(q, (Sum.inr (ci, fs0) : va_E))])[ws.length]?] = [some (q, Sum.inr (ci, fs0))]
    rw [hlen]
  have hPc : va_P D vwCl [(q, .inr (ci, fs0))] H1 := hP1.sub [ws.length] (by show [ws.length].filterMap (fun i => (ws ++ [(q, (Sum.inr (ci, fs0) : va_E))])[i]?) = _; rw [List.filterMap_cons, hlen]; rfl)
  have hDc : va_D A [(q, .inr (ci, fs0))] := hD1.sub [ws.length] rfl hCm
  have hFc := va_free (wc := [(q, .inr (ci, fs0))]) hD1 hS1 hA [ws.length] hCm
  refine va_callv (va_runIN (As := []) (rest := .ref q :: stk) (n := 0) (host := "BonfireHeaps") (Ts := wsL_law) ⟨C.1, C.2.1, C.2.2.1, C.2.2.2.1, hts⟩ (M q H1.size)
    ⟨va_cnB 0 hts (z_good w4) rfl rfl rfl hnl (by rw [hyc]; exact hts _ w3) w6.2 ⟨Nat.le_trans hd.1 C.2.2.2.2.2.2.2.2.1.1, Nat.le_trans hd.2 C.2.2.2.2.2.2.2.2.1.2⟩, w6.1, hts _ w5⟩
    ⟨y_blind D cA q ci fs0 H1.size, fun U hU hW => ⟨rfl, by rw [hU], by rw [hU]; exact hPc, va_K.moved hW.alike hK, hDc.weaken (fun _ _ _ _ => trivial), hN.warm hW⟩⟩ rfl rfl hl.1 rfl (lv_room (by show (1 + (stk.map fun v => v.category).sum) ≤ 8; omega)) d3 ⟨by omega, by omega⟩) hS1 (fun q' _ h => hFc q' h) hFc (fun ad t H2 locs2 ht hvm hw hB hz1 hk1 hS2 => ?_)
  obtain ⟨hP2, hD2⟩ := hB
  rw [ht] at hP2
  obtain ⟨hP3, hD3⟩ := va_join (wc := [(q, .inr (ci, fs0))]) (wr := ws) (w1 := Wd q ad) hP1 hD1 [ws.length] (List.range ws.length) hCm (map_range ws _) (nd_range _) (fun i hi => by rw [List.mem_range] at hi; rw [List.mem_singleton]; omega) hk1 hFc hP2 hD2
  exact kk q ad H2 locs2 ls hP3 hD3 hS2 hl
end YR
