/-! memory: cell, slot -/
abbrev ZM : Type := Nat → Nat → Int32
def zup (mem : ZM) (c : Nat) (g : Nat → Int32) : ZM := fun c' => if c' = c then g else mem c'
def zst (mem : ZM) (c k : Nat) (v : Int32) : ZM := zup mem c (upd (mem c) k v)
def zlet {α β : Type} (e : α) (k : α → β) : β := k e
def zin (i : Int32) (n : Nat) : Bool := decide (0 ≤ i) && decide (i.toNatClampNeg < n)
def zbl (i : Int32) : Bool := decide (i = 0) || decide (i = 1)
def zgd {α : Type} (b : Bool) (k : Option α) : Option α := if b = true then k else none
def ziter {σ ρ : Type} (body : σ → Option (σ ⊕ ρ)) : Nat → σ → Option ρ
  | 0, _ => none
  | n + 1, s => (body s).bind (fun t => Sum.elim (fun s' => ziter body n s') (fun r => some r) t)
theorem zgd_some {α : Type} {b : Bool} {k : Option α} {t : α} (h : zgd b k = some t) : b = true ∧ k = some t := by
  unfold zgd at h
  split at h
  · exact ⟨by assumption, h⟩
  · cases h
theorem zin_in {i : Int32} {n : Nat} (h : zin i n = true) : vp_in i n := by
  unfold zin at h
  rw [Bool.and_eq_true, decide_eq_true_eq, decide_eq_true_eq] at h
  intro q
  rcases q with q | q
  · have h1 := Int32.le_iff_toInt_le.mp h.1
    have h2 := Int32.lt_iff_toInt_lt.mp q
    omega
  · omega
theorem zbl_n {v : Int32} (h : zbl v = true) : narrow .boolean (.int v) = .int v := by
  unfold zbl at h
  rw [Bool.or_eq_true, decide_eq_true_eq, decide_eq_true_eq] at h
  rcases h with rfl | rfl <;> decide +kernel
/-- the loop rule -/
theorem z_loop {σ ρ : Type} {body : σ → Option (σ ⊕ ρ)} (P : σ → Prop) (K : ρ → Prop)
    (hstep : ∀ s u, body s = some u → (∀ s', u = .inl s' → P s') → (∀ r, u = .inr r → K r) → P s) :
    ∀ (n : Nat) (s : σ) (r : ρ), ziter body n s = some r → K r → P s := by
  intro n
  induction n with
  | zero => intro s r h; cases h
  | succ n ih =>
    intro s r h hk
    unfold ziter at h
    cases hb : body s with
    | none => rw [hb] at h; cases h
    | some u =>
      rw [hb] at h
      refine hstep s u hb (fun s' e => ?_) (fun r' e => ?_)
      · subst e; exact ih s' r h hk
      · subst e; cases h; exact hk
/-! environment: tables, addresses of the cells, classes of the arrays and addresses of constants -/
abbrev ZE : Type := va_G × (Nat → Nat) × (Nat → Nat)
def zNC : Nat := 72
def zks : List Nat := [6, 11, 10, 5, 8, 0, 8, 8, 8, 8, 8, 8, 8, 8, 2, 1, 8, 3, 8, 8, 8, 8, 3, 8, 8, 8, 8, 3, 8, 8, 8, 8, 3, 8, 8, 8, 8, 3, 8, 8, 8, 8, 4, 8, 4, 8, 4, 8, 4, 8, 4, 8, 4, 8, 4, 8, 4, 8, 7, 8, 8, 8, 8, 8, 8, 8, 8, 8, 8, 9, 8, 8]
def zls : List Nat := [0, 8, 2, 0, 90, 0, 192, 192, 192, 24, 24, 24, 24, 24, 0, 0, 16, 0, 8, 8, 8, 8, 0, 8, 8, 8, 8, 0, 8, 8, 8, 8, 0, 8, 8, 8, 8, 0, 8, 8, 8, 8, 0, 40, 0, 40, 0, 40, 0, 40, 0, 40, 0, 40, 0, 40, 0, 40, 0, 8, 8, 320, 38, 40, 90, 38, 8, 912, 38, 2, 76, 16]
def zent (E : ZE) (f : Nat → Int32) (c : Nat) : va_E := match zks.getD c 99 with
  | 0 => .inr (0, [.int (f 0), .int (f 1), .ref (E.2.1 (c + 1)), .ref (E.2.1 (c + 2)), .ref (E.2.1 (c + 3)), .ref (E.2.1 (c + 4)), .ref (E.2.1 (c + 5)), .ref (E.2.1 (c + 6)), .ref (E.2.1 (c + 7)), .ref (E.2.1 (c + 8))])
  | 1 => .inr (1, [.ref (E.2.1 (c + 1)), .int (f 1), .int (f 2), .int (f 3), .int (f 4), .int (f 5)])
  | 2 => .inr (2, [.ref (E.2.1 37)])
  | 3 => .inr (3, [.int (f 0), .ref (E.2.1 (c + 1)), .ref (E.2.1 (c + 2)), .ref (E.2.1 (c + 3)), .ref (E.2.1 (c + 4)), .int (f 5), .int (f 6), .int (f 7), .int (f 8), .int (f 9)])
  | 4 => .inr (4, [.int (f 0), .int (f 1), .ref (E.2.1 (c + 1))])
  | 5 => .inr (5, [.ref (E.2.1 (c + 1)), .int (f 1), .int (f 2), .int (f 3), .int (f 4)])
  | 6 => .inr (6, [.ref (E.2.1 1), .ref (E.2.1 2), .ref (E.2.1 17), .ref (E.2.1 22), .ref (E.2.1 3), .ref (E.2.1 5), .ref (E.2.1 14), .ref (E.2.1 15), .int (f 8)])
  | 7 => .inr (7, [.ref (E.2.1 59), .ref (E.2.1 60), .ref (E.2.1 61), .int (f 3), .int (f 4), .ref (E.2.1 62), .ref (E.2.1 63), .ref (E.2.1 64), .int (f 8), .int (f 9), .int (f 10), .int (f 11), .int (f 12), .int (f 13), .int (f 14), .ref (E.2.1 65), .ref (E.2.1 66), .int (f 17), .ref (E.2.1 67), .int (f 19), .ref (E.2.1 68), .ref (E.2.1 69), .ref (E.2.1 70), .ref (E.2.1 71), .int (f 24)])
  | 8 => .inl (E.2.2 0, zls.getD c 0, .inl f)
  | 9 => .inl (E.2.2 1, zls.getD c 0, .inl f)
  | 10 => .inl (E.2.2 2, 2, .inr (.inr (.inr (.inr (fun i => some (E.2.1 (27 + 5 * i)))))))
  | 11 => .inl (E.2.2 3, 8, .inr (.inr (.inr (.inr (fun i => some (E.2.1 (42 + 2 * i)))))))
  | _ => .inl (E.2.2 0, 0, .inl f)
def zws (E : ZE) (mem : ZM) : va_W := (List.range zNC).map (fun c => (E.2.1 c, zent E (mem c) c))
def zA (E : ZE) : Nat → Prop := fun q => ∃ c, c < zNC ∧ q = E.2.1 c
def zI (E : ZE) : Prop := ∀ i j, i < zNC → j < zNC → E.2.1 i = E.2.1 j → i = j
abbrev ztys (E : ZE) : List (ClassId × FieldType) := [(E.2.2 0, .int), (E.2.2 1, .boolean), (E.2.2 2, .object "BonfireHeaps$Heap"), (E.2.2 3, .object "BonfireHeaps$Row")]
theorem zws_get {E : ZE} {mem : ZM} {c : Nat} (h : c < zNC) : (zws E mem)[c]? = some (E.2.1 c, zent E (mem c) c) := by
  unfold zws
  rw [List.getElem?_map, List.getElem?_range h]
  rfl
theorem zws_get' {E : ZE} {mem : ZM} {c : Nat} {q : Nat × va_E} (h : (zws E mem)[c]? = some q) : c < zNC ∧ q = (E.2.1 c, zent E (mem c) c) := by
  have hl : c < zNC := by
    have h1 := (List.getElem?_eq_some_iff.mp h).1
    unfold zws at h1
    rw [List.length_map, List.length_range] at h1
    exact h1
  rw [zws_get hl] at h
  exact ⟨hl, (Option.some.inj h).symm⟩
theorem zws_D {E : ZE} {mem : ZM} (hI : zI E) : va_D (zA E) (zws E mem) := by
  refine ⟨fun i j p q hi hj e => ?_, fun k q hk => ?_⟩
  · obtain ⟨l1, rfl⟩ := zws_get' hi
    obtain ⟨l2, rfl⟩ := zws_get' hj
    exact hI i j l1 l2 e
  · obtain ⟨l1, rfl⟩ := zws_get' hk
    exact ⟨k, l1, rfl⟩
theorem zws_set {E : ZE} {mem : ZM} {c : Nat} (h : c < zNC) (g : Nat → Int32) {e : va_E} (he : zent E g c = e) : (zws E mem).set c (E.2.1 c, e) = zws E (zup mem c g) := by
  apply List.ext_getElem?
  intro i
  by_cases hi : i = c
  · subst hi
    rw [List.getElem?_set_self (by unfold zws; rw [List.length_map, List.length_range]; exact h), zws_get h]
    unfold zup
    rw [if_pos rfl, he]
  · rw [List.getElem?_set_ne (Ne.symm hi)]
    by_cases hl : i < zNC
    · rw [zws_get hl, zws_get hl]
      unfold zup
      rw [if_neg hi]
    · have z : ∀ m : ZM, (zws E m)[i]? = none := fun m => by
        apply List.getElem?_eq_none
        unfold zws
        rw [List.length_map, List.length_range]
        omega
      rw [z, z]
/-! constants that nobody writes -/
def zt0 : List Int32 := [-1, 0, 1, 1, 0, 4]
def zt1 : List Int32 := [0, 2, 1, 4, 0, 0]
def zt2 : List Int32 := [0, 1, 3, 0, 0, 0]
def zt3 : List Int32 := [1, 0, 1, 0]
def zt4 : List Int32 := [5, 20, 30, 1]
abbrev zStr : Nat → Nat := fun _ => 5
def zRO (E : ZE) (U : State) (H : Heap) : Prop :=
  (va_Z "BonfireHeaps" "PARENTS" "[I" (.ref (E.2.2 10)) (zA E) U H ∧ va_T .int (E.2.2 10) 6 (fun j => .int (zt0.getD j 0)) (zA E) U H) ∧
  (va_Z "BonfireHeaps" "STUFF_AN_HOUR" "[I" (.ref (E.2.2 11)) (zA E) U H ∧ va_T .int (E.2.2 11) 6 (fun j => .int (zt1.getD j 0)) (zA E) U H) ∧
  (va_Z "BonfireHeaps" "SMOKE_AN_HOUR" "[I" (.ref (E.2.2 12)) (zA E) U H ∧ va_T .int (E.2.2 12) 6 (fun j => .int (zt2.getD j 0)) (zA E) U H) ∧
  (va_Z "BonfireHeaps$Foretold" "LEAST_FIT" "[I" (.ref (E.2.2 13)) (zA E) U H ∧ va_T .int (E.2.2 13) 4 (fun j => .int (zt3.getD j 0)) (zA E) U H) ∧
  (va_Z "BonfireHeaps$Foretold" "MOST_FIT" "[I" (.ref (E.2.2 14)) (zA E) U H ∧ va_T .int (E.2.2 14) 4 (fun j => .int (zt4.getD j 0)) (zA E) U H) ∧
  (vk_R "BonfireHeaps$Tape" 46 "sgldi" (E.2.2 15) U ∧ vk_S 1 [5] [[115, 103, 108, 100, 105]] (fun _ => E.2.2 15) (fun _ => E.2.2 16) (zA E) U H ∧ va_Z "java/lang/String" "COMPACT_STRINGS" "Z" (.int 1) (zA E) U H) ∧
  (va_Nw (.methodLinkNest "BonfireHeaps$Tape" 64 ⟨"BonfireHeaps", "isWithin", "(III)Z"⟩ "BonfireHeaps") U ∧ va_Nw (.methodLinkNest "BonfireHeaps$Foretold" 143 ⟨"BonfireHeaps", "isOfKind", "(II)Z"⟩ "BonfireHeaps") U) ∧
  (va_Nw (.fieldLinkNest "BonfireHeaps$Heap" 49 "BonfireHeaps" "STUFF_AN_HOUR" "[I" "BonfireHeaps") U ∧ va_Nw (.fieldLinkNest "BonfireHeaps$Heap" 97 "BonfireHeaps" "SMOKE_AN_HOUR" "[I" "BonfireHeaps") U)
theorem zRO.go {E : ZE} {s U : State} {H : Heap} (h : zRO E s s.heap) (hW : s.WarmedH U.vm) (hk : ∀ a : Nat, a < s.heap.size → ¬ zA E a → H[a]? = s.heap[a]?) : zRO E U H := by
  have hv := hW.alike
  obtain ⟨⟨a1, a2⟩, ⟨b1, b2⟩, ⟨c1, c2⟩, ⟨d1, d2⟩, ⟨e1, e2⟩, ⟨f1, f2, f3⟩, ⟨g1, g3⟩, ⟨i1, i2⟩⟩ := h
  exact ⟨⟨(a1.kept hk).moved hv, (a2.kept hk).moved hv⟩, ⟨(b1.kept hk).moved hv, (b2.kept hk).moved hv⟩, ⟨(c1.kept hk).moved hv, (c2.kept hk).moved hv⟩, ⟨(d1.kept hk).moved hv, (d2.kept hk).moved hv⟩, ⟨(e1.kept hk).moved hv, (e2.kept hk).moved hv⟩, ⟨f1.warm hW, (f2.kept hk).moved hv, (f3.kept hk).moved hv⟩, ⟨g1.warmM hW, g3.warmM hW⟩, ⟨i1.warmF hW, i2.warmF hW⟩⟩
theorem zRO.same {E : ZE} {s U : State} {H : Heap} (h : zRO E s H) (e : s.vm = U.vm) : zRO E U H := by
  have hv : s.vm.Alike U.vm := by rw [e]; exact Vm.Alike.refl _
  obtain ⟨⟨a1, a2⟩, ⟨b1, b2⟩, ⟨c1, c2⟩, ⟨d1, d2⟩, ⟨e1, e2⟩, ⟨f1, f2, f3⟩, ⟨g1, g3⟩, ⟨i1, i2⟩⟩ := h
  exact ⟨⟨a1.moved hv, a2.moved hv⟩, ⟨b1.moved hv, b2.moved hv⟩, ⟨c1.moved hv, c2.moved hv⟩, ⟨d1.moved hv, d2.moved hv⟩, ⟨e1.moved hv, e2.moved hv⟩, ⟨vk_R.same e.symm f1, f2.moved hv, f3.moved hv⟩, ⟨va_Nw.same rfl e g1, va_Nw.same rfl e g3⟩, ⟨va_Nw.same rfl e i1, va_Nw.same rfl e i2⟩⟩
/-! a method's contract -/
def zW (E : ZE) (mem : ZM) (U : State) : Prop := va_P E.1 vwCl (zws E mem) U.heap ∧ va_K E.1 vwCl (ztys E) U ∧ zI E ∧ zRO E U U.heap
def zQc (E : ZE) (rv : Option Value) (mem' : ZM) : Array Value → State → Outcome → State → Prop := fun _ st oc t => oc = .returned rv ∧ va_P E.1 vwCl (zws E mem') t.heap ∧ va_F (zA E) st t
abbrev zR (d : Nat) : Room := { frames := d, cells := 0, slots := 0, locals := 40 * d }
def zMet (l : Launch) (E : ZE) (y : MethodName) (cc : ByteArray) (nL : Nat) (ret : Option FieldType) (d : Nat) (args : List Value) (mem : ZM) (rv : Option Value) (mem' : ZM) : Prop :=
  Met l y (Cond.code y cc nL ret :: wsL_law) (zR d) (va_Pc args (zW E mem)) (zQc E rv mem') 0 0 (zA E)
/-! a frame -/
abbrev ZG : Type := Program × Env × Room × State × MethodId × Array Value × List Frame × Method × Code × (State → Prop) × Nat × Nat
abbrev gP (Γ : ZG) : Program := Γ.1
abbrev gE (Γ : ZG) : Env := Γ.2.1
abbrev gR (Γ : ZG) : Room := Γ.2.2.1
abbrev gS (Γ : ZG) : State := Γ.2.2.2.1
abbrev gM (Γ : ZG) : MethodId := Γ.2.2.2.2.1
abbrev gA (Γ : ZG) : Array Value := Γ.2.2.2.2.2.1
abbrev gB (Γ : ZG) : List Frame := Γ.2.2.2.2.2.2.1
abbrev gMe (Γ : ZG) : Method := Γ.2.2.2.2.2.2.2.1
abbrev gC (Γ : ZG) : Code := Γ.2.2.2.2.2.2.2.2.1
abbrev gQ (Γ : ZG) : State → Prop := Γ.2.2.2.2.2.2.2.2.2.1
abbrev gkc (Γ : ZG) : Nat := Γ.2.2.2.2.2.2.2.2.2.2.1
abbrev gks (Γ : ZG) : Nat := Γ.2.2.2.2.2.2.2.2.2.2.2
def zG (l : Launch) (E : ZE) (Γ : ZG) (nL pc : Nat) (loc : List (Nat × Value)) (stk : List Value) (mem : ZM) : Prop :=
  ∀ (H : Heap) (locs : List Loc) (ls : Array Slot), va_P E.1 vwCl (zws E mem) H → va_S (zA E) (gS Γ).heap H locs → lv_has ls nL loc →
    W (gP Γ) l (gE Γ) (gR Γ) (gS Γ) (gM Γ) (gA Γ) (gB Γ) (gMe Γ) (gC Γ) H locs (gkc Γ) (gks Γ) (gQ Γ) (F0 (gM Γ) pc ls stk)
def zC (E : ZE) (Γ : ZG) (own : String) (cc : ByteArray) (nL dd : Nat) : Prop :=
  (gP Γ).tables.exec = Jvm.exec ∧ (gC Γ).code = cc ∧ (gC Γ).maxLocals = nL ∧ (gS Γ).vm.findClass own = some (gM Γ).cls ∧ (∀ w ∈ wsL_law, w.before (gA Γ) (gS Γ) = true) ∧ va_K E.1 vwCl (ztys E) (gS Γ) ∧ zI E ∧ zRO E (gS Γ) (gS Γ).heap ∧ (dd ≤ (gR Γ).frames ∧ 40 * dd ≤ (gR Γ).locals ∧ gkc Γ ≤ (gR Γ).cells ∧ gks Γ ≤ (gR Γ).slots)
def zRq (E : ZE) (Γ : ZG) (ret : Option FieldType) (rv : Option Value) (mem' : ZM) : Prop :=
  (gMe Γ).sig.returnType = ret ∧ (gMe Γ).locks = false ∧ gkc Γ = 0 ∧ gks Γ = 0 ∧ gQ Γ = MQ (gB Γ) (zQc E rv mem') (gA Γ) (gS Γ) 0 0 (zA E)
theorem z_blind (E : ZE) (args : List Value) (mem : ZM) : FrameBlind (va_Pc args (zW E mem)) := by
  intro a U g mk q
  obtain ⟨q0, qP, qK, qI, qR⟩ := q
  exact ⟨q0, qP, va_K.moved (u := U) (U := U.calling g mk a) (Vm.Alike.refl U.vm) qK, qI, zRO.same qR rfl⟩
theorem z_enter {l : Launch} {E : ZE} {y : MethodName} {cc : ByteArray} {nL : Nat} {ret : Option FieldType} {dd : Nat} {args : List Value} {mem mem' : ZM} {rv : Option Value} (hy : plainName y.cls = true) (hn : (lg_sl args).length ≤ nL)
    (body : ∀ Γ : ZG, zC E Γ y.cls cc nL dd → zRq E Γ ret rv mem' → zG l E Γ nL 0 (lv_args 0 args) [] mem) : zMet l E y cc nL ret dd args mem rv mem' := by
  unfold zMet
  refine Met.ofW (cc := cc) (maxL := nL) (ret := ret) hy rfl ?_
  intro p e s m av below meth c s₁ B hml hv
  obtain ⟨rfl, hP, hK, hI, hR⟩ := hv
  have hts := atoms_spec (ws := Cond.code y cc nL ret :: wsL_law) B.pre
  have hown : s.vm.findClass y.cls = some m.cls := findClass_of_methodNamed B.named
  have h := body (p, e, (headSpec (Cond.code y cc nL ret :: wsL_law) (zR dd)).room, s, m, args.toArray, below, meth, c, MQ below (zQc E rv mem') args.toArray s 0 0 (zA E), 0, 0)
    ⟨B.exec, B.bytes, hml, hown, fun w hw => hts w (List.mem_cons_of_mem _ hw), hK, hI, hR, Nat.le_refl _, Nat.le_refl _, Nat.le_refl _, Nat.le_refl _⟩ ⟨B.returns, B.notSynchronized, rfl, rfl, rfl⟩
  have hl := lv_entry args (n := nL) hn
  rw [lg_entry_eq]
  exact h s.heap [] _ hP va_S.rf hl
