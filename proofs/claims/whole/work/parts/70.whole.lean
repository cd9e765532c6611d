section YP
variable {l : Launch} {D : va_G} {cA : Nat → ClassId} {A : Nat → Prop} {Γ : ZG} {own : String} {cc : ByteArray} {nL dd MC MS pc : Nat} {loc : List (Nat × Value)} {stk : List Value} {ws : va_W} {kc ks : Nat} {index : Nat}
/-- new, dup, and the constructor, a public one -/
theorem y_mkP {ci N maxL mc ms d' index2 : Nat} {Cn : String} {T : u_T} {ty0 : Nat → FieldType} {fs0 : List Value} {y : MethodName} {bytes : ByteArray} {Wd : Nat → (Nat → Nat) → va_W} (C : yC D cA A Γ own cc nL dd MC MS)
    (d1 : decode cc pc = .ok (.new index, 3)) (d2 : decode cc (pc + 3) = .ok (.dup, 1)) (d3 : decode cc (pc + 3 + 1) = .ok (.invokespecial index2, 3))
    (hcl : vwCl[ci]? = some (Cn, T, N)) (hin : ∀ w ∈ u_ws Cn T N, w ∈ wsL_law) (hty : ∀ k, k < N → parseFieldDescriptor (T k).2.2.1 = some (ty0 k)) (w1 : Cond.classLink own index Cn ∈ wsL_law) (w2 : Cond.instantiable Cn N ∈ wsL_law) (w3 : Cond.initialized Cn ∈ wsL_law) (hfs : ∀ j, j < N → defaultValue (ty0 j) = vp_V fs0 j)
    (hyc : y.cls = Cn) (hnl : Cond.methodLink own index2 y ∈ wsL_law) (w4 : Cond.code y bytes maxL none ∈ wsL_law) (w5 : Cond.instanceMethod y ∈ wsL_law) (w6 : y.name = "<init>" ∧ (y.cls ≠ "java/lang/invoke/MethodHandle" ∧ y.cls ≠ "java/lang/invoke/VarHandle" ∧ (parseMethodDescriptor y.desc).map (fun d => d.parameters.length) = some 0))
    (M : ∀ q sz, yMet l D cA y bytes maxL d' mc ms q ci fs0 sz (Wd q)) (hd : d' + 1 ≤ dd ∧ 8 + (maxL + 11) + 40 * d' ≤ 40 * dd) (hr : (stk.map fun v => v.category).sum ≤ 7) (hk : kc + 1 + mc ≤ MC ∧ ks + N + ms ≤ MS)
    (kk : ∀ (q : Nat) (ad : Nat → Nat), yG l D A Γ nL (pc + 3 + 1 + 3) loc (.ref q :: stk) (ws ++ Wd q ad) (kc + 1 + mc) (ks + N + ms)) : yG l D A Γ nL pc loc stk ws kc ks := by
  intro H locs ls hP hD hS hl
  have hts := C.2.2.2.2.1
  have hA := C.2.2.2.2.2.2.1
  have hK := C.2.2.2.2.2.1
  have hN := C.2.2.2.2.2.2.2.1
  have hc := C.2.2.2.2.2.2.2.2.2
  refine va_new (ci := ci) (fs := fs0) (C := Cn) (T := T) (N := N) C.1 C.2.1 hts hin ty0 hty C.2.2.2.1 (hts _ w1) (hts _ w2) (hts _ w3) hK hP hD hS hA hcl hfs (by omega) (by omega) d1 (fun q H1 hP1 hD1 hS1 => ?_)
  refine lv_dup C.1 C.2.1 d2 rfl ?_
  have hlen : (ws ++ [(q, (Sum.inr (ci, fs0) : va_E))])[ws.length]? = some (q, .inr (ci, fs0)) := by rw [List.getElem?_append_right (Nat.le_refl _), Nat.sub_self]; rfl
  have hCm : [ws.length].map (fun i => (ws ++ [(q, (Sum.inr (ci, fs0) : va_E))])[i]?) = ([(q, (Sum.inr (ci, fs0) : va_E))] : va_W).map some := by
    show [(ws ++ [(q, (Sum.inr (ci, fs0) : va_E))])[ws.length]?] = [some (q, Sum.inr (ci, fs0))]
    rw [hlen]
  have hPc : va_P D vwCl [(q, .inr (ci, fs0))] H1 := hP1.sub [ws.length] (by show [ws.length].filterMap (fun i => (ws ++ [(q, (Sum.inr (ci, fs0) : va_E))])[i]?) = _; rw [List.filterMap_cons, hlen]; rfl)
  have hDc : va_D A [(q, .inr (ci, fs0))] := hD1.sub [ws.length] rfl hCm
  have hFc := va_free (wc := [(q, .inr (ci, fs0))]) hD1 hS1 hA [ws.length] hCm
  refine va_callv (va_runI (As := []) (rest := .ref q :: stk) (n := 0) (Ts := wsL_law) ⟨C.1, C.2.1, C.2.2.1, C.2.2.2.1, hts⟩ (M q H1.size)
    ⟨callB_of 0 hts (z_good w4) rfl rfl rfl (by rw [hyc]; exact hts _ w3) (hts _ hnl) w6.2 ⟨Nat.le_trans hd.1 C.2.2.2.2.2.2.2.2.1.1, Nat.le_trans hd.2 C.2.2.2.2.2.2.2.2.1.2⟩, w6.1, hts _ w5⟩
    ⟨y_blind D cA q ci fs0 H1.size, fun U hU hW => ⟨rfl, by rw [hU], by rw [hU]; exact hPc, va_K.moved hW.alike hK, hDc.weaken (fun _ _ _ _ => trivial), hN.warm hW⟩⟩ rfl rfl hl.1 rfl (lv_room (by show (1 + (stk.map fun v => v.category).sum) ≤ 8; omega)) d3 ⟨by omega, by omega⟩) hS1 (fun q' _ h => hFc q' h) hFc (fun ad t H2 locs2 ht hvm hw hB hz1 hk1 hS2 => ?_)
  obtain ⟨hP2, hD2⟩ := hB
  rw [ht] at hP2
  obtain ⟨hP3, hD3⟩ := va_join (wc := [(q, .inr (ci, fs0))]) (wr := ws) (w1 := Wd q ad) hP1 hD1 [ws.length] (List.range ws.length) hCm (map_range ws _) (nd_range _) (fun i hi => by rw [List.mem_range] at hi; rw [List.mem_singleton]; omega) hk1 hFc hP2 hD2
  exact kk q ad H2 locs2 ls hP3 hD3 hS2 hl
end YP
/-! from the entry to the loop -/
section LW2
variable {p : Program} {e : Env} {s : State} {m : MethodId} {below : List Frame} {meth : Method} {c : Code} {l : Launch} {b L : Nat} {xs : Nat → Int32} {D : va_G} {cA : Nat → Nat}
set_option maxRecDepth 100000 in
set_option maxHeartbeats 4000000 in
theorem law_go {q6 q7 : Nat} {a6 a7 t : Nat → Nat} (hL : L ≤ 384) (C0 : lw_At p s m meth c b L xs) (hK : va_K D vwCl (zty cA) s) (hro : ∀ (E : ZE), (∀ k, 10 ≤ k → E.2.2 k = t k) → (∀ q, zA E q → s.heap.size ≤ q) → zRO E s s.heap) :
    yG l D (fun q => s.heap.size ≤ q) (lwG p e s m below meth c b 72 3016) 4 18 [(3, .int 0), (2, .ref q7), (1, .ref q6), (0, .ref b)] [] (WX6 cA q6 a6 ++ WX7 cA q7 a7) 72 3016 := by
  obtain ⟨hx, hb, hr, hml, hown, hts, hX, hbl, hlk, hgv⟩ := C0
  refine y_ext (a := a6 0) (n := 8) (c := cA 3) (f := fun i => some (a6 (31 + 2 * i))) (fun i => some (zad q6 a6 q7 a7 (42 + 2 * i))) 1 rfl (fun i hi => ?_) ?_
  · rcases (show i = 0 ∨ i = 1 ∨ i = 2 ∨ i = 3 ∨ i = 4 ∨ i = 5 ∨ i = 6 ∨ i = 7 by omega) with rfl | rfl | rfl | rfl | rfl | rfl | rfl | rfl <;> rfl
  refine y_ext (a := a6 1) (n := 2) (c := cA 2) (f := fun i => some (a6 (47 + 5 * i))) (fun i => some (zad q6 a6 q7 a7 (27 + 5 * i))) 2 rfl (fun i hi => ?_) ?_
  · rcases (show i = 0 ∨ i = 1 by omega) with rfl | rfl <;> rfl
  intro H locs ls hP hD hS hl
  rw [zkK cA q6 a6 q7 a7] at hP hD
  have hm := z_map D cA t q6 a6 q7 a7
  have hP' : va_P D vwCl (zws (zE0 D cA t q6 a6 q7 a7) mem0) H := hP.sub zpl (map_fm hm)
  have hD' : va_D (fun q => s.heap.size ≤ q) (zws (zE0 D cA t q6 a6 q7 a7) mem0) := hD.sub zpl (by decide +kernel) hm
  have hI : zI (zE0 D cA t q6 a6 q7 a7) := fun i j hi hj e => hD'.1 i j _ _ (zws_get hi) (zws_get hj) e
  have hA : ∀ q, zA (zE0 D cA t q6 a6 q7 a7) q → s.heap.size ≤ q := by
    intro q h
    obtain ⟨k, hk, rfl⟩ := h
    exact hD'.2 k _ (zws_get hk)
  have hE : ∀ k, 10 ≤ k → (zE0 D cA t q6 a6 q7 a7).2.2 k = t k := fun k hk => by
    show (if k < 4 then cA k else t k) = t k
    rw [if_neg (by omega)]
  have hk : (72 : Nat) ≤ 600000 ∧ (3016 : Nat) ≤ 7302250 := ⟨by decide, by decide⟩
  have C : zC (zE0 D cA t q6 a6 q7 a7) (lwG p e s m below meth c b 72 3016) RL cL_law 4 16 := ⟨hx, hb, hml, hown, st_w hts, hK, hI, hro _ hE hA, Nat.le_of_ble_eq_true rfl, Nat.le_of_ble_eq_true rfl, Nat.le_of_ble_eq_true rfl, Nat.le_of_ble_eq_true rfl⟩
  have S : zSc (zE0 D cA t q6 a6 q7 a7) (lwG p e s m below meth c b 72 3016) b L xs := ⟨hX, hbl, fun h => absurd (hA b h) (Nat.not_le.mpr hbl), hL⟩
  refine va_forget (fun q hq => hS.2.2 q hq) ?_
  exact law_loop C S hr hlk hA hk 400 0 mem0 (by omega) (by omega) Rel0 H [] ls hP' ⟨hS.1, fun q h1 _ => hS.2.1 q h1 (Nat.not_le.mpr h1), fun _ h => by cases h⟩ hl
set_option maxRecDepth 100000 in
set_option maxHeartbeats 4000000 in
theorem law_in (hL : L ≤ 384) (C0 : lw_At p s m meth c b L xs) (hK : va_K D vwCl (zty cA) s) : yG l D (fun q => s.heap.size ≤ q) (lwG p e s m below meth c b 72 3016) 4 0 [(0, .ref b)] [] [] 0 0 := by
  have C1 := C0
  obtain ⟨hx, hb, hr, hml, hown, hts, hX, hbl, hlk, hgv⟩ := C1
  obtain ⟨t, hro⟩ := st_ro hts hgv
  have Cy : yC D cA (fun q => s.heap.size ≤ q) (lwG p e s m below meth c b 72 3016) RL cL_law 4 17 600000 7302250 := ⟨hx, hb, hml, hown, st_w hts, hK, fun _ h => h, st_nw hts, ⟨Nat.le_of_ble_eq_true rfl, Nat.le_of_ble_eq_true rfl⟩, ⟨Nat.le_of_ble_eq_true rfl, Nat.le_of_ble_eq_true rfl⟩⟩
  refine y_mkP (ci := 6) (Wd := WX6 cA) Cy dL_law_0 dL_law_3 dL_law_4 rfl inlX6 tyX6_ok zw0 zw1 zw2 dfX6 rfl zw6 zw8 zw7 ⟨rfl, by decide +kernel⟩ (fun q sz => sX6_init) ⟨by decide, by decide⟩ (Nat.le_of_ble_eq_true rfl) ⟨by decide, by decide⟩ (fun q6 a6 => ?_)
  refine y_astore [(0, .ref b)] Cy dL_law_7 rfl (by decide) rfl ?_
  refine y_mkP (ci := 7) (Wd := WX7 cA) Cy dL_law_8 dL_law_11 dL_law_12 rfl inlX7 tyX7_ok zw3 zw4 zw5 dfX7 rfl zw94 zw96 zw95 ⟨rfl, by decide +kernel⟩ (fun q sz => sX7_init) ⟨by decide, by decide⟩ (Nat.le_of_ble_eq_true rfl) ⟨by decide, by decide⟩ (fun q7 a7 => ?_)
  refine y_astore [(1, .ref q6), (0, .ref b)] Cy dL_law_15 rfl (by decide) rfl ?_
  refine y_iconst (v := 0) Cy dL_law_16 (by decide +kernel) ?_
  refine y_istore [(2, .ref q7), (1, .ref q6), (0, .ref b)] Cy dL_law_17 rfl (by decide) rfl ?_
  exact law_go hL C0 hK hro
end LW2
theorem whole_start {p : Program} {e : Env} {s : State} {m : MethodId} {below : List Frame} {meth : Method} {c : Code} (l : Launch) {b L : Nat} {xs : Nat → Int32} (hL : L ≤ 384) (C0 : lw_At p s m meth c b L xs) : W p l e room_1 s m #[Value.ref b] below meth c s.heap [] 0 0 (lw_Z below #[Value.ref b] s) (entryFrame m ([Value.ref b] : List Value).toArray 4) := by
  obtain ⟨D, cA, hK⟩ := st_K C0.2.2.2.2.2.1
  have h := law_in (D := D) (cA := cA) (e := e) (below := below) (l := l) hL C0 hK
  have hl := lv_entry [Value.ref b] (n := 4) (Nat.le_of_ble_eq_true rfl)
  rw [lg_entry_eq]
  exact h s.heap [] _ (fun k q hq => by cases hq) ⟨fun i j p q hi => (by cases hi), fun k q hq => by cases hq⟩ va_S.rf hl
