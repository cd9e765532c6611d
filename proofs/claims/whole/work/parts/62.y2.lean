section Y2
variable {l : Launch} {D : va_G} {cA : Nat → ClassId} {A : Nat → Prop} {Γ : ZG} {own : String} {cc : ByteArray} {nL dd MC MS pc : Nat} {loc : List (Nat × Value)} {stk : List Value} {kc ks : Nat} {index : Nat} {L L' X : va_W}
theorem y2_at {j : Nat} {x : Nat × va_E} (h : L[j]? = some x) (X : va_W) : (L ++ X)[j]? = some x := by
  rw [List.getElem?_append_left (List.getElem?_eq_some_iff.mp h).1]; exact h
theorem y2_set {j : Nat} {x y : Nat × va_E} (h : L[j]? = some x) (X : va_W) : (L ++ X).set j y = L.set j y ++ X := by
  have hl := (List.getElem?_eq_some_iff.mp h).1
  apply List.ext_getElem?
  intro i
  rw [List.getElem?_set, List.length_append]
  by_cases hi : i < L.length
  · rw [List.getElem?_append_left hi, List.getElem?_append_left (by rw [List.length_set]; exact hi), List.getElem?_set]
    by_cases e : j = i
    · rw [if_pos e, if_pos e, if_pos (by omega), if_pos (by omega)]
    · rw [if_neg e, if_neg e]
  · rw [List.getElem?_append_right (by omega), List.getElem?_append_right (by rw [List.length_set]; omega), List.length_set, if_neg (by omega)]
theorem y2_put {ci : Nat} {fs : List Value} {a : Nat} {Cn ref nm ds : String} {T : u_T} {N : Nat} {x : Int32} {ty0 : Nat → FieldType} (j : Nat) (C : yC D cA A Γ own cc nL dd MC MS) (d : decode cc pc = .ok (.putfield index, 3)) (he : L[j]? = some (a, .inr (ci, fs))) (hcl : vwCl[ci]? = some (Cn, T, N)) (hin : ∀ w ∈ u_ws Cn T N, w ∈ wsL_law) (hty : ∀ k, k < N → parseFieldDescriptor (T k).2.2.1 = some (ty0 k)) (hnm : ∀ a, a < N → ∀ b, b < N → a ≠ b → (T a).2.1 ≠ (T b).2.1) (k : Nat) (hk : k < N) (hT : T k = (ref, nm, ds, false)) (hw : Cond.fieldLink own index ref nm ds ∈ wsL_law) (hd : parseFieldDescriptor ds = some .int) (hl0 : k < fs.length)
    (L' : va_W) (hs : L.set j (a, .inr (ci, fs.set k (.int x))) = L') (kk : yG l D A Γ nL (pc + 3) loc stk (L' ++ X) kc ks) : yG l D A Γ nL pc loc (.int x :: .ref a :: stk) (L ++ X) kc ks :=
  y_put j C d (y2_at he X) hcl hin hty hnm k hk hT hw hd hl0 (by rw [y2_set he, hs]; exact kk)
theorem y2_putF {ci : Nat} {fs : List Value} {a v : Nat} {ref nm ds : String} {T : u_T} {N : Nat} {ty : FieldType} {ty0 : Nat → FieldType} (j : Nat) (C : yC D cA A Γ own cc nL dd MC MS) (hi : (gMe Γ).name = "<init>") (d : decode cc pc = .ok (.putfield index, 3)) (he : L[j]? = some (a, .inr (ci, fs))) (hcl : vwCl[ci]? = some (own, T, N)) (hin : ∀ w ∈ u_ws own T N, w ∈ wsL_law) (hty : ∀ k, k < N → parseFieldDescriptor (T k).2.2.1 = some (ty0 k)) (hnm : ∀ a, a < N → ∀ b, b < N → a ≠ b → (T a).2.1 ≠ (T b).2.1) (k : Nat) (hk : k < N) (hT : T k = (ref, nm, ds, true)) (hro : ref = own) (hw : Cond.fieldLink own index ref nm ds ∈ wsL_law) (hd : parseFieldDescriptor ds = some ty) (hn : narrow ty (.ref v) = .ref v) (hfit : fits ty (.ref v) = true) (hl0 : k < fs.length)
    (L' : va_W) (hs : L.set j (a, .inr (ci, fs.set k (.ref v))) = L') (kk : yG l D A Γ nL (pc + 3) loc stk (L' ++ X) kc ks) : yG l D A Γ nL pc loc (.ref v :: .ref a :: stk) (L ++ X) kc ks :=
  y_putF j C hi d (y2_at he X) hcl hin hty hnm k hk hT hro hw hd hn hfit hl0 (by rw [y2_set he, hs]; exact kk)
theorem y2_get {ci : Nat} {fs : List Value} {a : Nat} {Cn ref nm ds : String} {T : u_T} {N : Nat} {v : Value} (j : Nat) (C : yC D cA A Γ own cc nL dd MC MS) (d : decode cc pc = .ok (.getfield index, 3)) (he : L[j]? = some (a, .inr (ci, fs))) (hcl : vwCl[ci]? = some (Cn, T, N)) (hin : ∀ w ∈ u_ws Cn T N, w ∈ wsL_law) (k : Nat) (hk : k < N) (hT : ((T k).1, (T k).2.1, (T k).2.2.1) = (ref, nm, ds)) (hw : Cond.fieldLink own index ref nm ds ∈ wsL_law) (hv : fs[k]? = some v) (kk : yG l D A Γ nL (pc + 3) loc (v :: stk) (L ++ X) kc ks) : yG l D A Γ nL pc loc (.ref a :: stk) (L ++ X) kc ks :=
  y_get j C d (y2_at he X) hcl hin k hk hT hw hv kk
theorem y2_aast {a n v ci : Nat} {f : Nat → Option Nat} {vs : List Value} {r : vw_C} {i : Int32} {B Y : va_W} (j k : Nat) (C : yC D cA A Γ own cc nL dd MC MS) (d : decode cc pc = .ok (.aastore, 1)) (he : L[j]? = some (a, .inl (cA k, n, .inr (.inr (.inr (.inr f)))))) (ht : (zty cA)[k]? = some (cA k, .object r.1)) (hv : B = (v, .inr (ci, vs)) :: Y) (hc : vwCl[ci]? = some r) (hi : zin i n = true) (L' : va_W) (hs : L.set j (a, .inl (cA k, n, .inr (.inr (.inr (.inr (va_up f i.toNatClampNeg (some v))))))) = L') (kk : yG l D A Γ nL (pc + 1) loc stk (L' ++ (X ++ B)) kc ks) : yG l D A Γ nL pc loc (.ref v :: .int i :: .ref a :: stk) (L ++ (X ++ B)) kc ks :=
  y_aast j (L.length + X.length) k C d (y2_at he _) ht (by
    rw [List.getElem?_append_right (by omega), show L.length + X.length - L.length = X.length by omega, List.getElem?_append_right (Nat.le_refl _), Nat.sub_self, hv]; rfl) hc hi (by rw [y2_set he, hs]; exact kk)
theorem y2_ext {a n : Nat} {c : ClassId} {f : Nat → Option Nat} (g : Nat → Option Nat) (j : Nat) (he : L[j]? = some (a, .inl (c, n, .inr (.inr (.inr (.inr f)))))) (hfg : ∀ i, i < n → f i = g i) (L' : va_W) (hs : L.set j (a, .inl (c, n, .inr (.inr (.inr (.inr g))))) = L') (kk : yG l D A Γ nL pc loc stk (L' ++ X) kc ks) : yG l D A Γ nL pc loc stk (L ++ X) kc ks :=
  y_ext g j (y2_at he X) hfg (by rw [y2_set he, hs]; exact kk)
theorem y2_mk {ci N maxL mc ms d' index2 : Nat} {Cn : String} {T : u_T} {ty0 : Nat → FieldType} {fs0 : List Value} {y : MethodName} {bytes : ByteArray} {Wd : Nat → (Nat → Nat) → va_W} (C : yC D cA A Γ own cc nL dd MC MS)
    (d1 : decode cc pc = .ok (.new index, 3)) (d2 : decode cc (pc + 3) = .ok (.dup, 1)) (d3 : decode cc (pc + 3 + 1) = .ok (.invokespecial index2, 3))
    (hcl : vwCl[ci]? = some (Cn, T, N)) (hin : ∀ w ∈ u_ws Cn T N, w ∈ wsL_law) (hty : ∀ k, k < N → parseFieldDescriptor (T k).2.2.1 = some (ty0 k)) (w1 : Cond.classLink own index Cn ∈ wsL_law) (w2 : Cond.instantiable Cn N ∈ wsL_law) (w3 : Cond.initialized Cn ∈ wsL_law) (hfs : ∀ j, j < N → defaultValue (ty0 j) = vp_V fs0 j)
    (hyc : y.cls = Cn) (hnl : va_Nw (.methodLinkNest own index2 y "BonfireHeaps") (gS Γ)) (w4 : Cond.code y bytes maxL none ∈ wsL_law) (w5 : Cond.instanceMethod y ∈ wsL_law) (w6 : y.name = "<init>" ∧ (y.cls ≠ "java/lang/invoke/MethodHandle" ∧ y.cls ≠ "java/lang/invoke/VarHandle" ∧ (parseMethodDescriptor y.desc).map (fun d => d.parameters.length) = some 0))
    (M : ∀ q sz, yMet l D cA y bytes maxL d' mc ms q ci fs0 sz (Wd q)) (hd : d' + 1 ≤ dd ∧ 8 + (maxL + 11) + 40 * d' ≤ 40 * dd) (hr : (stk.map fun v => v.category).sum ≤ 7) (hk : kc + 1 + mc ≤ MC ∧ ks + N + ms ≤ MS)
    (kk : ∀ (q : Nat) (ad : Nat → Nat), yG l D A Γ nL (pc + 3 + 1 + 3) loc (.ref q :: stk) (L ++ (X ++ Wd q ad)) (kc + 1 + mc) (ks + N + ms)) : yG l D A Γ nL pc loc stk (L ++ X) kc ks :=
  y_mk C d1 d2 d3 hcl hin hty w1 w2 w3 hfs hyc hnl w4 w5 w6 M hd hr hk (fun q ad => by rw [List.append_assoc]; exact kk q ad)
end Y2
