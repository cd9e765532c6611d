/-! the cells as the two constructors leave them -/
def zad (q6 : Nat) (a6 : Nat → Nat) (q7 : Nat) (a7 : Nat → Nat) : Nat → Nat := fun c => ([q6, a6 0, a6 1, a6 12, a6 13, a6 14, a6 15, a6 16, a6 17, a6 18, a6 19, a6 20, a6 21, a6 22, a6 23, a6 29, a6 30, a6 2, a6 3, a6 4, a6 5, a6 6, a6 7, a6 8, a6 9, a6 10, a6 11, a6 47, a6 48, a6 49, a6 50, a6 51, a6 52, a6 53, a6 54, a6 55, a6 56, a6 24, a6 25, a6 26, a6 27, a6 28, a6 31, a6 32, a6 33, a6 34, a6 35, a6 36, a6 37, a6 38, a6 39, a6 40, a6 41, a6 42, a6 43, a6 44, a6 45, a6 46, q7, a7 0, a7 1, a7 2, a7 3, a7 4, a7 5, a7 6, a7 7, a7 8, a7 9, a7 10, a7 11, a7 12] : List Nat).getD c 0
def zE0 (D : va_G) (cA t : Nat → Nat) (q6 : Nat) (a6 : Nat → Nat) (q7 : Nat) (a7 : Nat → Nat) : ZE := (D, zad q6 a6 q7 a7, fun k => if k < 4 then cA k else t k)
def zpl : List Nat := [0, 1, 2, 13, 14, 15, 16, 17, 18, 19, 20, 21, 22, 23, 24, 30, 31, 3, 4, 5, 6, 7, 8, 9, 10, 11, 12, 48, 49, 50, 51, 52, 53, 54, 55, 56, 57, 25, 26, 27, 28, 29, 32, 33, 34, 35, 36, 37, 38, 39, 40, 41, 42, 43, 44, 45, 46, 47, 58, 59, 60, 61, 62, 63, 64, 65, 66, 67, 68, 69, 70, 71]
theorem map_fm {α β : Type} {f : α → Option β} : ∀ {is : List α} {w : List β}, is.map f = w.map some → is.filterMap f = w
  | [], [], _ => rfl
  | [], _ :: _, h => by cases h
  | _ :: _, [], h => by cases h
  | a :: is, b :: w, h => by
    rw [List.map_cons, List.map_cons] at h
    obtain ⟨h1, h2⟩ := List.cons.inj h
    rw [List.filterMap_cons, h1, map_fm h2]
def zK (cA : Nat → Nat) (q6 : Nat) (a6 : Nat → Nat) (q7 : Nat) (a7 : Nat → Nat) : va_W := [(q6, .inr (6, [.ref (a6 0), .ref (a6 1), .ref (a6 2), .ref (a6 7), .ref (a6 12), .ref (a6 14), .ref (a6 23), .ref (a6 29), .int 0])), (a6 0, .inl (cA 3, 8, .inr (.inr (.inr (.inr (fun i => some (zad q6 a6 q7 a7 (42 + 2 * i)))))))), (a6 1, .inl (cA 2, 2, .inr (.inr (.inr (.inr (fun i => some (zad q6 a6 q7 a7 (27 + 5 * i)))))))), (a6 2, .inr (3, [.int 0, .ref (a6 3), .ref (a6 4), .ref (a6 5), .ref (a6 6), .int 0, .int 0, .int 0, .int 0, .int 0])), (a6 3, .inl (cA 0, 8, .inl (fun _ => 0))), (a6 4, .inl (cA 0, 8, .inl (fun _ => 0))), (a6 5, .inl (cA 0, 8, .inl (fun _ => 0))), (a6 6, .inl (cA 0, 8, .inl (fun _ => 0))), (a6 7, .inr (3, [.int 0, .ref (a6 8), .ref (a6 9), .ref (a6 10), .ref (a6 11), .int 0, .int 0, .int 0, .int 0, .int 0])), (a6 8, .inl (cA 0, 8, .inl (fun _ => 0))), (a6 9, .inl (cA 0, 8, .inl (fun _ => 0))), (a6 10, .inl (cA 0, 8, .inl (fun _ => 0))), (a6 11, .inl (cA 0, 8, .inl (fun _ => 0))), (a6 12, .inr (5, [.ref (a6 13), .int 0, .int 0, .int 0, .int 0])), (a6 13, .inl (cA 0, 90, .inl (fun _ => 0))), (a6 14, .inr (0, [.int 0, .int 0, .ref (a6 15), .ref (a6 16), .ref (a6 17), .ref (a6 18), .ref (a6 19), .ref (a6 20), .ref (a6 21), .ref (a6 22)])), (a6 15, .inl (cA 0, 192, .inl (fun _ => 0))), (a6 16, .inl (cA 0, 192, .inl (fun _ => 0))), (a6 17, .inl (cA 0, 192, .inl (fun _ => 0))), (a6 18, .inl (cA 0, 24, .inl (fun _ => 0))), (a6 19, .inl (cA 0, 24, .inl (fun _ => 0))), (a6 20, .inl (cA 0, 24, .inl (fun _ => 0))), (a6 21, .inl (cA 0, 24, .inl (fun _ => 0))), (a6 22, .inl (cA 0, 24, .inl (fun _ => 0))), (a6 23, .inr (2, [.ref (a6 24)])), (a6 24, .inr (3, [.int 0, .ref (a6 25), .ref (a6 26), .ref (a6 27), .ref (a6 28), .int 0, .int 0, .int 0, .int 0, .int 0])), (a6 25, .inl (cA 0, 8, .inl (fun _ => 0))), (a6 26, .inl (cA 0, 8, .inl (fun _ => 0))), (a6 27, .inl (cA 0, 8, .inl (fun _ => 0))), (a6 28, .inl (cA 0, 8, .inl (fun _ => 0))), (a6 29, .inr (1, [.ref (a6 30), .int 0, .int 0, .int 0, .int 0, .int 0])), (a6 30, .inl (cA 0, 16, .inl (fun _ => 0))), (a6 31, .inr (4, [.int (-1), .int 0, .ref (a6 32)])), (a6 32, .inl (cA 0, 40, .inl (fun _ => 0))), (a6 33, .inr (4, [.int (-1), .int 0, .ref (a6 34)])), (a6 34, .inl (cA 0, 40, .inl (fun _ => 0))), (a6 35, .inr (4, [.int (-1), .int 0, .ref (a6 36)])), (a6 36, .inl (cA 0, 40, .inl (fun _ => 0))), (a6 37, .inr (4, [.int (-1), .int 0, .ref (a6 38)])), (a6 38, .inl (cA 0, 40, .inl (fun _ => 0))), (a6 39, .inr (4, [.int (-1), .int 0, .ref (a6 40)])), (a6 40, .inl (cA 0, 40, .inl (fun _ => 0))), (a6 41, .inr (4, [.int (-1), .int 0, .ref (a6 42)])), (a6 42, .inl (cA 0, 40, .inl (fun _ => 0))), (a6 43, .inr (4, [.int (-1), .int 0, .ref (a6 44)])), (a6 44, .inl (cA 0, 40, .inl (fun _ => 0))), (a6 45, .inr (4, [.int (-1), .int 0, .ref (a6 46)])), (a6 46, .inl (cA 0, 40, .inl (fun _ => 0))), (a6 47, .inr (3, [.int 0, .ref (a6 48), .ref (a6 49), .ref (a6 50), .ref (a6 51), .int 0, .int 0, .int 0, .int 0, .int 0])), (a6 48, .inl (cA 0, 8, .inl (fun _ => 0))), (a6 49, .inl (cA 0, 8, .inl (fun _ => 0))), (a6 50, .inl (cA 0, 8, .inl (fun _ => 0))), (a6 51, .inl (cA 0, 8, .inl (fun _ => 0))), (a6 52, .inr (3, [.int 0, .ref (a6 53), .ref (a6 54), .ref (a6 55), .ref (a6 56), .int 0, .int 0, .int 0, .int 0, .int 0])), (a6 53, .inl (cA 0, 8, .inl (fun _ => 0))), (a6 54, .inl (cA 0, 8, .inl (fun _ => 0))), (a6 55, .inl (cA 0, 8, .inl (fun _ => 0))), (a6 56, .inl (cA 0, 8, .inl (fun _ => 0))), (q7, .inr (7, [.ref (a7 0), .ref (a7 1), .ref (a7 2), .int 0, .int 0, .ref (a7 3), .ref (a7 4), .ref (a7 5), .int 0, .int 0, .int 0, .int 0, .int 0, .int 0, .int 0, .ref (a7 6), .ref (a7 7), .int 0, .ref (a7 8), .int 0, .ref (a7 9), .ref (a7 10), .ref (a7 11), .ref (a7 12), .int 0])), (a7 0, .inl (cA 0, 8, .inl (fun _ => 0))), (a7 1, .inl (cA 0, 8, .inl (upd (upd (upd (upd (upd (upd (upd (upd (fun _ => 0) (0 : Int32).toNatClampNeg (-1)) (1 : Int32).toNatClampNeg (-1)) (2 : Int32).toNatClampNeg (-1)) (3 : Int32).toNatClampNeg (-1)) (4 : Int32).toNatClampNeg (-1)) (5 : Int32).toNatClampNeg (-1)) (6 : Int32).toNatClampNeg (-1)) (7 : Int32).toNatClampNeg (-1)))), (a7 2, .inl (cA 0, 320, .inl (fun _ => 0))), (a7 3, .inl (cA 0, 38, .inl (fun _ => 0))), (a7 4, .inl (cA 0, 40, .inl (fun _ => 0))), (a7 5, .inl (cA 0, 90, .inl (fun _ => 0))), (a7 6, .inl (cA 0, 38, .inl (fun _ => 0))), (a7 7, .inl (cA 0, 8, .inl (fun _ => 0))), (a7 8, .inl (cA 0, 912, .inl (fun _ => 0))), (a7 9, .inl (cA 0, 38, .inl (fun _ => 0))), (a7 10, .inl (cA 1, 2, .inl (fun _ => 0))), (a7 11, .inl (cA 0, 76, .inl (fun _ => 0))), (a7 12, .inl (cA 0, 16, .inl (fun _ => 0)))]
set_option maxRecDepth 100000 in
set_option maxHeartbeats 4000000 in
theorem zkK (cA : Nat → Nat) (q6 : Nat) (a6 : Nat → Nat) (q7 : Nat) (a7 : Nat → Nat) : (((WX6 cA q6 a6 ++ WX7 cA q7 a7).set 1 (a6 0, .inl (cA 3, 8, .inr (.inr (.inr (.inr (fun i => some (zad q6 a6 q7 a7 (42 + 2 * i))))))))).set 2 (a6 1, .inl (cA 2, 2, .inr (.inr (.inr (.inr (fun i => some (zad q6 a6 q7 a7 (27 + 5 * i)))))))) : va_W) = zK cA q6 a6 q7 a7 := by
  unfold WX6 WX7 WX2 WX0 WX1 WX5 WX3 WX4 zK
  simp only [List.cons_append, List.nil_append, List.append_nil, List.set_cons_zero, List.set_cons_succ, Nat.reduceAdd, Nat.add_zero]
theorem m0a {c : Nat} (h1 : c ≠ 60) (h2 : zks.getD c 99 ≠ 4) : mem0 c = fun _ => 0 := by
  unfold mem0
  rw [if_neg h1, if_neg h2]
theorem m0b {c : Nat} (h1 : c ≠ 60) (h2 : zks.getD c 99 = 4) : mem0 c = fun k => if k = 0 then -1 else 0 := by
  unfold mem0
  rw [if_neg h1, if_pos h2]
theorem m0c : mem0 60 = F60 := by
  unfold mem0
  rw [if_pos rfl]
section ZKC
variable {D : va_G} {cA t : Nat → Nat} {q6 : Nat} {a6 : Nat → Nat} {q7 : Nat} {a7 : Nat → Nat}
set_option maxRecDepth 100000 in
theorem zk_0 : (zK cA q6 a6 q7 a7)[0]? = some ((zE0 D cA t q6 a6 q7 a7).2.1 0, zent (zE0 D cA t q6 a6 q7 a7) (mem0 0) 0) := by
  rw [m0a (c := 0) (by decide) (by decide)]
  rfl
set_option maxRecDepth 100000 in
theorem zk_1 : (zK cA q6 a6 q7 a7)[1]? = some ((zE0 D cA t q6 a6 q7 a7).2.1 1, zent (zE0 D cA t q6 a6 q7 a7) (mem0 1) 1) := by
  rw [m0a (c := 1) (by decide) (by decide)]
  rfl
set_option maxRecDepth 100000 in
theorem zk_2 : (zK cA q6 a6 q7 a7)[2]? = some ((zE0 D cA t q6 a6 q7 a7).2.1 2, zent (zE0 D cA t q6 a6 q7 a7) (mem0 2) 2) := by
  rw [m0a (c := 2) (by decide) (by decide)]
  rfl
set_option maxRecDepth 100000 in
theorem zk_3 : (zK cA q6 a6 q7 a7)[13]? = some ((zE0 D cA t q6 a6 q7 a7).2.1 3, zent (zE0 D cA t q6 a6 q7 a7) (mem0 3) 3) := by
  rw [m0a (c := 3) (by decide) (by decide)]
  rfl
set_option maxRecDepth 100000 in
theorem zk_4 : (zK cA q6 a6 q7 a7)[14]? = some ((zE0 D cA t q6 a6 q7 a7).2.1 4, zent (zE0 D cA t q6 a6 q7 a7) (mem0 4) 4) := by
  rw [m0a (c := 4) (by decide) (by decide)]
  rfl
set_option maxRecDepth 100000 in
theorem zk_5 : (zK cA q6 a6 q7 a7)[15]? = some ((zE0 D cA t q6 a6 q7 a7).2.1 5, zent (zE0 D cA t q6 a6 q7 a7) (mem0 5) 5) := by
  rw [m0a (c := 5) (by decide) (by decide)]
  rfl
set_option maxRecDepth 100000 in
theorem zk_6 : (zK cA q6 a6 q7 a7)[16]? = some ((zE0 D cA t q6 a6 q7 a7).2.1 6, zent (zE0 D cA t q6 a6 q7 a7) (mem0 6) 6) := by
  rw [m0a (c := 6) (by decide) (by decide)]
  rfl
set_option maxRecDepth 100000 in
theorem zk_7 : (zK cA q6 a6 q7 a7)[17]? = some ((zE0 D cA t q6 a6 q7 a7).2.1 7, zent (zE0 D cA t q6 a6 q7 a7) (mem0 7) 7) := by
  rw [m0a (c := 7) (by decide) (by decide)]
  rfl
set_option maxRecDepth 100000 in
theorem zk_8 : (zK cA q6 a6 q7 a7)[18]? = some ((zE0 D cA t q6 a6 q7 a7).2.1 8, zent (zE0 D cA t q6 a6 q7 a7) (mem0 8) 8) := by
  rw [m0a (c := 8) (by decide) (by decide)]
  rfl
set_option maxRecDepth 100000 in
theorem zk_9 : (zK cA q6 a6 q7 a7)[19]? = some ((zE0 D cA t q6 a6 q7 a7).2.1 9, zent (zE0 D cA t q6 a6 q7 a7) (mem0 9) 9) := by
  rw [m0a (c := 9) (by decide) (by decide)]
  rfl
set_option maxRecDepth 100000 in
theorem zk_10 : (zK cA q6 a6 q7 a7)[20]? = some ((zE0 D cA t q6 a6 q7 a7).2.1 10, zent (zE0 D cA t q6 a6 q7 a7) (mem0 10) 10) := by
  rw [m0a (c := 10) (by decide) (by decide)]
  rfl
set_option maxRecDepth 100000 in
theorem zk_11 : (zK cA q6 a6 q7 a7)[21]? = some ((zE0 D cA t q6 a6 q7 a7).2.1 11, zent (zE0 D cA t q6 a6 q7 a7) (mem0 11) 11) := by
  rw [m0a (c := 11) (by decide) (by decide)]
  rfl
set_option maxRecDepth 100000 in
theorem zk_12 : (zK cA q6 a6 q7 a7)[22]? = some ((zE0 D cA t q6 a6 q7 a7).2.1 12, zent (zE0 D cA t q6 a6 q7 a7) (mem0 12) 12) := by
  rw [m0a (c := 12) (by decide) (by decide)]
  rfl
set_option maxRecDepth 100000 in
theorem zk_13 : (zK cA q6 a6 q7 a7)[23]? = some ((zE0 D cA t q6 a6 q7 a7).2.1 13, zent (zE0 D cA t q6 a6 q7 a7) (mem0 13) 13) := by
  rw [m0a (c := 13) (by decide) (by decide)]
  rfl
set_option maxRecDepth 100000 in
theorem zk_14 : (zK cA q6 a6 q7 a7)[24]? = some ((zE0 D cA t q6 a6 q7 a7).2.1 14, zent (zE0 D cA t q6 a6 q7 a7) (mem0 14) 14) := by
  rw [m0a (c := 14) (by decide) (by decide)]
  rfl
set_option maxRecDepth 100000 in
theorem zk_15 : (zK cA q6 a6 q7 a7)[30]? = some ((zE0 D cA t q6 a6 q7 a7).2.1 15, zent (zE0 D cA t q6 a6 q7 a7) (mem0 15) 15) := by
  rw [m0a (c := 15) (by decide) (by decide)]
  rfl
set_option maxRecDepth 100000 in
theorem zk_16 : (zK cA q6 a6 q7 a7)[31]? = some ((zE0 D cA t q6 a6 q7 a7).2.1 16, zent (zE0 D cA t q6 a6 q7 a7) (mem0 16) 16) := by
  rw [m0a (c := 16) (by decide) (by decide)]
  rfl
set_option maxRecDepth 100000 in
theorem zk_17 : (zK cA q6 a6 q7 a7)[3]? = some ((zE0 D cA t q6 a6 q7 a7).2.1 17, zent (zE0 D cA t q6 a6 q7 a7) (mem0 17) 17) := by
  rw [m0a (c := 17) (by decide) (by decide)]
  rfl
set_option maxRecDepth 100000 in
theorem zk_18 : (zK cA q6 a6 q7 a7)[4]? = some ((zE0 D cA t q6 a6 q7 a7).2.1 18, zent (zE0 D cA t q6 a6 q7 a7) (mem0 18) 18) := by
  rw [m0a (c := 18) (by decide) (by decide)]
  rfl
set_option maxRecDepth 100000 in
theorem zk_19 : (zK cA q6 a6 q7 a7)[5]? = some ((zE0 D cA t q6 a6 q7 a7).2.1 19, zent (zE0 D cA t q6 a6 q7 a7) (mem0 19) 19) := by
  rw [m0a (c := 19) (by decide) (by decide)]
  rfl
set_option maxRecDepth 100000 in
theorem zk_20 : (zK cA q6 a6 q7 a7)[6]? = some ((zE0 D cA t q6 a6 q7 a7).2.1 20, zent (zE0 D cA t q6 a6 q7 a7) (mem0 20) 20) := by
  rw [m0a (c := 20) (by decide) (by decide)]
  rfl
set_option maxRecDepth 100000 in
theorem zk_21 : (zK cA q6 a6 q7 a7)[7]? = some ((zE0 D cA t q6 a6 q7 a7).2.1 21, zent (zE0 D cA t q6 a6 q7 a7) (mem0 21) 21) := by
  rw [m0a (c := 21) (by decide) (by decide)]
  rfl
set_option maxRecDepth 100000 in
theorem zk_22 : (zK cA q6 a6 q7 a7)[8]? = some ((zE0 D cA t q6 a6 q7 a7).2.1 22, zent (zE0 D cA t q6 a6 q7 a7) (mem0 22) 22) := by
  rw [m0a (c := 22) (by decide) (by decide)]
  rfl
set_option maxRecDepth 100000 in
theorem zk_23 : (zK cA q6 a6 q7 a7)[9]? = some ((zE0 D cA t q6 a6 q7 a7).2.1 23, zent (zE0 D cA t q6 a6 q7 a7) (mem0 23) 23) := by
  rw [m0a (c := 23) (by decide) (by decide)]
  rfl
set_option maxRecDepth 100000 in
theorem zk_24 : (zK cA q6 a6 q7 a7)[10]? = some ((zE0 D cA t q6 a6 q7 a7).2.1 24, zent (zE0 D cA t q6 a6 q7 a7) (mem0 24) 24) := by
  rw [m0a (c := 24) (by decide) (by decide)]
  rfl
set_option maxRecDepth 100000 in
theorem zk_25 : (zK cA q6 a6 q7 a7)[11]? = some ((zE0 D cA t q6 a6 q7 a7).2.1 25, zent (zE0 D cA t q6 a6 q7 a7) (mem0 25) 25) := by
  rw [m0a (c := 25) (by decide) (by decide)]
  rfl
set_option maxRecDepth 100000 in
theorem zk_26 : (zK cA q6 a6 q7 a7)[12]? = some ((zE0 D cA t q6 a6 q7 a7).2.1 26, zent (zE0 D cA t q6 a6 q7 a7) (mem0 26) 26) := by
  rw [m0a (c := 26) (by decide) (by decide)]
  rfl
set_option maxRecDepth 100000 in
theorem zk_27 : (zK cA q6 a6 q7 a7)[48]? = some ((zE0 D cA t q6 a6 q7 a7).2.1 27, zent (zE0 D cA t q6 a6 q7 a7) (mem0 27) 27) := by
  rw [m0a (c := 27) (by decide) (by decide)]
  rfl
set_option maxRecDepth 100000 in
theorem zk_28 : (zK cA q6 a6 q7 a7)[49]? = some ((zE0 D cA t q6 a6 q7 a7).2.1 28, zent (zE0 D cA t q6 a6 q7 a7) (mem0 28) 28) := by
  rw [m0a (c := 28) (by decide) (by decide)]
  rfl
set_option maxRecDepth 100000 in
theorem zk_29 : (zK cA q6 a6 q7 a7)[50]? = some ((zE0 D cA t q6 a6 q7 a7).2.1 29, zent (zE0 D cA t q6 a6 q7 a7) (mem0 29) 29) := by
  rw [m0a (c := 29) (by decide) (by decide)]
  rfl
set_option maxRecDepth 100000 in
theorem zk_30 : (zK cA q6 a6 q7 a7)[51]? = some ((zE0 D cA t q6 a6 q7 a7).2.1 30, zent (zE0 D cA t q6 a6 q7 a7) (mem0 30) 30) := by
  rw [m0a (c := 30) (by decide) (by decide)]
  rfl
set_option maxRecDepth 100000 in
theorem zk_31 : (zK cA q6 a6 q7 a7)[52]? = some ((zE0 D cA t q6 a6 q7 a7).2.1 31, zent (zE0 D cA t q6 a6 q7 a7) (mem0 31) 31) := by
  rw [m0a (c := 31) (by decide) (by decide)]
  rfl
set_option maxRecDepth 100000 in
theorem zk_32 : (zK cA q6 a6 q7 a7)[53]? = some ((zE0 D cA t q6 a6 q7 a7).2.1 32, zent (zE0 D cA t q6 a6 q7 a7) (mem0 32) 32) := by
  rw [m0a (c := 32) (by decide) (by decide)]
  rfl
set_option maxRecDepth 100000 in
theorem zk_33 : (zK cA q6 a6 q7 a7)[54]? = some ((zE0 D cA t q6 a6 q7 a7).2.1 33, zent (zE0 D cA t q6 a6 q7 a7) (mem0 33) 33) := by
  rw [m0a (c := 33) (by decide) (by decide)]
  rfl
set_option maxRecDepth 100000 in
theorem zk_34 : (zK cA q6 a6 q7 a7)[55]? = some ((zE0 D cA t q6 a6 q7 a7).2.1 34, zent (zE0 D cA t q6 a6 q7 a7) (mem0 34) 34) := by
  rw [m0a (c := 34) (by decide) (by decide)]
  rfl
set_option maxRecDepth 100000 in
theorem zk_35 : (zK cA q6 a6 q7 a7)[56]? = some ((zE0 D cA t q6 a6 q7 a7).2.1 35, zent (zE0 D cA t q6 a6 q7 a7) (mem0 35) 35) := by
  rw [m0a (c := 35) (by decide) (by decide)]
  rfl
set_option maxRecDepth 100000 in
theorem zk_36 : (zK cA q6 a6 q7 a7)[57]? = some ((zE0 D cA t q6 a6 q7 a7).2.1 36, zent (zE0 D cA t q6 a6 q7 a7) (mem0 36) 36) := by
  rw [m0a (c := 36) (by decide) (by decide)]
  rfl
set_option maxRecDepth 100000 in
theorem zk_37 : (zK cA q6 a6 q7 a7)[25]? = some ((zE0 D cA t q6 a6 q7 a7).2.1 37, zent (zE0 D cA t q6 a6 q7 a7) (mem0 37) 37) := by
  rw [m0a (c := 37) (by decide) (by decide)]
  rfl
set_option maxRecDepth 100000 in
theorem zk_38 : (zK cA q6 a6 q7 a7)[26]? = some ((zE0 D cA t q6 a6 q7 a7).2.1 38, zent (zE0 D cA t q6 a6 q7 a7) (mem0 38) 38) := by
  rw [m0a (c := 38) (by decide) (by decide)]
  rfl
set_option maxRecDepth 100000 in
theorem zk_39 : (zK cA q6 a6 q7 a7)[27]? = some ((zE0 D cA t q6 a6 q7 a7).2.1 39, zent (zE0 D cA t q6 a6 q7 a7) (mem0 39) 39) := by
  rw [m0a (c := 39) (by decide) (by decide)]
  rfl
set_option maxRecDepth 100000 in
theorem zk_40 : (zK cA q6 a6 q7 a7)[28]? = some ((zE0 D cA t q6 a6 q7 a7).2.1 40, zent (zE0 D cA t q6 a6 q7 a7) (mem0 40) 40) := by
  rw [m0a (c := 40) (by decide) (by decide)]
  rfl
set_option maxRecDepth 100000 in
theorem zk_41 : (zK cA q6 a6 q7 a7)[29]? = some ((zE0 D cA t q6 a6 q7 a7).2.1 41, zent (zE0 D cA t q6 a6 q7 a7) (mem0 41) 41) := by
  rw [m0a (c := 41) (by decide) (by decide)]
  rfl
set_option maxRecDepth 100000 in
theorem zk_42 : (zK cA q6 a6 q7 a7)[32]? = some ((zE0 D cA t q6 a6 q7 a7).2.1 42, zent (zE0 D cA t q6 a6 q7 a7) (mem0 42) 42) := by
  rw [m0b (c := 42) (by decide) rfl]
  rfl
set_option maxRecDepth 100000 in
theorem zk_43 : (zK cA q6 a6 q7 a7)[33]? = some ((zE0 D cA t q6 a6 q7 a7).2.1 43, zent (zE0 D cA t q6 a6 q7 a7) (mem0 43) 43) := by
  rw [m0a (c := 43) (by decide) (by decide)]
  rfl
set_option maxRecDepth 100000 in
theorem zk_44 : (zK cA q6 a6 q7 a7)[34]? = some ((zE0 D cA t q6 a6 q7 a7).2.1 44, zent (zE0 D cA t q6 a6 q7 a7) (mem0 44) 44) := by
  rw [m0b (c := 44) (by decide) rfl]
  rfl
set_option maxRecDepth 100000 in
theorem zk_45 : (zK cA q6 a6 q7 a7)[35]? = some ((zE0 D cA t q6 a6 q7 a7).2.1 45, zent (zE0 D cA t q6 a6 q7 a7) (mem0 45) 45) := by
  rw [m0a (c := 45) (by decide) (by decide)]
  rfl
set_option maxRecDepth 100000 in
theorem zk_46 : (zK cA q6 a6 q7 a7)[36]? = some ((zE0 D cA t q6 a6 q7 a7).2.1 46, zent (zE0 D cA t q6 a6 q7 a7) (mem0 46) 46) := by
  rw [m0b (c := 46) (by decide) rfl]
  rfl
set_option maxRecDepth 100000 in
theorem zk_47 : (zK cA q6 a6 q7 a7)[37]? = some ((zE0 D cA t q6 a6 q7 a7).2.1 47, zent (zE0 D cA t q6 a6 q7 a7) (mem0 47) 47) := by
  rw [m0a (c := 47) (by decide) (by decide)]
  rfl
set_option maxRecDepth 100000 in
theorem zk_48 : (zK cA q6 a6 q7 a7)[38]? = some ((zE0 D cA t q6 a6 q7 a7).2.1 48, zent (zE0 D cA t q6 a6 q7 a7) (mem0 48) 48) := by
  rw [m0b (c := 48) (by decide) rfl]
  rfl
set_option maxRecDepth 100000 in
theorem zk_49 : (zK cA q6 a6 q7 a7)[39]? = some ((zE0 D cA t q6 a6 q7 a7).2.1 49, zent (zE0 D cA t q6 a6 q7 a7) (mem0 49) 49) := by
  rw [m0a (c := 49) (by decide) (by decide)]
  rfl
set_option maxRecDepth 100000 in
theorem zk_50 : (zK cA q6 a6 q7 a7)[40]? = some ((zE0 D cA t q6 a6 q7 a7).2.1 50, zent (zE0 D cA t q6 a6 q7 a7) (mem0 50) 50) := by
  rw [m0b (c := 50) (by decide) rfl]
  rfl
set_option maxRecDepth 100000 in
theorem zk_51 : (zK cA q6 a6 q7 a7)[41]? = some ((zE0 D cA t q6 a6 q7 a7).2.1 51, zent (zE0 D cA t q6 a6 q7 a7) (mem0 51) 51) := by
  rw [m0a (c := 51) (by decide) (by decide)]
  rfl
set_option maxRecDepth 100000 in
theorem zk_52 : (zK cA q6 a6 q7 a7)[42]? = some ((zE0 D cA t q6 a6 q7 a7).2.1 52, zent (zE0 D cA t q6 a6 q7 a7) (mem0 52) 52) := by
  rw [m0b (c := 52) (by decide) rfl]
  rfl
set_option maxRecDepth 100000 in
theorem zk_53 : (zK cA q6 a6 q7 a7)[43]? = some ((zE0 D cA t q6 a6 q7 a7).2.1 53, zent (zE0 D cA t q6 a6 q7 a7) (mem0 53) 53) := by
  rw [m0a (c := 53) (by decide) (by decide)]
  rfl
set_option maxRecDepth 100000 in
theorem zk_54 : (zK cA q6 a6 q7 a7)[44]? = some ((zE0 D cA t q6 a6 q7 a7).2.1 54, zent (zE0 D cA t q6 a6 q7 a7) (mem0 54) 54) := by
  rw [m0b (c := 54) (by decide) rfl]
  rfl
set_option maxRecDepth 100000 in
theorem zk_55 : (zK cA q6 a6 q7 a7)[45]? = some ((zE0 D cA t q6 a6 q7 a7).2.1 55, zent (zE0 D cA t q6 a6 q7 a7) (mem0 55) 55) := by
  rw [m0a (c := 55) (by decide) (by decide)]
  rfl
set_option maxRecDepth 100000 in
theorem zk_56 : (zK cA q6 a6 q7 a7)[46]? = some ((zE0 D cA t q6 a6 q7 a7).2.1 56, zent (zE0 D cA t q6 a6 q7 a7) (mem0 56) 56) := by
  rw [m0b (c := 56) (by decide) rfl]
  rfl
set_option maxRecDepth 100000 in
theorem zk_57 : (zK cA q6 a6 q7 a7)[47]? = some ((zE0 D cA t q6 a6 q7 a7).2.1 57, zent (zE0 D cA t q6 a6 q7 a7) (mem0 57) 57) := by
  rw [m0a (c := 57) (by decide) (by decide)]
  rfl
set_option maxRecDepth 100000 in
theorem zk_58 : (zK cA q6 a6 q7 a7)[58]? = some ((zE0 D cA t q6 a6 q7 a7).2.1 58, zent (zE0 D cA t q6 a6 q7 a7) (mem0 58) 58) := by
  rw [m0a (c := 58) (by decide) (by decide)]
  rfl
set_option maxRecDepth 100000 in
theorem zk_59 : (zK cA q6 a6 q7 a7)[59]? = some ((zE0 D cA t q6 a6 q7 a7).2.1 59, zent (zE0 D cA t q6 a6 q7 a7) (mem0 59) 59) := by
  rw [m0a (c := 59) (by decide) (by decide)]
  rfl
set_option maxRecDepth 100000 in
theorem zk_60 : (zK cA q6 a6 q7 a7)[60]? = some ((zE0 D cA t q6 a6 q7 a7).2.1 60, zent (zE0 D cA t q6 a6 q7 a7) (mem0 60) 60) := by
  rw [m0c]
  rfl
set_option maxRecDepth 100000 in
theorem zk_61 : (zK cA q6 a6 q7 a7)[61]? = some ((zE0 D cA t q6 a6 q7 a7).2.1 61, zent (zE0 D cA t q6 a6 q7 a7) (mem0 61) 61) := by
  rw [m0a (c := 61) (by decide) (by decide)]
  rfl
set_option maxRecDepth 100000 in
theorem zk_62 : (zK cA q6 a6 q7 a7)[62]? = some ((zE0 D cA t q6 a6 q7 a7).2.1 62, zent (zE0 D cA t q6 a6 q7 a7) (mem0 62) 62) := by
  rw [m0a (c := 62) (by decide) (by decide)]
  rfl
set_option maxRecDepth 100000 in
theorem zk_63 : (zK cA q6 a6 q7 a7)[63]? = some ((zE0 D cA t q6 a6 q7 a7).2.1 63, zent (zE0 D cA t q6 a6 q7 a7) (mem0 63) 63) := by
  rw [m0a (c := 63) (by decide) (by decide)]
  rfl
set_option maxRecDepth 100000 in
theorem zk_64 : (zK cA q6 a6 q7 a7)[64]? = some ((zE0 D cA t q6 a6 q7 a7).2.1 64, zent (zE0 D cA t q6 a6 q7 a7) (mem0 64) 64) := by
  rw [m0a (c := 64) (by decide) (by decide)]
  rfl
set_option maxRecDepth 100000 in
theorem zk_65 : (zK cA q6 a6 q7 a7)[65]? = some ((zE0 D cA t q6 a6 q7 a7).2.1 65, zent (zE0 D cA t q6 a6 q7 a7) (mem0 65) 65) := by
  rw [m0a (c := 65) (by decide) (by decide)]
  rfl
set_option maxRecDepth 100000 in
theorem zk_66 : (zK cA q6 a6 q7 a7)[66]? = some ((zE0 D cA t q6 a6 q7 a7).2.1 66, zent (zE0 D cA t q6 a6 q7 a7) (mem0 66) 66) := by
  rw [m0a (c := 66) (by decide) (by decide)]
  rfl
set_option maxRecDepth 100000 in
theorem zk_67 : (zK cA q6 a6 q7 a7)[67]? = some ((zE0 D cA t q6 a6 q7 a7).2.1 67, zent (zE0 D cA t q6 a6 q7 a7) (mem0 67) 67) := by
  rw [m0a (c := 67) (by decide) (by decide)]
  rfl
set_option maxRecDepth 100000 in
theorem zk_68 : (zK cA q6 a6 q7 a7)[68]? = some ((zE0 D cA t q6 a6 q7 a7).2.1 68, zent (zE0 D cA t q6 a6 q7 a7) (mem0 68) 68) := by
  rw [m0a (c := 68) (by decide) (by decide)]
  rfl
set_option maxRecDepth 100000 in
theorem zk_69 : (zK cA q6 a6 q7 a7)[69]? = some ((zE0 D cA t q6 a6 q7 a7).2.1 69, zent (zE0 D cA t q6 a6 q7 a7) (mem0 69) 69) := by
  rw [m0a (c := 69) (by decide) (by decide)]
  rfl
set_option maxRecDepth 100000 in
theorem zk_70 : (zK cA q6 a6 q7 a7)[70]? = some ((zE0 D cA t q6 a6 q7 a7).2.1 70, zent (zE0 D cA t q6 a6 q7 a7) (mem0 70) 70) := by
  rw [m0a (c := 70) (by decide) (by decide)]
  rfl
set_option maxRecDepth 100000 in
theorem zk_71 : (zK cA q6 a6 q7 a7)[71]? = some ((zE0 D cA t q6 a6 q7 a7).2.1 71, zent (zE0 D cA t q6 a6 q7 a7) (mem0 71) 71) := by
  rw [m0a (c := 71) (by decide) (by decide)]
  rfl
theorem zk_all : ∀ c, c < 72 → (zK cA q6 a6 q7 a7)[zpl.getD c 0]? = some ((zE0 D cA t q6 a6 q7 a7).2.1 c, zent (zE0 D cA t q6 a6 q7 a7) (mem0 c) c) := by
  intro c hc
  match c, hc with
  | 0, _ => exact zk_0
  | 1, _ => exact zk_1
  | 2, _ => exact zk_2
  | 3, _ => exact zk_3
  | 4, _ => exact zk_4
  | 5, _ => exact zk_5
  | 6, _ => exact zk_6
  | 7, _ => exact zk_7
  | 8, _ => exact zk_8
  | 9, _ => exact zk_9
  | 10, _ => exact zk_10
  | 11, _ => exact zk_11
  | 12, _ => exact zk_12
  | 13, _ => exact zk_13
  | 14, _ => exact zk_14
  | 15, _ => exact zk_15
  | 16, _ => exact zk_16
  | 17, _ => exact zk_17
  | 18, _ => exact zk_18
  | 19, _ => exact zk_19
  | 20, _ => exact zk_20
  | 21, _ => exact zk_21
  | 22, _ => exact zk_22
  | 23, _ => exact zk_23
  | 24, _ => exact zk_24
  | 25, _ => exact zk_25
  | 26, _ => exact zk_26
  | 27, _ => exact zk_27
  | 28, _ => exact zk_28
  | 29, _ => exact zk_29
  | 30, _ => exact zk_30
  | 31, _ => exact zk_31
  | 32, _ => exact zk_32
  | 33, _ => exact zk_33
  | 34, _ => exact zk_34
  | 35, _ => exact zk_35
  | 36, _ => exact zk_36
  | 37, _ => exact zk_37
  | 38, _ => exact zk_38
  | 39, _ => exact zk_39
  | 40, _ => exact zk_40
  | 41, _ => exact zk_41
  | 42, _ => exact zk_42
  | 43, _ => exact zk_43
  | 44, _ => exact zk_44
  | 45, _ => exact zk_45
  | 46, _ => exact zk_46
  | 47, _ => exact zk_47
  | 48, _ => exact zk_48
  | 49, _ => exact zk_49
  | 50, _ => exact zk_50
  | 51, _ => exact zk_51
  | 52, _ => exact zk_52
  | 53, _ => exact zk_53
  | 54, _ => exact zk_54
  | 55, _ => exact zk_55
  | 56, _ => exact zk_56
  | 57, _ => exact zk_57
  | 58, _ => exact zk_58
  | 59, _ => exact zk_59
  | 60, _ => exact zk_60
  | 61, _ => exact zk_61
  | 62, _ => exact zk_62
  | 63, _ => exact zk_63
  | 64, _ => exact zk_64
  | 65, _ => exact zk_65
  | 66, _ => exact zk_66
  | 67, _ => exact zk_67
  | 68, _ => exact zk_68
  | 69, _ => exact zk_69
  | 70, _ => exact zk_70
  | 71, _ => exact zk_71
  | n + 72, h => exact absurd h (by omega)
end ZKC
theorem zpl_at : ∀ c, c < 72 → zpl[c]? = some (zpl.getD c 0) := by decide +kernel
theorem z_map (D : va_G) (cA t : Nat → Nat) (q6 : Nat) (a6 : Nat → Nat) (q7 : Nat) (a7 : Nat → Nat) : zpl.map (fun i => (zK cA q6 a6 q7 a7)[i]?) = (zws (zE0 D cA t q6 a6 q7 a7) mem0).map some := by
  apply List.ext_getElem?
  intro c
  by_cases hc : c < 72
  · rw [List.getElem?_map, List.getElem?_map, zws_get hc, zpl_at c hc]
    show some ((zK cA q6 a6 q7 a7)[zpl.getD c 0]?) = _
    rw [zk_all (D := D) (t := t) c hc]
    rfl
  · rw [List.getElem?_eq_none (by rw [List.length_map]; show 72 ≤ c; omega), List.getElem?_eq_none (by unfold zws; rw [List.length_map, List.length_map, List.length_range]; show 72 ≤ c; omega)]
