/-! the cells as the two constructors leave them -/
def zad (q6 : Nat) (a6 : Nat → Nat) (q7 : Nat) (a7 : Nat → Nat) : Nat → Nat := fun c => ([q6, a6 0, a6 1, a6 12, a6 13, a6 14, a6 15, a6 16, a6 17, a6 18, a6 19, a6 20, a6 21, a6 22, a6 23, a6 29, a6 30, a6 2, a6 3, a6 4, a6 5, a6 6, a6 7, a6 8, a6 9, a6 10, a6 11, a6 47, a6 48, a6 49, a6 50, a6 51, a6 52, a6 53, a6 54, a6 55, a6 56, a6 24, a6 25, a6 26, a6 27, a6 28, a6 31, a6 32, a6 33, a6 34, a6 35, a6 36, a6 37, a6 38, a6 39, a6 40, a6 41, a6 42, a6 43, a6 44, a6 45, a6 46, q7, a7 0, a7 1, a7 2, a7 3, a7 4, a7 5, a7 6, a7 7, a7 8, a7 9, a7 10, a7 11, a7 12] : List Nat).getD c 0
def zE0 (D : va_G) (cA t : Nat → Nat) (q6 : Nat) (a6 : Nat → Nat) (q7 : Nat) (a7 : Nat → Nat) : ZE := (D, zad q6 a6 q7 a7, fun k => if k < 4 then cA k else t k)
def zpl : List Nat := [0, 1, 2, 13, 14, 15, 16, 17, 18, 19, 20, 21, 22, 23, 24, 30, 31, 3, 4, 5, 6, 7, 8, 9, 10, 11, 12, 48, 49, 50, 51, 52, 53, 54, 55, 56, 57, 25, 26, 27, 28, 29, 32, 33, 34, 35, 36, 37, 38, 39, 40, 41, 42, 43, 44, 45, 46, 47, 58, 59, 60, 61, 62, 63, 64, 65, 66, 67, 68, 69, 70, 71]
theorem map_fm {α β : Type} {f : α → Option β} : ∀ {is : List α} {w : List β}, is.map f = w.map some → is.filterMap f = w
  | [], [], _ => rfl
  | [], _ :: _, h => by cases h
  | _ :: _, [], h => by cases h
  | a :: is, b :: w, h => by
    rw [List.map_cons, List.map_cons] at h
    obtain ⟨h1, h2⟩ := List.cons.inj h
    rw [List.filterMap_cons, h1, map_fm h2]
set_option maxRecDepth 100000 in
set_option maxHeartbeats 4000000 in
theorem z_map (D : va_G) (cA t : Nat → Nat) (q6 : Nat) (a6 : Nat → Nat) (q7 : Nat) (a7 : Nat → Nat) : zpl.map (fun i => (((WX6 cA q6 a6 ++ WX7 cA q7 a7).set 1 (a6 0, .inl (cA 3, 8, .inr (.inr (.inr (.inr (fun i => some (zad q6 a6 q7 a7 (42 + 2 * i))))))))).set 2 (a6 1, .inl (cA 2, 2, .inr (.inr (.inr (.inr (fun i => some (zad q6 a6 q7 a7 (27 + 5 * i)))))))))[i]?) = (zws (zE0 D cA t q6 a6 q7 a7) mem0).map some := by
  rfl
