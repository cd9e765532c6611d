/-! what the start gives -/
theorem st_w {s : State} {av : Array Value} (hts : ∀ w ∈ lw_tbl, w.before av s = true) : ∀ w ∈ wsL_law, w.before av s = true := fun w hw => hts w (wsL_law_in w hw)
theorem st_nw {s : State} {av : Array Value} (hts : ∀ w ∈ lw_tbl, w.before av s = true) : zNW s := ⟨va_Nw.of rfl (hts (.methodLinkNest RX6 21 yX3_init "BonfireHeaps") (List.mem_append_right _ (List.mem_of_getElem? (i := 30) (by decide +kernel)))), va_Nw.of rfl (hts (.methodLinkNest RX6 31 yX5_init "BonfireHeaps") (List.mem_append_right _ (List.mem_of_getElem? (i := 98) (by decide +kernel)))), va_Nw.of rfl (hts (.methodLinkNest RX6 38 yX0_init "BonfireHeaps") (List.mem_append_right _ (List.mem_of_getElem? (i := 123) (by decide +kernel)))), va_Nw.of rfl (hts (.methodLinkNest RX6 45 yX2_init "BonfireHeaps") (List.mem_append_right _ (List.mem_of_getElem? (i := 161) (by decide +kernel)))), va_Nw.of rfl (hts (.methodLinkNest RX6 52 yX1_init "BonfireHeaps") (List.mem_append_right _ (List.mem_of_getElem? (i := 173) (by decide +kernel)))), va_Nw.of rfl (hts (.methodLinkNest RX6 61 yX4_init "BonfireHeaps") (List.mem_append_right _ (List.mem_of_getElem? (i := 199) (by decide +kernel)))), va_Nw.of rfl (hts (.methodLinkNest RX2 11 yX3_init "BonfireHeaps") (List.mem_append_right _ (List.mem_of_getElem? (i := 166) (by decide +kernel)))), va_AO.of (hts (.arrayOver (.object "BonfireHeaps$Heap")) (List.mem_append_right _ (List.mem_of_getElem? (i := 28) (by decide +kernel)))), va_AO.of (hts (.arrayOver (.object "BonfireHeaps$Row")) (List.mem_append_right _ (List.mem_of_getElem? (i := 26) (by decide +kernel))))⟩
theorem st_K {s : State} {av : Array Value} (hts : ∀ w ∈ lw_tbl, w.before av s = true) : ∃ (D : va_G) (cA : Nat → ClassId), va_K D vwCl (zty cA) s := by
  have htL := st_w hts
  obtain ⟨c0, i0, k0⟩ := u_known (C := RX0) (T := TX0) (N := 10) (n := 10) htL inlX0 (htL _ zw25)
  obtain ⟨c1, i1, k1⟩ := u_known (C := RX1) (T := TX1) (N := 6) (n := 6) htL inlX1 (htL _ zw33)
  obtain ⟨c2, i2, k2⟩ := u_known (C := RX2) (T := TX2) (N := 1) (n := 1) htL inlX2 (htL _ zw29)
  obtain ⟨c3, i3, k3⟩ := u_known (C := RX3) (T := TX3) (N := 10) (n := 10) htL inlX3 (htL _ zw16)
  obtain ⟨c4, i4, k4⟩ := u_known (C := RX4) (T := TX4) (N := 3) (n := 3) htL inlX4 (htL _ zw37)
  obtain ⟨c5, i5, k5⟩ := u_known (C := RX5) (T := TX5) (N := 5) (n := 5) htL inlX5 (htL _ zw21)
  obtain ⟨c6, i6, k6⟩ := u_known (C := RX6) (T := TX6) (N := 9) (n := 9) htL inlX6 (htL _ zw1)
  obtain ⟨c7, i7, k7⟩ := u_known (C := RX7) (T := TX7) (N := 25) (n := 25) htL inlX7 (htL _ zw4)
  obtain ⟨a0, ka0, p0, f0, g0, h0⟩ := Cond.arrayClass_spec (hts (.arrayClass .int) (List.mem_append_right _ (List.mem_of_getElem? (i := 95) (by decide +kernel))))
  obtain ⟨a1, ka1, p1, f1, g1, h1⟩ := Cond.arrayClass_spec (hts (.arrayClass .boolean) (List.mem_append_right _ (List.mem_of_getElem? (i := 937) (by decide +kernel))))
  obtain ⟨p2, a2, ka2, f2, -, g2, h2, e2⟩ := Cond.arrayOver_spec (hts (.arrayOver (.object "BonfireHeaps$Heap")) (List.mem_append_right _ (List.mem_of_getElem? (i := 28) (by decide +kernel))))
  obtain ⟨p3, a3, ka3, f3, -, g3, h3, e3⟩ := Cond.arrayOver_spec (hts (.arrayOver (.object "BonfireHeaps$Row")) (List.mem_append_right _ (List.mem_of_getElem? (i := 26) (by decide +kernel))))
  refine ⟨(fun k => [c0, c1, c2, c3, c4, c5, c6, c7].getD k c0, fun k => [i0, i1, i2, i3, i4, i5, i6, i7].getD k i0), fun k => [a0, a1, a2, a3].getD k a0, fun k q hq => ?_, fun k q hq => ?_⟩
  · match k, hq with
    | 0, hq => cases hq; exact k0
    | 1, hq => cases hq; exact k1
    | 2, hq => cases hq; exact k2
    | 3, hq => cases hq; exact k3
    | 4, hq => cases hq; exact k4
    | 5, hq => cases hq; exact k5
    | 6, hq => cases hq; exact k6
    | 7, hq => cases hq; exact k7
    | k + 8, hq => simp [vwCl] at hq
  · match k, hq with
    | 0, hq => cases hq; exact ⟨fun n z => ⟨fun k h => (by cases h), ka0, g0, p0, h0⟩, f0⟩
    | 1, hq => cases hq; exact ⟨fun n z => ⟨fun k h => (by cases h), ka1, g1, p1, h1⟩, f1⟩
    | 2, hq => cases hq; exact ⟨fun n z => ⟨fun k h => (by cases h), ka2, g2, p2, h2⟩, ka2, p2, g2, h2, f2, e2⟩
    | 3, hq => cases hq; exact ⟨fun n z => ⟨fun k h => (by cases h), ka3, g3, p3, h3⟩, ka3, p3, g3, h3, f3, e3⟩
    | k + 4, hq => simp [zty] at hq
theorem st_t0 {s : State} {av : Array Value} {A : Nat → Prop} (hts : ∀ w ∈ lw_tbl, w.before av s = true) (hgv : (Jvm.Cond.and given_1 narrow_1).before av s = true) (hA : ∀ a : Nat, a < s.heap.size → ¬ A a) : ∃ t : Nat, va_Z "BonfireHeaps" "PARENTS" "[I" (.ref t) A s s.heap ∧ va_T .int t 6 (fun j => .int (zt0.getD j 0)) A s s.heap := by
  have hs := flat_of_before _ hgv
  have h0 : (Cond.arrayOf (.static "BonfireHeaps" "PARENTS" "[I") .int).before av s = true := hs _ (by decide +kernel)
  have h1 : (Cond.eq (.length (.static "BonfireHeaps" "PARENTS" "[I")) (.int 6)).before av s = true := hs _ (by decide +kernel)
  have e0 : (Cond.eq (.elem (.static "BonfireHeaps" "PARENTS" "[I") (.int 0)) (.int (-1))).before av s = true := hs _ (by decide +kernel)
  have e1 : (Cond.eq (.elem (.static "BonfireHeaps" "PARENTS" "[I") (.int 1)) (.int (0))).before av s = true := hs _ (by decide +kernel)
  have e2 : (Cond.eq (.elem (.static "BonfireHeaps" "PARENTS" "[I") (.int 2)) (.int (1))).before av s = true := hs _ (by decide +kernel)
  have e3 : (Cond.eq (.elem (.static "BonfireHeaps" "PARENTS" "[I") (.int 3)) (.int (1))).before av s = true := hs _ (by decide +kernel)
  have e4 : (Cond.eq (.elem (.static "BonfireHeaps" "PARENTS" "[I") (.int 4)) (.int (0))).before av s = true := hs _ (by decide +kernel)
  have e5 : (Cond.eq (.elem (.static "BonfireHeaps" "PARENTS" "[I") (.int 5)) (.int (4))).before av s = true := hs _ (by decide +kernel)
  obtain ⟨t, ht, hT⟩ := va_Tof (f := fun j => .int (zt0.getD j 0)) (A := A) (N := 6) (by decide) h0 (va_eqt h1) (fun j hj => by
    rcases (show j = 0 ∨ j = 1 ∨ j = 2 ∨ j = 3 ∨ j = 4 ∨ j = 5 by omega) with rfl | rfl | rfl | rfl | rfl | rfl
    · exact va_eqt e0
    · exact va_eqt e1
    · exact va_eqt e2
    · exact va_eqt e3
    · exact va_eqt e4
    · exact va_eqt e5
    ) hA
  exact ⟨t, va_Zof (hts (.laysStatic "BonfireHeaps" "PARENTS" "[I") (List.mem_append_right _ (List.mem_of_getElem? (i := 713) (by decide +kernel)))) (hts (.initialized "BonfireHeaps") (List.mem_append_right _ (List.mem_of_getElem? (i := 1) (by decide +kernel)))) ht hA, hT⟩
theorem st_t1 {s : State} {av : Array Value} {A : Nat → Prop} (hts : ∀ w ∈ lw_tbl, w.before av s = true) (hgv : (Jvm.Cond.and given_1 narrow_1).before av s = true) (hA : ∀ a : Nat, a < s.heap.size → ¬ A a) : ∃ t : Nat, va_Z "BonfireHeaps" "STUFF_AN_HOUR" "[I" (.ref t) A s s.heap ∧ va_T .int t 6 (fun j => .int (zt1.getD j 0)) A s s.heap := by
  have hs := flat_of_before _ hgv
  have h0 : (Cond.arrayOf (.static "BonfireHeaps" "STUFF_AN_HOUR" "[I") .int).before av s = true := hs _ (by decide +kernel)
  have h1 : (Cond.eq (.length (.static "BonfireHeaps" "STUFF_AN_HOUR" "[I")) (.int 6)).before av s = true := hs _ (by decide +kernel)
  have e0 : (Cond.eq (.elem (.static "BonfireHeaps" "STUFF_AN_HOUR" "[I") (.int 0)) (.int (0))).before av s = true := hs _ (by decide +kernel)
  have e1 : (Cond.eq (.elem (.static "BonfireHeaps" "STUFF_AN_HOUR" "[I") (.int 1)) (.int (2))).before av s = true := hs _ (by decide +kernel)
  have e2 : (Cond.eq (.elem (.static "BonfireHeaps" "STUFF_AN_HOUR" "[I") (.int 2)) (.int (1))).before av s = true := hs _ (by decide +kernel)
  have e3 : (Cond.eq (.elem (.static "BonfireHeaps" "STUFF_AN_HOUR" "[I") (.int 3)) (.int (4))).before av s = true := hs _ (by decide +kernel)
  have e4 : (Cond.eq (.elem (.static "BonfireHeaps" "STUFF_AN_HOUR" "[I") (.int 4)) (.int (0))).before av s = true := hs _ (by decide +kernel)
  have e5 : (Cond.eq (.elem (.static "BonfireHeaps" "STUFF_AN_HOUR" "[I") (.int 5)) (.int (0))).before av s = true := hs _ (by decide +kernel)
  obtain ⟨t, ht, hT⟩ := va_Tof (f := fun j => .int (zt1.getD j 0)) (A := A) (N := 6) (by decide) h0 (va_eqt h1) (fun j hj => by
    rcases (show j = 0 ∨ j = 1 ∨ j = 2 ∨ j = 3 ∨ j = 4 ∨ j = 5 by omega) with rfl | rfl | rfl | rfl | rfl | rfl
    · exact va_eqt e0
    · exact va_eqt e1
    · exact va_eqt e2
    · exact va_eqt e3
    · exact va_eqt e4
    · exact va_eqt e5
    ) hA
  exact ⟨t, va_Zof (hts (.laysStatic "BonfireHeaps" "STUFF_AN_HOUR" "[I") (List.mem_append_right _ (List.mem_of_getElem? (i := 497) (by decide +kernel)))) (hts (.initialized "BonfireHeaps") (List.mem_append_right _ (List.mem_of_getElem? (i := 1) (by decide +kernel)))) ht hA, hT⟩
theorem st_t2 {s : State} {av : Array Value} {A : Nat → Prop} (hts : ∀ w ∈ lw_tbl, w.before av s = true) (hgv : (Jvm.Cond.and given_1 narrow_1).before av s = true) (hA : ∀ a : Nat, a < s.heap.size → ¬ A a) : ∃ t : Nat, va_Z "BonfireHeaps" "SMOKE_AN_HOUR" "[I" (.ref t) A s s.heap ∧ va_T .int t 6 (fun j => .int (zt2.getD j 0)) A s s.heap := by
  have hs := flat_of_before _ hgv
  have h0 : (Cond.arrayOf (.static "BonfireHeaps" "SMOKE_AN_HOUR" "[I") .int).before av s = true := hs _ (by decide +kernel)
  have h1 : (Cond.eq (.length (.static "BonfireHeaps" "SMOKE_AN_HOUR" "[I")) (.int 6)).before av s = true := hs _ (by decide +kernel)
  have e0 : (Cond.eq (.elem (.static "BonfireHeaps" "SMOKE_AN_HOUR" "[I") (.int 0)) (.int (0))).before av s = true := hs _ (by decide +kernel)
  have e1 : (Cond.eq (.elem (.static "BonfireHeaps" "SMOKE_AN_HOUR" "[I") (.int 1)) (.int (1))).before av s = true := hs _ (by decide +kernel)
  have e2 : (Cond.eq (.elem (.static "BonfireHeaps" "SMOKE_AN_HOUR" "[I") (.int 2)) (.int (3))).before av s = true := hs _ (by decide +kernel)
  have e3 : (Cond.eq (.elem (.static "BonfireHeaps" "SMOKE_AN_HOUR" "[I") (.int 3)) (.int (0))).before av s = true := hs _ (by decide +kernel)
  have e4 : (Cond.eq (.elem (.static "BonfireHeaps" "SMOKE_AN_HOUR" "[I") (.int 4)) (.int (0))).before av s = true := hs _ (by decide +kernel)
  have e5 : (Cond.eq (.elem (.static "BonfireHeaps" "SMOKE_AN_HOUR" "[I") (.int 5)) (.int (0))).before av s = true := hs _ (by decide +kernel)
  obtain ⟨t, ht, hT⟩ := va_Tof (f := fun j => .int (zt2.getD j 0)) (A := A) (N := 6) (by decide) h0 (va_eqt h1) (fun j hj => by
    rcases (show j = 0 ∨ j = 1 ∨ j = 2 ∨ j = 3 ∨ j = 4 ∨ j = 5 by omega) with rfl | rfl | rfl | rfl | rfl | rfl
    · exact va_eqt e0
    · exact va_eqt e1
    · exact va_eqt e2
    · exact va_eqt e3
    · exact va_eqt e4
    · exact va_eqt e5
    ) hA
  exact ⟨t, va_Zof (hts (.laysStatic "BonfireHeaps" "SMOKE_AN_HOUR" "[I") (List.mem_append_right _ (List.mem_of_getElem? (i := 501) (by decide +kernel)))) (hts (.initialized "BonfireHeaps") (List.mem_append_right _ (List.mem_of_getElem? (i := 1) (by decide +kernel)))) ht hA, hT⟩
theorem st_t3 {s : State} {av : Array Value} {A : Nat → Prop} (hts : ∀ w ∈ lw_tbl, w.before av s = true) (hgv : (Jvm.Cond.and given_1 narrow_1).before av s = true) (hA : ∀ a : Nat, a < s.heap.size → ¬ A a) : ∃ t : Nat, va_Z "BonfireHeaps$Foretold" "LEAST_FIT" "[I" (.ref t) A s s.heap ∧ va_T .int t 4 (fun j => .int (zt3.getD j 0)) A s s.heap := by
  have hs := flat_of_before _ hgv
  have h0 : (Cond.arrayOf (.static "BonfireHeaps$Foretold" "LEAST_FIT" "[I") .int).before av s = true := hs _ (by decide +kernel)
  have h1 : (Cond.eq (.length (.static "BonfireHeaps$Foretold" "LEAST_FIT" "[I")) (.int 4)).before av s = true := hs _ (by decide +kernel)
  have e0 : (Cond.eq (.elem (.static "BonfireHeaps$Foretold" "LEAST_FIT" "[I") (.int 0)) (.int (1))).before av s = true := hs _ (by decide +kernel)
  have e1 : (Cond.eq (.elem (.static "BonfireHeaps$Foretold" "LEAST_FIT" "[I") (.int 1)) (.int (0))).before av s = true := hs _ (by decide +kernel)
  have e2 : (Cond.eq (.elem (.static "BonfireHeaps$Foretold" "LEAST_FIT" "[I") (.int 2)) (.int (1))).before av s = true := hs _ (by decide +kernel)
  have e3 : (Cond.eq (.elem (.static "BonfireHeaps$Foretold" "LEAST_FIT" "[I") (.int 3)) (.int (0))).before av s = true := hs _ (by decide +kernel)
  obtain ⟨t, ht, hT⟩ := va_Tof (f := fun j => .int (zt3.getD j 0)) (A := A) (N := 4) (by decide) h0 (va_eqt h1) (fun j hj => by
    rcases (show j = 0 ∨ j = 1 ∨ j = 2 ∨ j = 3 by omega) with rfl | rfl | rfl | rfl
    · exact va_eqt e0
    · exact va_eqt e1
    · exact va_eqt e2
    · exact va_eqt e3
    ) hA
  exact ⟨t, va_Zof (hts (.laysStatic "BonfireHeaps$Foretold" "LEAST_FIT" "[I") (List.mem_append_right _ (List.mem_of_getElem? (i := 702) (by decide +kernel)))) (hts (.initialized "BonfireHeaps$Foretold") (List.mem_append_right _ (List.mem_of_getElem? (i := 5) (by decide +kernel)))) ht hA, hT⟩
theorem st_t4 {s : State} {av : Array Value} {A : Nat → Prop} (hts : ∀ w ∈ lw_tbl, w.before av s = true) (hgv : (Jvm.Cond.and given_1 narrow_1).before av s = true) (hA : ∀ a : Nat, a < s.heap.size → ¬ A a) : ∃ t : Nat, va_Z "BonfireHeaps$Foretold" "MOST_FIT" "[I" (.ref t) A s s.heap ∧ va_T .int t 4 (fun j => .int (zt4.getD j 0)) A s s.heap := by
  have hs := flat_of_before _ hgv
  have h0 : (Cond.arrayOf (.static "BonfireHeaps$Foretold" "MOST_FIT" "[I") .int).before av s = true := hs _ (by decide +kernel)
  have h1 : (Cond.eq (.length (.static "BonfireHeaps$Foretold" "MOST_FIT" "[I")) (.int 4)).before av s = true := hs _ (by decide +kernel)
  have e0 : (Cond.eq (.elem (.static "BonfireHeaps$Foretold" "MOST_FIT" "[I") (.int 0)) (.int (5))).before av s = true := hs _ (by decide +kernel)
  have e1 : (Cond.eq (.elem (.static "BonfireHeaps$Foretold" "MOST_FIT" "[I") (.int 1)) (.int (20))).before av s = true := hs _ (by decide +kernel)
  have e2 : (Cond.eq (.elem (.static "BonfireHeaps$Foretold" "MOST_FIT" "[I") (.int 2)) (.int (30))).before av s = true := hs _ (by decide +kernel)
  have e3 : (Cond.eq (.elem (.static "BonfireHeaps$Foretold" "MOST_FIT" "[I") (.int 3)) (.int (1))).before av s = true := hs _ (by decide +kernel)
  obtain ⟨t, ht, hT⟩ := va_Tof (f := fun j => .int (zt4.getD j 0)) (A := A) (N := 4) (by decide) h0 (va_eqt h1) (fun j hj => by
    rcases (show j = 0 ∨ j = 1 ∨ j = 2 ∨ j = 3 by omega) with rfl | rfl | rfl | rfl
    · exact va_eqt e0
    · exact va_eqt e1
    · exact va_eqt e2
    · exact va_eqt e3
    ) hA
  exact ⟨t, va_Zof (hts (.laysStatic "BonfireHeaps$Foretold" "MOST_FIT" "[I") (List.mem_append_right _ (List.mem_of_getElem? (i := 704) (by decide +kernel)))) (hts (.initialized "BonfireHeaps$Foretold") (List.mem_append_right _ (List.mem_of_getElem? (i := 5) (by decide +kernel)))) ht hA, hT⟩
theorem st_s {s : State} {av : Array Value} {A : Nat → Prop} (hts : ∀ w ∈ lw_tbl, w.before av s = true) (hgv : (Jvm.Cond.and given_1 narrow_1).before av s = true) (hA : ∀ a : Nat, a < s.heap.size → ¬ A a) : ∃ t u : Nat, vk_R "BonfireHeaps$Tape" 46 "sgldi" t s ∧ vk_S 1 [5] [[115, 103, 108, 100, 105]] (fun _ => t) (fun _ => u) A s s.heap ∧ va_Z "java/lang/String" "COMPACT_STRINGS" "Z" (.int 1) A s s.heap := by
  have hs := flat_of_before _ hgv
  have h0 : (Cond.exactly (.string "BonfireHeaps$Tape" 46) "java/lang/String").before av s = true := hs _ (by decide +kernel)
  have h1 : (Cond.eq (.field (.string "BonfireHeaps$Tape" 46) "java/lang/String" "coder" "B") (.int 0)).before av s = true := hs _ (by decide +kernel)
  have h2 : (Cond.arrayOf (.field (.string "BonfireHeaps$Tape" 46) "java/lang/String" "value" "[B") .byte).before av s = true := hs _ (by decide +kernel)
  have h3 : (Cond.eq (.length (.field (.string "BonfireHeaps$Tape" 46) "java/lang/String" "value" "[B")) (.int 5)).before av s = true := hs _ (by decide +kernel)
  have e0 : (Cond.eq (.elem (.field (.string "BonfireHeaps$Tape" 46) "java/lang/String" "value" "[B") (.int 0)) (.int 115)).before av s = true := hs _ (by decide +kernel)
  have e1 : (Cond.eq (.elem (.field (.string "BonfireHeaps$Tape" 46) "java/lang/String" "value" "[B") (.int 1)) (.int 103)).before av s = true := hs _ (by decide +kernel)
  have e2 : (Cond.eq (.elem (.field (.string "BonfireHeaps$Tape" 46) "java/lang/String" "value" "[B") (.int 2)) (.int 108)).before av s = true := hs _ (by decide +kernel)
  have e3 : (Cond.eq (.elem (.field (.string "BonfireHeaps$Tape" 46) "java/lang/String" "value" "[B") (.int 3)) (.int 100)).before av s = true := hs _ (by decide +kernel)
  have e4 : (Cond.eq (.elem (.field (.string "BonfireHeaps$Tape" 46) "java/lang/String" "value" "[B") (.int 4)) (.int 105)).before av s = true := hs _ (by decide +kernel)
  have h4 : (Cond.eq (.static "java/lang/String" "COMPACT_STRINGS" "Z") (.int 1)).before av s = true := hs _ (by decide +kernel)
  obtain ⟨adK, adV, hS, hE⟩ := vk_Sof (N := 1) (tm := fun _ => .string "BonfireHeaps$Tape" 46) (len := [5]) (byt := [[115, 103, 108, 100, 105]]) (A := A) (fun i hi => by rcases (show i = 0 by omega) with rfl; decide) (fun _ _ => h0) (fun _ _ => h1) (fun _ _ => h2) (fun i hi => by rcases (show i = 0 by omega) with rfl; exact h3) (fun i hi j hj => by
    rcases (show i = 0 by omega) with rfl
    have hj' : j < 5 := hj
    rcases (show j = 0 ∨ j = 1 ∨ j = 2 ∨ j = 3 ∨ j = 4 by omega) with rfl | rfl | rfl | rfl | rfl
    · exact e0
    · exact e1
    · exact e2
    · exact e3
    · exact e4) (fun i j hi hj hne => by omega) hA
  refine ⟨adK 0, adV 0, vk_R.of (hts (.stringRef "BonfireHeaps$Tape" 46 "sgldi") (List.mem_append_right _ (List.mem_of_getElem? (i := 338) (by decide +kernel)))) (hE 0 (by decide)), ⟨fun i hi => ?_, fun i j hi hj _ => by omega⟩, va_Zof (hts (.laysStatic "java/lang/String" "COMPACT_STRINGS" "Z") (List.mem_append_right _ (List.mem_of_getElem? (i := 352) (by decide +kernel)))) (hts (.initialized "java/lang/String") (List.mem_append_right _ (List.mem_of_getElem? (i := 10) (by decide +kernel)))) (va_eqt h4) hA⟩
  rcases (show i = 0 by omega) with rfl
  exact hS.1 0 (by decide)
/-- constants: their addresses -/
theorem st_ro {s : State} {av : Array Value} (hts : ∀ w ∈ lw_tbl, w.before av s = true) (hgv : (Jvm.Cond.and given_1 narrow_1).before av s = true) : ∃ t : Nat → Nat, ∀ (E : ZE), (∀ k, 10 ≤ k → E.2.2 k = t k) → (∀ q, zA E q → s.heap.size ≤ q) → zRO E s s.heap := by
  have hA : ∀ a : Nat, a < s.heap.size → ¬ (fun q : Nat => s.heap.size ≤ q) a := fun a h => Nat.not_le.mpr h
  obtain ⟨t0, z0, y0⟩ := st_t0 hts hgv hA
  obtain ⟨t1, z1, y1⟩ := st_t1 hts hgv hA
  obtain ⟨t2, z2, y2⟩ := st_t2 hts hgv hA
  obtain ⟨t3, z3, y3⟩ := st_t3 hts hgv hA
  obtain ⟨t4, z4, y4⟩ := st_t4 hts hgv hA
  obtain ⟨t5, t6, r5, s5, z5⟩ := st_s hts hgv hA
  refine ⟨fun k => [t0, t1, t2, t3, t4, t5, t6].getD (k - 10) 0, fun E he hz => ?_⟩
  unfold zRO
  rw [he 10 (by decide), he 11 (by decide), he 12 (by decide), he 13 (by decide), he 14 (by decide), he 15 (by decide), he 16 (by decide)]
  exact ⟨⟨z0.narrow hz, y0.narrow hz⟩, ⟨z1.narrow hz, y1.narrow hz⟩, ⟨z2.narrow hz, y2.narrow hz⟩, ⟨z3.narrow hz, y3.narrow hz⟩, ⟨z4.narrow hz, y4.narrow hz⟩, ⟨r5, s5.narrow hz, z5.narrow hz⟩,
    ⟨va_Nw.of rfl (hts (.methodLinkNest "BonfireHeaps$Tape" 64 ⟨"BonfireHeaps", "isWithin", "(III)Z"⟩ "BonfireHeaps") (List.mem_append_right _ (List.mem_of_getElem? (i := 329) (by decide +kernel)))), va_Nw.of rfl (hts (.methodLinkNest "BonfireHeaps$Foretold" 143 ⟨"BonfireHeaps", "isOfKind", "(II)Z"⟩ "BonfireHeaps") (List.mem_append_right _ (List.mem_of_getElem? (i := 709) (by decide +kernel))))⟩,
    ⟨va_Nw.of rfl (hts (.fieldLinkNest "BonfireHeaps$Heap" 49 "BonfireHeaps" "STUFF_AN_HOUR" "[I" "BonfireHeaps") (List.mem_append_right _ (List.mem_of_getElem? (i := 496) (by decide +kernel)))), va_Nw.of rfl (hts (.fieldLinkNest "BonfireHeaps$Heap" 97 "BonfireHeaps" "SMOKE_AN_HOUR" "[I" "BonfireHeaps") (List.mem_append_right _ (List.mem_of_getElem? (i := 500) (by decide +kernel))))⟩⟩
