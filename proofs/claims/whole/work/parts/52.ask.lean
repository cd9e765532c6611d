/-! asked: bodies, by what they leave behind -/
def TC (m : ZM) (l : List Int32) : Prop := m 15 1 = nI l.length ∧ ∀ j, j < l.length → m 16 j = l.getD j 0
def TM (m : ZM) (l : List Int32) : Prop := m 58 24 = nI l.length ∧ ∀ j, j < l.length → m 71 j = l.getD j 0
def FrT (m m' : ZM) : Prop := (∀ c, c ≠ 15 → c ≠ 16 → m' c = m c) ∧ (∀ k, k ≠ 1 → m' 15 k = m 15 k)
def FrU (m m' : ZM) : Prop := (∀ c, c ≠ 58 → c ≠ 71 → m' c = m c) ∧ (∀ k, k ≠ 24 → m' 58 k = m 58 k)
theorem FrT.rf (m : ZM) : FrT m m := ⟨fun _ _ _ => rfl, fun _ _ => rfl⟩
theorem FrU.rf (m : ZM) : FrU m m := ⟨fun _ _ _ => rfl, fun _ _ => rfl⟩
theorem FrT.tr {a b c : ZM} (h : FrT a b) (g : FrT b c) : FrT a c := ⟨fun d h1 h2 => (g.1 d h1 h2).trans (h.1 d h1 h2), fun k hk => (g.2 k hk).trans (h.2 k hk)⟩
theorem FrU.tr {a b c : ZM} (h : FrU a b) (g : FrU b c) : FrU a c := ⟨fun d h1 h2 => (g.1 d h1 h2).trans (h.1 d h1 h2), fun k hk => (g.2 k hk).trans (h.2 k hk)⟩
def AV (m : ZM) (w k s x : Int32) : Prop := m 15 2 = w ∧ m 15 3 = k ∧ m 15 4 = s ∧ m 15 5 = x
def MV (m : ZM) (t : Nat) (k s x : Int32) : Prop := t < 8 ∧ m 62 (6 + t) = k ∧ m 62 (14 + t) = s ∧ m 62 (22 + t) = x
theorem AV.fr {m m' : ZM} {w k s x : Int32} (V : AV m w k s x) (F : FrT m m') : AV m' w k s x := ⟨by rw [F.2 2 (by decide)]; exact V.1, by rw [F.2 3 (by decide)]; exact V.2.1, by rw [F.2 4 (by decide)]; exact V.2.2.1, by rw [F.2 5 (by decide)]; exact V.2.2.2⟩
theorem MV.fr {m m' : ZM} {t : Nat} {k s x : Int32} (V : MV m t k s x) (F : FrU m m') : MV m' t k s x := by
  unfold MV
  rw [F.1 62 (by decide) (by decide)]
  exact V
def SC (F : ZM → Option (Int32 × ZM)) (m : ZM) (v : Int32) (ls : List Int32) : Prop := ∀ l, l.length + ls.length ≤ 16 → TC m l → ∃ m', F m = some (v, m') ∧ TC m' (l ++ ls) ∧ FrT m m'
def SM (F : ZM → Option (Int32 × ZM)) (m : ZM) (v : Int32) (ls : List Int32) : Prop := ∀ l, l.length + ls.length ≤ 16 → TM m l → ∃ m', F m = some (v, m') ∧ TM m' (l ++ ls) ∧ FrU m m'
theorem get_app {l : List Int32} {v : Int32} {j : Nat} (hj : j < l.length) : (l ++ [v]).getD j 0 = l.getD j 0 := by
  rw [List.getD_eq_getElem?_getD, List.getD_eq_getElem?_getD, List.getElem?_append_left hj]
theorem get_app' {l : List Int32} {v : Int32} : (l ++ [v]).getD l.length 0 = v := by
  rw [List.getD_eq_getElem?_getD, List.getElem?_append_right (Nat.le_refl _), Nat.sub_self]
  rfl
theorem len_app {l : List Int32} {v : Int32} : (l ++ [v]).length = l.length + 1 := by rw [List.length_append]; rfl
theorem c_leave {m : ZM} {l : List Int32} (v : Int32) (hl : l.length < 16) (T : TC m l) : ∃ m', fX1_leaveTrace v m = some m' ∧ TC m' (l ++ [v]) ∧ FrT m m' := by
  unfold fX1_leaveTrace
  rw [T.1, show (16 : Int32) = nI 16 from rfl, if_neg (by rw [e_le0 (by omega) (by omega)]; omega), e_gz hl (by decide), e_cl (by omega), e_let, e_stn (by decide), T.1, nI_1, e_let]
  refine ⟨_, rfl, ⟨by rw [e_st, len_app], fun j hj => ?_⟩, fun c h1 h2 => by rw [e_stn h1, e_stn h2], fun k hk => by rw [e_stk hk, e_stn (by decide)]⟩
  rw [e_stn (by decide), e_sta, if_pos rfl]
  by_cases e : j = l.length
  · rw [if_pos e, e, get_app']
  · rw [len_app] at hj
    rw [if_neg e, get_app (by omega)]
    exact T.2 j (by omega)
theorem m_begin {m : ZM} {l : List Int32} (v : Int32) (hl : l.length < 16) (T : TM m l) : ∃ m', fX7_begin v m = some m' ∧ TM m' (l ++ [v]) ∧ FrU m m' := by
  unfold fX7_begin
  rw [T.1, show (16 : Int32) = nI 16 from rfl, if_neg (by rw [e_le0 (by omega) (by omega)]; omega), e_gz hl (by decide), e_cl (by omega), e_let, e_stn (by decide), T.1, nI_1, e_let]
  refine ⟨_, rfl, ⟨by rw [e_st, len_app], fun j hj => ?_⟩, fun c h1 h2 => by rw [e_stn h1, e_stn h2], fun k hk => by rw [e_stk hk, e_stn (by decide)]⟩
  rw [e_stn (by decide), e_sta, if_pos rfl]
  by_cases e : j = l.length
  · rw [if_pos e, e, get_app']
  · rw [len_app] at hj
    rw [if_neg e, get_app (by omega)]
    exact T.2 j (by omega)
theorem app1 {l : List Int32} {v : Int32} {ls : List Int32} : (l ++ [v]) ++ ls = l ++ (v :: ls) := by rw [List.append_assoc]; rfl
/-- leave one, then go on -/
theorem SC.one {m : ZM} {v : Int32} {F : ZM → Option (Int32 × ZM)} (a : Int32) {ls : List Int32} {k : ZM → Option (Int32 × ZM)} (hF : F m = Option.bind (fX1_leaveTrace a m) k) (hk : ∀ m', FrT m m' → SC k m' v ls) : SC F m v (a :: ls) := by
  intro l hl T
  rw [List.length_cons] at hl
  obtain ⟨m1, e1, T1, F1⟩ := c_leave a (by omega) T
  obtain ⟨m2, e2, T2, F2⟩ := hk m1 F1 (l ++ [a]) (by rw [len_app]; omega) T1
  rw [app1] at T2
  exact ⟨m2, by rw [hF, e1, e_bd, e2], T2, F1.tr F2⟩
theorem SC.nil {m : ZM} {v : Int32} {F : ZM → Option (Int32 × ZM)} (h : F m = some (v, m)) : SC F m v [] := fun l _ T => ⟨m, h, by rw [List.append_nil]; exact T, FrT.rf _⟩
theorem SC.bind {m : ZM} {v u : Int32} {F P : ZM → Option (Int32 × ZM)} {ls ms : List Int32} {k : Int32 × ZM → Option (Int32 × ZM)} (hP : SC P m u ls) (hF : F m = Option.bind (P m) k) (hk : ∀ m', FrT m m' → SC (fun q => k (u, q)) m' v ms) : SC F m v (ls ++ ms) := by
  intro l hl T
  rw [List.length_append] at hl
  obtain ⟨m1, e1, T1, F1⟩ := hP l (by omega) T
  obtain ⟨m2, e2, T2, F2⟩ := hk m1 F1 (l ++ ls) (by rw [List.length_append]; omega) T1
  rw [List.append_assoc] at T2
  exact ⟨m2, by rw [hF, e1, e_bd]; exact e2, T2, F1.tr F2⟩
theorem SM.one {m : ZM} {v : Int32} {F : ZM → Option (Int32 × ZM)} (a : Int32) {ls : List Int32} {k : ZM → Option (Int32 × ZM)} (hF : F m = Option.bind (fX7_begin a m) k) (hk : ∀ m', FrU m m' → SM k m' v ls) : SM F m v (a :: ls) := by
  intro l hl T
  rw [List.length_cons] at hl
  obtain ⟨m1, e1, T1, F1⟩ := m_begin a (by omega) T
  obtain ⟨m2, e2, T2, F2⟩ := hk m1 F1 (l ++ [a]) (by rw [len_app]; omega) T1
  rw [app1] at T2
  exact ⟨m2, by rw [hF, e1, e_bd, e2], T2, F1.tr F2⟩
theorem SM.nil {m : ZM} {v : Int32} {F : ZM → Option (Int32 × ZM)} (h : F m = some (v, m)) : SM F m v [] := fun l _ T => ⟨m, h, by rw [List.append_nil]; exact T, FrU.rf _⟩
theorem SM.bind {m : ZM} {v u : Int32} {F P : ZM → Option (Int32 × ZM)} {ls ms : List Int32} {k : Int32 × ZM → Option (Int32 × ZM)} (hP : SM P m u ls) (hF : F m = Option.bind (P m) k) (hk : ∀ m', FrU m m' → SM (fun q => k (u, q)) m' v ms) : SM F m v (ls ++ ms) := by
  intro l hl T
  rw [List.length_append] at hl
  obtain ⟨m1, e1, T1, F1⟩ := hP l (by omega) T
  obtain ⟨m2, e2, T2, F2⟩ := hk m1 F1 (l ++ ls) (by rw [List.length_append]; omega) T1
  rw [List.append_assoc] at T2
  exact ⟨m2, by rw [hF, e1, e_bd]; exact e2, T2, F1.tr F2⟩
section BC
variable {m : ZM} {w k s x : Int32}
theorem b10 (V : AV m w k s x) : SC fX1_body10 m s [10] := SC.one 10 (by unfold fX1_body10; rfl) (fun m' F => SC.nil (by show some (m' 15 4, m') = _; rw [(V.fr F).2.2.1]))
theorem b20 (V : AV m w k s x) : SC fX1_body20 m w [20] := SC.one 20 (by unfold fX1_body20; rfl) (fun m' F => SC.nil (by show some (m' 15 2, m') = _; rw [(V.fr F).1]))
theorem b21 (V : AV m w k s x) : SC fX1_body21 m (w + x) [21, 20] := SC.one 21 (by unfold fX1_body21; rfl) (fun m' F => SC.bind (ls := [20]) (ms := []) (b20 (V.fr F)) rfl (fun m2 F2 => SC.nil (by show some (w + m2 15 5, m2) = _; rw [((V.fr F).fr F2).2.2.2])))
theorem b22 (V : AV m w k s x) : SC fX1_body22 m (w + x - 1000) [22, 21, 20] := SC.one 22 (by unfold fX1_body22; rfl) (fun m' F => SC.bind (ls := [21, 20]) (ms := []) (b21 (V.fr F)) rfl (fun m2 F2 => SC.nil rfl))
theorem b24 (V : AV m w k s x) : SC fX1_body24 m (2 * (w + x)) [24, 21, 20] := SC.one 24 (by unfold fX1_body24; rfl) (fun m' F => SC.bind (ls := [21, 20]) (ms := []) (b21 (V.fr F)) rfl (fun m2 F2 => SC.nil rfl))
theorem b13 (V : AV m w k s x) : SC fX1_body13 m (s - 100) [13, 10] := SC.one 13 (by unfold fX1_body13; rfl) (fun m' F => SC.bind (ls := [10]) (ms := []) (b10 (V.fr F)) rfl (fun m2 F2 => SC.nil rfl))
theorem b14 (V : AV m w k s x) : SC fX1_body14 m (2 * (s - 100)) [14, 13, 10] := SC.one 14 (by unfold fX1_body14; rfl) (fun m' F => SC.bind (ls := [13, 10]) (ms := []) (b13 (V.fr F)) rfl (fun m2 F2 => SC.nil rfl))
theorem SC.id {F P : ZM → Option (Int32 × ZM)} {v : Int32} {ls : List Int32} (hP : SC P m v ls) (hF : F m = Option.bind (P m) (fun r => some (r.1, r.2))) : SC F m v ls := by
  have := SC.bind (F := F) (ms := []) (v := v) hP hF (fun m' _ => SC.nil rfl)
  rw [List.append_nil] at this
  exact this
theorem s2_4 (V : AV m w 4 s x) {d : Int32} (hd : d ≤ 16) : SC (fX1_askSize_2 d) m (s - 100) [13, 10] := SC.id (b13 V) (by unfold fX1_askSize_2; rw [if_pos hd, V.2.1]; rfl)
theorem s2_5 (V : AV m w 5 s x) {d : Int32} (hd : d ≤ 16) : SC (fX1_askSize_2 d) m (2 * (s - 100)) [14, 13, 10] := SC.id (b14 V) (by unfold fX1_askSize_2; rw [if_pos hd, V.2.1]; rfl)
theorem b23_4 (V : AV m w 4 s x) {d : Int32} (hd : d ≤ 16) : SC (fX1_body23_3 d) m (w - (s - 100)) [23, 20, 13, 10] := SC.one 23 (by unfold fX1_body23_3; rfl) (fun m' F => SC.bind (ls := [20]) (ms := [13, 10]) (b20 (V.fr F)) rfl (fun m2 F2 => SC.bind (ls := [13, 10]) (ms := []) (s2_4 ((V.fr F).fr F2) hd) rfl (fun m3 F3 => SC.nil rfl)))
theorem b23_5 (V : AV m w 5 s x) {d : Int32} (hd : d ≤ 16) : SC (fX1_body23_3 d) m (w - 2 * (s - 100)) [23, 20, 14, 13, 10] := SC.one 23 (by unfold fX1_body23_3; rfl) (fun m' F => SC.bind (ls := [20]) (ms := [14, 13, 10]) (b20 (V.fr F)) rfl (fun m2 F2 => SC.bind (ls := [14, 13, 10]) (ms := []) (s2_5 ((V.fr F).fr F2) hd) rfl (fun m3 F3 => SC.nil rfl)))
theorem m2_1 (V : AV m w 1 s x) {d : Int32} (hd : d ≤ 16) : SC (fX1_askMark_2 d) m (w + x) [21, 20] := SC.id (b21 V) (by unfold fX1_askMark_2; rw [if_pos hd, V.2.1]; rfl)
theorem m2_3 (V : AV m w 3 s x) {d : Int32} (hd : d ≤ 16) : SC (fX1_askMark_2 d) m (w + x - 1000) [22, 21, 20] := SC.id (b22 V) (by unfold fX1_askMark_2; rw [if_pos hd, V.2.1]; rfl)
theorem m1_2 (V : AV m w 2 s x) {d : Int32} (hd : d ≤ 16) : SC (fX1_askMark_1 d) m (2 * (w + x)) [24, 21, 20] := SC.id (b24 V) (by unfold fX1_askMark_1; rw [if_pos hd, V.2.1]; rfl)
theorem b11_1 (V : AV m w 1 s x) {d : Int32} (hd : d ≤ 16) : SC (fX1_body11_3 d) m (s + (w + x)) [11, 10, 21, 20] := SC.one 11 (by unfold fX1_body11_3; rfl) (fun m' F => SC.bind (ls := [10]) (ms := [21, 20]) (b10 (V.fr F)) rfl (fun m2 F2 => SC.bind (ls := [21, 20]) (ms := []) (m2_1 ((V.fr F).fr F2) hd) rfl (fun m3 F3 => SC.nil rfl)))
theorem b11_3 (V : AV m w 3 s x) {d : Int32} (hd : d ≤ 16) : SC (fX1_body11_3 d) m (s + (w + x - 1000)) [11, 10, 22, 21, 20] := SC.one 11 (by unfold fX1_body11_3; rfl) (fun m' F => SC.bind (ls := [10]) (ms := [22, 21, 20]) (b10 (V.fr F)) rfl (fun m2 F2 => SC.bind (ls := [22, 21, 20]) (ms := []) (m2_3 ((V.fr F).fr F2) hd) rfl (fun m3 F3 => SC.nil rfl)))
theorem b11_2 (V : AV m w 2 s x) {d : Int32} (hd : d ≤ 16) : SC (fX1_body11_2 d) m (s + 2 * (w + x)) [11, 10, 24, 21, 20] := SC.one 11 (by unfold fX1_body11_2; rfl) (fun m' F => SC.bind (ls := [10]) (ms := [24, 21, 20]) (b10 (V.fr F)) rfl (fun m2 F2 => SC.bind (ls := [24, 21, 20]) (ms := []) (m1_2 ((V.fr F).fr F2) hd) rfl (fun m3 F3 => SC.nil rfl)))
theorem b12_2 (V : AV m w 2 s x) {d : Int32} (hd : d ≤ 16) : SC (fX1_body12_3 d) m (-(s + 2 * (w + x))) [12, 11, 10, 24, 21, 20] := SC.one 12 (by unfold fX1_body12_3; rfl) (fun m' F => SC.bind (ls := [11, 10, 24, 21, 20]) (ms := []) (b11_2 (V.fr F) hd) rfl (fun m2 F2 => SC.nil rfl))
/-- what is asked, by kind -/
def anS (b : Bool) (k : Nat) (w s x : Int32) : Int32 := if b = true then (if k = 1 then s + (w + x) else if k = 2 then -(s + 2 * (w + x)) else if k = 3 then s + (w + x - 1000) else if k = 4 then s - 100 else 2 * (s - 100)) else (if k = 1 then w + x else if k = 2 then 2 * (w + x) else if k = 3 then w + x - 1000 else if k = 4 then w - (s - 100) else w - 2 * (s - 100))
def anL (b : Bool) (k : Nat) : List Int32 := if b = true then (if k = 1 then [11, 10, 21, 20] else if k = 2 then [12, 11, 10, 24, 21, 20] else if k = 3 then [11, 10, 22, 21, 20] else if k = 4 then [13, 10] else [14, 13, 10]) else (if k = 1 then [21, 20] else if k = 2 then [24, 21, 20] else if k = 3 then [22, 21, 20] else if k = 4 then [23, 20, 13, 10] else [23, 20, 14, 13, 10])
theorem d01 : (0 : Int32) + 1 ≤ 16 := by decide
theorem d00 : (0 : Int32) ≤ 16 := by decide
theorem c_askSize {n : Nat} (h1 : 1 ≤ n) (h5 : n ≤ 5) (V : AV m w (nI n) s x) : SC (fX1_askSize_4 0) m (anS true n w s x) (anL true n) := by
  have : n = 1 ∨ n = 2 ∨ n = 3 ∨ n = 4 ∨ n = 5 := by omega
  rcases this with rfl | rfl | rfl | rfl | rfl
  · exact SC.id (b11_1 V d01) (by unfold fX1_askSize_4; rw [if_pos d00, V.2.1]; rfl)
  · exact SC.id (b12_2 V d01) (by unfold fX1_askSize_4; rw [if_pos d00, V.2.1]; rfl)
  · exact SC.id (b11_3 V d01) (by unfold fX1_askSize_4; rw [if_pos d00, V.2.1]; rfl)
  · exact SC.id (b13 V) (by unfold fX1_askSize_4; rw [if_pos d00, V.2.1]; rfl)
  · exact SC.id (b14 V) (by unfold fX1_askSize_4; rw [if_pos d00, V.2.1]; rfl)
theorem c_askMark {n : Nat} (h1 : 1 ≤ n) (h5 : n ≤ 5) (V : AV m w (nI n) s x) : SC (fX1_askMark_4 0) m (anS false n w s x) (anL false n) := by
  have : n = 1 ∨ n = 2 ∨ n = 3 ∨ n = 4 ∨ n = 5 := by omega
  rcases this with rfl | rfl | rfl | rfl | rfl
  · exact SC.id (b21 V) (by unfold fX1_askMark_4; rw [if_pos d00, V.2.1]; rfl)
  · exact SC.id (b24 V) (by unfold fX1_askMark_4; rw [if_pos d00, V.2.1]; rfl)
  · exact SC.id (b22 V) (by unfold fX1_askMark_4; rw [if_pos d00, V.2.1]; rfl)
  · exact SC.id (b23_4 V d01) (by unfold fX1_askMark_4; rw [if_pos d00, V.2.1]; rfl)
  · exact SC.id (b23_5 V d01) (by unfold fX1_askMark_4; rw [if_pos d00, V.2.1]; rfl)
end BC
section BM
variable {m : ZM} {t : Nat} {k s x : Int32}
theorem SM.id {F P : ZM → Option (Int32 × ZM)} {v : Int32} {ls : List Int32} (hP : SM P m v ls) (hF : F m = Option.bind (P m) (fun r => some (r.1, r.2))) : SM F m v ls := by
  have := SM.bind (F := F) (ms := []) (v := v) hP hF (fun m' _ => SM.nil rfl)
  rw [List.append_nil] at this
  exact this
theorem n10 (V : MV m t k s x) : SM (fX7_lent (nI t) 10) m s [10] := SM.one 10 (by unfold fX7_lent; rfl) (fun m' F => SM.nil (by
  have V' := V.fr F
  have h8 := V'.1
  show (if (10 : Int32) = 10 then (zgd (zin ((14 : Int32) + nI t) 38) (some (m' 62 ((14 : Int32) + nI t).toNatClampNeg, m'))) else (some (nI t, m'))) = _
  rw [if_pos rfl, l14, nI_add, e_gz (by omega) (by omega), e_cl (by omega), V'.2.2.1]))
theorem n20 (t : Nat) : SM (fX7_lent (nI t) 20) m (nI t) [20] := SM.one 20 (by unfold fX7_lent; rfl) (fun m' F => SM.nil (by
  show (if (20 : Int32) = 10 then (zgd (zin ((14 : Int32) + nI t) 38) (some (m' 62 ((14 : Int32) + nI t).toNatClampNeg, m'))) else (some (nI t, m'))) = _
  rw [if_neg (by decide)]))
theorem nSM (V : MV m t k s x) : SM (fX7_stickMark (nI t)) m (nI t + x) [21, 20] := SM.one 21 (by unfold fX7_stickMark; rfl) (fun m' F => SM.bind (ls := [20]) (ms := []) (n20 t) rfl (fun m2 F2 => SM.nil (by
  have V' := (V.fr F).fr F2
  have h8 := V'.1
  show zgd (zin ((22 : Int32) + nI t) 38) (some (nI t + m2 62 ((22 : Int32) + nI t).toNatClampNeg, m2)) = _
  rw [l22, nI_add, e_gz (by omega) (by omega), e_cl (by omega), V'.2.2.2])))
theorem nDS (V : MV m t k s x) : SM (fX7_doorSize (nI t)) m (s - 100) [13, 10] := SM.one 13 (by unfold fX7_doorSize; rfl) (fun m' F => SM.bind (ls := [10]) (ms := []) (n10 (V.fr F)) rfl (fun m2 F2 => SM.nil rfl))
theorem n6 (V : MV m t k s x) {α : Type} (K : Int32 → Option α) : zgd (zin ((6 : Int32) + nI t) 38) (K (m 62 ((6 : Int32) + nI t).toNatClampNeg)) = K k := by
  have h8 := V.1
  rw [l6, nI_add, e_gz (by omega) (by omega), e_cl (by omega), V.2.1]
theorem nSD4 (V : MV m t 4 s x) : SM (fX7_sizeOfDoor (nI t)) m (s - 100) [13, 10] := SM.id (nDS V) (by
  unfold fX7_sizeOfDoor
  rw [n6 V (fun q => if q = (5 : Int32) then _ else _)]; rfl)
theorem nSD5 (V : MV m t 5 s x) : SM (fX7_sizeOfDoor (nI t)) m (2 * (s - 100)) [14, 13, 10] := SM.one 14 (k := fun r2 => Option.bind (fX7_doorSize (nI t) r2) (fun r3 => some (((2 : Int32) * r3.1), r3.2))) (by
  unfold fX7_sizeOfDoor
  rw [n6 V (fun q => if q = (5 : Int32) then _ else _)]; rfl) (fun m' F => SM.bind (ls := [13, 10]) (ms := []) (nDS (V.fr F)) rfl (fun m2 F2 => SM.nil rfl))
theorem nM1 (V : MV m t 1 s x) : SM (fX7_markOf (nI t)) m (nI t + x) [21, 20] := SM.id (nSM V) (by unfold fX7_markOf; rw [n6 V (fun q => zlet q _)]; rfl)
theorem nM2 (V : MV m t 2 s x) : SM (fX7_markOf (nI t)) m (2 * (nI t + x)) [24, 21, 20] := SM.one 24 (k := fun r9 => Option.bind (fX7_stickMark (nI t) r9) (fun r10 => some (((2 : Int32) * r10.1), r10.2))) (by unfold fX7_markOf; rw [n6 V (fun q => zlet q _)]; rfl) (fun m' F => SM.bind (ls := [21, 20]) (ms := []) (nSM (V.fr F)) rfl (fun m2 F2 => SM.nil rfl))
theorem nM3 (V : MV m t 3 s x) : SM (fX7_markOf (nI t)) m (nI t + x - 1000) [22, 21, 20] := SM.one 22 (k := fun r7 => Option.bind (fX7_stickMark (nI t) r7) (fun r8 => some ((r8.1 - (1000 : Int32)), r8.2))) (by unfold fX7_markOf; rw [n6 V (fun q => zlet q _)]; rfl) (fun m' F => SM.bind (ls := [21, 20]) (ms := []) (nSM (V.fr F)) rfl (fun m2 F2 => SM.nil rfl))
theorem nM4 (V : MV m t 4 s x) : SM (fX7_markOf (nI t)) m (nI t - (s - 100)) [23, 20, 13, 10] := SM.one 23 (k := fun r2 => Option.bind (fX7_lent (nI t) (20 : Int32) r2) (fun r3 => zlet r3.1 (fun v4 => Option.bind (fX7_sizeOfDoor (nI t) r3.2) (fun r5 => some ((v4 - r5.1), r5.2))))) (by unfold fX7_markOf; rw [n6 V (fun q => zlet q _)]; rfl) (fun m' F => SM.bind (ls := [20]) (ms := [13, 10]) (n20 t) rfl (fun m2 F2 => SM.bind (ls := [13, 10]) (ms := []) (nSD4 ((V.fr F).fr F2)) rfl (fun m3 F3 => SM.nil rfl)))
theorem nM5 (V : MV m t 5 s x) : SM (fX7_markOf (nI t)) m (nI t - 2 * (s - 100)) [23, 20, 14, 13, 10] := SM.one 23 (k := fun r2 => Option.bind (fX7_lent (nI t) (20 : Int32) r2) (fun r3 => zlet r3.1 (fun v4 => Option.bind (fX7_sizeOfDoor (nI t) r3.2) (fun r5 => some ((v4 - r5.1), r5.2))))) (by unfold fX7_markOf; rw [n6 V (fun q => zlet q _)]; rfl) (fun m' F => SM.bind (ls := [20]) (ms := [14, 13, 10]) (n20 t) rfl (fun m2 F2 => SM.bind (ls := [14, 13, 10]) (ms := []) (nSD5 ((V.fr F).fr F2)) rfl (fun m3 F3 => SM.nil rfl)))
theorem m_markOf {n : Nat} (h1 : 1 ≤ n) (h5 : n ≤ 5) (V : MV m t (nI n) s x) : SM (fX7_markOf (nI t)) m (anS false n (nI t) s x) (anL false n) := by
  have : n = 1 ∨ n = 2 ∨ n = 3 ∨ n = 4 ∨ n = 5 := by omega
  rcases this with rfl | rfl | rfl | rfl | rfl
  · exact nM1 V
  · exact nM2 V
  · exact nM3 V
  · exact nM4 V
  · exact nM5 V
theorem nSS {n : Nat} (h1 : 1 ≤ n) (h5 : n ≤ 5) (V : MV m t (nI n) s x) : SM (fX7_stickSize (nI t)) m (s + anS false n (nI t) s x) (11 :: 10 :: anL false n) := SM.one 11 (by unfold fX7_stickSize; rfl) (fun m' F => SM.bind (ls := [10]) (ms := anL false n) (n10 (V.fr F)) rfl (fun m2 F2 => by
  have := SM.bind (F := fun q => Option.bind (fX7_markOf (nI t) q) (fun r4 => some ((s + r4.1), r4.2))) (v := s + anS false n (nI t) s x) (ls := anL false n) (ms := []) (m_markOf h1 h5 ((V.fr F).fr F2)) rfl (fun m3 F3 => SM.nil rfl)
  rw [List.append_nil] at this
  exact this))
theorem m_sizeOf {n : Nat} (h1 : 1 ≤ n) (h5 : n ≤ 5) (V : MV m t (nI n) s x) : SM (fX7_sizeOf (nI t)) m (anS true n (nI t) s x) (anL true n) := by
  have : n = 1 ∨ n = 2 ∨ n = 3 ∨ n = 4 ∨ n = 5 := by omega
  rcases this with rfl | rfl | rfl | rfl | rfl
  · exact SM.id (nSS h1 h5 V) (by unfold fX7_sizeOf; rw [n6 V (fun q => zlet q _)]; rfl)
  · exact SM.one 12 (k := fun r4 => Option.bind (fX7_stickSize (nI t) r4) (fun r5 => some ((-r5.1), r5.2))) (by unfold fX7_sizeOf; rw [n6 V (fun q => zlet q _)]; rfl) (fun m' F => SM.bind (ls := [11, 10, 24, 21, 20]) (ms := []) (nSS h1 h5 (V.fr F)) rfl (fun m2 F2 => SM.nil rfl))
  · exact SM.id (nSS h1 h5 V) (by unfold fX7_sizeOf; rw [n6 V (fun q => zlet q _)]; rfl)
  · exact SM.id (nSD4 V) (by unfold fX7_sizeOf; rw [n6 V (fun q => zlet q _)]; rfl)
  · exact SM.id (nSD5 V) (by unfold fX7_sizeOf; rw [n6 V (fun q => zlet q _)]; rfl)
end BM
