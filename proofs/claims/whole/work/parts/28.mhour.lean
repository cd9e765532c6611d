/-! the reference's hour -/
theorem e_row (mem : ZM) (c k : Nat) (v : Int32) : zst mem c k v c = upd (mem c) k v := by unfold zst; rw [e_up]
theorem u_s (f : Nat → Int32) (k : Nat) (x : Int32) : upd f k x k = x := by unfold upd; rw [if_pos rfl]
theorem u_n {f : Nat → Int32} {k j : Nat} {x : Int32} (h : j ≠ k) : upd f k x j = f j := by unfold upd; rw [if_neg h]
section HRW
variable {f : Nat → Int32} {t v : Nat} {h : HS}
theorem Hr.stS (H : Hr f h) (hn : hsN h ≤ 8) (ht : t < 8) : Hr (upd f (14 + t) (nI v)) (setS h t v) := by
  refine ⟨by rw [u_n (by omega)]; exact H.1, fun u hu => ?_, by rw [u_n (by omega)]; exact H.2.2.1, by rw [u_n (by omega)]; exact H.2.2.2.1, by rw [u_n (by omega)]; exact H.2.2.2.2.1, by rw [u_n (by omega)]; exact H.2.2.2.2.2⟩
  have hu' : u < hsN h := hu
  obtain ⟨a1, a2, a3, a4⟩ := H.2.1 u hu
  refine ⟨by rw [u_n (by omega)]; exact a1, ?_, by rw [u_n (by omega)]; exact a3, by rw [u_n (by omega)]; exact a4⟩
  show _ = nI (if u = t then v else hsS h u)
  by_cases e : u = t
  · subst e; rw [u_s, if_pos rfl]
  · rw [u_n (by omega), if_neg e]; exact a2
theorem Hr.stW (H : Hr f h) (hn : hsN h ≤ 8) (ht : t < 8) : Hr (upd f (22 + t) (nI v)) (setW h t v) := by
  refine ⟨by rw [u_n (by omega)]; exact H.1, fun u hu => ?_, by rw [u_n (by omega)]; exact H.2.2.1, by rw [u_n (by omega)]; exact H.2.2.2.1, by rw [u_n (by omega)]; exact H.2.2.2.2.1, by rw [u_n (by omega)]; exact H.2.2.2.2.2⟩
  have hu' : u < hsN h := hu
  obtain ⟨a1, a2, a3, a4⟩ := H.2.1 u hu
  refine ⟨by rw [u_n (by omega)]; exact a1, by rw [u_n (by omega)]; exact a2, ?_, by rw [u_n (by omega)]; exact a4⟩
  show _ = nI (if u = t then v else hsW h u)
  by_cases e : u = t
  · subst e; rw [u_s, if_pos rfl]
  · rw [u_n (by omega), if_neg e]; exact a3
theorem Hr.stK (H : Hr f h) (hn : hsN h ≤ 8) (ht : t < 8) : Hr (upd f (6 + t) (nI v)) (setK h t v) := by
  refine ⟨by rw [u_n (by omega)]; exact H.1, fun u hu => ?_, by rw [u_n (by omega)]; exact H.2.2.1, by rw [u_n (by omega)]; exact H.2.2.2.1, by rw [u_n (by omega)]; exact H.2.2.2.2.1, by rw [u_n (by omega)]; exact H.2.2.2.2.2⟩
  have hu' : u < hsN h := hu
  obtain ⟨a1, a2, a3, a4⟩ := H.2.1 u hu
  refine ⟨?_, by rw [u_n (by omega)]; exact a2, by rw [u_n (by omega)]; exact a3, by rw [u_n (by omega)]; exact a4⟩
  show _ = nI (if u = t then v else hsK h u)
  by_cases e : u = t
  · subst e; rw [u_s, if_pos rfl]
  · rw [u_n (by omega), if_neg e]; exact a1
theorem Hr.stP (H : Hr f h) (hn : hsN h ≤ 8) (ht : t < 8) : Hr (upd f (30 + t) (nI v)) (setP h t v) := by
  refine ⟨by rw [u_n (by omega)]; exact H.1, fun u hu => ?_, by rw [u_n (by omega)]; exact H.2.2.1, by rw [u_n (by omega)]; exact H.2.2.2.1, by rw [u_n (by omega)]; exact H.2.2.2.2.1, by rw [u_n (by omega)]; exact H.2.2.2.2.2⟩
  have hu' : u < hsN h := hu
  obtain ⟨a1, a2, a3, a4⟩ := H.2.1 u hu
  refine ⟨by rw [u_n (by omega)]; exact a1, by rw [u_n (by omega)]; exact a2, by rw [u_n (by omega)]; exact a3, ?_⟩
  show _ = nI (if u = t then v else hsP h u)
  by_cases e : u = t
  · subst e; rw [u_s, if_pos rfl]
  · rw [u_n (by omega), if_neg e]; exact a4
theorem Hr.st1 {x : Int32} (H : Hr f h) : Hr (upd f 1 x) h :=
  ⟨by rw [u_n (by decide)]; exact H.1, fun t ht => by rw [u_n (by omega), u_n (by omega), u_n (by omega), u_n (by omega)]; exact H.2.1 t ht, by rw [u_n (by decide)]; exact H.2.2.1, by rw [u_n (by decide)]; exact H.2.2.2.1, by rw [u_n (by decide)]; exact H.2.2.2.2.1, by rw [u_n (by decide)]; exact H.2.2.2.2.2⟩
theorem Hr.stL (H : Hr f h) : Hr (upd f 4 (nI v)) (setL h v) :=
  ⟨by rw [u_n (by decide)]; exact H.1, fun t ht => by rw [u_n (by omega), u_n (by omega), u_n (by omega), u_n (by omega)]; exact H.2.1 t ht, by rw [u_s]; rfl, by rw [u_n (by decide)]; exact H.2.2.2.1, by rw [u_n (by decide)]; exact H.2.2.2.2.1, by rw [u_n (by decide)]; exact H.2.2.2.2.2⟩
theorem Hr.stO (H : Hr f h) : Hr (upd f 5 (nI v)) (setO h v) :=
  ⟨by rw [u_n (by decide)]; exact H.1, fun t ht => by rw [u_n (by omega), u_n (by omega), u_n (by omega), u_n (by omega)]; exact H.2.1 t ht, by rw [u_n (by decide)]; exact H.2.2.1, by rw [u_s]; rfl, by rw [u_n (by decide)]; exact H.2.2.2.2.1, by rw [u_n (by decide)]; exact H.2.2.2.2.2⟩
theorem Hr.stV (H : Hr f h) : Hr (upd f 2 (nI v)) (setV h v) :=
  ⟨by rw [u_n (by decide)]; exact H.1, fun t ht => by rw [u_n (by omega), u_n (by omega), u_n (by omega), u_n (by omega)]; exact H.2.1 t ht, by rw [u_n (by decide)]; exact H.2.2.1, by rw [u_n (by decide)]; exact H.2.2.2.1, by rw [u_s]; rfl, by rw [u_n (by decide)]; exact H.2.2.2.2.2⟩
theorem Hr.stM (H : Hr f h) : Hr (upd f 3 (nI v)) (setM h v) :=
  ⟨by rw [u_n (by decide)]; exact H.1, fun t ht => by rw [u_n (by omega), u_n (by omega), u_n (by omega), u_n (by omega)]; exact H.2.1 t ht, by rw [u_n (by decide)]; exact H.2.2.1, by rw [u_n (by decide)]; exact H.2.2.2.1, by rw [u_n (by decide)]; exact H.2.2.2.2.1, by rw [u_s]; rfl⟩
end HRW
/-- what an hour of the reference leaves as it is: all but the row, the heats, and what smoked -/
def FrO (mem mem' : ZM) : Prop := (∀ c, c ≠ 58 → c ≠ 62 → c ≠ 66 → mem' c = mem c) ∧ (∀ k, k ≠ 17 → mem' 58 k = mem 58 k)
theorem FrO.rf (mem : ZM) : FrO mem mem := ⟨fun _ _ _ _ => rfl, fun _ _ => rfl⟩
theorem FrO.tr {a b c : ZM} (h : FrO a b) (g : FrO b c) : FrO a c := ⟨fun d h1 h2 h3 => (g.1 d h1 h2 h3).trans (h.1 d h1 h2 h3), fun k hk => (g.2 k hk).trans (h.2 k hk)⟩
theorem FrO.s62 (mem : ZM) (k : Nat) (v : Int32) : FrO mem (zst mem 62 k v) := ⟨fun d h1 h2 h3 => e_stn h2, fun j hj => by rw [e_stn (by decide)]⟩
theorem FrO.s66 (mem : ZM) (k : Nat) (v : Int32) : FrO mem (zst mem 66 k v) := ⟨fun d h1 h2 h3 => e_stn h3, fun j hj => by rw [e_stn (by decide)]⟩
theorem FrO.s58 (mem : ZM) (v : Int32) : FrO mem (zst mem 58 17 v) := ⟨fun d h1 h2 h3 => e_stn h1, fun j hj => e_stk hj⟩
section MH
variable {mem : ZM} {t : Nat} {h : HS}
theorem m_heats (H : Hr (mem 62) h) (ok : okH h) (y : Int32) : ∃ r, fX7_oneHour_l14 y (nI 0, mem) = some r ∧ ((∀ t, t < hsN h → r.2 66 t = nI (heatS h t)) ∧ (∀ c, c ≠ 66 → r.2 c = mem c)) := by
  have hn := ok.1
  unfold fX7_oneHour_l14
  refine zi_inv (fun i s => s.1 = nI i ∧ (∀ t, t < i → s.2 66 t = nI (heatS h t)) ∧ (∀ c, c ≠ 66 → s.2 c = mem c)) _ (hsN h) ?_ ?_ 2000 0 _ (Nat.zero_le _) (by omega) ⟨rfl, fun t ht => absurd ht (Nat.not_lt_zero t), fun _ _ => rfl⟩
  · intro i s hi hI
    obtain ⟨i1, i2, i3⟩ := hI
    have H' : Hr (s.2 62) h := by rw [i3 62 (by decide)]; exact H
    refine Or.inl ⟨(nI (i + 1), zst s.2 66 i (nI (heatS h i))), ?_, rfl, fun t ht => ?_, fun c hc => ?_⟩
    · show fX7_oneHour_b14 y s.1 s.2 = _
      unfold fX7_oneHour_b14
      rw [i1]
      simp (disch := omega) only [l0, e_gz, e_cl, H'.1, if_neg (nI_le_f hn hi), m_heatOf H' ok hi, e_bd, e_let, nI_1]
    · show zst s.2 66 i (nI (heatS h i)) 66 t = _
      rw [e_sta, if_pos rfl]
      by_cases e : t = i
      · rw [if_pos e, e]
      · rw [if_neg e]; exact i2 t (by omega)
    · show zst s.2 66 i (nI (heatS h i)) c = _
      rw [e_stn hc]; exact i3 c hc
  · intro s hI
    obtain ⟨i1, i2, i3⟩ := hI
    refine ⟨s, ?_, i2, i3⟩
    have H' : Hr (s.2 62) h := by rw [i3 62 (by decide)]; exact H
    show fX7_oneHour_b14 y s.1 s.2 = _
    unfold fX7_oneHour_b14
    rw [i1]
    simp (disch := omega) only [l0, e_gz, e_cl, H'.1]
    rw [if_pos (by rw [e_le0 (by omega) (by omega)]; exact Nat.le_refl _), ← i1]
theorem e_mx2 {a c : Nat} (ha : a < 1000) (hc : c < 1000) : (if nI a ≤ nI c then (0 : Int32) else nI a - nI c) = nI (a - c) := by
  simp only [e_le0 (show a < 2147483648 by omega) (show c < 2147483648 by omega)]
  by_cases h1 : a ≤ c
  · rw [if_pos h1, show a - c = 0 by omega]; rfl
  · rw [if_neg h1, pk_sub (by omega)]
/-- the end of a thing's hour -/
theorem m_wetter {g : HS} (H : Hr (mem 62) g) (hg : hsN g ≤ 8) (ht : t < hsN g) (hw : hsW g t ≤ 20) {q : Nat} (hq : q ≤ 7) (hh : mem 66 t = nI q) (y : Int32) : fX7_oneHour_j222 y (nI t) mem = some (Sum.inl (nI (t + 1), zst mem 62 (22 + t) (nI (hsW g t - q)))) := by
  have e := e_mx2 (a := hsW g t) (c := q) (by omega) (by omega)
  unfold fX7_oneHour_j222 fX7_oneHour_j268
  simp (disch := omega) only [l22, nI_add, e_gz, e_cl, (H.2.1 t ht).2.2.1, hh, e_let, nI_1]
  by_cases hc : nI (hsW g t) ≤ nI q
  · rw [if_pos hc] at e ⊢; rw [e]
  · rw [if_neg hc] at e ⊢; rw [e]
def mixM (i : Nat) (h : HS) : HS := setM (mixS i h) (hsM h)
theorem mixM_next {h g : HS} {i : Nat} (ok : okH h) (hi : i < hsN h) (e0 : hsN g = hsN h) (eK : hsK g = hsK h) (eP : hsP g = hsP h) (eO : hsO g = hsO h) (eV : hsV g = hsV h)
    (eS : ∀ t, t < hsN h → hsS g t = if t = i then nS h i else hsS (mixS i h) t) (eW : ∀ t, t < hsN h → hsW g t = if t = i then nW h i else hsW (mixS i h) t)
    (eL1 : hsL g < 2 ^ hsN h) (eL : ∀ t, t < hsN h → (hsL g).testBit t = if t = i then nL h i else (hsL (mixS i h)).testBit t) (eM : hsM g = hsM h) : eqH g (mixM (i + 1) h) := by
  have := mix_next (g := setM g (min 99999 (hsM h + smS h (i + 1)))) ok hi e0 eK eP eO eV eS eW eL1 eL rfl
  exact ⟨this.1, this.2.1, this.2.2.1, this.2.2.2.1, this.2.2.2.2.1, eM⟩
theorem mixM_ok (ok : okH h) (i : Nat) : okH (mixM i h) := by
  have o := mix_ok ok i
  exact ⟨o.1, o.2.1, o.2.2.1, o.2.2.2.1, o.2.2.2.2.1, o.2.2.2.2.2.1, ok.2.2.2.2.2.2.1, o.2.2.2.2.2.2.2⟩
theorem m_hourStep (ok : okH h) {i : Nat} (hi : i < hsN h) (H : Hr (mem 62) (mixM i h)) (hh : ∀ t, t < hsN h → mem 66 t = nI (heatS h t)) (hs : mem 58 17 = nI (smS h i)) :
    ∃ mem', fX7_oneHour_b43 (nI (hsL h)) (nI i) mem = some (Sum.inl (nI (i + 1), mem')) ∧ Hr (mem' 62) (mixM (i + 1) h) ∧ mem' 66 = mem 66 ∧ mem' 58 17 = nI (smS h (i + 1)) ∧ mem' 62 1 = mem 62 1 ∧ FrO mem mem' := by
  have okm := mixM_ok ok i
  have hn := ok.1
  have h8 := ok.t8 hi
  have him : i < hsN (mixM i h) := hi
  obtain ⟨hk, hsb, hwb0, hp⟩ := ok.2.1 i hi
  have hwb := (okm.2.1 i him).2.2.1
  have hwi : hsW (mixM i h) i = hsW h i := by show (if i < i then _ else _) = _; rw [if_neg (Nat.lt_irrefl i)]
  have hsi : hsS (mixM i h) i = hsS h i := by show (if i < i then _ else _) = _; rw [if_neg (Nat.lt_irrefl i)]
  have hsm := smS_le h i
  have hsk := smokes_le (hsK h i)
  have hbk := burns_le (hsK h i)
  have hq7 := heatS_le h i
  have hold : (hsL (mixM i h)).testBit i = (hsL h).testBit i := by
    show (hsL (mixS i h)).testBit i = _
    rw [mix_Lb hi, if_neg (Nat.lt_irrefl i)]
  obtain ⟨a1, a2, a3, a4⟩ := H.2.1 i him
  have a1' : mem 62 (6 + i) = nI (hsK h i) := a1
  rw [hsi] at a2
  rw [hwi] at a3
  unfold fX7_oneHour_b43
  simp (disch := omega) only [l0, l6, l14, l22, l4, nI_add, e_gz, e_cl, H.1, if_neg (nI_le_f (n := hsN (mixM i h)) hn him), a1', a2, a3, H.2.2.1, e_let, m_has ok.L h8, e_bd, m_burns _ (show hsK h i < 6 by omega), hh i hi]
  simp only [show nI 0 = (0 : Int32) from rfl, bI_0]
  cases hL : (hsL h).testBit i
  · rw [if_pos rfl]
    have hsm1 : smS h (i + 1) = smS h i := by
      show smS h i + (if (hsL h).testBit i = true then smokesN (hsK h i) else 0) = smS h i
      rw [hL, if_neg (by decide), Nat.add_zero]
    have hnl : nL h i = (decide (2 ≤ heatS h i) && mlS h i) := by unfold nL; rw [hL, if_neg (by decide)]
    have fin : ∀ (m1 : ZM) (g : HS), Hr (m1 62) g → m1 66 = mem 66 → m1 58 17 = mem 58 17 → m1 62 1 = mem 62 1 → FrO mem m1 → hsN g = hsN h → hsK g = hsK h → hsP g = hsP h → hsO g = hsO h → hsV g = hsV h → hsS g = hsS (mixS i h) → hsW g = hsW (mixS i h) → hsM g = hsM h → hsL g < 2 ^ hsN h →
        (∀ t, t < hsN h → (hsL g).testBit t = if t = i then nL h i else (hsL (mixS i h)).testBit t) → ∃ mem', fX7_oneHour_j222 (nI (hsL h)) (nI i) m1 = some (Sum.inl (nI (i + 1), mem')) ∧ Hr (mem' 62) (mixM (i + 1) h) ∧ mem' 66 = mem 66 ∧ mem' 58 17 = nI (smS h (i + 1)) ∧ mem' 62 1 = mem 62 1 ∧ FrO mem mem' := by
      intro m1 g H1 n66 n58 n1 F1 eN eK eP eO eV eS eW eM eL1 eL
      rw [m_wetter (q := heatS h i) H1 (by rw [eN]; exact hn) (by rw [eN]; exact hi) (by rw [eW]; exact hwb) hq7 (by rw [n66]; exact hh i hi)]
      refine ⟨_, rfl, ?_, by rw [e_stn (by decide), n66], by rw [e_stn (by decide), n58, hs, hsm1], by rw [e_stk (by omega), n1], F1.tr (FrO.s62 _ _ _)⟩
      rw [e_row]
      refine (H1.stW (by rw [eN]; exact hn) h8).ext (mixM_next ok hi eN eK eP eO eV (fun t ht => ?_) (fun t ht => ?_) eL1 eL eM)
      · show hsS g t = _
        rw [eS]
        by_cases hti : t = i
        · subst hti; rw [if_pos rfl, show hsS (mixS t h) t = hsS h t from hsi]; unfold nS; rw [hL, if_neg (by decide)]
        · rw [if_neg hti]
      · show (if t = i then hsW g i - heatS h i else hsW g t) = _
        rw [eW, show hsW (mixS i h) i = hsW h i from hwi]
        rfl
    have same : nL h i = false → ∃ mem', fX7_oneHour_j222 (nI (hsL h)) (nI i) mem = some (Sum.inl (nI (i + 1), mem')) ∧ Hr (mem' 62) (mixM (i + 1) h) ∧ mem' 66 = mem 66 ∧ mem' 58 17 = nI (smS h (i + 1)) ∧ mem' 62 1 = mem 62 1 ∧ FrO mem mem' := by
      intro hf
      refine fin mem _ H rfl rfl rfl (FrO.rf _) rfl rfl rfl rfl rfl rfl rfl rfl okm.2.2.2.1 (fun t ht => ?_)
      by_cases hti : t = i
      · subst hti; rw [if_pos rfl, hold, hf, hL]
      · rw [if_neg hti]; rfl
    -- the reference's own question
    have hout : (hsO h).testBit i = true → heatS h i = 0 := fun ho => by unfold heatS; rw [if_pos ho]
    simp (disch := omega) only [l0, l1, e_le0, e_eq0]
    by_cases c1 : burnsN (hsK h i) ≤ 0
    · rw [if_pos c1]
      refine same ?_
      rw [hnl]
      have : ¬ hsK h i ≤ 3 := by
        intro h3
        have : burnsN (hsK h i) ≠ 0 := by
          have h4 : ∀ k, k < 4 → 1 ≤ k → burnsN k ≠ 0 := by decide
          exact h4 _ (by omega) hk.1
        omega
      unfold mlS cbS
      simp [this]
    · rw [if_neg c1]
      have k3 : hsK h i ≤ 3 := by
        have h4 : ∀ k, k < 6 → ¬ burnsN k ≤ 0 → k ≤ 3 := by decide
        exact h4 _ (by omega) c1
      by_cases c2 : hsS h i ≤ 0
      · rw [if_pos c2]
        refine same ?_
        rw [hnl]; unfold mlS cbS
        have : hsS h i = 0 := by omega
        simp [this]
      · rw [if_neg c2]
        by_cases c3 : hsW h i = 0
        · rw [if_pos c3]
          by_cases c4 : heatS h i ≤ 1
          · rw [if_pos c4]
            refine same ?_
            rw [hnl, decide_eq_false (by omega), Bool.false_and]
          · rw [if_neg c4]
            have ho : (hsO h).testBit i = false := by
              cases ho : (hsO h).testBit i
              · rfl
              · have := hout ho; omega
            have hm : mlS h i = true := by
              unfold mlS cbS
              have : hsS h i ≠ 0 := by omega
              simp [k3, this, ho, c3, hL]
            rw [show nI 1 = (1 : Int32) from rfl, e_set _ okm.L i h8]
            refine fin _ (setL (mixM i h) (hsL (mixM i h) ||| 2 ^ i)) (by rw [e_row]; exact H.stL) (by rw [e_stn (by decide)]) (by rw [e_stn (by decide)]) (by rw [e_stk (by decide)]) (FrO.s62 _ _ _) rfl rfl rfl rfl rfl rfl rfl rfl (set_lt okm.2.2.2.1 hi) (fun t ht => ?_)
            show (hsL (mixM i h) ||| 2 ^ i).testBit t = _
            rw [tb_set]
            by_cases hti : t = i
            · subst hti; rw [if_pos rfl, hnl, hm, decide_eq_true (show 2 ≤ heatS h t by omega)]; simp
            · rw [if_neg hti, decide_eq_false hti, Bool.or_false]; rfl
        · rw [if_neg c3]
          refine same ?_
          rw [hnl]; unfold mlS
          simp [c3]
  · rw [if_neg (by decide)]
    have hsm1 : smS h (i + 1) = smS h i + smokesN (hsK h i) := by
      show smS h i + (if (hsL h).testBit i = true then smokesN (hsK h i) else 0) = _
      rw [hL, if_pos rfl]
    have go : ∀ x : Int32, x = nI (hsS h i - burnsN (hsK h i)) → ∃ mem', fX7_oneHour_j113 (nI (hsL h)) (nI i) (nI (hsK h i)) x (nI (14 + i)) mem = some (Sum.inl (nI (i + 1), mem')) ∧ Hr (mem' 62) (mixM (i + 1) h) ∧ mem' 66 = mem 66 ∧ mem' 58 17 = nI (smS h (i + 1)) ∧ mem' 62 1 = mem 62 1 ∧ FrO mem mem' := by
      intro x hx
      subst hx
      unfold fX7_oneHour_j113
      simp (disch := omega) only [l14, l4, nI_add, e_gz, e_cl, e_let]
      generalize hm : zst mem 62 (14 + i) (nI (hsS h i - burnsN (hsK h i))) = m1
      have H1 : Hr (m1 62) (setS (mixM i h) i (hsS h i - burnsN (hsK h i))) := by rw [← hm, e_row]; exact H.stS hn h8
      have F1 : FrO mem m1 := by rw [← hm]; exact FrO.s62 _ _ _
      have r66 : m1 66 = mem 66 := by rw [← hm]; exact e_stn (by decide)
      have r58 : m1 58 17 = nI (smS h i) := by rw [← hm, e_stn (by decide)]; exact hs
      have r1 : m1 62 1 = mem 62 1 := by rw [← hm]; exact e_stk (by omega)
      have rS : m1 62 (14 + i) = nI (hsS h i - burnsN (hsK h i)) := by rw [← hm, e_st]
      have rL : m1 62 4 = nI (hsL (mixM i h)) := H1.2.2.1
      have hns : nS h i = hsS h i - burnsN (hsK h i) := by unfold nS; rw [hL, if_pos rfl]
      have hnl : nL h i = decide (hsS h i - burnsN (hsK h i) ≠ 0) := by unfold nL; rw [hL, if_pos rfl, hns]
      have fin : ∀ v, v < 2 ^ hsN h → (∀ t, t < hsN h → v.testBit t = if t = i then nL h i else (hsL (mixS i h)).testBit t) → ∃ mem', fX7_oneHour_j152 (nI (hsL h)) (nI i) (nI (hsK h i)) (nI v) (nI 4) m1 = some (Sum.inl (nI (i + 1), mem')) ∧ Hr (mem' 62) (mixM (i + 1) h) ∧ mem' 66 = mem 66 ∧ mem' 58 17 = nI (smS h (i + 1)) ∧ mem' 62 1 = mem 62 1 ∧ FrO mem mem' := by
        intro v hv hvb
        unfold fX7_oneHour_j152
        simp (disch := omega) only [e_gz, e_cl, e_let, m_smokes _ (show hsK h i < 6 by omega), e_bd]
        have H2 : Hr ((zst m1 62 4 (nI v)) 62) (setL (setS (mixM i h) i (hsS h i - burnsN (hsK h i))) v) := by rw [e_row]; exact H1.stL
        have F2 : FrO mem (zst m1 62 4 (nI v)) := F1.tr (FrO.s62 _ _ _)
        have q66 : (zst m1 62 4 (nI v)) 66 = mem 66 := by rw [e_stn (by decide), r66]
        have q58 : (zst m1 62 4 (nI v)) 58 17 = nI (smS h i) := by rw [e_stn (by decide), r58]
        have q1 : (zst m1 62 4 (nI v)) 62 1 = mem 62 1 := by rw [e_stk (by decide), r1]
        generalize zst m1 62 4 (nI v) = m2 at H2 F2 q66 q58 q1 ⊢
        rw [q58, nI_add]
        have H3 : Hr ((zst m2 58 17 (nI (smS h i + smokesN (hsK h i)))) 62) (setL (setS (mixM i h) i (hsS h i - burnsN (hsK h i))) v) := by rw [e_stn (by decide)]; exact H2
        have F3 : FrO mem (zst m2 58 17 (nI (smS h i + smokesN (hsK h i)))) := F2.tr (FrO.s58 _ _)
        have p66 : (zst m2 58 17 (nI (smS h i + smokesN (hsK h i)))) 66 = mem 66 := by rw [e_stn (by decide), q66]
        have p58 : (zst m2 58 17 (nI (smS h i + smokesN (hsK h i)))) 58 17 = nI (smS h (i + 1)) := by rw [e_st, hsm1]
        have p1 : (zst m2 58 17 (nI (smS h i + smokesN (hsK h i)))) 62 1 = mem 62 1 := by rw [e_stn (by decide), q1]
        generalize zst m2 58 17 (nI (smS h i + smokesN (hsK h i))) = m3 at H3 F3 p66 p58 p1 ⊢
        rw [m_wetter (q := heatS h i) H3 hn hi hwb hq7 (by rw [p66]; exact hh i hi)]
        refine ⟨_, rfl, ?_, by rw [e_stn (by decide), p66], by rw [e_stn (by decide), p58], by rw [e_stk (by omega), p1], F3.tr (FrO.s62 _ _ _)⟩
        rw [e_row]
        refine (H3.stW hn h8).ext (mixM_next ok hi rfl rfl rfl rfl rfl (fun t ht => ?_) (fun t ht => ?_) hv hvb rfl)
        · show (if t = i then hsS h i - burnsN (hsK h i) else hsS (mixS i h) t) = _
          rw [hns]
        · show (if t = i then hsW (mixM i h) i - heatS h i else hsW (mixS i h) t) = _
          rw [hwi]
          rfl
      rw [rS, rL, e_clr _ okm.L i h8, l0]
      simp only [e_eq0 (show hsS h i - burnsN (hsK h i) < 2147483648 by omega) (show 0 < 2147483648 by decide)]
      by_cases hz : hsS h i - burnsN (hsK h i) = 0
      · rw [if_pos hz]
        refine fin _ (clr_lt _ okm.2.2.2.1) (fun t ht => ?_)
        rw [tb_clr _ okm.L i h8 t (by omega)]
        by_cases hti : t = i
        · subst hti; rw [if_pos rfl, hnl]; simp [hz]
        · rw [if_neg hti, decide_eq_false hti]; simp; rfl
      · rw [if_neg hz]
        refine fin _ okm.2.2.2.1 (fun t ht => ?_)
        by_cases hti : t = i
        · subst hti; rw [if_pos rfl, hold, hL, hnl]; simp [hz]
        · rw [if_neg hti]; rfl
    have e := e_mx2 (a := hsS h i) (c := burnsN (hsK h i)) (by omega) (by omega)
    by_cases hc : nI (hsS h i) ≤ nI (burnsN (hsK h i))
    · rw [if_pos hc] at e ⊢
      exact go _ e
    · rw [if_neg hc] at e ⊢
      exact go _ e
theorem m_oneHour (H : Hr (mem 62) h) (ok : okH h) : ∃ mem', fX7_oneHour mem = some mem' ∧ Hr (mem' 62) (hourS h) ∧ mem' 58 17 = nI (smS h (hsN h)) ∧ mem' 62 1 = mem 62 1 + 1 ∧ FrO mem mem' := by
  have hn := ok.1
  have hM := ok.2.2.2.2.2.2.1
  have hsm := smS_le h (hsN h)
  unfold fX7_oneHour
  simp (disch := omega) only [l4, l3, l0, e_gz, e_cl, e_let, H.2.2.1]
  have H0 : Hr ((zst mem 58 17 (nI 0)) 62) h := by rw [e_stn (by decide)]; exact H
  have F0' : FrO mem (zst mem 58 17 (nI 0)) := FrO.s58 _ _
  have z17 : (zst mem 58 17 (nI 0)) 58 17 = nI 0 := by rw [e_st]
  have z1 : (zst mem 58 17 (nI 0)) 62 1 = mem 62 1 := by rw [e_stn (by decide)]
  generalize zst mem 58 17 (nI 0) = m0 at H0 F0' z17 z1 ⊢
  obtain ⟨r, e1, g1, g2⟩ := m_heats H0 ok (nI (hsL h))
  rw [e1, e_bd]
  have key : ∃ r', fX7_oneHour_l43 (nI (hsL h)) (nI 0, r.2) = some r' ∧ (Hr (r'.2 62) (mixM (hsN h) h) ∧ r'.2 58 17 = nI (smS h (hsN h)) ∧ r'.2 62 1 = mem 62 1 ∧ FrO mem r'.2) := by
    unfold fX7_oneHour_l43
    refine zi_inv (fun i s => s.1 = nI i ∧ Hr (s.2 62) (mixM i h) ∧ s.2 66 = r.2 66 ∧ s.2 58 17 = nI (smS h i) ∧ s.2 62 1 = mem 62 1 ∧ FrO mem s.2) _ (hsN h) ?_ ?_ 2000 0 _ (Nat.zero_le _) (by omega) ?_
    · intro i s hi hI
      obtain ⟨i1, i2, i3, i4, i5, i6⟩ := hI
      obtain ⟨m', e, h1, h2, h3, h4, h5⟩ := m_hourStep ok hi i2 (fun t ht => by rw [i3]; exact g1 t ht) i4
      exact Or.inl ⟨(nI (i + 1), m'), by rw [i1]; exact e, rfl, h1, h2.trans i3, h3, h4.trans i5, i6.tr h5⟩
    · intro s hI
      obtain ⟨i1, i2, i3, i4, i5, i6⟩ := hI
      refine ⟨s, ?_, i2, i4, i5, i6⟩
      show fX7_oneHour_b43 (nI (hsL h)) s.1 s.2 = _
      unfold fX7_oneHour_b43
      rw [i1]
      simp (disch := omega) only [l0, e_gz, e_cl, i2.1]
      rw [if_pos (by show nI (hsN h) ≤ nI (hsN h); rw [e_le0 (by omega) (by omega)]; exact Nat.le_refl _), ← i1]
    · refine ⟨rfl, ?_, rfl, ?_, ?_, ?_⟩
      · show Hr (r.2 62) _
        rw [g2 62 (by decide)]
        have e := mix_0 ok
        exact H0.ext ⟨e.1, e.2.1, e.2.2.1, e.2.2.2.1, e.2.2.2.2.1, rfl⟩
      · show r.2 58 17 = _
        rw [g2 58 (by decide), z17]; rfl
      · show r.2 62 1 = _
        rw [g2 62 (by decide), z1]
      · refine F0'.tr ⟨fun c h1 h2 h3 => g2 c h3, fun k hk => ?_⟩
        show r.2 58 k = _
        rw [g2 58 (by decide)]
  obtain ⟨r', e2, k1, k2, k3, k4⟩ := key
  rw [e2, e_bd]
  have kM : r'.2 62 3 = nI (hsM h) := k1.2.2.2.2.2
  rw [kM, k2, nI_add]
  have fin : ∀ v : Int32, v = nI (min 99999 (hsM h + smS h (hsN h))) → ∃ mem', fX7_oneHour_j312 v (nI 3) r'.2 = some mem' ∧ Hr (mem' 62) (hourS h) ∧ mem' 58 17 = nI (smS h (hsN h)) ∧ mem' 62 1 = mem 62 1 + 1 ∧ FrO mem mem' := by
    intro v hv
    subst hv
    unfold fX7_oneHour_j312
    have t1 : (1 : Int32).toNatClampNeg = 1 := by decide
    have z1' : zin (1 : Int32) 38 = true := by decide
    simp (disch := omega) only [e_gz, e_cl, e_let, t1, e_gd' z1']
    refine ⟨_, rfl, ?_, ?_, ?_, ?_⟩
    · rw [e_row, e_row]
      exact (k1.stM (v := min 99999 (hsM h + smS h (hsN h)))).st1
    · rw [e_stn (by decide), e_stn (by decide), k2]
    · rw [e_st, e_stk (by decide), k3]
    · exact k4.tr ((FrO.s62 _ _ _).tr (FrO.s62 _ _ _))
  rw [show (99999 : Int32) = nI 99999 from rfl]
  simp only [e_le0 (show hsM h + smS h (hsN h) < 2147483648 by omega) (show 99999 < 2147483648 by decide)]
  by_cases hc : hsM h + smS h (hsN h) ≤ 99999
  · rw [if_pos hc]
    exact fin _ (by congr 1; omega)
  · rw [if_neg hc]
    exact fin _ (by congr 1; omega)
end MH
