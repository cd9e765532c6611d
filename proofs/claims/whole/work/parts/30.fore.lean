/-! foretold: what the class and the reference answer is the same -/
def RH (mem : ZM) (h : HS) : Prop := okH h ∧ Hc mem 17 h ∧ Hr (mem 62) h ∧ mem 58 4 = bI (decide (hsN h ≠ 0))
def Op (F G : ZM → Option (Int32 × ZM)) (mem : ZM) (Post : ZM → Prop) : Prop := ∃ r m1 m2, F mem = some (r, m1) ∧ G m1 = some (r, m2) ∧ Post m2
theorem ti0 : Int32.toInt 0 = 0 := rfl
theorem ti1 : Int32.toInt 1 = 1 := rfl
theorem ti20 : Int32.toInt 20 = 20 := rfl
theorem ti24 : Int32.toInt 24 = 24 := rfl
theorem ti30 : Int32.toInt 30 = 30 := rfl
theorem ti60 : Int32.toInt 60 = 60 := rfl
theorem tj0 : Int64.toInt 0 = 0 := rfl
theorem tj1 : Int64.toInt 1 = 1 := rfl
theorem tj20 : Int64.toInt 20 = 20 := rfl
theorem tj24 : Int64.toInt 24 = 24 := rfl
theorem tj30 : Int64.toInt 30 = 30 := rfl
theorem tj60 : Int64.toInt 60 = 60 := rfl
theorem RH.keep {mem m : ZM} {h : HS} (R : RH mem h) (k : Keep mem m) : RH m h :=
  ⟨R.1, R.2.1.kept (fun j _ => by rw [k.1 17 (by omega)]) (fun c h1 h2 => k.1 c (by omega)), k.Hr R.1.1 R.2.2.1, by rw [k.2.1 4 (by decide)]; exact R.2.2.2⟩
theorem either {x : Int32} (h : wit x 0 1 = true) : x = 0 ∨ x = 1 := by
  obtain ⟨j, rfl, h1, h2⟩ := wit_of (x := x) (a := 0) (b := 1) (by decide) h
  have : j = 0 ∨ j = 1 := by omega
  rcases this with rfl | rfl
  · exact Or.inl rfl
  · exact Or.inr rfl
section FO
variable {mem : ZM} {h : HS}
theorem m_asideHr (H : Hr (mem 62) h) : ∃ m', fX7_putAside mem = some m' ∧ Asd mem m' ∧ Hr (m' 62) h := by
  obtain ⟨m', e, h1, h2⟩ := m_aside mem
  exact ⟨m', e, h1, by rw [h2]; exact H⟩
theorem o_ahead (R : RH mem h) (a1 a2 a3 : Int32) : Op (fX6_ahead a1 a2 a3) (fX7_ahead a1 a2 a3) mem (Keep mem) := by
  obtain ⟨ok, H, Hm, -⟩ := R
  have hn := ok.1
  cases z1 : zin a1 (hsN h)
  · exact ⟨-1000001, mem, mem, by simp [fX6_ahead, c_hasThing H ok, z1, bI], by simp [fX7_ahead, m_isThing Hm hn, z1, bI], Keep.rf _⟩
  cases z2 : wit a2 0 60
  · exact ⟨-1000001, mem, mem, by simp [fX6_ahead, c_hasThing H ok, z1, bI, c_isWithin, ti0, ti60, z2], by simp [fX7_ahead, m_isThing Hm hn, z1, bI, m_in, tj0, tj60, z2], Keep.rf _⟩
  cases z3 : wit a3 0 1
  · exact ⟨-1000001, mem, mem, by simp [fX6_ahead, c_hasThing H ok, z1, bI, c_isWithin, ti0, ti60, z2, c_isEither, z3], by simp [fX7_ahead, m_isThing Hm hn, z1, bI, m_in, tj0, tj60, z2, m_isWhat, z3], Keep.rf _⟩
  obtain ⟨t, rfl, ht⟩ := zin_of (by omega) z1
  obtain ⟨k, rfl, -, hk⟩ := wit_of (b := 60) (a := 0) (by decide) z2
  have h8 := ok.t8 ht
  obtain ⟨m1, e1, h1, f1⟩ := c_hoursOn H ok (k := k) (by omega)
  have Hm1 : Hr (m1 62) h := (Keep.fr f1).Hr hn Hm
  obtain ⟨m2, e2, A2, H2⟩ := m_asideHr Hm1
  obtain ⟨m3, e3, H3, F3⟩ := m_goOn H2 ok (k := k) (by omega)
  obtain ⟨m4, e4, -, K4⟩ := m_back (A2.o F3)
  have htN : t < hsN (hoursS k h) := by rw [hours_N]; exact ht
  have hc := h1.2.1 t htN
  have hr := H3.2.1 t htN
  refine ⟨if a3 = 0 then nI (hsS (hoursS k h) t) else nI (hsW (hoursS k h) t), m1, m4, ?_, ?_, (Keep.fr f1).tr K4⟩
  · unfold fX6_ahead
    simp (disch := omega) only [c_hasThing H ok, z1, c_isWithin, ti0, ti60, z2, c_isEither, z3, e_bd, bI_0, Bool.true_eq_false, if_false, e1, e_gz, e_cl]
    rw [show (37 + 2) = 37 + 2 from rfl, hc.2.1, hc.2.2.1]
    by_cases h0 : a3 = 0
    · rw [if_pos h0, if_pos h0]
    · rw [if_neg h0, if_neg h0]
  · unfold fX7_ahead fX7_ahead_j64
    simp (disch := omega) only [m_isThing Hm1 hn, z1, m_in, tj0, tj60, z2, m_isWhat, z3, e_bd, bI_0, Bool.true_eq_false, if_false, e2, e3, l14, l22, nI_add, e_gz, e_cl, e_let, e4]
    rw [hr.2.1, hr.2.2.1]
    by_cases h0 : a3 = 0
    · rw [if_pos h0, if_pos h0]
    · rw [if_neg h0, if_neg h0]
end FO
