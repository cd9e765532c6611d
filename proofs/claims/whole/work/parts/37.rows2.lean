theorem sgn24 (x : Int32) : (x <<< ((24 : Int32) &&& 31)) >>> ((24 : Int32) &&& 31) = x.toInt8.toInt32 := by
  apply Int32.toBitVec_inj.mp
  rw [show ((24 : Int32) &&& 31) = 24 from by decide]
  rw [Int32.toBitVec_shiftRight, Int32.toBitVec_shiftLeft]
  rw [show (Int32.toBitVec 24).smod 32 = 24#32 from by decide]
  rw [Int8.toBitVec_toInt32, Int32.toBitVec_toInt8]
  apply BitVec.eq_of_getLsbD_eq
  intro i hi
  simp [BitVec.getLsbD_sshiftRight, BitVec.getLsbD_signExtend, BitVec.getLsbD_setWidth, BitVec.msb_eq_getLsbD_last]
  by_cases h : i < 8
  · simp [h, hi, show 24 + i < 32 by omega, show ¬ 32 ≤ i by omega, show ¬ 24 + i < 24 by omega]
  · simp [h, hi, show ¬ 24 + i < 32 by omega, show ¬ 32 ≤ i by omega, BitVec.getElem_signExtend]
theorem sgn16 (x : Int32) : (x <<< ((16 : Int32) &&& 31)) >>> ((16 : Int32) &&& 31) = x.toInt16.toInt32 := by
  apply Int32.toBitVec_inj.mp
  rw [show ((16 : Int32) &&& 31) = 16 from by decide]
  rw [Int32.toBitVec_shiftRight, Int32.toBitVec_shiftLeft]
  rw [show (Int32.toBitVec 16).smod 32 = 16#32 from by decide]
  rw [Int16.toBitVec_toInt32, Int32.toBitVec_toInt16]
  apply BitVec.eq_of_getLsbD_eq
  intro i hi
  simp [BitVec.getLsbD_sshiftRight, BitVec.getLsbD_signExtend, BitVec.getLsbD_setWidth, BitVec.msb_eq_getLsbD_last]
  by_cases h : i < 16
  · simp [h, hi, show 16 + i < 32 by omega, show ¬ 32 ≤ i by omega, show ¬ 16 + i < 16 by omega]
  · simp [h, hi, show ¬ 16 + i < 32 by omega, show ¬ 32 ≤ i by omega, BitVec.getElem_signExtend]
def hld (a b : Int32) (n : Nat) : Bool := decide (0 ≤ a.toInt) && decide (0 ≤ b.toInt) && decide (a.toInt + b.toInt ≤ n)
section R2
variable {mem : ZM}
theorem c_holds {b n : Nat} (hs : mem b 1 = nI n) (hn : n ≤ 40) (x y : Int32) : fX4_holds b x y mem = some (bI (hld x y n)) := by
  unfold fX4_holds hld
  rw [hs]
  simp only [e_lt, nI_toInt (show n < 2 ^ 31 by omega)]
  rw [show (0 : Int32).toInt = 0 from rfl]
  by_cases h1 : x.toInt < 0
  · rw [if_pos h1, decide_eq_false (show ¬ 0 ≤ x.toInt by omega)]; rfl
  · rw [if_neg h1, decide_eq_true (show 0 ≤ x.toInt by omega)]
    by_cases h2 : y.toInt < 0
    · rw [if_pos h2, decide_eq_false (show ¬ 0 ≤ y.toInt by omega)]; rfl
    · rw [if_neg h2, decide_eq_true (show 0 ≤ y.toInt by omega)]
      by_cases h3 : (n : Int) < x.toInt
      · rw [if_pos h3, decide_eq_false (show ¬ x.toInt + y.toInt ≤ n by omega)]; rfl
      · rw [if_neg h3]
        have hx0 : ¬ x < 0 := by rw [e_lt]; exact h1
        obtain ⟨j, hj, rfl⟩ := nI_of hx0
        rw [nI_toInt hj] at h3 ⊢
        rw [pk_sub (by omega), nI_toInt (show n - j < 2 ^ 31 by omega)]
        by_cases h4 : ((n - j : Nat) : Int) < y.toInt
        · rw [if_pos h4, decide_eq_false (by omega)]; rfl
        · rw [if_neg h4, decide_eq_true (by omega)]; rfl
theorem hld_zin (x : Int32) {n : Nat} (hn : n ≤ 40) : hld x 1 n = zin x n := by
  rw [← zin_wit x (show n < 2147483648 by omega)]
  unfold hld wit
  rw [show (1 : Int32).toInt = 1 from rfl]
  simp only [show decide ((0 : Int) ≤ 1) = true from rfl, Bool.and_true]
  congr 1
  by_cases h : x.toInt + 1 ≤ n
  · rw [decide_eq_true h, decide_eq_true (by omega)]
  · rw [decide_eq_false h, decide_eq_false (by omega)]
theorem m_asLane {l : Nat} (hl : l ≤ 2) (v : Int32) : fX7_asLane (nI l) v = some (if l = 0 then v.toInt8.toInt32 else if l = 1 then v.toInt16.toInt32 else v) := by
  unfold fX7_asLane
  rw [sgn24, sgn16, l0, l1]
  simp (disch := omega) only [e_eq0]
  by_cases h0 : l = 0
  · rw [if_pos h0, if_pos h0]
  · rw [if_neg h0, if_neg h0]
    by_cases h1 : l = 1
    · rw [if_pos h1, if_pos h1]
    · rw [if_neg h1, if_neg h1]
theorem c_put {b l i : Nat} (hl : l ≤ 2) (hb : mem b 0 = nI l) (hi : i < 40) (v : Int32) : fX4_put b (nI i) v mem = some ((if l = 0 then v.toInt8.toInt32 else if l = 1 then v.toInt16.toInt32 else v), zst mem (b + 1) i (if l = 0 then v.toInt8.toInt32 else if l = 1 then v.toInt16.toInt32 else v)) := by
  unfold fX4_put fX4_put_j26
  rw [hb, l0, l1]
  simp (disch := omega) only [e_let, e_eq0, e_gz, e_cl]
  by_cases h0 : l = 0
  · simp only [if_pos h0]
  · simp only [if_neg h0]
    by_cases h1 : l = 1
    · simp only [if_pos h1]
    · simp only [if_neg h1]
theorem o_set (hR : RR mem) (hF : RF mem) (a1 a2 a3 : Int32) : Op (fX6_set a1 a2 a3) (fX7_set a1 a2 a3) mem (RP mem) := by
  cases z1 : zin a1 8
  · exact ⟨-1000001, mem, mem, by simp [fX6_set, c_isRow, z1, bI], by simp [fX7_set, m_isRow, z1, bI], RP.rf hR hF⟩
  obtain ⟨r, rfl, hr⟩ := zin_of (by decide) z1
  have hrw := hR r hr
  rcases hrw with ⟨b1, b2⟩ | ⟨l, n, b1, b2, b3, b4, b5, b6, b7⟩
  · refine ⟨-1000010 - 1, zst mem 0 8 1, zst (zst mem 0 8 1) 58 3 1, ?_, ?_, o_tell hR 1 rfl rfl⟩
    · unfold fX6_set fX6_found
      simp (disch := omega) only [c_isRow, z1, e_bd, bI_0, Bool.true_eq_false, if_false, e_gz, e_gd, e_cl, c_missing (Or.inl ⟨b1, b2⟩ : Rw1 mem r), b2, e_let, show decide ((-1 : Int32) < 0) = true from by decide]
    · unfold fX7_set fX7_find
      simp (disch := omega) only [m_isRow, z1, e_bd, bI_0, Bool.true_eq_false, if_false, e_gz, e_gd, e_cl, e_let]
      rw [e_stn (by decide), b2, if_neg (by decide)]
  · have hmis : fX4_isMissing (42 + 2 * r) mem = some (bI false) := by
      rw [c_missing (Or.inr ⟨l, n, b1, b2, b3, b4, b5, b6, b7⟩), b6, decide_eq_false (nI_n0 (by omega))]
    have hh : ∀ x, fX4_holds (42 + 2 * r) x 1 mem = some (bI (zin x n)) := fun x => by rw [c_holds b4 b2, hld_zin x b2]
    have hm : ∀ (m : ZM), m 60 r = nI n → ∀ x : Int32, fX7_in x.toInt64 0 (m 60 r - 1).toInt64 = some (bI (zin x n)) := by
      intro m e x
      rw [m_in, e, Int32.toInt_toInt64, tj0, ← zin_wit x (show n < 2147483648 by omega)]
      congr 3
      by_cases h0 : n = 0
      · rw [h0]; rfl
      · rw [nI_m1 (by omega), nI_toInt (by omega)]; omega
    cases z2 : zin a2 n
    · refine ⟨-1000010 - 2, zst mem 0 8 2, zst (zst mem 0 8 2) 58 3 2, ?_, ?_, o_tell hR 2 rfl rfl⟩
      · unfold fX6_set fX6_found
        simp (disch := omega) only [c_isRow, z1, e_bd, bI_0, Bool.true_eq_false, if_false, if_true, e_gz, e_gd, e_cl, hmis, hh, z2, e_let]
      · unfold fX7_set fX7_find
        have e6 : (zst mem 0 8 2) 60 r = nI n := by rw [e_stn (by decide)]; exact b6
        simp (disch := omega) only [m_isRow, z1, e_bd, bI_0, Bool.true_eq_false, if_false, e_gz, e_gd, e_cl, e_let, hm _ e6, z2]
        rw [e6, if_pos (nI_pos' (by omega)), if_pos trivial]
    · obtain ⟨i, rfl, hi⟩ := zin_of (by omega) z2
      generalize hv : (if l = 0 then a3.toInt8.toInt32 else if l = 1 then a3.toInt16.toInt32 else a3) = v
      refine ⟨v, zst (zst mem (42 + 2 * r + 1) i v) 0 8 0, zst (zst (zst (zst mem (42 + 2 * r + 1) i v) 0 8 0) 61 (40 * r + i) v) 58 3 0, ?_, ?_, ?_⟩
      · unfold fX6_set fX6_foundNothing
        simp (disch := omega) only [c_isRow, z1, e_bd, bI_0, Bool.true_eq_false, if_false, if_true, e_gz, e_gd, e_cl, hmis, hh, z2, e_let, c_put b1 b3 (show i < 40 by omega), hv]
      · unfold fX7_set fX7_well
        have e6 : (zst (zst mem (42 + 2 * r + 1) i v) 0 8 0) 60 r = nI n := by rw [e_stn (by decide), e_stn (by omega)]; exact b6
        have e5 : (zst (zst mem (42 + 2 * r + 1) i v) 0 8 0) 59 r = nI l := by rw [e_stn (by decide), e_stn (by omega)]; exact b5
        simp (disch := omega) only [m_isRow, z1, e_bd, bI_0, Bool.true_eq_false, if_false, e_gz, e_gd, e_cl, e_let, hm _ e6, z2, e_40, e5, m_asLane b1, hv]
        rw [e6, if_pos (nI_pos' (by omega)), e_st]
      · refine o_tell2 (m1 := zst mem (42 + 2 * r + 1) i v) 0 rfl rfl (by rw [e_stn (by decide)]) ?_ (fun c h1 h2 h3 => by rw [e_stn (by omega)]) (fun c h2 h3 => by rw [e_stn (by omega)]) (by rw [e_stn (by omega)]) (by rw [e_stn (by decide)])
        intro r' hr'
        by_cases hrr : r' = r
        · subst hrr
          refine Or.inr ⟨l, n, b1, b2, ?_, ?_, ?_, ?_, fun j hj => ?_⟩
          · rw [e_stn (by omega), e_stn (by omega), e_stn (by omega), e_stn (by omega)]; exact b3
          · rw [e_stn (by omega), e_stn (by omega), e_stn (by omega), e_stn (by omega)]; exact b4
          · rw [e_stn (by omega), e_stn (by omega), e_stn (by omega), e_stn (by omega)]; exact b5
          · rw [e_stn (by omega), e_stn (by omega), e_stn (by omega), e_stn (by omega)]; exact b6
          · rw [e_stn (by omega), e_stn (by omega), e_stn (by omega), e_stn (c := 58) (by omega)]
            by_cases hji : j = i
            · subst hji; rw [e_st, e_st]
            · rw [e_stk hji, e_stk (by omega), e_stn (by omega), e_stn (by omega)]; exact b7 j hj
        · refine (hR r' hr').same ?_ ?_ ?_ ?_ (fun j hj => ?_)
          · rw [e_stn (by omega), e_stn (by omega), e_stn (by omega), e_stn (by omega)]
          · rw [e_stn (by omega), e_stn (by omega), e_stn (by omega), e_stn (by omega)]
          · rw [e_stn (by omega), e_stn (by omega), e_stn (by omega), e_stn (by omega)]
          · rw [e_stn (by omega), e_stn (by omega), e_stn (by omega), e_stn (by omega)]
          · rw [e_stn (by omega), e_stk (by omega), e_stn (by omega), e_stn (by omega)]
end R2
