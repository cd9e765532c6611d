def KeepF (mem m : ZM) : Prop := (∀ c, c ≠ 0 → (c < 37 ∨ (41 < c ∧ c ≠ 58 ∧ c ≠ 62 ∧ c ≠ 66 ∧ c ≠ 68)) → m c = mem c) ∧ (∀ k, k ≠ 17 → k ≠ 3 → m 58 k = mem 58 k) ∧ (∀ k, k < 38 → m 62 k = mem 62 k)
section FF
variable {mem : ZM} {h : HS}
theorem KeepF.rf (mem : ZM) : KeepF mem mem := ⟨fun _ _ _ => rfl, fun _ _ _ => rfl, fun _ _ => rfl⟩
theorem o_tellF {m1 m2 m3 m4 : ZM} (v : Int32) (h1 : Keep mem m1) (h2 : m2 = zst m1 0 8 v) (h3 : Keep m2 m3) (h4 : m4 = zst m3 58 3 v) : RF m4 ∧ KeepF mem m4 := by
  subst h4; subst h2
  refine ⟨?_, fun c hc hd => ?_, fun k k1 k2 => ?_, fun k hk => ?_⟩
  · unfold RF
    rw [e_st, e_stn (by decide), h3.1 0 (by omega), e_st]
  · rw [e_stn (by omega), h3.1 c hd, e_stn hc, h1.1 c hd]
  · rw [e_stk k2, h3.2.1 k k1, e_stn (by decide), h1.2.1 k k1]
  · rw [e_stn (by decide), h3.2.2 k hk, e_stn (by decide), h1.2.2 k hk]
theorem hld_sub (x : Int32) {k n : Nat} (hk : k ≤ 12) (hn : n ≤ 40) : wit x 0 ((n : Int) - k) = hld x (nI k) n := by
  unfold wit hld
  rw [nI_toInt (show k < 2 ^ 31 by omega), decide_eq_true (show (0 : Int) ≤ (k : Int) by omega), Bool.and_true]
  congr 1
  by_cases h : x.toInt ≤ (n : Int) - k
  · rw [decide_eq_true h, decide_eq_true (by omega)]
  · rw [decide_eq_false h, decide_eq_false (by omega)]
theorem m_lacks {m : ZM} {r k : Nat} (hr : r < 8) (hk : k ≤ 12) (x : Int32) : (m 60 r = -1 → fX7_lacks (nI r) x (nI k) m = some (-1000010 - 1, zst m 58 3 1)) ∧ (∀ n, n ≤ 40 → m 60 r = nI n → fX7_lacks (nI r) x (nI k) m = if hld x (nI k) n = true then some (0, m) else some (-1000010 - 2, zst m 58 3 2)) := by
  refine ⟨fun e => ?_, fun n hn e => ?_⟩
  · unfold fX7_lacks fX7_find
    simp (disch := omega) only [e_gz, e_cl, e, e_let, e_bd]
    rw [if_neg (by decide)]
  · have hsub : (nI n - nI k).toInt = (n : Int) - k := pk_sub_toInt (by omega) (by omega)
    unfold fX7_lacks fX7_find
    simp (disch := omega) only [e_gz, e_cl, e, e_let, e_bd, m_in, Int32.toInt_toInt64, hsub, tj0, hld_sub x hk hn, bI_0]
    rw [if_pos (nI_pos' (by omega))]
    cases hld x (nI k) n <;> rfl
theorem o_fits (R : RH mem h) (hR : RR mem) (hF : RF mem) (a1 a2 a3 a4 a5 : Int32) : Op (fX6_fits a1 a2 a3 a4 a5) (fX7_fits a1 a2 a3 a4 a5) mem (fun m => RF m ∧ KeepF mem m) := by
  obtain ⟨ok, H, Hm, -⟩ := R
  have hn := ok.1
  have bad : ∀ x1 x2 x3 x4 x5 : Int32, fX7_fits_j41 x1 x2 x3 x4 x5 mem = some (-1000001, mem) := by
    intro x1 x2 x3 x4 x5
    unfold fX7_fits_j41 fX7_fits_j54
    rw [e_let, if_neg (by decide)]
  have i12 : Int32.toInt 12 = 12 := rfl
  have i3 : Int32.toInt 3 = 3 := rfl
  have j12 : Int64.toInt 12 = 12 := rfl
  have j3 : Int64.toInt 3 = 3 := rfl
  cases z1 : zin a1 (hsN h)
  · exact ⟨-1000001, mem, mem, by simp [fX6_fits, c_hasThing H ok, z1, bI], by simp [fX7_fits, m_isThing Hm hn, z1, bI, bad], hF, KeepF.rf _⟩
  cases z2 : zin a2 8
  · exact ⟨-1000001, mem, mem, by simp [fX6_fits, c_hasThing H ok, z1, bI, c_isRow, z2], by simp [fX7_fits, m_isThing Hm hn, z1, bI, bad, m_isRow, z2], hF, KeepF.rf _⟩
  cases z4 : wit a4 1 12
  · exact ⟨-1000001, mem, mem, by simp [fX6_fits, c_hasThing H ok, z1, bI, c_isRow, z2, c_isWithin, ti1, i12, z4], by simp [fX7_fits, m_isThing Hm hn, z1, bI, bad, m_isRow, z2, m_in, tj1, j12, z4], hF, KeepF.rf _⟩
  cases z5 : wit a5 0 3
  · exact ⟨-1000001, mem, mem, by simp [fX6_fits, c_hasThing H ok, z1, bI, c_isRow, z2, c_isWithin, ti1, i12, z4, ti0, i3, z5], by simp [fX7_fits, m_isThing Hm hn, z1, bI, bad, m_isRow, z2, m_in, tj1, j12, z4, tj0, j3, z5], hF, KeepF.rf _⟩
  obtain ⟨t, rfl, ht⟩ := zin_of (by omega) z1
  obtain ⟨r, rfl, hr⟩ := zin_of (by decide) z2
  obtain ⟨k, rfl, hk1, hk2⟩ := wit_of (a := 1) (b := 12) (by decide) z4
  obtain ⟨w, rfl, -, hw3⟩ := wit_of (a := 0) (b := 3) (by decide) z5
  have hw : w < 4 := by omega
  have h8 := ok.t8 ht
  -- the class up to the row
  have hcls : fX6_fits (nI t) (nI r) a3 (nI k) (nI w) mem = Option.bind (fX4_isMissing (42 + 2 * r) mem) (fun r6 => if r6 = 0 then (Option.bind (fX4_holds (42 + 2 * r) a3 (nI k) mem) (fun r8 => if r8 = 0 then (Option.bind (fX6_found (2 : Int32) mem) (fun r12 => some (r12.1, r12.2))) else (Option.bind (fX2_whatFits 17 (42 + 2 * r) (nI t) a3 (nI k) (nI w) mem) (fun r10 => Option.bind (fX6_foundNothing r10.1 r10.2) (fun r11 => some (r11.1, r11.2)))))) else (Option.bind (fX6_found (1 : Int32) mem) (fun r13 => some (r13.1, r13.2)))) := by
    unfold fX6_fits
    simp (disch := omega) only [c_hasThing H ok, z1, c_isRow, z2, c_isWithin, ti1, i12, z4, ti0, i3, z5, e_bd, bI_0, Bool.true_eq_false, if_false, e_gz, e_gd, e_cl]
  have hmod : ∀ m : ZM, Hr (m 62) h → fX7_fits (nI t) (nI r) a3 (nI k) (nI w) m = Option.bind (fX7_lacks (nI r) a3 (nI k) m) (fun r19 => fX7_fits_j54 (nI t) (nI r) a3 (nI k) (nI w) r19.1 r19.2) := by
    intro m Hx
    unfold fX7_fits
    simp only [m_isThing Hx hn, z1, m_isRow, z2, m_in, tj1, j12, z4, tj0, j3, z5, e_bd, bI_0, Bool.true_eq_false, if_false]
  have told : ∀ v : Int32, v = 1 ∨ v = 2 → (fX6_fits (nI t) (nI r) a3 (nI k) (nI w) mem = some (-1000010 - v, zst mem 0 8 v)) → (fX7_lacks (nI r) a3 (nI k) (zst mem 0 8 v) = some (-1000010 - v, zst (zst mem 0 8 v) 58 3 v)) → Op (fX6_fits (nI t) (nI r) a3 (nI k) (nI w)) (fX7_fits (nI t) (nI r) a3 (nI k) (nI w)) mem (fun m => RF m ∧ KeepF mem m) := by
    intro v hv e1 e2
    refine ⟨-1000010 - v, _, _, e1, ?_, o_tellF v (Keep.rf _) rfl (Keep.rf _) rfl⟩
    rw [hmod _ (by rw [e_stn (by decide)]; exact Hm), e2, e_bd]
    unfold fX7_fits_j54
    rcases hv with rfl | rfl
    · rw [e_let, if_neg (show ¬ (0 : Int32) ≤ -1000010 - 1 from by decide)]
    · rw [e_let, if_neg (show ¬ (0 : Int32) ≤ -1000010 - 2 from by decide)]
  rcases hR r hr with ⟨b1, b2⟩ | ⟨l, n, b1, b2, b3, b4, b5, b6, b7⟩
  · refine told 1 (Or.inl rfl) ?_ ((m_lacks hr hk2 a3).1 (by rw [e_stn (by decide)]; exact b2))
    rw [hcls, c_missing (Or.inl ⟨b1, b2⟩), b2, e_bd]
    rfl
  have cm : fX4_isMissing (42 + 2 * r) mem = some (bI false) := by rw [c_missing (hR r hr), b6, decide_eq_false (nI_n0 (by omega))]
  cases y1 : hld a3 (nI k) n
  · refine told 2 (Or.inr rfl) ?_ ?_
    · rw [hcls, cm, e_bd, if_pos (by decide), c_holds b4 b2, e_bd, y1]
      rfl
    · rw [(m_lacks hr hk2 a3).2 n b2 (by rw [e_stn (by decide)]; exact b6), y1]
      rfl
  obtain ⟨i, k2, rfl, hkk, hik⟩ := hld_of b2 y1
  have hkk' : k = k2 := by
    have h2 : k2 < 2147483648 := by omega
    exact (nI_eq (a := k) (b := k2) (by omega) h2).mp hkk
  subst hkk'
  obtain ⟨m1, e1, f1⟩ := c_whatFits (r := r) (i := i) (k := k) (it := fun u => mem 61 (40 * r + i + u)) H ok ht hr hw (by omega) (fun u hu => by rw [b7 _ (by omega)]; congr 1; omega)
  have K1 := Keep.fr f1
  have Hm1 : Hr ((zst m1 0 8 0) 62) h := by rw [e_stn (by decide)]; exact K1.Hr hn Hm
  have e6 : (zst m1 0 8 0) 60 r = nI n := by rw [e_stn (by decide), K1.1 60 (by omega)]; exact b6
  have e61 : (zst m1 0 8 0) 61 = mem 61 := by rw [e_stn (by decide), K1.1 61 (by omega)]
  obtain ⟨m2, e2, A2, hm2⟩ := m_aside (zst m1 0 8 0)
  have H2 : Hr (m2 62) h := by rw [hm2]; exact Hm1
  have K2 : Keep (zst m1 0 8 0) m2 := A2.keep (fun k _ => by rw [hm2])
  obtain ⟨q, e3, q1, K3⟩ := m_fitsL (r := r) (i := i) (k := k) (it := fun u => mem 61 (40 * r + i + u)) A2 Hm1 H2 K2 ok ht hr hw (by omega) hk2 (fun u hu => by rw [e61])
  refine ⟨ftS h t w k (fun u => mem 61 (40 * r + i + u)) (numF w), zst m1 0 8 0, zst q.2.2 58 3 0, ?_, ?_, o_tellF 0 K1 rfl K3 rfl⟩
  · rw [hcls, cm, e_bd, if_pos (by decide), c_holds b4 b2, e_bd, y1, if_neg (by decide), e1, e_bd]
    rfl
  · rw [hmod _ Hm1, (m_lacks hr hk2 (nI i)).2 n b2 e6, y1, if_pos rfl, e_bd]
    have fin : ∀ x : Int32, x = nI (loF w) → fX7_fits_j158 (nI t) (nI r) (nI i) (nI k) (nI w) (nI (atF w t)) (nI (hiF w)) 0 x m2 = some (ftS h t w k (fun u => mem 61 (40 * r + i + u)) (numF w), zst q.2.2 58 3 0) := by
      intro x hx
      subst hx
      unfold fX7_fits_j158 fX7_well
      rw [e_let, e3, e_bd, e_let, e_bd, q1]
    unfold fX7_fits_j54
    rw [e_let, if_pos (show (0 : Int32) ≤ 0 from by decide), e2, e_bd]
    have hcase : w = 0 ∨ w = 1 ∨ w = 2 ∨ w = 3 := by omega
    rcases hcase with rfl | rfl | rfl | rfl
    · rw [if_pos (by decide), l6, nI_add]
      unfold fX7_fits_j107 fX7_fits_j141
      rw [e_let, if_pos (by decide), e_let, e_let, if_pos (by decide)]
      exact fin _ rfl
    · rw [if_neg (by decide), if_pos (by decide), l22, nI_add]
      unfold fX7_fits_j107 fX7_fits_j141
      rw [e_let, if_neg (by decide), if_pos (by decide), e_let, e_let, if_neg (by decide)]
      exact fin _ rfl
    · rw [if_neg (by decide), if_neg (by decide), if_pos (by decide), l14, nI_add]
      unfold fX7_fits_j107 fX7_fits_j141
      rw [e_let, if_neg (by decide), if_neg (by decide), if_pos (by decide), e_let, e_let, if_pos (by decide)]
      exact fin _ rfl
    · rw [if_neg (by decide), if_neg (by decide), if_neg (by decide)]
      unfold fX7_fits_j107 fX7_fits_j141
      rw [e_let, if_neg (by decide), if_neg (by decide), if_neg (by decide), e_let, e_let, if_neg (by decide)]
      exact fin _ rfl
end FF
