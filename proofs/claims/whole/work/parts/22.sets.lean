section CS
variable {mem : ZM} {b t : Nat} {h : HS}
theorem nI_le_f {n i : Nat} (hn : n ≤ 8) (hi : i < n) : ¬ nI n ≤ nI i := by rw [e_le0 (by omega) (by omega)]; omega
theorem mkb_s {f : Nat → Bool} {i : Nat} (hi : i < 8) : f i = true → nI (mkb f i) ||| ((1 : Int32) <<< (nI i &&& 31)) = nI (mkb f (i + 1)) := by
  intro h
  rw [e_set _ (mkb_256 f (by omega)) i hi]
  show _ = nI (if f i = true then mkb f i ||| 2 ^ i else mkb f i)
  rw [if_pos h]
theorem mkb_n {f : Nat → Bool} {i : Nat} : f i = false → mkb f i = mkb f (i + 1) := by
  intro h
  show _ = (if f i = true then mkb f i ||| 2 ^ i else mkb f i)
  rw [h]; rfl
theorem c_ashes (H : Hc mem b h) (ok : okH h) : fX3_ashes b mem = some (nI (mkb (fun t => decide (hsS h t = 0)) (hsN h))) := by
  have hn := ok.1
  have key : fX3_ashes_l4 b mem (nI 0, nI 0) = some (nI (mkb (fun t => decide (hsS h t = 0)) (hsN h)), nI (hsN h)) := by
    unfold fX3_ashes_l4
    refine zi_seq (fun i => (nI (mkb (fun t => decide (hsS h t = 0)) i), nI i)) _ (hsN h) 2000 0 (Nat.zero_le _) (by omega) (fun i _ hi => ?_) ?_
    · show fX3_ashes_b4 b mem (nI (mkb (fun t => decide (hsS h t = 0)) i)) (nI i) = _
      unfold fX3_ashes_b4 fX3_ashes_j26
      rw [H.1, if_neg (nI_le_f hn hi), c_isAsh H ok hi, e_bd]
      simp only [bI_0, e_let]
      cases hf : (fun t => decide (hsS h t = 0)) i
      · rw [if_pos (by first | rfl | assumption), nI_1, mkb_n hf]
      · rw [if_neg (by first | decide | exact (fun e => Bool.false_ne_true (e.symm.trans hf))), nI_1, mkb_s (by omega) hf]
    · show fX3_ashes_b4 b mem _ (nI (hsN h)) = _
      unfold fX3_ashes_b4
      rw [H.1, if_pos (by rw [e_le0 (by omega) (by omega)]; exact Nat.le_refl _)]
  unfold fX3_ashes
  rw [e_let, e_let, show ((0 : Int32), (0 : Int32)) = (nI 0, nI 0) from rfl, key, e_bd]
theorem c_burnables (H : Hc mem b h) (ok : okH h) : fX3_burnables b mem = some (nI (mkb (cbS h) (hsN h))) := by
  have hn := ok.1
  have key : fX3_burnables_l4 b mem (nI 0, nI 0) = some (nI (mkb (cbS h) (hsN h)), nI (hsN h)) := by
    unfold fX3_burnables_l4
    refine zi_seq (fun i => (nI (mkb (cbS h) i), nI i)) _ (hsN h) 2000 0 (Nat.zero_le _) (by omega) (fun i _ hi => ?_) ?_
    · show fX3_burnables_b4 b mem (nI (mkb (cbS h) i)) (nI i) = _
      unfold fX3_burnables_b4 fX3_burnables_j26
      rw [H.1, if_neg (nI_le_f hn hi), c_canBurn H ok hi, e_bd]
      simp only [bI_0, e_let]
      cases hf : (cbS h) i
      · rw [if_pos (by first | rfl | assumption), nI_1, mkb_n hf]
      · rw [if_neg (by first | decide | exact (fun e => Bool.false_ne_true (e.symm.trans hf))), nI_1, mkb_s (by omega) hf]
    · show fX3_burnables_b4 b mem _ (nI (hsN h)) = _
      unfold fX3_burnables_b4
      rw [H.1, if_pos (by rw [e_le0 (by omega) (by omega)]; exact Nat.le_refl _)]
  unfold fX3_burnables
  rw [e_let, e_let, show ((0 : Int32), (0 : Int32)) = (nI 0, nI 0) from rfl, key, e_bd]
theorem c_lightables (H : Hc mem b h) (ok : okH h) : fX3_lightables b mem = some (nI (mkb (mlS h) (hsN h))) := by
  have hn := ok.1
  have key : fX3_lightables_l4 b mem (nI 0, nI 0) = some (nI (mkb (mlS h) (hsN h)), nI (hsN h)) := by
    unfold fX3_lightables_l4
    refine zi_seq (fun i => (nI (mkb (mlS h) i), nI i)) _ (hsN h) 2000 0 (Nat.zero_le _) (by omega) (fun i _ hi => ?_) ?_
    · show fX3_lightables_b4 b mem (nI (mkb (mlS h) i)) (nI i) = _
      unfold fX3_lightables_b4 fX3_lightables_j26
      rw [H.1, if_neg (nI_le_f hn hi), c_mayBeLit H ok hi, e_bd]
      simp only [bI_0, e_let]
      cases hf : (mlS h) i
      · rw [if_pos (by first | rfl | assumption), nI_1, mkb_n hf]
      · rw [if_neg (by first | decide | exact (fun e => Bool.false_ne_true (e.symm.trans hf))), nI_1, mkb_s (by omega) hf]
    · show fX3_lightables_b4 b mem _ (nI (hsN h)) = _
      unfold fX3_lightables_b4
      rw [H.1, if_pos (by rw [e_le0 (by omega) (by omega)]; exact Nat.le_refl _)]
  unfold fX3_lightables
  rw [e_let, e_let, show ((0 : Int32), (0 : Int32)) = (nI 0, nI 0) from rfl, key, e_bd]
end CS
