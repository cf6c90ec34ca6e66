-- tells: class and reference answer alike
theorem sim_tells (X_faultPlace : Int32) (T_brokenWays : Int32) (T_triesAllowed : Int32) (T_mends : Int32) (T_talkers : Int32) (vTg : Nat → Int32) (vTp : Nat → Int32) (vTm : Nat → Int32) (D_brokenWays : Int32) (D_triesAllowed : Int32) (D_mends : Int32) (D_talkers : Int32) (vDg : Nat → Int32) (vDp : Nat → Int32) (vDm : Nat → Int32) (P_count : Int32) (vPb : Nat → Int32) (R_start : Int32) (R_next : Int32) (R_kind : Int32) (R_value : Int32) (R_faultAt : Int32) (O_taped : Int32) (O_size : Int32) (O_at : Int32) (O_fault : Int32) (O_wordEnd : Int32) (O_number : Int32) (vOt : Nat → Int32) (vOr : Nat → Int32) (vOp : Nat → Int32) (vOx : Nat → Int32) (a1 : Int32) (h : Sim T_brokenWays T_triesAllowed T_mends T_talkers vTg vTp vTm P_count vPb X_faultPlace O_taped O_fault vOt vOr vOp) (r : Int32) (r' : Int32) (X_faultPlace' : Int32) (T_brokenWays' : Int32) (T_triesAllowed' : Int32) (T_mends' : Int32) (T_talkers' : Int32) (vTg' : Nat → Int32) (vTp' : Nat → Int32) (vTm' : Nat → Int32) (D_brokenWays' : Int32) (D_triesAllowed' : Int32) (D_mends' : Int32) (D_talkers' : Int32) (vDg' : Nat → Int32) (vDp' : Nat → Int32) (vDm' : Nat → Int32) (P_count' : Int32) (R_start' : Int32) (R_next' : Int32) (R_kind' : Int32) (R_value' : Int32) (R_faultAt' : Int32) (O_taped' : Int32) (O_size' : Int32) (O_at' : Int32) (O_fault' : Int32) (O_wordEnd' : Int32) (O_number' : Int32) (vOt' : Nat → Int32) (vOr' : Nat → Int32) (vOx' : Nat → Int32) (hX : (r, X_faultPlace', T_brokenWays', T_triesAllowed', T_mends', T_talkers', vTg', vTp', vTm', D_brokenWays', D_triesAllowed', D_mends', D_talkers', vDg', vDp', vDm', P_count', R_start', R_next', R_kind', R_value', R_faultAt') = fX_tells X_faultPlace T_brokenWays T_triesAllowed T_mends T_talkers vTg vTp vTm D_brokenWays D_triesAllowed D_mends D_talkers vDg vDp vDm P_count vPb R_start R_next R_kind R_value R_faultAt a1) (hO : (r', O_taped', O_size', O_at', O_fault', O_wordEnd', O_number', vOt', vOr', vOx') = fO_tells O_taped O_size O_at O_fault O_wordEnd O_number vOt vOr vOp vOx a1) (hq0 : 0 ≤ P_count'.toInt ∧ P_count'.toInt ≤ 600) (hq1 : 0 ≤ T_triesAllowed'.toInt ∧ T_triesAllowed'.toInt ≤ 3) (hq2 : 0 ≤ O_taped'.toInt ∧ O_taped'.toInt ≤ 600) : r = r' ∧ Sim T_brokenWays' T_triesAllowed' T_mends' T_talkers' vTg' vTp' vTm' P_count' vPb X_faultPlace' O_taped' O_fault' vOt' vOr' vOp := by
  obtain ⟨h1, h2, h3, h4, h5, h6, h7, h8, h9, h10⟩ := id h
  obtain ⟨K, hK, eK, -⟩ := nat_of (n := 601) h8.2.1 (by omega) (by decide)
  rw [fX_tells, fP_size] at hX
  rw [fO_tells, fO_isIn, ← h8.1] at hO
  by_cases c1 : a1 < 0
  · rw [if_pos c1] at hX
    rw [if_pos c1, if_pos rfl] at hO
    simp only [Prod.mk.injEq] at hX hO
    obtain ⟨rfl, rfl, rfl, rfl, rfl, rfl, rfl, rfl, rfl, -, -, -, -, -, -, -, rfl, -⟩ := hX
    obtain ⟨rfl, e2, -, -, rfl, -, -, rfl, rfl, -⟩ := hO
    rw [e2, h8.1]
    exact ⟨rfl, by rw [← h8.1] at h ⊢; exact h⟩
  rw [if_neg c1] at hX
  rw [if_neg c1] at hO
  by_cases c2 : a1 ≤ P_count
  rotate_left
  · have c3 : P_count < a1 := by rw [i32_le] at c2; rw [i32_lt]; omega
    rw [if_neg c2] at hX
    rw [if_pos c3, if_pos rfl] at hO
    simp only [Prod.mk.injEq] at hX hO
    obtain ⟨rfl, rfl, rfl, rfl, rfl, rfl, rfl, rfl, rfl, -, -, -, -, -, -, -, rfl, -⟩ := hX
    obtain ⟨rfl, e2, -, -, rfl, -, -, rfl, rfl, -⟩ := hO
    rw [e2, h8.1]
    exact ⟨rfl, by rw [← h8.1] at h ⊢; exact h⟩
  have c3 : ¬ P_count < a1 := by rw [i32_le] at c2; rw [i32_lt]; omega
  rw [if_pos c2] at hX
  rw [if_neg c3, if_neg n10] at hO
  have c1' := c1
  have c2' := c2
  rw [i32_lt, t32_0] at c1'
  rw [i32_le] at c2'
  obtain ⟨N, hN, eN, -⟩ := nat_of (p := a1) (n := 601) (by omega) (by omega) (by decide)
  have eK' : P_count.toInt = K := by rw [eK, nI_toInt (by omega)]
  have eN' : a1.toInt = N := by rw [eN, nI_toInt (by omega)]
  have hcut : fP_cutTo P_count a1 = nI N := by
    rw [fP_cutTo, if_neg c3, eN]
    by_cases z : 0 < nI N
    · rw [if_pos z]
    · rw [if_neg z]
      rw [i32_lt, t32_0, nI_toInt (by omega)] at z
      rw [show N = 0 by omega]; rfl
  have hcut0 : fP_cutTo (nI N) 0 = 0 := by
    rw [fP_cutTo]
    by_cases z : nI N < 0
    · exact absurd z (nI_pos (by omega))
    · rw [if_neg z, if_neg (by decide)]
  rw [hcut, hcut0] at hX
  have hv : ∀ i, i < N → vOp i = (vPb i).toInt8.toInt32 ∧ 0 ≤ (vPb i).toInt ∧ (vPb i).toInt ≤ 255 := fun i hi => h9 i (by omega)
  obtain ⟨x', q1, q2⟩ := l17_eq (v := vPb) (n := N) vOp P_count O_size O_at O_fault O_wordEnd O_number vOt vOr (by omega) (fun i hi => (hv i hi).1) (N + 1) 0 (by omega) (by omega) vOx (fun j hj => by omega)
  have hT : TR N vPb x' := fun i hi => ⟨by rw [q1 i hi]; exact (hv i hi).1, (hv i hi).2⟩
  rw [eN, show (((nI N).toInt - (0 : Int32).toInt).toNat + 1) = N + 1 by rw [nI_toInt (by omega), t32_0]; omega] at hO
  rw [nI_0] at q2
  rw [q2] at hO
  have hb0 : fO_blanks (nI N) 0 x' = nI (tS vPb N 0) := blanks_eq (i := 0) (by omega) hT (by omega)
  rw [hb0] at hO
  obtain ⟨b1, b2⟩ := beg_eq vOt 26 0 (by omega) (by omega) vOt (fun j hj => rfl) (fun j hj => by omega)
  obtain ⟨g', p', m', s1, s2, s3, s4⟩ := saf2 D_brokenWays D_triesAllowed D_mends D_talkers vDp vDm 6 0 (by omega) (by omega) vDg (fun j hj => by omega)
  have D0 : DSim 0 0 0 0 g' p' (fO_begins vOt 25) := ds_first s2 s3 b2
  obtain ⟨-, t2, t3⟩ := tS_spec (v := vPb) (n := N) (i := 0) (by omega)
  have L := loop_eq (by omega) hT vOp m' vOr vOt 34 0 (by omega) (by omega) (tS vPb N 0) t2 t3 O_fault O_wordEnd O_number 0 0 0 0 g' p' _ D0 b1
  have eA : fR_advance R_start 0 R_kind R_value (nI N) vPb = _ := adv_eq (v := vPb) (n := N) (i := 0) (by omega) (by omega) R_start R_kind R_value
  rw [nI_0] at L
  rw [fR_readText, fT_setAsAtFirst] at hX
  rw [nI_0] at s1
  rw [s1] at hX
  unfold bnd7 at hX
  dsimp only at hX
  rw [eA, bnd4_mk] at hX
  rw [← hO] at L
  revert L hX
  generalize fR_readText_l23 (nI N) vPb 34 0 (nI (tS vPb N 0)) (nI (tE vPb N (tS vPb N 0))) (kd vPb N (tS vPb N 0)) (tV vPb N (tS vPb N 0)) (-1 : Int32) 0 0 0 0 g' p' m' = x
  intro hX L
  obtain ⟨x0, x1, x2, x3, x4, x5, x6, x7, x8, x9, x10, x11, x12⟩ := x
  obtain ⟨L1, L2, L3, L4⟩ := L
  dsimp only at L1 L2 L3 L4
  unfold bnd13 at hX
  dsimp only at hX
  have R9 : ∀ i : Nat, (i : Int) < (0 : Int32).toInt → vOp i = (vPb i).toInt8.toInt32 ∧ 0 ≤ (vPb i).toInt ∧ (vPb i).toInt ≤ 255 := fun i hi => by rw [t32_0] at hi; omega
  rcases L4 with ⟨l1, l2, l3⟩ | ⟨l1, l2, ⟨u, l3, l4⟩, l5⟩
  · rw [if_pos l1, fR_faultFound] at hX
    simp only [Prod.mk.injEq] at hX
    obtain ⟨rfl, rfl, rfl, rfl, rfl, rfl, rfl, rfl, rfl, -, -, -, -, -, -, -, rfl, -⟩ := hX
    refine ⟨L1, sim_ext (vOt := vOt) ?_ l2⟩
    rw [L2, l3]
    exact ⟨h1, h2, h3, h4, h5, h6, h7, ⟨rfl, by decide, by decide⟩, R9, L3⟩
  · rw [if_neg l1, fR_faultFound, fT_copyFrom] at hX
    dsimp only at hX
    simp only [Prod.mk.injEq] at hX
    obtain ⟨rfl, rfl, rfl, rfl, rfl, rfl, rfl, rfl, rfl, -, -, -, -, -, -, -, rfl, -⟩ := hX
    refine ⟨L1, sim_ext (vOt := fun i => u (25 + i)) ?_ l4⟩
    obtain ⟨d1, d2, d3, d4, d5, d6, -⟩ := l3
    rw [L2, l5]
    refine ⟨fun i hi => ?_, d2, d3, d4, fun i hi => ?_, d6, fun i hi => ?_, ⟨rfl, by decide, by decide⟩, R9, L3⟩
    · rw [cpy_eq (m := 5) (by decide) hi]; exact d1 i hi
    · rw [cpy_eq (m := 7) (by decide) hi]; exact d5 i hi
    · rw [cpy_eq (m := 25) (by decide) hi, l2, s4 i hi, forg0 vOr hi]; exact ⟨rfl, by decide, by decide⟩
