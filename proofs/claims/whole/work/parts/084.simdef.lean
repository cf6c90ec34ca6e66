/-- the place of the pair a, b (a below b) in the reference's row -/
def pairN (a b : Nat) : Nat := if a = 0 then b - 1 else if a = 1 then b + 2 else if a = 2 then b + 4 else 9
/-- what the two objects hold agrees, and stays within its bounds -/
def Sim (T_brokenWays T_triesAllowed T_mends T_talkers : Int32) (vTg vTp vTm : Nat → Int32) (P_count : Int32) (vPb : Nat → Int32) (X_faultPlace O_taped O_fault : Int32) (vOt vOr vOp : Nat → Int32) : Prop :=
  (∀ i, i < 5 → vTg i = vOt i ∧ 0 ≤ (vTg i).toInt ∧ (vTg i).toInt ≤ 15) ∧
  (T_brokenWays = vOt 5 ∧ 0 ≤ T_brokenWays.toInt ∧ T_brokenWays.toInt ≤ 15) ∧
  (T_triesAllowed = vOt 6 ∧ 0 ≤ T_triesAllowed.toInt ∧ T_triesAllowed.toInt ≤ 3) ∧
  (T_mends = vOt 7 ∧ 0 ≤ T_mends.toInt ∧ T_mends.toInt ≤ 127) ∧
  (∀ i, i < 7 → vTp i = vOt (8 + i) ∧ 0 ≤ (vTp i).toInt ∧ (vTp i).toInt ≤ 100) ∧
  (∀ a b, a < b → b < 5 → ((T_talkers >>> (nI (5 * a + b) &&& 31)) &&& 1) = vOt (15 + pairN a b) ∧ (vOt (15 + pairN a b) = 0 ∨ vOt (15 + pairN a b) = 1)) ∧
  (∀ i, i < 25 → vTm i = vOr i ∧ -1 ≤ (vTm i).toInt ∧ (vTm i).toInt ≤ 3) ∧
  (P_count = O_taped ∧ 0 ≤ P_count.toInt ∧ P_count.toInt ≤ 600) ∧
  (∀ i : Nat, (i : Int) < P_count.toInt → vOp i = (vPb i).toInt8.toInt32 ∧ 0 ≤ (vPb i).toInt ∧ (vPb i).toInt ≤ 255) ∧
  X_faultPlace = O_fault
section SIMS
variable {T_brokenWays T_triesAllowed T_mends T_talkers : Int32} {vTg vTp vTm : Nat → Int32} {P_count : Int32} {vPb : Nat → Int32} {X_faultPlace O_taped O_fault : Int32} {vOt vOr vOp : Nat → Int32}
theorem sim_T3 (h : Sim T_brokenWays T_triesAllowed T_mends T_talkers vTg vTp vTm P_count vPb X_faultPlace O_taped O_fault vOt vOr vOp) : 0 ≤ T_triesAllowed.toInt ∧ T_triesAllowed.toInt ≤ 3 := h.2.2.1.2
theorem sim_CNT (h : Sim T_brokenWays T_triesAllowed T_mends T_talkers vTg vTp vTm P_count vPb X_faultPlace O_taped O_fault vOt vOr vOp) : 0 ≤ P_count.toInt ∧ P_count.toInt ≤ 600 := h.2.2.2.2.2.2.2.1.2
theorem sim_RT (h : Sim T_brokenWays T_triesAllowed T_mends T_talkers vTg vTp vTm P_count vPb X_faultPlace O_taped O_fault vOt vOr vOp) : (vOt (6 : Int32).toNatClampNeg).toInt ≤ 3 := by
  have h1 := h.2.2.1
  rw [show (6 : Int32).toNatClampNeg = 6 from by decide, ← h1.1]; exact h1.2.2
theorem sim_TP (h : Sim T_brokenWays T_triesAllowed T_mends T_talkers vTg vTp vTm P_count vPb X_faultPlace O_taped O_fault vOt vOr vOp) : 0 ≤ O_taped.toInt ∧ O_taped.toInt ≤ 600 := by
  have h1 := h.2.2.2.2.2.2.2.1
  rw [← h1.1]; exact h1.2
end SIMS
