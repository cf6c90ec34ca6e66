-- the row of acts and the rooms: class and reference answer alike
section JD2
variable {T_brokenWays T_triesAllowed T_mends T_talkers : Int32} {vTg vTp vTm : Nat → Int32} {P_count : Int32} {vPb : Nat → Int32} {X_faultPlace O_taped O_fault : Int32} {vOt vOr vOp : Nat → Int32}
theorem way_if {α : Type} (p : Int32) (B N : α) : (if p = (-1 : Int32) then B else (if (fX_isWay p) = 0 then N else B)) = if (fO_isIn p (-1 : Int32) (3 : Int32)) = 0 then N else B := by
  by_cases c : p = (-1 : Int32)
  · subst c
    rw [if_pos rfl, if_neg (by decide)]
  · rw [if_neg c, fX_isWay, fO_isIn]
    have c' : ¬ p.toInt = -1 := fun e => c (i32_eq.mpr (by rw [e, t32_m1]))
    by_cases q : p.toInt < 0
    · rw [if_pos (show p < 0 from i32_lt.mpr (by rw [t32_0]; omega)), if_pos (show p < (-1 : Int32) from i32_lt.mpr (by rw [t32_m1]; omega))]
    · rw [if_neg (show ¬ p < 0 from fun w => by rw [i32_lt, t32_0] at w; omega), if_neg (show ¬ p < (-1 : Int32) from fun w => by rw [i32_lt, t32_m1] at w; omega)]
      by_cases q2 : 4 ≤ p.toInt
      · rw [if_pos (show (4 : Int32) ≤ p from i32_le.mpr (by rw [t32_4]; omega)), if_pos (show (3 : Int32) < p from i32_lt.mpr (by rw [t32_3]; omega))]
      · rw [if_neg (show ¬ (4 : Int32) ≤ p from fun w => by rw [i32_le, t32_4] at w; omega), if_neg (show ¬ (3 : Int32) < p from fun w => by rw [i32_lt, t32_3] at w; omega)]
theorem f_row (h : Sim T_brokenWays T_triesAllowed T_mends T_talkers vTg vTp vTm P_count vPb X_faultPlace O_taped O_fault vOt vOr vOp) (j1 j2 j3 j4 j5 o1 o2 o3 o4 o5 o6 m1 m2 m3 m4 m5 m6 a1 a2 a3 a4 a5 : Int32) : (fX_row T_brokenWays T_triesAllowed T_mends vTg vTm j1 j2 j3 j4 j5 o1 o2 o3 o4 o5 o6 a1 a2 a3 a4 a5).1 = (fO_row m1 m2 m3 m4 m5 m6 vOt vOr a1 a2 a3 a4 a5).1 := by
  rw [fX_row, fO_row, af_eq]
  by_cases c1 : fO_areFriends a1 a2 = 0
  · rw [if_pos c1, if_pos c1]
  rw [if_neg c1, if_neg c1, way_if]
  by_cases c2 : fO_isIn a3 (-1 : Int32) (3 : Int32) = 0
  · rw [if_pos c2, if_pos c2]
  rw [if_neg c2, if_neg c2]
  have f := af_ne c1
  obtain ⟨own, x, lt, e1, e2, e3⟩ := judged h f.1 f.2.1 T_mends
  obtain ⟨offc, mk, Sc, Sm, s1, s2, R, G⟩ := e3 a3 o1 o2 o3 o4 o5 o6 m1 m2 m3 m4 m5 m6
  rw [fX_row_b22, show fT_mendsOn T_mends = T_mends from rfl, e1, cl7, ← h.2.2.2.1.1, s2]
  unfold bnd5
  dsimp only
  rw [s1]
  obtain ⟨sa, sd, sc, sp⟩ := Sc
  obtain ⟨dr, ca, pk, tk, ac, fo⟩ := Sm
  obtain ⟨R1, R2⟩ := R
  dsimp only [actsM] at R1 R2
  unfold cend mfin bnd7
  dsimp only [actsM]
  by_cases c3 : fO_isIn a5 (0 : Int32) (1 : Int32) = 0
  · rw [if_pos c3]
    have n0 : ¬ a5 = 0 := by rintro rfl; exact absurd c3 (by decide)
    have n1 : ¬ a5 = (1 : Int32) := by rintro rfl; exact absurd c3 (by decide)
    rw [if_neg n0, if_neg n1]
    (repeat' split) <;> rfl
  rw [if_neg c3]
  have hw : a5 = 0 ∨ a5 = (1 : Int32) := by
    have g := isIn_ne c3
    rw [t32_0, t32_1] at g
    by_cases z : a5.toInt = 0
    · exact Or.inl (i32_eq.mpr (by rw [z, t32_0]))
    · exact Or.inr (i32_eq.mpr (by rw [t32_1]; omega))
  by_cases d : ac = (-1 : Int32)
  · rw [if_pos (show (if sa = (-1 : Int32) then (0 : Int32) else 1) = 0 by rw [if_pos (R1.trans d)]), if_pos d]
  rw [if_neg (show ¬ (if sa = (-1 : Int32) then (0 : Int32) else 1) = 0 by rw [if_neg (fun e => d (R1.symm.trans e))]; decide), if_neg d]
  obtain ⟨hd, hf, ht, ha⟩ := Or.resolve_left G d
  dsimp only [actsM] at hd hf ht ha
  obtain ⟨r1, r2, r3⟩ := R2 d
  have hv := mActs_val (ch := ca) (pk := pk) (t := tk) hd hf
  rw [← ha] at hv
  have hv1 : 0 ≤ ac.toInt ∧ ac.toInt ≤ 6 := by
    rw [hv]
    constructor <;> (repeat' split) <;> omega
  have b1 : (ac - (1 : Int32)).toInt = ac.toInt - 1 := by
    rw [i32_subS] <;> rw [t32_1] <;> omega
  by_cases k0 : a4 < 0
  · rw [if_pos k0, if_pos (show fO_isIn a4 (0 : Int32) (ac - (1 : Int32)) = 0 by rw [fO_isIn, if_pos k0])]
  rw [if_neg k0, fJ_actsFound, R1]
  have k0' : 0 ≤ a4.toInt := by rw [i32_lt, t32_0] at k0; omega
  by_cases k1 : a4 < ac
  · have k1' := k1
    rw [i32_lt] at k1'
    rw [if_pos k1, if_neg (show ¬ fO_isIn a4 (0 : Int32) (ac - (1 : Int32)) = 0 by
      rw [fO_isIn, if_neg k0, if_neg (show ¬ ac - (1 : Int32) < a4 from fun w => by rw [i32_lt, b1] at w; omega)]; decide)]
    refine Eq.trans ?_ (row_in vOt vOr a1 a2 a3 hd hf ht ha k0' k1' hw).symm
    rw [r1, r2, r3]
    rcases hw with rfl | rfl
    · rw [if_pos rfl, if_pos rfl]
    · rw [if_neg (show ¬ (1 : Int32) = 0 by decide), if_pos rfl, if_neg (show ¬ (1 : Int32) = 0 by decide)]
  · have k1' := k1
    rw [i32_lt] at k1'
    rw [if_neg k1, if_pos (show fO_isIn a4 (0 : Int32) (ac - (1 : Int32)) = 0 by
      rw [fO_isIn, if_neg k0, if_pos (show ac - (1 : Int32) < a4 from i32_lt.mpr (by rw [b1]; omega))])]
/-- whether a pair is safe under a set of mends, as a number -/
def sfN (vOt vOr : Nat → Int32) (a b : Nat) (md : Int32) : Int32 := (fO_isSafe 0 0 0 0 0 0 vOt vOr (nI a) (nI b) md).1
theorem nI5 {a : Nat} (ha : a < 5) : 0 ≤ (nI a).toInt ∧ (nI a).toInt < 5 := by rw [nI_toInt (by omega)]; omega
theorem sf_all (h : Sim T_brokenWays T_triesAllowed T_mends T_talkers vTg vTp vTm P_count vPb X_faultPlace O_taped O_fault vOt vOr vOp) {a b : Nat} (ha : a < 5) (hb : b < 5) (md : Int32) : (∀ m1 m2 m3 m4 m5 m6, (fO_isSafe m1 m2 m3 m4 m5 m6 vOt vOr (nI a) (nI b) md).1 = sfN vOt vOr a b md) ∧ (sfN vOt vOr a b md = 0 ∨ sfN vOt vOr a b md = 1) ∧
    ∃ own x lt : Int32, (∀ j1 j2 j3 j4 j5, fJ_seat j1 j2 j3 j4 j5 T_brokenWays vTg vTm (nI a) (nI b) md = (md, T_brokenWays, own, x, lt)) ∧ ∀ o1 o2 o3 o4 o5 o6, (fJ_isSafe md T_brokenWays own x lt o1 o2 o3 o4 o5 o6 T_triesAllowed).1 = sfN vOt vOr a b md := by
  obtain ⟨own, x, lt, e1, e2, e3⟩ := judged h (nI5 ha) (nI5 hb) md
  have g := safe_eq h (nI5 ha) (nI5 hb) md e2.1 e3
  have g0 : ∀ o1 o2 o3 o4 o5 o6, (fJ_isSafe md T_brokenWays own x lt o1 o2 o3 o4 o5 o6 T_triesAllowed).1 = sfN vOt vOr a b md := fun o1 o2 o3 o4 o5 o6 => (g o1 o2 o3 o4 o5 o6 0 0 0 0 0 0).1
  refine ⟨fun m1 m2 m3 m4 m5 m6 => ?_, (g 0 0 0 0 0 0 0 0 0 0 0 0).2, own, x, lt, e1, g0⟩
  rw [← (g 0 0 0 0 0 0 m1 m2 m3 m4 m5 m6).1]; exact g0 0 0 0 0 0 0
theorem pr_fin : ∀ a, a < 5 → ∀ b, b < 5 → nI (5 * a + b) / (5 : Int32) = nI a ∧ nI (5 * a + b) - nI (5 * a + b) / (5 : Int32) * (5 : Int32) = nI b ∧ (5 : Int32) * nI a + nI b = nI (5 * a + b) := by decide +kernel
theorem inr_eq {a b : Nat} (ha : a < 5) (hb : b < 5) (p : Int32) : fX_isPairOfRoom p (nI (5 * a + b)) = fO_isInRoom p (nI a) (nI b) := by
  obtain ⟨e1, e2, -⟩ := pr_fin a ha b hb
  rw [fX_isPairOfRoom, e2, e1, fO_isInRoom, fX_holds, fX_holds, bit_of (by omega), bit_of (by omega)]
  by_cases c : nI a = nI b
  · rw [if_pos c, if_pos c]
  rw [if_neg c, if_neg c]
  cases bt p a <;> cases bt p b <;> rfl
theorem room_eq (h : Sim T_brokenWays T_triesAllowed T_mends T_talkers vTg vTp vTm P_count vPb X_faultPlace O_taped O_fault vOt vOr vOp) (p k : Int32) : ∀ m a b : Nat, 30 ≤ 6 * a + b + m → a < 5 → b ≤ 5 → ∀ nx no nk : Nat, nx = 26 - (5 * a + b) → no = 6 - b → nk = 5 - a → ∀ x3 j1 j2 j3 j4 j5 o1 o2 o3 o4 o5 o6 m1 m2 m3 m4 m5 m6 : Int32,
    (fX_room_l19 T_brokenWays T_triesAllowed T_mends vTg vTm p k nx x3 (nI (5 * a + b)) j1 j2 j3 j4 j5 o1 o2 o3 o4 o5 o6).1 = (fO_room_l26 (fO_room_l17 vOt vOr p k nk) vOt vOr p k no x3 (nI a) (nI b) m1 m2 m3 m4 m5 m6).1 := by
  intro m
  induction m with
  | zero => intro a b hm ha hb; omega
  | succ m ih =>
    intro a b hm ha hb nx no nk hx ho hk x3 j1 j2 j3 j4 j5 o1 o2 o3 o4 o5 o6 m1 m2 m3 m4 m5 m6
    obtain ⟨nx', rfl⟩ : ∃ q, nx = q + 1 := ⟨nx - 1, by omega⟩
    obtain ⟨no', rfl⟩ : ∃ q, no = q + 1 := ⟨no - 1, by omega⟩
    obtain ⟨nk', rfl⟩ : ∃ q, nk = q + 1 := ⟨nk - 1, by omega⟩
    rw [fO_room_l26]
    by_cases hb5 : b = 5
    · subst hb5
      rw [if_pos (by decide), fO_room_l17, nI_1]
      by_cases ha4 : a = 4
      · subst ha4
        rw [if_pos (by decide), fX_room_l19, if_pos (by decide)]
        by_cases ck : k = (-1 : Int32)
        · rw [if_pos ck, if_pos ck]
        · rw [if_neg ck, if_neg ck]
      · rw [if_neg (show ¬ (5 : Int32) ≤ nI (a + 1) from fun w => by rw [i32_le, t32_5, nI_toInt (by omega)] at w; omega)]
        exact ih (a + 1) 0 (by omega) (by omega) (by omega) (nx' + 1) 6 nk' (by omega) (by omega) (by omega) x3 j1 j2 j3 j4 j5 o1 o2 o3 o4 o5 o6 m1 m2 m3 m4 m5 m6
    · have hb' : b < 5 := by omega
      rw [if_neg (show ¬ (5 : Int32) ≤ nI b from fun w => by rw [i32_le, t32_5, nI_toInt (by omega)] at w; omega)]
      rw [fX_room_l19, if_neg (show ¬ (25 : Int32) ≤ nI (5 * a + b) from fun w => by rw [i32_le, t32_25, nI_toInt (by omega)] at w; omega), inr_eq ha hb']
      rw [nI_1, nI_1]
      obtain ⟨q1, q2, q3⟩ := pr_fin a ha b hb'
      by_cases c : fO_isInRoom p (nI a) (nI b) = 0
      · rw [if_pos c, if_pos c]
        exact ih a (b + 1) (by omega) ha (by omega) nx' no' (nk' + 1) (by omega) (by omega) (by omega) x3 j1 j2 j3 j4 j5 o1 o2 o3 o4 o5 o6 m1 m2 m3 m4 m5 m6
      rw [if_neg c, if_neg c, q2, q1, q3, show fT_mendsOn T_mends = T_mends from rfl, cl7, ← h.2.2.2.1.1]
      obtain ⟨s1, s2, own, x, lt, s3, s4⟩ := sf_all h ha hb' T_mends
      rw [s3]
      unfold bnd5 bnd7
      dsimp only
      rw [s4, s1]
      by_cases z : sfN vOt vOr a b T_mends = 0
      · rw [if_pos z, if_pos z]
        by_cases e : x3 = k
        · rw [if_pos e, if_pos e]
        · rw [if_neg e, if_neg e]
          exact ih a (b + 1) (by omega) ha (by omega) nx' no' (nk' + 1) (by omega) (by omega) (by omega) _ _ _ _ _ _ _ _ _ _ _ _ _ _ _ _ _ _
      · rw [if_neg z, if_neg z]
        exact ih a (b + 1) (by omega) ha (by omega) nx' no' (nk' + 1) (by omega) (by omega) (by omega) _ _ _ _ _ _ _ _ _ _ _ _ _ _ _ _ _ _
theorem room_low (p k : Int32) (hk : k.toInt < -1) : ∀ n i : Nat, n + i = 26 → i ≤ 25 → ∀ x3 j1 j2 j3 j4 j5 o1 o2 o3 o4 o5 o6 : Int32, 0 ≤ x3.toInt → x3.toInt ≤ i →
    (fX_room_l19 T_brokenWays T_triesAllowed T_mends vTg vTm p k n x3 (nI i) j1 j2 j3 j4 j5 o1 o2 o3 o4 o5 o6).1 = (-1 : Int32) := by
  intro n
  induction n with
  | zero => intro i hi hi2; omega
  | succ n ih =>
    intro i hi hi2 x3 j1 j2 j3 j4 j5 o1 o2 o3 o4 o5 o6 h0 h1
    have kn : ¬ k = (-1 : Int32) := fun e => by rw [e, t32_m1] at hk; omega
    have ke : ¬ x3 = k := fun e => by rw [e] at h0; omega
    rw [fX_room_l19, nI_1]
    by_cases c : (25 : Int32) ≤ nI i
    · rw [if_pos c, if_neg kn]
    rw [if_neg c]
    have hi3 : i < 25 := by rw [i32_le, t32_25, nI_toInt (by omega)] at c; omega
    have e1 : (x3 + (1 : Int32)).toInt = x3.toInt + 1 := by
      rw [i32_addS] <;> rw [t32_1] <;> omega
    by_cases c2 : fX_isPairOfRoom p (nI i) = 0
    · rw [if_pos c2]
      exact ih (i + 1) (by omega) (by omega) _ _ _ _ _ _ _ _ _ _ _ _ h0 (by omega)
    rw [if_neg c2]
    unfold bnd5 bnd7
    dsimp only
    rw [if_neg ke]
    split
    · exact ih (i + 1) (by omega) (by omega) _ _ _ _ _ _ _ _ _ _ _ _ (by omega) (by omega)
    · exact ih (i + 1) (by omega) (by omega) _ _ _ _ _ _ _ _ _ _ _ _ h0 (by omega)
theorem f_room (h : Sim T_brokenWays T_triesAllowed T_mends T_talkers vTg vTp vTm P_count vPb X_faultPlace O_taped O_fault vOt vOr vOp) (j1 j2 j3 j4 j5 o1 o2 o3 o4 o5 o6 m1 m2 m3 m4 m5 m6 a1 a2 : Int32) : (fX_room T_brokenWays T_triesAllowed T_mends vTg vTm j1 j2 j3 j4 j5 o1 o2 o3 o4 o5 o6 a1 a2).1 = (fO_room m1 m2 m3 m4 m5 m6 vOt vOr a1 a2).1 := by
  rw [fX_room, fO_room, show fX_isFriendSet a1 = fO_isIn a1 (0 : Int32) (31 : Int32) from rfl]
  by_cases c1 : fO_isIn a1 (0 : Int32) (31 : Int32) = 0
  · rw [if_pos c1, if_pos c1]
  rw [if_neg c1, if_neg c1]
  have g : (fX_room_l19 T_brokenWays T_triesAllowed T_mends vTg vTm a1 a2 26 0 (nI (5 * 0 + 0)) j1 j2 j3 j4 j5 o1 o2 o3 o4 o5 o6).1 = (fO_room_l17 vOt vOr a1 a2 6 0 0 m1 m2 m3 m4 m5 m6).1 := by
    rw [fO_room_l17, if_neg (by decide)]
    exact room_eq h a1 a2 30 0 0 (by omega) (by omega) (by omega) 26 6 5 (by omega) (by omega) (by omega) 0 j1 j2 j3 j4 j5 o1 o2 o3 o4 o5 o6 m1 m2 m3 m4 m5 m6
  by_cases c2 : (-1 : Int32) ≤ a2
  · rw [if_pos c2]; exact g
  · rw [if_neg c2, ← g]
    rw [i32_le, t32_m1] at c2
    exact (room_low a1 a2 (by omega) 26 0 (by omega) (by omega) 0 j1 j2 j3 j4 j5 o1 o2 o3 o4 o5 o6 (by rw [t32_0]; omega) (by rw [t32_0]; omega)).symm
end JD2
