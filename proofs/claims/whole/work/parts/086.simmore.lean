/-! Pure rows: must, feed, the start. -/
theorem b_1 (i : Nat) : bt 1 i = decide (i = 0) := by
  rcases Nat.lt_or_ge i 32 with h | h
  · exact (by decide +kernel : ∀ i, i < 32 → bt 1 i = decide (i = 0)) i h
  · rw [b_big h, decide_eq_false (by omega)]
theorem bit_of {n : Nat} (hn : n < 32) (x : Int32) : ((x >>> (nI n &&& 31)) &&& (1 : Int32)) = if bt x n = true then 1 else 0 := by
  refine b_ext fun i hi => ?_
  rw [b_and, b_sshr n hn x hi, b_1]
  by_cases e : i = 0
  · subst e
    rw [if_pos (by omega), Nat.add_zero]
    by_cases c : bt x n = true
    · rw [if_pos c, c, b_1]; rfl
    · rw [if_neg c, b_0]; simp at c; simp [c]
  · rw [decide_eq_false e, Bool.and_false]
    by_cases c : bt x n = true
    · rw [if_pos c, b_1, decide_eq_false e]
    · rw [if_neg c, b_0]
theorem b_one {n i : Nat} (hn : n < 32) (hi : i < 32) : bt ((1 : Int32) <<< (nI n &&& 31)) i = decide (i = n) := by
  rw [b_shl n hn 1 hi, b_1]
  by_cases e : i = n
  · subst e; simp
  · rw [decide_eq_false e]
    by_cases c : n ≤ i
    · rw [decide_eq_true c, decide_eq_false (by omega)]; rfl
    · rw [decide_eq_false c]; rfl
theorem bit_set {n m : Nat} (hn : n < 32) (hm : m < 32) (x : Int32) : (((x ||| ((1 : Int32) <<< (nI n &&& 31))) >>> (nI m &&& 31)) &&& (1 : Int32)) = if m = n then 1 else ((x >>> (nI m &&& 31)) &&& (1 : Int32)) := by
  rw [bit_of hm, bit_of hm, b_or, b_one hn hm]
  by_cases e : m = n
  · rw [if_pos e, decide_eq_true e, Bool.or_true, if_pos rfl]
  · rw [if_neg e, decide_eq_false e, Bool.or_false]
theorem bit_clr {n m : Nat} (hn : n < 32) (hm : m < 32) (x : Int32) : (((x &&& (((1 : Int32) <<< (nI n &&& 31)) ^^^ (-1 : Int32))) >>> (nI m &&& 31)) &&& (1 : Int32)) = if m = n then 0 else ((x >>> (nI m &&& 31)) &&& (1 : Int32)) := by
  rw [bit_of hm, bit_of hm, b_and, b_xor, b_one hn hm, b_m1 m hm]
  by_cases e : m = n
  · rw [if_pos e, decide_eq_true e]; simp
  · rw [if_neg e, decide_eq_false e]; simp
theorem pair_fin : ∀ i, i < 5 → ∀ j, j < 5 → (i = j ∨ (fO_pair (nI i) (nI j) = nI (pairN (min i j) (max i j)) ∧ pairN (min i j) (max i j) < 10 ∧ fT_pairNumber (if nI j < nI i then nI j else nI i) (if nI i < nI j then nI j else nI i) = nI (5 * min i j + max i j) ∧ 5 * min i j + max i j < 25)) := by decide +kernel
theorem pj_fin0 : ∀ n, n < 25 → ∀ m, m < 25 → (¬ n / 5 < n % 5 ∨ ¬ m / 5 < m % 5 ∨ (pairN (n / 5) (n % 5) = pairN (m / 5) (m % 5) ↔ n = m)) := by decide +kernel
theorem pj_fin {a b c d : Nat} (hb : b < 5) (hd : d < 5) (hab : a < b) (hcd : c < d) : pairN a b = pairN c d ↔ 5 * a + b = 5 * c + d := by
  have h := pj_fin0 (5 * a + b) (by omega) (5 * c + d) (by omega)
  rw [show (5 * a + b) / 5 = a by omega, show (5 * a + b) % 5 = b by omega, show (5 * c + d) / 5 = c by omega, show (5 * c + d) % 5 = d by omega] at h
  exact (h.resolve_left (fun z => z hab)).resolve_left (fun z => z hcd)
theorem holds_b {x n : Int32} (h : ((x >>> (n &&& 31)) &&& (1 : Int32)) = 0 ∨ ((x >>> (n &&& 31)) &&& (1 : Int32)) = 1) : fX_holds x n = ((x >>> (n &&& 31)) &&& (1 : Int32)) := by
  rw [fX_holds]
  rcases h with h | h
  · rw [h, if_pos rfl]
  · rw [h, if_neg (by decide)]
/-- the two tapes alike as far as n -/
def TR (n : Nat) (v w : Nat → Int32) : Prop := ∀ i, i < n → w i = (v i).toInt8.toInt32 ∧ 0 ≤ (v i).toInt ∧ (v i).toInt ≤ 255
theorem byte_and (x : Int32) : (x &&& (255 : Int32)).toInt8 = x.toInt8 := by
  refine Int8.toBitVec_inj.mp (BitVec.eq_of_getLsbD_eq fun i hi => ?_)
  rw [Int32.toBitVec_toInt8, Int32.toBitVec_toInt8, BitVec.getLsbD_signExtend, BitVec.getLsbD_signExtend, Int32.toBitVec_and, BitVec.getLsbD_and]
  have h : (255 : Int32).toBitVec.getLsbD i = true := by
    have h2 := b_255 i
    rw [decide_eq_true (by omega)] at h2; exact h2
  rw [if_pos (by omega), if_pos (by omega), h, Bool.and_true]
theorem tr_step {n : Nat} {v w : Nat → Int32} (h : TR n v w) (x : Int32) : TR (n + 1) (upd v n (x &&& (255 : Int32))) (upd w n (vp_nar .byte x.toInt8.toInt32)) := by
  intro i hi
  by_cases e : i = n
  · subst e
    rw [pk_us, pk_us, pk_vb, byte_and]
    obtain ⟨j, hj, ej⟩ := pk_andE x (m := (255 : Int32)) 8 (by decide)
    rw [ej, nI_toInt (by omega)]
    exact ⟨rfl, by omega, by omega⟩
  · rw [pk_un e, pk_un e]; exact h i (by omega)
theorem app_step (p : Int32) (n : Nat) (x : Int32) (hx : ¬ x < 0) {k : Nat} (hk : k < 600) (v : Nat → Int32) : fP_append_l3 p (n + 1) x (nI k) v = fP_append_l3 p n (x + (-8 : Int32)) (nI (k + 1)) (upd v k ((p >>> (x &&& 31)) &&& (255 : Int32))) := by
  rw [fP_append_l3, if_neg hx, if_neg (by rw [i32_le, t32_600, nI_toInt (by omega)]; omega), nI_clamp (by omega), nI_1]
theorem four_step (p : Int32) (n : Nat) (x : Int32) (hx : ¬ x < 0) {k : Nat} (hk : k < 600) (v : Nat → Int32) : fO_four_l3 p (n + 1) x (nI k) v = fO_four_l3 p n (x + (-8 : Int32)) (nI (k + 1)) (upd v k (vp_nar .byte ((p >>> (x &&& 31)).toInt8.toInt32))) := by
  rw [fO_four_l3, if_neg hx, nI_clamp (by omega), nI_1]
theorem app_four {k : Nat} (hk : k + 4 ≤ 600) {v w : Nat → Int32} (h : TR k v w) (p : Int32) : ∃ v' w' : Nat → Int32, fP_append (nI k) v p = (nI (k + 4), v') ∧ fO_four (nI k) w p = (nI (k + 4), w') ∧ TR (k + 4) v' w' := by
  rw [fP_append, fO_four]
  rw [app_step p 4 (24 : Int32) (by decide) (by omega), four_step p 4 (24 : Int32) (by decide) (by omega), show (24 : Int32) + (-8 : Int32) = 16 from by decide]
  rw [app_step p 3 (16 : Int32) (by decide) (by omega), four_step p 3 (16 : Int32) (by decide) (by omega), show (16 : Int32) + (-8 : Int32) = 8 from by decide]
  rw [app_step p 2 (8 : Int32) (by decide) (by omega), four_step p 2 (8 : Int32) (by decide) (by omega), show (8 : Int32) + (-8 : Int32) = 0 from by decide]
  rw [app_step p 1 (0 : Int32) (by decide) (by omega), four_step p 1 (0 : Int32) (by decide) (by omega), show (0 : Int32) + (-8 : Int32) = -8 from by decide]
  refine ⟨_, _, by rw [fP_append_l3, if_pos (by decide)], by rw [fO_four_l3, if_pos (by decide)], ?_⟩
  exact tr_step (tr_step (tr_step (tr_step h _) _) _) _
theorem sim_start : Sim ((fT_setAsAtFirst (0 : Int32) (0 : Int32) (0 : Int32) (0 : Int32) (fun _ => 0) (fun _ => 0) (fun _ => 0)).1) ((fT_setAsAtFirst (0 : Int32) (0 : Int32) (0 : Int32) (0 : Int32) (fun _ => 0) (fun _ => 0) (fun _ => 0)).2.1) ((fT_setAsAtFirst (0 : Int32) (0 : Int32) (0 : Int32) (0 : Int32) (fun _ => 0) (fun _ => 0) (fun _ => 0)).2.2.1) ((fT_setAsAtFirst (0 : Int32) (0 : Int32) (0 : Int32) (0 : Int32) (fun _ => 0) (fun _ => 0) (fun _ => 0)).2.2.2.1) (fT_setAsAtFirst (0 : Int32) (0 : Int32) (0 : Int32) (0 : Int32) (fun _ => 0) (fun _ => 0) (fun _ => 0)).2.2.2.2.1 (fT_setAsAtFirst (0 : Int32) (0 : Int32) (0 : Int32) (0 : Int32) (fun _ => 0) (fun _ => 0) (fun _ => 0)).2.2.2.2.2.1 (fT_setAsAtFirst (0 : Int32) (0 : Int32) (0 : Int32) (0 : Int32) (fun _ => 0) (fun _ => 0) (fun _ => 0)).2.2.2.2.2.2 (0 : Int32) (fun _ => 0) (-1 : Int32) (0 : Int32) (-1 : Int32) (fO_begins (fun _ => 0) (0 : Int32)) (fO_forgets (fun _ => 0)) (fun _ => 0) := by
  refine ⟨by decide +kernel, by decide +kernel, by decide +kernel, by decide +kernel, by decide +kernel, ?_, by decide +kernel, by decide +kernel, fun i h => ?_, rfl⟩
  · intro a b hab hb
    exact (by decide +kernel : ∀ a, a < 5 → ∀ b, b < 5 → (¬ a < b ∨ (((((fT_setAsAtFirst (0 : Int32) (0 : Int32) (0 : Int32) (0 : Int32) (fun _ => 0) (fun _ => 0) (fun _ => 0)).2.2.2.1) >>> (nI (5 * a + b) &&& 31)) &&& 1) = (fO_begins (fun _ => 0) (0 : Int32)) (15 + pairN a b) ∧ ((fO_begins (fun _ => 0) (0 : Int32)) (15 + pairN a b) = 0 ∨ (fO_begins (fun _ => 0) (0 : Int32)) (15 + pairN a b) = 1)))) a (by omega) b hb |>.resolve_left (fun h => h hab)
  · rw [t32_0] at h; omega
theorem sim_must (X_faultPlace : Int32) (T_brokenWays : Int32) (T_triesAllowed : Int32) (T_mends : Int32) (T_talkers : Int32) (vTg : Nat → Int32) (vTp : Nat → Int32) (vTm : Nat → Int32) (P_count : Int32) (vPb : Nat → Int32) (O_taped : Int32) (O_fault : Int32) (vOt : Nat → Int32) (vOr : Nat → Int32) (vOp : Nat → Int32) (a1 a2 a3 : Int32) (h : Sim T_brokenWays T_triesAllowed T_mends T_talkers vTg vTp vTm P_count vPb X_faultPlace O_taped O_fault vOt vOr vOp) (hb : a3 = 0 ∨ a3 = 1) (r : Int32) (r' : Int32) (T_talkers' : Int32) (vOt' : Nat → Int32) (hX : (r, T_talkers') = fX_must T_talkers a1 a2 a3) (hO : (r', vOt') = fO_must vOt a1 a2 a3) : r = r' ∧ Sim T_brokenWays T_triesAllowed T_mends T_talkers' vTg vTp vTm P_count vPb X_faultPlace O_taped O_fault vOt' vOr vOp := by
  obtain ⟨h1, h2, h3, h4, h5, h6, h7, h8, h9, h10⟩ := id h
  rw [fX_must, af_eq] at hX; rw [fO_must, one_b hb] at hO
  by_cases c1 : fO_areFriends a1 a2 = 0
  · rw [if_pos c1] at hX hO; obtain ⟨rfl, rfl⟩ := Prod.mk.inj hX; obtain ⟨rfl, rfl⟩ := Prod.mk.inj hO; exact ⟨rfl, h⟩
  · rw [if_neg c1] at hX hO
    have f := af_ne c1
    obtain ⟨i, hi, ei, -⟩ := nat_of (n := 5) f.1.1 f.1.2 (by decide)
    obtain ⟨j, hj, ej, -⟩ := nat_of (n := 5) f.2.1.1 f.2.1.2 (by decide)
    have hij : ¬ i = j := fun e => f.2.2 (by rw [ei, ej, e])
    obtain ⟨g1, g2, g3, g4⟩ := (pair_fin i hi j hj).resolve_left hij
    rw [← ei, ← ej] at g1 g3
    have hlt : min i j < max i j := by omega
    have hmx : max i j < 5 := by omega
    generalize min i j = lo at *
    generalize max i j = hi2 at *
    obtain ⟨q1, q2⟩ := h6 lo hi2 hlt hmx
    have e15 : ((15 : Int32) + fO_pair a1 a2).toNatClampNeg = 15 + pairN lo hi2 := by
      rw [g1, show (15 : Int32) = nI 15 from rfl, nI_add]; exact nI_clamp (by omega)
    rw [e15] at hO
    rw [fT_mustTalk, g3, holds_b (by rw [q1]; exact q2), q1] at hX
    by_cases c2 : vOt (15 + pairN lo hi2) = a3
    · rw [if_pos c2] at hX hO; obtain ⟨rfl, rfl⟩ := Prod.mk.inj hX; obtain ⟨rfl, rfl⟩ := Prod.mk.inj hO; exact ⟨rfl, h⟩
    · rw [if_neg c2] at hX hO; obtain ⟨rfl, rfl⟩ := Prod.mk.inj hX; obtain ⟨rfl, rfl⟩ := Prod.mk.inj hO
      refine ⟨rfl, fun i hi => ?_, ?_, ?_, ?_, fun i hi => ?_, fun a b hab hb2 => ?_, h7, h8, h9, h10⟩
      · rw [pk_un (by omega)]; exact h1 i hi
      · rw [pk_un (by omega)]; exact h2
      · rw [pk_un (by omega)]; exact h3
      · rw [pk_un (by omega)]; exact h4
      · rw [pk_un (by omega)]; exact h5 i hi
      · have hpj := pj_fin hb2 hmx hab hlt
        have hd : ((fT_demandTalk T_talkers a1 a2 a3 >>> (nI (5 * a + b) &&& 31)) &&& 1) = if 5 * a + b = 5 * lo + hi2 then a3 else ((T_talkers >>> (nI (5 * a + b) &&& 31)) &&& 1) := by
          rw [fT_demandTalk, fT_demandTalk_b41, fT_demandTalk_b41, g3]
          rcases hb with rfl | rfl
          · rw [if_pos rfl, bit_clr (by omega) (by omega)]
          · rw [if_neg (by decide), bit_set (by omega) (by omega)]
        rw [hd]
        by_cases e : 5 * a + b = 5 * lo + hi2
        · rw [if_pos e, show 15 + pairN a b = 15 + pairN lo hi2 by rw [hpj.mpr e], pk_us]; exact ⟨rfl, hb⟩
        · rw [if_neg e, pk_un (fun z => e (hpj.mp (by omega)))]; exact h6 a b hab hb2
theorem sim_feed (X_faultPlace : Int32) (T_brokenWays : Int32) (T_triesAllowed : Int32) (T_mends : Int32) (T_talkers : Int32) (vTg : Nat → Int32) (vTp : Nat → Int32) (vTm : Nat → Int32) (P_count : Int32) (vPb : Nat → Int32) (O_taped : Int32) (O_fault : Int32) (vOt : Nat → Int32) (vOr : Nat → Int32) (vOp : Nat → Int32) (a1 a2 a3 a4 a5 : Int32) (h : Sim T_brokenWays T_triesAllowed T_mends T_talkers vTg vTp vTm P_count vPb X_faultPlace O_taped O_fault vOt vOr vOp) (r : Int32) (r' : Int32) (P_count' : Int32) (vPb' : Nat → Int32) (O_taped' : Int32) (vOp' : Nat → Int32) (hX : (r, P_count', vPb') = fX_feed P_count vPb a1 a2 a3 a4 a5) (hO : (r', O_taped', vOp') = fO_feed O_taped vOp a1 a2 a3 a4 a5) : r = r' ∧ Sim T_brokenWays T_triesAllowed T_mends T_talkers vTg vTp vTm P_count' vPb' X_faultPlace O_taped' O_fault vOt vOr vOp' := by
  obtain ⟨h1, h2, h3, h4, h5, h6, h7, h8, h9, h10⟩ := id h
  obtain ⟨k, hk, ek, -⟩ := nat_of (n := 601) h8.2.1 (by omega) (by decide)
  have hT : TR k vPb vOp := fun i hi => h9 i (by rw [ek, nI_toInt (by omega)]; omega)
  rw [fX_feed, fP_hasSpace, ek] at hX
  rw [fO_feed, ← h8.1, ek] at hO
  have e20 : (nI k + (20 : Int32)).toInt = k + 20 := by
    rw [show (20 : Int32) = nI 20 from rfl, nI_add, nI_toInt (by omega)]; omega
  by_cases c : k + 20 ≤ 600
  · have c6 : ¬ (600 : Int32) < nI k + (20 : Int32) := by rw [i32_lt, t32_600, e20]; omega
    have c7 : nI k + (20 : Int32) ≤ (600 : Int32) := by rw [i32_le, t32_600, e20]; omega
    rw [if_neg c6, if_neg (by decide)] at hX
    rw [if_pos c7] at hO
    obtain ⟨v1, w1, x1, y1, t1⟩ := app_four (by omega) hT a1
    obtain ⟨v2, w2, x2, y2, t2⟩ := app_four (by omega) t1 a2
    obtain ⟨v3, w3, x3, y3, t3⟩ := app_four (by omega) t2 a3
    obtain ⟨v4, w4, x4, y4, t4⟩ := app_four (by omega) t3 a4
    obtain ⟨v5, w5, x5, y5, t5⟩ := app_four (by omega) t4 a5
    simp only [bnd2, x1, x2, x3, x4, x5, fP_size] at hX
    simp only [bnd2, y1, y2, y3, y4, y5] at hO
    obtain ⟨rfl, hX2⟩ := Prod.mk.inj hX; obtain ⟨rfl, rfl⟩ := Prod.mk.inj hX2
    obtain ⟨rfl, hO2⟩ := Prod.mk.inj hO; obtain ⟨rfl, rfl⟩ := Prod.mk.inj hO2
    have e5 : (nI (k + 4 + 4 + 4 + 4 + 4)).toInt = k + 20 := by rw [nI_toInt (by omega)]; omega
    exact ⟨rfl, h1, h2, h3, h4, h5, h6, h7, ⟨rfl, by rw [e5]; omega, by rw [e5]; omega⟩, fun i hi => t5 i (by rw [e5] at hi; omega), h10⟩
  · have c6 : (600 : Int32) < nI k + (20 : Int32) := by rw [i32_lt, t32_600, e20]; omega
    have c7 : ¬ nI k + (20 : Int32) ≤ (600 : Int32) := by rw [i32_le, t32_600, e20]; omega
    rw [if_pos c6, if_pos rfl] at hX
    rw [if_neg c7] at hO
    obtain ⟨rfl, hX2⟩ := Prod.mk.inj hX; obtain ⟨rfl, rfl⟩ := Prod.mk.inj hX2
    obtain ⟨rfl, hO2⟩ := Prod.mk.inj hO; obtain ⟨rfl, rfl⟩ := Prod.mk.inj hO2
    refine ⟨rfl, h1, h2, h3, h4, h5, h6, h7, ⟨rfl, ?_⟩, ?_, h10⟩
    · rw [← ek]; exact h8.2
    · rw [← ek]; exact h9
