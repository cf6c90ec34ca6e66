/-! Pure rows: the small operations. -/
theorem isIn_ne {p a b : Int32} (h : ¬ fO_isIn p a b = 0) : a.toInt ≤ p.toInt ∧ p.toInt ≤ b.toInt := by
  rw [fO_isIn] at h
  by_cases c1 : p < a
  · rw [if_pos c1] at h; exact absurd rfl h
  · rw [if_neg c1] at h
    by_cases c2 : b < p
    · rw [if_pos c2] at h; exact absurd rfl h
    · rw [i32_lt] at c1 c2; omega
theorem fr_eq (p : Int32) : fX_isFriend p = fO_isFriend p := by
  simp only [fX_isFriend, fO_isFriend, fO_isIn, i32_lt, i32_le, t32_0, t32_4, t32_5]
  by_cases c1 : p.toInt < 0
  · rw [if_pos c1, if_pos c1]
  · rw [if_neg c1, if_neg c1]
    by_cases c2 : 5 ≤ p.toInt
    · rw [if_pos c2, if_pos (by omega)]
    · rw [if_neg c2, if_neg (by omega)]
theorem fr_ne {p : Int32} (h : ¬ fO_isFriend p = 0) : 0 ≤ p.toInt ∧ p.toInt < 5 := by
  have h1 := isIn_ne (show ¬ fO_isIn p (0 : Int32) (4 : Int32) = 0 from h)
  rw [t32_0, t32_4] at h1; omega
theorem ws_eq (p : Int32) : fX_isWaySet p = fO_isIn p (0 : Int32) (15 : Int32) := rfl
theorem md_eq (p : Int32) : fX_isMend p = fO_isIn p (0 : Int32) (6 : Int32) := by
  simp only [fX_isMend, fO_isIn, i32_lt, i32_le, t32_0, t32_6, t32_7]
  by_cases c1 : p.toInt < 0
  · rw [if_pos c1, if_pos c1]
  · rw [if_neg c1, if_neg c1]
    by_cases c2 : 7 ≤ p.toInt
    · rw [if_pos c2, if_pos (by omega)]
    · rw [if_neg c2, if_neg (by omega)]
theorem wy_eq (p : Int32) : fX_isWay p = fO_isIn p (0 : Int32) (3 : Int32) := by
  simp only [fX_isWay, fO_isIn, i32_lt, i32_le, t32_0, t32_3, t32_4]
  by_cases c1 : p.toInt < 0
  · rw [if_pos c1, if_pos c1]
  · rw [if_neg c1, if_neg c1]
    by_cases c2 : 4 ≤ p.toInt
    · rw [if_pos c2, if_pos (by omega)]
    · rw [if_neg c2, if_neg (by omega)]
theorem af_eq (a b : Int32) : fX_areUnlikeFriends a b = fO_areFriends a b := by
  rw [fX_areUnlikeFriends, fO_areFriends, fr_eq, fr_eq]
theorem af_ne {a b : Int32} (h : ¬ fO_areFriends a b = 0) : (0 ≤ a.toInt ∧ a.toInt < 5) ∧ (0 ≤ b.toInt ∧ b.toInt < 5) ∧ ¬ a = b := by
  rw [fO_areFriends] at h
  by_cases c1 : fO_isFriend a = 0
  · rw [if_pos c1] at h; exact absurd rfl h
  · rw [if_neg c1] at h
    by_cases c2 : fO_isFriend b = 0
    · rw [if_pos c2] at h; exact absurd rfl h
    · rw [if_neg c2] at h
      by_cases c3 : a = b
      · rw [if_pos c3] at h; exact absurd rfl h
      · exact ⟨fr_ne c1, fr_ne c2, c3⟩
theorem nat_of {p : Int32} {n : Nat} (h0 : 0 ≤ p.toInt) (h1 : p.toInt < n) (hn : n < 2147483648) : ∃ k, k < n ∧ p = nI k ∧ p.toNatClampNeg = k := by
  obtain ⟨k, hk, e⟩ := vp_in_of (x := p) (n := n) (vp_in_iff.mpr ⟨h0, h1⟩) (by omega)
  exact ⟨k, hk, e, by rw [e]; exact nI_clamp (by omega)⟩
theorem cl5 : (5 : Int32).toNatClampNeg = 5 := by decide
theorem cl6 : (6 : Int32).toNatClampNeg = 6 := by decide
theorem cl7 : (7 : Int32).toNatClampNeg = 7 := by decide
theorem one_b {b : Int32} (h : b = 0 ∨ b = 1) : fO_one b = b := by rcases h with rfl | rfl <;> rfl
section SMALL
variable {T_brokenWays T_triesAllowed T_mends T_talkers : Int32} {vTg vTp vTm : Nat → Int32} {P_count : Int32} {vPb : Nat → Int32} {X_faultPlace O_taped O_fault : Int32} {vOt vOr vOp : Nat → Int32}
theorem sm_ways (h : Sim T_brokenWays T_triesAllowed T_mends T_talkers vTg vTp vTm P_count vPb X_faultPlace O_taped O_fault vOt vOr vOp) {k : Nat} {x : Int32} (hk : k < 5) (hx : 0 ≤ x.toInt ∧ x.toInt ≤ 15) :
    Sim T_brokenWays T_triesAllowed T_mends T_talkers (upd vTg k x) vTp vTm P_count vPb X_faultPlace O_taped O_fault (upd vOt k x) vOr vOp := by
  obtain ⟨h1, h2, h3, h4, h5, h6, h7, h8, h9, h10⟩ := h
  refine ⟨fun i hi => ?_, ?_, ?_, ?_, fun i hi => ?_, fun a b hab hb => ?_, h7, h8, h9, h10⟩
  · by_cases e : i = k
    · subst e; rw [pk_us, pk_us]; exact ⟨rfl, hx⟩
    · rw [pk_un e, pk_un e]; exact h1 i hi
  · rw [pk_un (by omega)]; exact h2
  · rw [pk_un (by omega)]; exact h3
  · rw [pk_un (by omega)]; exact h4
  · rw [pk_un (by omega)]; exact h5 i hi
  · rw [pk_un (by omega)]; exact h6 a b hab hb
theorem sm_broken (h : Sim T_brokenWays T_triesAllowed T_mends T_talkers vTg vTp vTm P_count vPb X_faultPlace O_taped O_fault vOt vOr vOp) {x : Int32} (hx : 0 ≤ x.toInt ∧ x.toInt ≤ 15) :
    Sim x T_triesAllowed T_mends T_talkers vTg vTp vTm P_count vPb X_faultPlace O_taped O_fault (upd vOt 5 x) vOr vOp := by
  obtain ⟨h1, h2, h3, h4, h5, h6, h7, h8, h9, h10⟩ := h
  refine ⟨fun i hi => ?_, ?_, ?_, ?_, fun i hi => ?_, fun a b hab hb => ?_, h7, h8, h9, h10⟩
  · rw [pk_un (by omega)]; exact h1 i hi
  · rw [pk_us]; exact ⟨rfl, hx⟩
  · rw [pk_un (by omega)]; exact h3
  · rw [pk_un (by omega)]; exact h4
  · rw [pk_un (by omega)]; exact h5 i hi
  · rw [pk_un (by omega)]; exact h6 a b hab hb
theorem sm_retries (h : Sim T_brokenWays T_triesAllowed T_mends T_talkers vTg vTp vTm P_count vPb X_faultPlace O_taped O_fault vOt vOr vOp) {x : Int32} (hx : 0 ≤ x.toInt ∧ x.toInt ≤ 3) :
    Sim T_brokenWays x T_mends T_talkers vTg vTp vTm P_count vPb X_faultPlace O_taped O_fault (upd vOt 6 x) vOr vOp := by
  obtain ⟨h1, h2, h3, h4, h5, h6, h7, h8, h9, h10⟩ := h
  refine ⟨fun i hi => ?_, ?_, ?_, ?_, fun i hi => ?_, fun a b hab hb => ?_, h7, h8, h9, h10⟩
  · rw [pk_un (by omega)]; exact h1 i hi
  · rw [pk_un (by omega)]; exact h2
  · rw [pk_us]; exact ⟨rfl, hx⟩
  · rw [pk_un (by omega)]; exact h4
  · rw [pk_un (by omega)]; exact h5 i hi
  · rw [pk_un (by omega)]; exact h6 a b hab hb
theorem sm_mend (h : Sim T_brokenWays T_triesAllowed T_mends T_talkers vTg vTp vTm P_count vPb X_faultPlace O_taped O_fault vOt vOr vOp) {x : Int32} (hx : 0 ≤ x.toInt ∧ x.toInt ≤ 127) :
    Sim T_brokenWays T_triesAllowed x T_talkers vTg vTp vTm P_count vPb X_faultPlace O_taped O_fault (upd vOt 7 x) vOr vOp := by
  obtain ⟨h1, h2, h3, h4, h5, h6, h7, h8, h9, h10⟩ := h
  refine ⟨fun i hi => ?_, ?_, ?_, ?_, fun i hi => ?_, fun a b hab hb => ?_, h7, h8, h9, h10⟩
  · rw [pk_un (by omega)]; exact h1 i hi
  · rw [pk_un (by omega)]; exact h2
  · rw [pk_un (by omega)]; exact h3
  · rw [pk_us]; exact ⟨rfl, hx⟩
  · rw [pk_un (by omega)]; exact h5 i hi
  · rw [pk_un (by omega)]; exact h6 a b hab hb
theorem sm_cost (h : Sim T_brokenWays T_triesAllowed T_mends T_talkers vTg vTp vTm P_count vPb X_faultPlace O_taped O_fault vOt vOr vOp) {k : Nat} {x : Int32} (hk : k < 7) (hx : 0 ≤ x.toInt ∧ x.toInt ≤ 100) :
    Sim T_brokenWays T_triesAllowed T_mends T_talkers vTg (upd vTp k x) vTm P_count vPb X_faultPlace O_taped O_fault (upd vOt (8 + k) x) vOr vOp := by
  obtain ⟨h1, h2, h3, h4, h5, h6, h7, h8, h9, h10⟩ := h
  refine ⟨fun i hi => ?_, ?_, ?_, ?_, fun i hi => ?_, fun a b hab hb => ?_, h7, h8, h9, h10⟩
  · rw [pk_un (by omega)]; exact h1 i hi
  · rw [pk_un (by omega)]; exact h2
  · rw [pk_un (by omega)]; exact h3
  · rw [pk_un (by omega)]; exact h4
  · by_cases e : i = k
    · subst e; rw [pk_us, pk_us]; exact ⟨rfl, hx⟩
    · rw [pk_un e, pk_un (by omega)]; exact h5 i hi
  · rw [pk_un (by omega)]; exact h6 a b hab hb
end SMALL
theorem mend_fin1 : ∀ k, k < 128 → ∀ m, m < 7 → fX_holds (nI k) (nI m) = ((nI k >>> (nI m &&& 31)) &&& (1 : Int32)) := by decide +kernel
theorem mend_fin2 : ∀ k, k < 128 → ∀ m, m < 7 → ∀ b, b < 2 → (((nI k >>> (nI m &&& 31)) &&& (1 : Int32)) = nI b ∨ (fT_switchMend (nI k) (nI m) (nI b) = (nI k ^^^ ((1 : Int32) <<< (nI m &&& 31))) ∧ (nI k ^^^ ((1 : Int32) <<< (nI m &&& 31))) &&& (127 : Int32) = (nI k ^^^ ((1 : Int32) <<< (nI m &&& 31))))) := by decide +kernel
theorem and127 {x : Int32} (h : x &&& (127 : Int32) = x) : 0 ≤ x.toInt ∧ x.toInt ≤ 127 := by
  obtain ⟨j, hj, e⟩ := pk_andE x (m := (127 : Int32)) 7 (by decide)
  rw [h] at e; rw [e, nI_toInt (by omega)]; omega
/-- two cells of a row of memories raised to w -/
def keep2 (v : Nat → Int32) (k j : Nat) (w : Int32) : Nat → Int32 := upd (upd v k (if v k < w then w else v k)) j (if (upd v k (if v k < w then w else v k)) j < w then w else (upd v k (if v k < w then w else v k)) j)
theorem best_fin : ∀ k, k < 16 → fX_greatestOf (nI k) = fO_best (nI k) ∧ -1 ≤ (fX_greatestOf (nI k)).toInt ∧ (fX_greatestOf (nI k)).toInt ≤ 3 := by decide +kernel
theorem n15_fin : ∀ j, j < 16 → nI j &&& (15 : Int32) = nI j := by decide +kernel
theorem and15 {x : Int32} (y : Int32) (hx : 0 ≤ x.toInt ∧ x.toInt ≤ 15) : ∃ k, k < 16 ∧ x &&& y = nI k := by
  obtain ⟨j, hj, e, -⟩ := nat_of (n := 16) hx.1 (by omega) (by decide)
  obtain ⟨k, hk, ek⟩ := pk_andE (nI j &&& y) (m := (15 : Int32)) 4 (by decide)
  refine ⟨k, hk, ?_⟩
  rw [e, ← ek, Int32.and_assoc, Int32.and_comm y, ← Int32.and_assoc, n15_fin j hj]
section BU
variable {T_brokenWays T_triesAllowed T_mends T_talkers : Int32} {vTg vTp vTm : Nat → Int32} {P_count : Int32} {vPb : Nat → Int32} {X_faultPlace O_taped O_fault : Int32} {vOt vOr vOp : Nat → Int32}
theorem wu_eq (h : Sim T_brokenWays T_triesAllowed T_mends T_talkers vTg vTp vTm P_count vPb X_faultPlace O_taped O_fault vOt vOr vOp) {a : Int32} (ha : 0 ≤ a.toInt ∧ a.toInt < 5) (m : Int32) :
    fT_waysUnder vTg m a = fO_waysOf vOt a m ∧ ∃ k, k < 16 ∧ fO_waysOf vOt a m = nI k := by
  obtain ⟨i, hi, -, ei⟩ := nat_of (n := 5) ha.1 ha.2 (by decide)
  have h1 := h.1 i hi
  rw [fT_waysUnder, fO_waysOf, ei, ← h1.1]
  exact ⟨rfl, and15 _ h1.2⟩
theorem bu_eq (h : Sim T_brokenWays T_triesAllowed T_mends T_talkers vTg vTp vTm P_count vPb X_faultPlace O_taped O_fault vOt vOr vOp) {a b : Int32} (ha : 0 ≤ a.toInt ∧ a.toInt < 5) (hb : 0 ≤ b.toInt ∧ b.toInt < 5) (m : Int32) :
    fT_bestUnder vTg m a b = fO_bestOf vOt a b m := by
  obtain ⟨e1, k, hk, ek⟩ := wu_eq h ha m
  obtain ⟨e2, -⟩ := wu_eq h hb m
  rw [fT_bestUnder, fO_bestOf, e1, e2, ek]
  obtain ⟨j, hj, ej⟩ := and15 (x := nI k) (fO_waysOf vOt b m) ⟨by rw [nI_toInt (by omega)]; omega, by rw [nI_toInt (by omega)]; omega⟩
  rw [ej]; exact (best_fin j hj).1
theorem bu_rng (h : Sim T_brokenWays T_triesAllowed T_mends T_talkers vTg vTp vTm P_count vPb X_faultPlace O_taped O_fault vOt vOr vOp) {a b : Int32} (ha : 0 ≤ a.toInt ∧ a.toInt < 5) (hb : 0 ≤ b.toInt ∧ b.toInt < 5) (m : Int32) :
    -1 ≤ (fT_bestUnder vTg m a b).toInt ∧ (fT_bestUnder vTg m a b).toInt ≤ 3 := by
  obtain ⟨e1, k, hk, ek⟩ := wu_eq h ha m
  rw [fT_bestUnder, e1, ek]
  obtain ⟨j, hj, ej⟩ := and15 (x := nI k) (fT_waysUnder vTg m b) ⟨by rw [nI_toInt (by omega)]; omega, by rw [nI_toInt (by omega)]; omega⟩
  rw [ej]; exact (best_fin j hj).2
theorem up_rng {v w : Int32} (hv : -1 ≤ v.toInt ∧ v.toInt ≤ 3) (hw : -1 ≤ w.toInt ∧ w.toInt ≤ 3) : -1 ≤ (if v < w then w else v).toInt ∧ (if v < w then w else v).toInt ≤ 3 := by
  by_cases c : v < w
  · rw [if_pos c]; exact hw
  · rw [if_neg c]; exact hv
theorem sm_keep (h : Sim T_brokenWays T_triesAllowed T_mends T_talkers vTg vTp vTm P_count vPb X_faultPlace O_taped O_fault vOt vOr vOp) {k j : Nat} {x : Int32} (hk : k < 25) (hj : j < 25) (hx : -1 ≤ x.toInt ∧ x.toInt ≤ 3) (_ : ¬ x = (-1 : Int32)) :
    Sim T_brokenWays T_triesAllowed T_mends T_talkers vTg vTp (keep2 vTm k j x) P_count vPb X_faultPlace O_taped O_fault vOt (keep2 vOr k j x) vOp := by
  obtain ⟨h1, h2, h3, h4, h5, h6, h7, h8, h9, h10⟩ := h
  have s1 : ∀ i, i < 25 → upd vTm k (if vTm k < x then x else vTm k) i = upd vOr k (if vOr k < x then x else vOr k) i ∧ -1 ≤ (upd vTm k (if vTm k < x then x else vTm k) i).toInt ∧ (upd vTm k (if vTm k < x then x else vTm k) i).toInt ≤ 3 := by
    intro i hi
    by_cases e : i = k
    · subst e; rw [pk_us, pk_us, (h7 i hi).1]; exact ⟨rfl, by rw [← (h7 i hi).1]; exact up_rng (h7 i hi).2 hx⟩
    · rw [pk_un e, pk_un e]; exact h7 i hi
  refine ⟨h1, h2, h3, h4, h5, h6, fun i hi => ?_, h8, h9, h10⟩
  rw [keep2, keep2]
  by_cases e : i = j
  · subst e; rw [pk_us, pk_us, (s1 i hi).1]; exact ⟨rfl, by rw [← (s1 i hi).1]; exact up_rng (s1 i hi).2 hx⟩
  · rw [pk_un e, pk_un e]; exact s1 i hi
end BU
theorem sim_fault (X_faultPlace : Int32) (T_brokenWays : Int32) (T_triesAllowed : Int32) (T_mends : Int32) (T_talkers : Int32) (vTg : Nat → Int32) (vTp : Nat → Int32) (vTm : Nat → Int32) (P_count : Int32) (vPb : Nat → Int32) (O_taped : Int32) (O_fault : Int32) (vOt : Nat → Int32) (vOr : Nat → Int32) (vOp : Nat → Int32)  (h : Sim T_brokenWays T_triesAllowed T_mends T_talkers vTg vTp vTm P_count vPb X_faultPlace O_taped O_fault vOt vOr vOp) (r : Int32) (r' : Int32) (hX : r = fX_fault X_faultPlace) (hO : r' = fO_fault O_fault) : r = r' ∧ Sim T_brokenWays T_triesAllowed T_mends T_talkers vTg vTp vTm P_count vPb X_faultPlace O_taped O_fault vOt vOr vOp := by
  obtain ⟨h1, h2, h3, h4, h5, h6, h7, h8, h9, h10⟩ := id h
  rw [hX, hO]; exact ⟨h10, h⟩
theorem sim_ways (X_faultPlace : Int32) (T_brokenWays : Int32) (T_triesAllowed : Int32) (T_mends : Int32) (T_talkers : Int32) (vTg : Nat → Int32) (vTp : Nat → Int32) (vTm : Nat → Int32) (P_count : Int32) (vPb : Nat → Int32) (O_taped : Int32) (O_fault : Int32) (vOt : Nat → Int32) (vOr : Nat → Int32) (vOp : Nat → Int32) (a1 a2 : Int32) (h : Sim T_brokenWays T_triesAllowed T_mends T_talkers vTg vTp vTm P_count vPb X_faultPlace O_taped O_fault vOt vOr vOp) (r : Int32) (r' : Int32) (vTg' : Nat → Int32) (vOt' : Nat → Int32) (hX : (r, vTg') = fX_ways vTg a1 a2) (hO : (r', vOt') = fO_ways vOt a1 a2) : r = r' ∧ Sim T_brokenWays T_triesAllowed T_mends T_talkers vTg' vTp vTm P_count vPb X_faultPlace O_taped O_fault vOt' vOr vOp := by
  rw [fX_ways, fr_eq, ws_eq] at hX; rw [fO_ways] at hO
  by_cases c1 : fO_isFriend a1 = 0
  · rw [if_pos c1] at hX hO; obtain ⟨rfl, rfl⟩ := Prod.mk.inj hX; obtain ⟨rfl, rfl⟩ := Prod.mk.inj hO; exact ⟨rfl, h⟩
  · rw [if_neg c1] at hX hO
    by_cases c2 : fO_isIn a2 (0 : Int32) (15 : Int32) = 0
    · rw [if_pos c2] at hX hO; obtain ⟨rfl, rfl⟩ := Prod.mk.inj hX; obtain ⟨rfl, rfl⟩ := Prod.mk.inj hO; exact ⟨rfl, h⟩
    · rw [if_neg c2] at hX hO; obtain ⟨rfl, rfl⟩ := Prod.mk.inj hX; obtain ⟨rfl, rfl⟩ := Prod.mk.inj hO
      have f1 := fr_ne c1
      have f2 := isIn_ne c2
      rw [t32_0, t32_15] at f2
      obtain ⟨k, hk, -, ek⟩ := nat_of f1.1 f1.2 (by decide)
      rw [fT_giveWays, ek]
      exact ⟨rfl, sm_ways h hk f2⟩
theorem sim_broken (X_faultPlace : Int32) (T_brokenWays : Int32) (T_triesAllowed : Int32) (T_mends : Int32) (T_talkers : Int32) (vTg : Nat → Int32) (vTp : Nat → Int32) (vTm : Nat → Int32) (P_count : Int32) (vPb : Nat → Int32) (O_taped : Int32) (O_fault : Int32) (vOt : Nat → Int32) (vOr : Nat → Int32) (vOp : Nat → Int32) (a1 : Int32) (h : Sim T_brokenWays T_triesAllowed T_mends T_talkers vTg vTp vTm P_count vPb X_faultPlace O_taped O_fault vOt vOr vOp) (r : Int32) (r' : Int32) (T_brokenWays' : Int32) (vOt' : Nat → Int32) (hX : (r, T_brokenWays') = fX_broken T_brokenWays a1) (hO : (r', vOt') = fO_broken vOt a1) : r = r' ∧ Sim T_brokenWays' T_triesAllowed T_mends T_talkers vTg vTp vTm P_count vPb X_faultPlace O_taped O_fault vOt' vOr vOp := by
  rw [fX_broken, ws_eq] at hX; rw [fO_broken, cl5] at hO
  by_cases c2 : fO_isIn a1 (0 : Int32) (15 : Int32) = 0
  · rw [if_pos c2] at hX hO; obtain ⟨rfl, rfl⟩ := Prod.mk.inj hX; obtain ⟨rfl, rfl⟩ := Prod.mk.inj hO; exact ⟨rfl, h⟩
  · rw [if_neg c2] at hX hO; obtain ⟨rfl, rfl⟩ := Prod.mk.inj hX; obtain ⟨rfl, rfl⟩ := Prod.mk.inj hO
    have f2 := isIn_ne c2
    rw [t32_0, t32_15] at f2
    exact ⟨rfl, sm_broken h f2⟩
theorem sim_retries (X_faultPlace : Int32) (T_brokenWays : Int32) (T_triesAllowed : Int32) (T_mends : Int32) (T_talkers : Int32) (vTg : Nat → Int32) (vTp : Nat → Int32) (vTm : Nat → Int32) (P_count : Int32) (vPb : Nat → Int32) (O_taped : Int32) (O_fault : Int32) (vOt : Nat → Int32) (vOr : Nat → Int32) (vOp : Nat → Int32) (a1 : Int32) (h : Sim T_brokenWays T_triesAllowed T_mends T_talkers vTg vTp vTm P_count vPb X_faultPlace O_taped O_fault vOt vOr vOp) (r : Int32) (r' : Int32) (T_triesAllowed' : Int32) (vOt' : Nat → Int32) (hX : (r, T_triesAllowed') = fX_retries T_triesAllowed a1) (hO : (r', vOt') = fO_retries vOt a1) : r = r' ∧ Sim T_brokenWays T_triesAllowed' T_mends T_talkers vTg vTp vTm P_count vPb X_faultPlace O_taped O_fault vOt' vOr vOp := by
  rw [fX_retries] at hX; rw [fO_retries, cl6, fO_isIn] at hO
  by_cases c1 : a1 < 0
  · rw [if_pos c1] at hX; rw [if_pos c1, if_pos rfl] at hO; obtain ⟨rfl, rfl⟩ := Prod.mk.inj hX; obtain ⟨rfl, rfl⟩ := Prod.mk.inj hO; exact ⟨rfl, h⟩
  · rw [if_neg c1] at hX hO
    by_cases c2 : (3 : Int32) < a1
    · rw [if_neg (by rw [i32_lt] at c2; rw [i32_le]; omega)] at hX; rw [if_pos c2, if_pos rfl] at hO; obtain ⟨rfl, rfl⟩ := Prod.mk.inj hX; obtain ⟨rfl, rfl⟩ := Prod.mk.inj hO; exact ⟨rfl, h⟩
    · rw [if_pos (by rw [i32_lt] at c2; rw [i32_le]; omega)] at hX; rw [if_neg c2, if_neg (by decide)] at hO; obtain ⟨rfl, rfl⟩ := Prod.mk.inj hX; obtain ⟨rfl, rfl⟩ := Prod.mk.inj hO
      rw [i32_lt, t32_0] at c1; rw [i32_lt, t32_3] at c2
      exact ⟨rfl, sm_retries h ⟨by omega, by omega⟩⟩
theorem sim_mend (X_faultPlace : Int32) (T_brokenWays : Int32) (T_triesAllowed : Int32) (T_mends : Int32) (T_talkers : Int32) (vTg : Nat → Int32) (vTp : Nat → Int32) (vTm : Nat → Int32) (P_count : Int32) (vPb : Nat → Int32) (O_taped : Int32) (O_fault : Int32) (vOt : Nat → Int32) (vOr : Nat → Int32) (vOp : Nat → Int32) (a1 a2 : Int32) (h : Sim T_brokenWays T_triesAllowed T_mends T_talkers vTg vTp vTm P_count vPb X_faultPlace O_taped O_fault vOt vOr vOp) (hb : a2 = 0 ∨ a2 = 1) (r : Int32) (r' : Int32) (T_mends' : Int32) (vOt' : Nat → Int32) (hX : (r, T_mends') = fX_mend T_mends a1 a2) (hO : (r', vOt') = fO_mend vOt a1 a2) : r = r' ∧ Sim T_brokenWays T_triesAllowed T_mends' T_talkers vTg vTp vTm P_count vPb X_faultPlace O_taped O_fault vOt' vOr vOp := by
  obtain ⟨h1, h2, h3, h4, h5, h6, h7, h8, h9, h10⟩ := id h
  rw [fX_mend, md_eq] at hX; rw [fO_mend, cl7, one_b hb, ← h4.1] at hO
  by_cases c1 : fO_isIn a1 (0 : Int32) (6 : Int32) = 0
  · rw [if_pos c1] at hX hO; obtain ⟨rfl, rfl⟩ := Prod.mk.inj hX; obtain ⟨rfl, rfl⟩ := Prod.mk.inj hO; exact ⟨rfl, h⟩
  · rw [if_neg c1] at hX hO
    have f1 := isIn_ne c1
    rw [t32_0, t32_6] at f1
    obtain ⟨m, hm, em, -⟩ := nat_of (n := 7) f1.1 (by omega) (by decide)
    obtain ⟨k, hk, ek, -⟩ := nat_of (n := 128) h4.2.1 (by omega) (by decide)
    obtain ⟨b, hb2, eb⟩ : ∃ b, b < 2 ∧ a2 = nI b := by rcases hb with rfl | rfl; exact ⟨0, by decide, rfl⟩; exact ⟨1, by decide, rfl⟩
    have g1 := mend_fin1 k hk m hm
    have g2 := mend_fin2 k hk m hm b hb2
    rw [← ek, ← em] at g1 g2
    rw [← eb] at g2
    rw [fT_isOn, g1] at hX
    by_cases c2 : ((T_mends >>> (a1 &&& 31)) &&& (1 : Int32)) = a2
    · rw [if_pos c2] at hX hO; obtain ⟨rfl, rfl⟩ := Prod.mk.inj hX; obtain ⟨rfl, rfl⟩ := Prod.mk.inj hO; exact ⟨rfl, h⟩
    · rw [if_neg c2] at hX hO; obtain ⟨rfl, rfl⟩ := Prod.mk.inj hX; obtain ⟨rfl, rfl⟩ := Prod.mk.inj hO
      obtain ⟨g3, g4⟩ := g2.resolve_left c2
      rw [g3]
      exact ⟨rfl, sm_mend h (and127 g4)⟩
theorem sim_cost (X_faultPlace : Int32) (T_brokenWays : Int32) (T_triesAllowed : Int32) (T_mends : Int32) (T_talkers : Int32) (vTg : Nat → Int32) (vTp : Nat → Int32) (vTm : Nat → Int32) (P_count : Int32) (vPb : Nat → Int32) (O_taped : Int32) (O_fault : Int32) (vOt : Nat → Int32) (vOr : Nat → Int32) (vOp : Nat → Int32) (a1 a2 : Int32) (h : Sim T_brokenWays T_triesAllowed T_mends T_talkers vTg vTp vTm P_count vPb X_faultPlace O_taped O_fault vOt vOr vOp) (r : Int32) (r' : Int32) (vTp' : Nat → Int32) (vOt' : Nat → Int32) (hX : (r, vTp') = fX_cost vTp a1 a2) (hO : (r', vOt') = fO_cost vOt a1 a2) : r = r' ∧ Sim T_brokenWays T_triesAllowed T_mends T_talkers vTg vTp' vTm P_count vPb X_faultPlace O_taped O_fault vOt' vOr vOp := by
  rw [fX_cost, md_eq] at hX; rw [fO_cost] at hO
  by_cases c1 : fO_isIn a1 (0 : Int32) (6 : Int32) = 0
  · rw [if_pos c1] at hX hO; obtain ⟨rfl, rfl⟩ := Prod.mk.inj hX; obtain ⟨rfl, rfl⟩ := Prod.mk.inj hO; exact ⟨rfl, h⟩
  · rw [if_neg c1] at hX hO
    have f1 := isIn_ne c1
    rw [t32_0, t32_6] at f1
    obtain ⟨m, hm, em, ec⟩ := nat_of (n := 7) f1.1 (by omega) (by decide)
    have e8 : ((8 : Int32) + a1).toNatClampNeg = 8 + m := by
      rw [em, show (8 : Int32) = nI 8 from rfl, nI_add]; exact nI_clamp (by omega)
    rw [fO_isIn] at hO
    by_cases c2 : a2 < 0
    · rw [if_pos c2] at hX; rw [if_pos c2, if_pos rfl] at hO; obtain ⟨rfl, rfl⟩ := Prod.mk.inj hX; obtain ⟨rfl, rfl⟩ := Prod.mk.inj hO; exact ⟨rfl, h⟩
    · rw [if_neg c2] at hX hO
      by_cases c3 : (100 : Int32) < a2
      · rw [if_neg (by rw [i32_lt] at c3; rw [i32_le]; omega)] at hX; rw [if_pos c3, if_pos rfl] at hO; obtain ⟨rfl, rfl⟩ := Prod.mk.inj hX; obtain ⟨rfl, rfl⟩ := Prod.mk.inj hO; exact ⟨rfl, h⟩
      · rw [if_pos (by rw [i32_lt] at c3; rw [i32_le]; omega)] at hX; rw [if_neg c3, if_neg (by decide)] at hO; obtain ⟨rfl, rfl⟩ := Prod.mk.inj hX; obtain ⟨rfl, rfl⟩ := Prod.mk.inj hO
        rw [i32_lt, t32_0] at c2; rw [i32_lt, t32_100] at c3
        rw [fT_priceMend, ec, e8]
        exact ⟨rfl, sm_cost h hm ⟨by omega, by omega⟩⟩
theorem sim_best (X_faultPlace : Int32) (T_brokenWays : Int32) (T_triesAllowed : Int32) (T_mends : Int32) (T_talkers : Int32) (vTg : Nat → Int32) (vTp : Nat → Int32) (vTm : Nat → Int32) (P_count : Int32) (vPb : Nat → Int32) (O_taped : Int32) (O_fault : Int32) (vOt : Nat → Int32) (vOr : Nat → Int32) (vOp : Nat → Int32) (a1 a2 : Int32) (h : Sim T_brokenWays T_triesAllowed T_mends T_talkers vTg vTp vTm P_count vPb X_faultPlace O_taped O_fault vOt vOr vOp) (r : Int32) (r' : Int32) (hX : r = fX_best T_mends vTg a1 a2) (hO : r' = fO_best_ vOt a1 a2) : r = r' ∧ Sim T_brokenWays T_triesAllowed T_mends T_talkers vTg vTp vTm P_count vPb X_faultPlace O_taped O_fault vOt vOr vOp := by
  obtain ⟨h1, h2, h3, h4, h5, h6, h7, h8, h9, h10⟩ := id h
  rw [hX, hO, fX_best, fO_best_, af_eq]
  refine ⟨?_, h⟩
  by_cases c1 : fO_areFriends a1 a2 = 0
  · rw [if_pos c1, if_pos c1]
  · rw [if_neg c1, if_neg c1, cl7, ← h4.1, fT_mendsOn]
    have f := af_ne c1
    exact bu_eq h f.1 f.2.1 _
theorem sim_remembers (X_faultPlace : Int32) (T_brokenWays : Int32) (T_triesAllowed : Int32) (T_mends : Int32) (T_talkers : Int32) (vTg : Nat → Int32) (vTp : Nat → Int32) (vTm : Nat → Int32) (P_count : Int32) (vPb : Nat → Int32) (O_taped : Int32) (O_fault : Int32) (vOt : Nat → Int32) (vOr : Nat → Int32) (vOp : Nat → Int32) (a1 a2 : Int32) (h : Sim T_brokenWays T_triesAllowed T_mends T_talkers vTg vTp vTm P_count vPb X_faultPlace O_taped O_fault vOt vOr vOp) (r : Int32) (r' : Int32) (hX : r = fX_remembers vTm a1 a2) (hO : r' = fO_remembers vOr a1 a2) : r = r' ∧ Sim T_brokenWays T_triesAllowed T_mends T_talkers vTg vTp vTm P_count vPb X_faultPlace O_taped O_fault vOt vOr vOp := by
  obtain ⟨h1, h2, h3, h4, h5, h6, h7, h8, h9, h10⟩ := id h
  rw [hX, hO, fX_remembers, fO_remembers, af_eq]
  refine ⟨?_, h⟩
  by_cases c1 : fO_areFriends a1 a2 = 0
  · rw [if_pos c1, if_pos c1]
  · rw [if_neg c1, if_neg c1, fT_memory, fT_pairNumber]
    have f := af_ne c1
    have g := pairn_f f.1 f.2.1
    obtain ⟨k, hk, -, ek⟩ := nat_of (n := 25) g.1 g.2 (by decide)
    rw [ek]; exact (h7 k hk).1
theorem sim_meet (X_faultPlace : Int32) (T_brokenWays : Int32) (T_triesAllowed : Int32) (T_mends : Int32) (T_talkers : Int32) (vTg : Nat → Int32) (vTp : Nat → Int32) (vTm : Nat → Int32) (P_count : Int32) (vPb : Nat → Int32) (O_taped : Int32) (O_fault : Int32) (vOt : Nat → Int32) (vOr : Nat → Int32) (vOp : Nat → Int32) (a1 a2 : Int32) (h : Sim T_brokenWays T_triesAllowed T_mends T_talkers vTg vTp vTm P_count vPb X_faultPlace O_taped O_fault vOt vOr vOp) (r : Int32) (r' : Int32) (vTm' : Nat → Int32) (vOr' : Nat → Int32) (hX : (r, vTm') = fX_meet T_mends vTg vTm a1 a2) (hO : (r', vOr') = fO_meet vOt vOr a1 a2) : r = r' ∧ Sim T_brokenWays T_triesAllowed T_mends T_talkers vTg vTp vTm' P_count vPb X_faultPlace O_taped O_fault vOt vOr' vOp := by
  obtain ⟨h1, h2, h3, h4, h5, h6, h7, h8, h9, h10⟩ := id h
  rw [fX_meet, af_eq] at hX; rw [fO_meet] at hO
  by_cases c1 : fO_areFriends a1 a2 = 0
  · rw [if_pos c1] at hX; rw [fO_best_, if_pos c1, if_pos rfl] at hO; obtain ⟨rfl, rfl⟩ := Prod.mk.inj hX; obtain ⟨rfl, rfl⟩ := Prod.mk.inj hO; exact ⟨rfl, h⟩
  · have f := af_ne c1
    have eb : fO_best_ vOt a1 a2 = fT_bestUnder vTg (fT_mendsOn T_mends) a1 a2 := by
      rw [fO_best_, if_neg c1, cl7, ← h4.1, fT_mendsOn]; exact (bu_eq h f.1 f.2.1 _).symm
    rw [if_neg c1] at hX
    rw [eb, cl7, ← h4.1] at hO
    have hr := bu_rng h f.1 f.2.1 (fT_mendsOn T_mends)
    generalize fT_bestUnder vTg (fT_mendsOn T_mends) a1 a2 = w at hX hO hr
    have g1 := pairn_f f.1 f.2.1
    have g2 := pairn_f f.2.1 f.1
    obtain ⟨k, hk, -, ek⟩ := nat_of (n := 25) g1.1 g1.2 (by decide)
    obtain ⟨j, hj, -, ej⟩ := nat_of (n := 25) g2.1 g2.2 (by decide)
    have hb : ∀ s0 : Int32, fX_meet_b44 T_mends vTg a1 a2 w s0 vTm = (if w = (-1 : Int32) then ((-1 : Int32), vTm) else (if s0 = 0 then (w, keep2 vTm k j w) else (if vTm k ≤ w then (w, keep2 vTm k j w) else ((-1 : Int32), vTm)))) := by
      intro s0
      simp only [fX_meet_b44, fX_meet_b71, fT_memory, fT_keepMeeting, fT_pairNumber, ek, ej, keep2]
    have ho : fO_meet_b40 vOt a1 a2 w vOr = (w, keep2 vOr k j w) := by
      simp only [fO_meet_b40, ek, ej, keep2]
    rw [ho, ek, ← (h7 k hk).1] at hO
    rw [hb, hb, fT_mendsOn] at hX
    by_cases c2 : w = (-1 : Int32)
    · rw [if_pos c2] at hO; rw [if_pos c2, if_pos c2, ite_self] at hX; obtain ⟨rfl, rfl⟩ := Prod.mk.inj hX; obtain ⟨rfl, rfl⟩ := Prod.mk.inj hO; exact ⟨rfl, h⟩
    · rw [if_neg c2] at hO; rw [if_neg c2, if_neg c2] at hX
      have hk2 := sm_keep h hk hj (x := w) hr c2
      by_cases c3 : (T_mends &&& (4 : Int32)) = 0
      · rw [if_pos c3] at hO; rw [if_pos c3, if_pos rfl] at hX; obtain ⟨rfl, rfl⟩ := Prod.mk.inj hX; obtain ⟨rfl, rfl⟩ := Prod.mk.inj hO; exact ⟨rfl, hk2⟩
      · rw [if_neg c3] at hO; rw [if_neg c3, if_neg (by decide : ¬ (1 : Int32) = 0)] at hX
        by_cases c4 : vTm k ≤ w
        · rw [if_pos c4] at hX hO; obtain ⟨rfl, rfl⟩ := Prod.mk.inj hX; obtain ⟨rfl, rfl⟩ := Prod.mk.inj hO; exact ⟨rfl, hk2⟩
        · rw [if_neg c4] at hX hO; obtain ⟨rfl, rfl⟩ := Prod.mk.inj hX; obtain ⟨rfl, rfl⟩ := Prod.mk.inj hO; exact ⟨rfl, h⟩
