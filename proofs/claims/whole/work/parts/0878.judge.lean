-- what the judge answers: the reference answers alike
section JUD
variable {T_brokenWays T_triesAllowed T_mends T_talkers : Int32} {vTg vTp vTm : Nat → Int32} {P_count : Int32} {vPb : Nat → Int32} {X_faultPlace O_taped O_fault : Int32} {vOt vOr vOp : Nat → Int32}
theorem mem_eq (h : Sim T_brokenWays T_triesAllowed T_mends T_talkers vTg vTp vTm P_count vPb X_faultPlace O_taped O_fault vOt vOr vOp) {a b : Int32} (ha : 0 ≤ a.toInt ∧ a.toInt < 5) (hb : 0 ≤ b.toInt ∧ b.toInt < 5) : fT_memory vTm a b = vOr (((5 : Int32) * a) + b).toNatClampNeg := by
  rw [fT_memory, fT_pairNumber]
  have g := pairn_f ha hb
  obtain ⟨k, hk, -, ek⟩ := nat_of (n := 25) g.1 g.2 (by decide)
  rw [ek]; exact (h.2.2.2.2.2.2.1 k hk).1
theorem lt_T4 {md m v lt : Int32} (hlt : lt = if (md &&& (4 : Int32)) = 0 then (-1 : Int32) else m) (hm : m = v) : T4 fun t => t < lt ↔ ¬ ((md &&& (4 : Int32)) = 0 ∨ v ≤ t) := by
  by_cases c : (md &&& (4 : Int32)) = 0
  · rw [if_pos c] at hlt
    subst hlt
    have e : ∀ t : Int32, ¬ t < (-1 : Int32) → (t < (-1 : Int32) ↔ ¬ ((md &&& (4 : Int32)) = 0 ∨ v ≤ t)) := fun t ht => ⟨fun q => absurd q ht, fun q => absurd (Or.inl c) q⟩
    exact ⟨e _ (by decide), e _ (by decide), e _ (by decide), e _ (by decide)⟩
  · rw [if_neg c] at hlt
    subst hlt
    subst hm
    have e : ∀ t : Int32, (t < lt ↔ ¬ ((md &&& (4 : Int32)) = 0 ∨ lt ≤ t)) := fun t => by
      simp only [i32_lt, i32_le]
      constructor
      · intro q w
        rcases w with w | w
        · exact c w
        · omega
      · intro q
        have : ¬ lt.toInt ≤ t.toInt := fun w => q (Or.inr w)
        omega
    exact ⟨e _, e _, e _, e _⟩
/-- both sides at one pair under a set of mends -/
theorem judged (h : Sim T_brokenWays T_triesAllowed T_mends T_talkers vTg vTp vTm P_count vPb X_faultPlace O_taped O_fault vOt vOr vOp) {a b : Int32} (ha : 0 ≤ a.toInt ∧ a.toInt < 5) (hb : 0 ≤ b.toInt ∧ b.toInt < 5) (md : Int32) :
    ∃ own x lt : Int32, (∀ j1 j2 j3 j4 j5, fJ_seat j1 j2 j3 j4 j5 T_brokenWays vTg vTm a b md = (md, T_brokenWays, own, x, lt)) ∧ (fX_greatestOf (own &&& x) = fO_bestOf vOt a b md ∧ -1 ≤ (fO_bestOf vOt a b md).toInt ∧ (fO_bestOf vOt a b md).toInt ≤ 3) ∧
      ∀ g o1 o2 o3 o4 o5 o6 m1 m2 m3 m4 m5 m6, ∃ offc' mk' Sc' Sm', fJ_search md T_brokenWays own x lt o1 o2 o3 o4 o5 o6 T_triesAllowed g = cend offc' mk' Sc' ∧ fO_least m1 m2 m3 m4 m5 m6 vOt vOr a b g md = mfin Sm' ∧ Rel Sc' Sm' ∧ Good Sm' := by
  obtain ⟨h1, h2, h3, h4, h5, h6, h7, h8, h9, h10⟩ := id h
  obtain ⟨e1, k1, hk1, w1⟩ := wu_eq h ha md
  obtain ⟨e2, k2, hk2, w2⟩ := wu_eq h hb md
  refine ⟨nI k1, nI k2, if (md &&& (4 : Int32)) = 0 then (-1 : Int32) else fT_memory vTm a b, ?_, ?_, ?_⟩
  · intro j1 j2 j3 j4 j5
    rw [fJ_seat, fJ_seat_b62, fJ_seat_b62, e1, e2, w1, w2, show fT_waysBroken T_brokenWays = T_brokenWays from rfl]
    split <;> rfl
  · have r := bu_rng h ha hb md
    rw [bu_eq h ha hb md] at r
    refine ⟨?_, r⟩
    have e := bu_eq h ha hb md
    rw [fT_bestUnder, e1, e2, w1, w2] at e
    exact e
  · intro g o1 o2 o3 o4 o5 o6 m1 m2 m3 m4 m5 m6
    have s := search_eq (vOt := vOt) (vOr := vOr) (p1 := a) (p2 := b) (g := g) (md := md) (T := T_triesAllowed) (by rw [cl6]; exact h3.1) h3.2 hk1 hk2 w1 w2 (lt_T4 rfl (mem_eq h ha hb)) o1 o2 o3 o4 o5 o6 m1 m2 m3 m4 m5 m6
    rw [cl5, ← h2.1] at s
    exact s
theorem cend_1 {offc mk : Int32} {Sc : C4} {Sm : M6} (R : Rel Sc Sm) : (cend offc mk Sc).1 = if (mfin Sm).1 = (-1 : Int32) then 0 else 1 := by
  unfold cend mfin
  dsimp only
  rw [R.1]
theorem f_fall (h : Sim T_brokenWays T_triesAllowed T_mends T_talkers vTg vTp vTm P_count vPb X_faultPlace O_taped O_fault vOt vOr vOp) (j1 j2 j3 j4 j5 o1 o2 o3 o4 o5 o6 m1 m2 m3 m4 m5 m6 a1 a2 a3 : Int32) : (fX_fall T_brokenWays T_triesAllowed T_mends vTg vTm j1 j2 j3 j4 j5 o1 o2 o3 o4 o5 o6 a1 a2 a3).1 = (fO_fall m1 m2 m3 m4 m5 m6 vOt vOr a1 a2 a3).1 := by
  rw [fX_fall, fO_fall, af_eq, wy_eq]
  by_cases c1 : fO_areFriends a1 a2 = 0
  · rw [if_pos c1, if_pos c1]
  rw [if_neg c1, if_neg c1]
  by_cases c2 : fO_isIn a3 (0 : Int32) (3 : Int32) = 0
  · rw [if_pos c2, if_pos c2]
  rw [if_neg c2, if_neg c2]
  have f := af_ne c1
  obtain ⟨own, x, lt, e1, e2, e3⟩ := judged h f.1 f.2.1 T_mends
  obtain ⟨offc, mk, Sc, Sm, s1, s2, R, G⟩ := e3 a3 o1 o2 o3 o4 o5 o6 m1 m2 m3 m4 m5 m6
  rw [show fT_mendsOn T_mends = T_mends from rfl, e1, cl7, ← h.2.2.2.1.1, s2]
  show fJ_actsFound (fJ_search T_mends T_brokenWays own x lt o1 o2 o3 o4 o5 o6 T_triesAllowed a3).2.2.2.1 = actsM Sm
  rw [s1]; exact R.1
theorem f_apart (h : Sim T_brokenWays T_triesAllowed T_mends T_talkers vTg vTp vTm P_count vPb X_faultPlace O_taped O_fault vOt vOr vOp) (j1 j2 j3 j4 j5 o1 o2 o3 o4 o5 o6 m1 m2 m3 m4 m5 m6 a1 a2 : Int32) : (fX_apart T_brokenWays T_triesAllowed T_mends vTg vTm j1 j2 j3 j4 j5 o1 o2 o3 o4 o5 o6 a1 a2).1 = (fO_apart m1 m2 m3 m4 m5 m6 vOt vOr a1 a2).1 := by
  rw [fX_apart, fO_apart, af_eq]
  by_cases c1 : fO_areFriends a1 a2 = 0
  · rw [if_pos c1, if_pos c1]
  rw [if_neg c1, if_neg c1]
  have f := af_ne c1
  obtain ⟨own, x, lt, e1, e2, e3⟩ := judged h f.1 f.2.1 T_mends
  obtain ⟨offc, mk, Sc, Sm, s1, s2, R, G⟩ := e3 (-1 : Int32) o1 o2 o3 o4 o5 o6 m1 m2 m3 m4 m5 m6
  rw [show fT_mendsOn T_mends = T_mends from rfl, e1, cl7, ← h.2.2.2.1.1, s2]
  show fJ_actsFound (fJ_search T_mends T_brokenWays own x lt o1 o2 o3 o4 o5 o6 T_triesAllowed (-1 : Int32)).2.2.2.1 = actsM Sm
  rw [s1]; exact R.1
/-- the row of acts, act by act -/
theorem row_in (vOt vOr : Nat → Int32) (p1 p2 p3 : Int32) {dr ca pk tk ac fo k w : Int32} (hd : 0 ≤ dr.toInt ∧ dr.toInt ≤ 3) (hf : fo = 0 ∨ fo = 1) (ht : ¬ tk = (-1 : Int32)) (ha : ac = mActs dr ca pk tk fo) (hk0 : 0 ≤ k.toInt) (hk : k.toInt < ac.toInt) (hw : w = 0 ∨ w = 1) :
    (if dr ≤ k then (if ca = (-1 : Int32) then fO_row_b112 vOt vOr p1 p2 p3 k w (k - dr) dr ca pk tk ac fo else (if (k - dr) = 0 then (if w = 0 then ((1 : Int32), dr, ca, pk, tk, ac, fo) else (ca, dr, ca, pk, tk, ac, fo)) else fO_row_b112 vOt vOr p1 p2 p3 k w ((k - dr) + (-1 : Int32)) dr ca pk tk ac fo)) else ((0 : Int32), dr, ca, pk, tk, ac, fo)).1 = (if w = 0 then fJ_kindOfAct dr ca (if tk = pk then (-1 : Int32) else tk) k else fJ_detailOfAct dr ca (if tk = pk then (-1 : Int32) else tk) k) := by
  have hv := mActs_val (ch := ca) (pk := pk) (t := tk) hd hf
  rw [← ha] at hv
  have n1 : ¬ (1 : Int32) = 0 := by decide
  have n2 : ¬ (2 : Int32) = (1 : Int32) := by decide
  have n3 : ¬ (3 : Int32) = (1 : Int32) := by decide
  have n4 : ¬ (3 : Int32) = (2 : Int32) := by decide
  have n5 : ¬ (0 : Int32) = (1 : Int32) := by decide
  have n6 : ¬ (0 : Int32) = (2 : Int32) := by decide
  have z0 : (k - dr = 0) ↔ k.toInt = dr.toInt := by
    simp only [i32_eq, i32_sub, t32_0]; omega
  have z1 : (k - dr + (-1 : Int32) = 0) ↔ k.toInt = dr.toInt + 1 := by
    simp only [i32_eq, i32_sub, i32_add, t32_0, t32_m1]; omega
  have z2 : (k - dr + (-1 : Int32) + (-1 : Int32) = 0) ↔ k.toInt = dr.toInt + 2 := by
    simp only [i32_eq, i32_sub, i32_add, t32_0, t32_m1]; omega
  have z3 : dr ≤ k ↔ dr.toInt ≤ k.toInt := i32_le
  simp only [fO_row_b112, fO_row_b145, fJ_detailOfAct, fJ_kindOfAct, fJ_kindOfAct_b34, z0, z1, z2, z3]
  by_cases c1 : dr.toInt ≤ k.toInt
  · by_cases c2 : ca = (-1 : Int32)
    · by_cases c3 : tk = pk
      · simp only [c2, c3, if_true] at hv
        rcases hf with hf | hf
        · simp only [hf, if_true] at hv; omega
        · simp only [hf, n1, if_false] at hv
          have q : k.toInt = dr.toInt := by omega
          rcases hw with rfl | rfl <;> simp [eq_true c1, c2, c3, hf, eq_true q]
      · simp only [c2, c3, if_true, if_false] at hv
        by_cases q : k.toInt = dr.toInt
        · rcases hw with rfl | rfl <;> simp [eq_true c1, c2, c3, eq_true q, ht]
        · rcases hf with hf | hf
          · simp only [hf, if_true] at hv; omega
          · simp only [hf, n1, if_false] at hv
            have q1 : k.toInt = dr.toInt + 1 := by omega
            rcases hw with rfl | rfl <;> simp [eq_true c1, c2, c3, hf, q, eq_true q1, ht]
    · by_cases q : k.toInt = dr.toInt
      · rcases hw with rfl | rfl <;> simp [eq_true c1, c2, eq_true q]
      · by_cases c3 : tk = pk
        · simp only [c2, c3, if_true, if_false] at hv
          rcases hf with hf | hf
          · simp only [hf, if_true] at hv; omega
          · simp only [hf, n1, if_false] at hv
            have q1 : k.toInt = dr.toInt + 1 := by omega
            rcases hw with rfl | rfl <;> simp [eq_true c1, c2, c3, hf, q, eq_true q1]
        · simp only [c2, c3, if_false] at hv
          by_cases q1 : k.toInt = dr.toInt + 1
          · rcases hw with rfl | rfl <;> simp [eq_true c1, c2, c3, q, eq_true q1, ht]
          · rcases hf with hf | hf
            · simp only [hf, if_true] at hv; omega
            · simp only [hf, n1, if_false] at hv
              have q2 : k.toInt = dr.toInt + 2 := by omega
              rcases hw with rfl | rfl <;> simp [eq_true c1, c2, c3, hf, q, q1, eq_true q2, ht]
  · rcases hw with rfl | rfl <;> simp [c1]
theorem l21_thr {md br own x lt T : Int32} (n : Nat) (bw x2 x3 o1 o2 o3 o4 o5 o6 : Int32) (h2 : ¬ x2 = 0) : (fJ_isSafe_l21 md br own x lt T n bw x2 x3 o1 o2 o3 o4 o5 o6).1 = 0 := by
  cases n with
  | zero => rfl
  | succ n =>
    rw [fJ_isSafe_l21, fJ_isSafe_b42, if_neg h2, if_neg h2]
    split <;> rfl
theorem safe_eq (h : Sim T_brokenWays T_triesAllowed T_mends T_talkers vTg vTp vTm P_count vPb X_faultPlace O_taped O_fault vOt vOr vOp) {a b : Int32} (ha : 0 ≤ a.toInt ∧ a.toInt < 5) (hb : 0 ≤ b.toInt ∧ b.toInt < 5) (md : Int32) {own x lt : Int32} (e2 : fX_greatestOf (own &&& x) = fO_bestOf vOt a b md)
    (e3 : ∀ g o1 o2 o3 o4 o5 o6 m1 m2 m3 m4 m5 m6, ∃ offc' mk' Sc' Sm', fJ_search md T_brokenWays own x lt o1 o2 o3 o4 o5 o6 T_triesAllowed g = cend offc' mk' Sc' ∧ fO_least m1 m2 m3 m4 m5 m6 vOt vOr a b g md = mfin Sm' ∧ Rel Sc' Sm' ∧ Good Sm') (o1 o2 o3 o4 o5 o6 m1 m2 m3 m4 m5 m6 : Int32) :
    (fJ_isSafe md T_brokenWays own x lt o1 o2 o3 o4 o5 o6 T_triesAllowed).1 = (fO_isSafe m1 m2 m3 m4 m5 m6 vOt vOr a b md).1 ∧ ((fO_isSafe m1 m2 m3 m4 m5 m6 vOt vOr a b md).1 = 0 ∨ (fO_isSafe m1 m2 m3 m4 m5 m6 vOt vOr a b md).1 = 1) := by
  have L : ∀ n (w o1 o2 o3 o4 o5 o6 m1 m2 m3 m4 m5 m6 : Int32), (fJ_isSafe_l21 md T_brokenWays own x lt T_triesAllowed n (fX_greatestOf (own &&& x)) 0 w o1 o2 o3 o4 o5 o6).1 = (fO_isSafe_l17 vOt vOr a b md n w m1 m2 m3 m4 m5 m6).1 ∧ ((fO_isSafe_l17 vOt vOr a b md n w m1 m2 m3 m4 m5 m6).1 = 0 ∨ (fO_isSafe_l17 vOt vOr a b md n w m1 m2 m3 m4 m5 m6).1 = 1) := by
    intro n
    induction n with
    | zero => intro w o1 o2 o3 o4 o5 o6 m1 m2 m3 m4 m5 m6; exact ⟨rfl, Or.inl rfl⟩
    | succ n ih =>
      intro w o1 o2 o3 o4 o5 o6 m1 m2 m3 m4 m5 m6
      obtain ⟨offc, mk, Sc, Sm, s1, s2, R, G⟩ := e3 w o1 o2 o3 o4 o5 o6 m1 m2 m3 m4 m5 m6
      rw [fJ_isSafe_l21, fO_isSafe_l17, e2]
      by_cases c : fO_bestOf vOt a b md ≤ w
      · rw [if_pos c, if_pos c, fJ_isSafe_b42, if_pos rfl]; exact ⟨rfl, Or.inr rfl⟩
      rw [if_neg c, if_neg c, if_pos rfl, s1, s2]
      have r1 := cend_1 (offc := offc) (mk := mk) R
      by_cases d : (mfin Sm).1 = (-1 : Int32)
      · rw [if_pos d] at r1
        unfold bnd7
        dsimp only
        rw [if_pos d, r1, ← e2]
        exact ih _ _ _ _ _ _ _ _ _ _ _ _ _
      · rw [if_neg d] at r1
        unfold bnd7
        dsimp only
        rw [if_neg d, r1]
        exact ⟨l21_thr n _ _ _ _ _ _ _ _ _ (by decide), Or.inl rfl⟩
  obtain ⟨offc, mk, Sc, Sm, s1, s2, R, G⟩ := e3 (-1 : Int32) o1 o2 o3 o4 o5 o6 m1 m2 m3 m4 m5 m6
  rw [fJ_isSafe, fO_isSafe, s1, s2]
  have r1 := cend_1 (offc := offc) (mk := mk) R
  by_cases d : (mfin Sm).1 = (-1 : Int32)
  · rw [if_pos d] at r1
    unfold bnd7
    dsimp only
    rw [if_pos d, r1]
    exact L 5 _ _ _ _ _ _ _ _ _ _ _ _ _
  · rw [if_neg d] at r1
    unfold bnd7
    dsimp only
    rw [if_neg d, r1]
    exact ⟨l21_thr 5 _ _ _ _ _ _ _ _ _ (by decide), Or.inl rfl⟩
theorem low_eq (h : Sim T_brokenWays T_triesAllowed T_mends T_talkers vTg vTp vTm P_count vPb X_faultPlace O_taped O_fault vOt vOr vOp) {a b : Int32} (ha : 0 ≤ a.toInt ∧ a.toInt < 5) (hb : 0 ≤ b.toInt ∧ b.toInt < 5) {own x lt : Int32} (e2 : fX_greatestOf (own &&& x) = fO_bestOf vOt a b T_mends)
    (e3 : ∀ g o1 o2 o3 o4 o5 o6 m1 m2 m3 m4 m5 m6, ∃ offc' mk' Sc' Sm', fJ_search T_mends T_brokenWays own x lt o1 o2 o3 o4 o5 o6 T_triesAllowed g = cend offc' mk' Sc' ∧ fO_least m1 m2 m3 m4 m5 m6 vOt vOr a b g T_mends = mfin Sm' ∧ Rel Sc' Sm' ∧ Good Sm') : ∀ n (w o1 o2 o3 o4 o5 o6 m1 m2 m3 m4 m5 m6 : Int32),
    (fJ_lowestFall_l15 T_mends T_brokenWays own x lt T_triesAllowed n (fX_greatestOf (own &&& x)) w o1 o2 o3 o4 o5 o6).1 = (fO_lowest_l12 vOt vOr a b n w m1 m2 m3 m4 m5 m6).1 := by
  intro n
  induction n with
  | zero => intro w o1 o2 o3 o4 o5 o6 m1 m2 m3 m4 m5 m6; rfl
  | succ n ih =>
    intro w o1 o2 o3 o4 o5 o6 m1 m2 m3 m4 m5 m6
    obtain ⟨offc, mk, Sc, Sm, s1, s2, R, G⟩ := e3 w o1 o2 o3 o4 o5 o6 m1 m2 m3 m4 m5 m6
    rw [fJ_lowestFall_l15, fO_lowest_l12, e2, cl7, ← h.2.2.2.1.1]
    by_cases c : fO_bestOf vOt a b T_mends ≤ w
    · rw [if_pos c, if_pos c]
    rw [if_neg c, if_neg c, s1, s2]
    have r1 := cend_1 (offc := offc) (mk := mk) R
    by_cases d : (mfin Sm).1 = (-1 : Int32)
    · rw [if_pos d] at r1
      unfold bnd7
      dsimp only
      rw [if_pos d, r1, if_pos rfl, ← e2]
      exact ih _ _ _ _ _ _ _ _ _ _ _ _ _
    · rw [if_neg d] at r1
      unfold bnd7
      dsimp only
      rw [if_neg d, r1, if_neg (by decide)]
theorem f_safe (h : Sim T_brokenWays T_triesAllowed T_mends T_talkers vTg vTp vTm P_count vPb X_faultPlace O_taped O_fault vOt vOr vOp) (j1 j2 j3 j4 j5 o1 o2 o3 o4 o5 o6 m1 m2 m3 m4 m5 m6 a1 a2 : Int32) : (fX_safe T_brokenWays T_triesAllowed T_mends vTg vTm j1 j2 j3 j4 j5 o1 o2 o3 o4 o5 o6 a1 a2).1 = (fO_safe m1 m2 m3 m4 m5 m6 vOt vOr a1 a2).1 := by
  rw [fX_safe, fO_safe, af_eq]
  by_cases c1 : fO_areFriends a1 a2 = 0
  · rw [if_pos c1, if_pos c1]
  rw [if_neg c1, if_neg c1]
  have f := af_ne c1
  obtain ⟨own, x, lt, e1, e2, e3⟩ := judged h f.1 f.2.1 T_mends
  obtain ⟨g1, g2⟩ := safe_eq h f.1 f.2.1 T_mends e2.1 e3 o1 o2 o3 o4 o5 o6 m1 m2 m3 m4 m5 m6
  rw [show fT_mendsOn T_mends = T_mends from rfl, e1, cl7, ← h.2.2.2.1.1]
  unfold bnd5 bnd7
  dsimp only
  rw [g1]
  rcases g2 with g2 | g2
  · rw [g2, if_pos rfl]; rfl
  · rw [g2, if_neg (by decide)]; rfl
theorem f_lowest (h : Sim T_brokenWays T_triesAllowed T_mends T_talkers vTg vTp vTm P_count vPb X_faultPlace O_taped O_fault vOt vOr vOp) (j1 j2 j3 j4 j5 o1 o2 o3 o4 o5 o6 m1 m2 m3 m4 m5 m6 a1 a2 : Int32) : (fX_lowest T_brokenWays T_triesAllowed T_mends vTg vTm j1 j2 j3 j4 j5 o1 o2 o3 o4 o5 o6 a1 a2).1 = (fO_lowest m1 m2 m3 m4 m5 m6 vOt vOr a1 a2).1 := by
  rw [fX_lowest, fO_lowest, af_eq]
  by_cases c1 : fO_areFriends a1 a2 = 0
  · rw [if_pos c1, if_pos c1]
  rw [if_neg c1, if_neg c1]
  have f := af_ne c1
  obtain ⟨own, x, lt, e1, e2, e3⟩ := judged h f.1 f.2.1 T_mends
  rw [show fT_mendsOn T_mends = T_mends from rfl, e1]
  exact low_eq h f.1 f.2.1 e2.1 e3 5 0 o1 o2 o3 o4 o5 o6 m1 m2 m3 m4 m5 m6
end JUD
