-- the cheapest mends: class and reference answer alike
section CHP
variable {T_brokenWays T_triesAllowed T_mends T_talkers : Int32} {vTg vTp vTm : Nat → Int32} {P_count : Int32} {vPb : Nat → Int32} {X_faultPlace O_taped O_fault : Int32} {vOt vOr vOp : Nat → Int32}
/-- at the pair numbered j: those that must talk have a best way; the pair of the room is safe -/
def okT (vOt : Nat → Int32) (md : Int32) (j : Nat) : Prop := ¬ (j / 5 < j % 5 ∧ vOt (15 + pairN (j / 5) (j % 5)) = 1 ∧ fO_bestOf vOt (nI (j / 5)) (nI (j % 5)) md = (-1 : Int32))
def okS (vOt vOr : Nat → Int32) (p md : Int32) (j : Nat) : Prop := ¬ (¬ fO_isInRoom p (nI (j / 5)) (nI (j % 5)) = 0 ∧ sfN vOt vOr (j / 5) (j % 5) md = 0)
/-- a number says whether all from i on are well -/
def SaysA (P : Nat → Prop) (i : Nat) (r : Int32) : Prop := (r = 1 ∧ ∀ j, i ≤ j → j < 25 → P j) ∨ (r = 0 ∧ ∃ j, i ≤ j ∧ j < 25 ∧ ¬ P j)
theorem sa_end {P : Nat → Prop} {i : Nat} (h : 25 ≤ i) : SaysA P i 1 := Or.inl ⟨rfl, fun j h1 h2 => by omega⟩
theorem sa_bad {P : Nat → Prop} {i j : Nat} (h1 : i ≤ j) (h2 : j < 25) (h : ¬ P j) : SaysA P i 0 := Or.inr ⟨rfl, j, h1, h2, h⟩
theorem sa_step {P : Nat → Prop} {i : Nat} {r : Int32} (hp : P i) (h : SaysA P (i + 1) r) : SaysA P i r := by
  rcases h with ⟨h1, h2⟩ | ⟨h1, j, h2, h3, h4⟩
  · refine Or.inl ⟨h1, fun j a b => ?_⟩
    by_cases e : j = i
    · subst e; exact hp
    · exact h2 j (by omega) b
  · exact Or.inr ⟨h1, j, by omega, h3, h4⟩
theorem sa_skip {P : Nat → Prop} {i k : Nat} {r : Int32} (hik : i ≤ k) (hp : ∀ j, i ≤ j → j < k → P j) (h : SaysA P k r) : SaysA P i r := by
  rcases h with ⟨h1, h2⟩ | ⟨h1, j, h2, h3, h4⟩
  · refine Or.inl ⟨h1, fun j a b => ?_⟩
    by_cases e : j < k
    · exact hp j a e
    · exact h2 j (by omega) b
  · exact Or.inr ⟨h1, j, by omega, h3, h4⟩
theorem dm5 {a b : Nat} (hb : b < 5) : (5 * a + b) / 5 = a ∧ (5 * a + b) % 5 = b := by omega
theorem pn_fin : ∀ a, a < 5 → ∀ b, b < 5 → (¬ a < b ∨ ((15 : Int32) + fO_pair (nI a) (nI b)).toNatClampNeg = 15 + pairN a b) := by decide +kernel
theorem le5 {b : Nat} (hb : b < 5) : ¬ (5 : Int32) ≤ nI b := fun w => by rw [i32_le, t32_5, nI_toInt (by omega)] at w; omega
theorem nle {a b : Nat} (ha : a < 5) (hb : b < 5) : nI b ≤ nI a ↔ b ≤ a := nI_leI (by omega) (by omega)
/-- the reference's check of a set of mends -/
theorem does_says (h : Sim T_brokenWays T_triesAllowed T_mends T_talkers vTg vTp vTm P_count vPb X_faultPlace O_taped O_fault vOt vOr vOp) (p md : Int32) : ∀ m a b : Nat, 30 ≤ 6 * a + b + m → a < 5 → b ≤ 5 → ∀ no nk : Nat, no = 6 - b → nk = 5 - a → ∀ m1 m2 m3 m4 m5 m6 : Int32,
    SaysA (fun j => okT vOt md j ∧ okS vOt vOr p md j) (5 * a + b) (fO_does_l10 (fO_does_l2 vOt vOr p md nk) vOt vOr p md no (nI a) (nI b) m1 m2 m3 m4 m5 m6).1 := by
  intro m
  induction m with
  | zero => intro a b hm ha hb; omega
  | succ m ih =>
    intro a b hm ha hb no nk ho hk m1 m2 m3 m4 m5 m6
    obtain ⟨no', rfl⟩ : ∃ q, no = q + 1 := ⟨no - 1, by omega⟩
    obtain ⟨nk', rfl⟩ : ∃ q, nk = q + 1 := ⟨nk - 1, by omega⟩
    rw [fO_does_l10]
    by_cases hb5 : b = 5
    · subst hb5
      rw [if_pos (by decide), fO_does_l2, nI_1]
      by_cases ha4 : a = 4
      · subst ha4
        rw [if_pos (by decide)]
        exact sa_end (by omega)
      · rw [if_neg (le5 (by omega))]
        have g := ih (a + 1) 0 (by omega) (by omega) (by omega) 6 nk' (by omega) (by omega) m1 m2 m3 m4 m5 m6
        rw [show 5 * (a + 1) + 0 = 5 * a + 5 by omega] at g
        exact g
    · have hb' : b < 5 := by omega
      obtain ⟨d1, d2⟩ := dm5 (a := a) hb'
      rw [if_neg (le5 hb')]
      have B : okT vOt md (5 * a + b) → SaysA (fun j => okT vOt md j ∧ okS vOt vOr p md j) (5 * a + b) (fO_does_b54 (fO_does_l2 vOt vOr p md (nk' + 1)) (fO_does_l10 (fO_does_l2 vOt vOr p md (nk' + 1)) vOt vOr p md no') vOt vOr p md (nI a) (nI b) m1 m2 m3 m4 m5 m6).1 := by
        intro hT
        have I := ih a (b + 1) (by omega) ha (by omega) no' (nk' + 1) (by omega) (by omega)
        rw [← Nat.add_assoc] at I
        rw [fO_does_b54, nI_1]
        by_cases c : fO_isInRoom p (nI a) (nI b) = 0
        · rw [if_pos c]
          refine sa_step ⟨hT, fun w => w.1 ?_⟩ (I m1 m2 m3 m4 m5 m6)
          rw [d1, d2]; exact c
        · rw [if_neg c]
          obtain ⟨s1, s2, -⟩ := sf_all h ha hb' md
          unfold bnd7
          dsimp only
          rw [s1]
          by_cases z : sfN vOt vOr a b md = 0
          · rw [if_pos z]
            refine sa_bad (j := 5 * a + b) (by omega) (by omega) (fun w => w.2 ?_)
            rw [d1, d2]; exact ⟨c, z⟩
          · rw [if_neg z]
            refine sa_step ⟨hT, fun w => z ?_⟩ (I _ _ _ _ _ _)
            have w2 := w.2
            rw [d1, d2] at w2; exact w2
      by_cases hab : a < b
      · rw [if_neg (fun w => by rw [nle ha hb'] at w; omega), (pn_fin a ha b hb').resolve_left (fun z => z hab)]
        by_cases c1 : vOt (15 + pairN a b) = (1 : Int32)
        · rw [if_pos c1]
          by_cases c2 : fO_bestOf vOt (nI a) (nI b) md = (-1 : Int32)
          · rw [if_pos c2]
            refine sa_bad (j := 5 * a + b) (by omega) (by omega) (fun w => w.1 ?_)
            rw [d1, d2]; exact ⟨hab, c1, c2⟩
          · rw [if_neg c2]
            refine B (fun w => c2 ?_)
            have w2 := w.2.2
            rw [d1, d2] at w2; exact w2
        · rw [if_neg c1]
          refine B (fun w => c1 ?_)
          have w2 := w.2.1
          rw [d1, d2] at w2; exact w2
      · rw [if_pos ((nle ha hb').mpr (by omega))]
        refine B (fun w => hab ?_)
        have w2 := w.1
        rw [d1, d2] at w2; exact w2
theorem must_fin (h : Sim T_brokenWays T_triesAllowed T_mends T_talkers vTg vTp vTm P_count vPb X_faultPlace O_taped O_fault vOt vOr vOp) {a b : Nat} (hab : a < b) (hb : b < 5) : fT_mustTalk T_talkers (nI a) (nI b) = vOt (15 + pairN a b) ∧ (vOt (15 + pairN a b) = 0 ∨ vOt (15 + pairN a b) = 1) := by
  obtain ⟨q1, q2⟩ := h.2.2.2.2.2.1 a b hab hb
  obtain ⟨g1, g2, g3, g4⟩ := (pair_fin a (by omega) b hb).resolve_left (by omega)
  rw [show min a b = a by omega, show max a b = b by omega] at g3
  rw [fT_mustTalk, g3, holds_b (by rw [q1]; exact q2), q1]
  exact ⟨rfl, q2⟩
/-- the class's check of those that must talk -/
theorem lets_says (h : Sim T_brokenWays T_triesAllowed T_mends T_talkers vTg vTp vTm P_count vPb X_faultPlace O_taped O_fault vOt vOr vOp) (md : Int32) : ∀ m a b : Nat, 30 ≤ 6 * a + b + m → a < 5 → a < b → b ≤ 5 → ∀ no nk : Nat, no = 6 - (b - a - 1) → nk = 5 - a →
    SaysA (okT vOt md) (5 * a + b) (fM_letsTalk_l11 (fM_letsTalk_l2 T_talkers vTg md nk) T_talkers vTg md no (nI a) (nI b)) := by
  intro m
  induction m with
  | zero => intro a b hm ha hab hb; omega
  | succ m ih =>
    intro a b hm ha hab hb no nk ho hk
    obtain ⟨no', rfl⟩ : ∃ q, no = q + 1 := ⟨no - 1, by omega⟩
    obtain ⟨nk', rfl⟩ : ∃ q, nk = q + 1 := ⟨nk - 1, by omega⟩
    rw [fM_letsTalk_l11]
    by_cases hb5 : b = 5
    · subst hb5
      rw [if_pos (by decide), fM_letsTalk_l2, nI_1]
      by_cases ha4 : a = 4
      · subst ha4
        rw [if_pos (by decide)]
        exact sa_end (by omega)
      · rw [if_neg (le5 (by omega)), nI_1]
        have g := ih (a + 1) (a + 1 + 1) (by omega) (by omega) (by omega) (by omega) 6 nk' (by omega) (by omega)
        refine sa_skip (k := 5 * (a + 1) + (a + 1 + 1)) (by omega) (fun j h1 h2 w => ?_) g
        have := w.1
        omega
    · have hb' : b < 5 := by omega
      obtain ⟨d1, d2⟩ := dm5 (a := a) hb'
      obtain ⟨t1, t2⟩ := must_fin h hab hb'
      have I := ih a (b + 1) (by omega) ha (by omega) (by omega) no' (nk' + 1) (by omega) (by omega)
      rw [← Nat.add_assoc] at I
      rw [if_neg (le5 hb'), t1, nI_1, bu_eq h (nI5 ha) (nI5 hb') md]
      by_cases c1 : vOt (15 + pairN a b) = 0
      · rw [if_pos c1]
        refine sa_step (fun w => ?_) I
        have w2 := w.2.1
        rw [d1, d2, c1] at w2; exact absurd w2 (by decide)
      · rw [if_neg c1]
        by_cases c2 : fO_bestOf vOt (nI a) (nI b) md = (-1 : Int32)
        · rw [if_pos c2]
          refine sa_bad (j := 5 * a + b) (by omega) (by omega) (fun w => w ?_)
          rw [d1, d2]; exact ⟨hab, t2.resolve_left c1, c2⟩
        · rw [if_neg c2]
          refine sa_step (fun w => c2 ?_) I
          have w2 := w.2.2
          rw [d1, d2] at w2; exact w2
/-- the class's check of the room -/
theorem makes_says (h : Sim T_brokenWays T_triesAllowed T_mends T_talkers vTg vTp vTm P_count vPb X_faultPlace O_taped O_fault vOt vOr vOp) (md p : Int32) : ∀ n i : Nat, n + i = 26 → i ≤ 25 → ∀ j1 j2 j3 j4 j5 o1 o2 o3 o4 o5 o6 : Int32,
    SaysA (okS vOt vOr p md) i (fM_makesSafe_l2 T_brokenWays T_triesAllowed vTg vTm md p n (nI i) j1 j2 j3 j4 j5 o1 o2 o3 o4 o5 o6).1 := by
  intro n
  induction n with
  | zero => intro i hi hi2; omega
  | succ n ih =>
    intro i hi hi2 j1 j2 j3 j4 j5 o1 o2 o3 o4 o5 o6
    rw [fM_makesSafe_l2, nI_1]
    by_cases hi5 : i = 25
    · subst hi5
      rw [if_pos (by decide)]; exact sa_end (by omega)
    rw [if_neg (show ¬ (25 : Int32) ≤ nI i from fun w => by rw [i32_le, t32_25, nI_toInt (by omega)] at w; omega)]
    have ha : i / 5 < 5 := by omega
    have hb : i % 5 < 5 := by omega
    have e5 : 5 * (i / 5) + i % 5 = i := by omega
    have q0 := inr_eq ha hb p
    obtain ⟨q1, q2, -⟩ := pr_fin (i / 5) ha (i % 5) hb
    rw [e5] at q0 q1 q2
    rw [q0]
    by_cases c : fO_isInRoom p (nI (i / 5)) (nI (i % 5)) = 0
    · rw [if_pos c]
      exact sa_step (fun w => w.1 c) (ih (i + 1) (by omega) (by omega) _ _ _ _ _ _ _ _ _ _ _)
    rw [if_neg c, q2, q1]
    obtain ⟨s1, s2, own, x, lt, s3, s4⟩ := sf_all h ha hb md
    rw [s3]
    unfold bnd5 bnd7
    dsimp only
    rw [s4]
    by_cases z : sfN vOt vOr (i / 5) (i % 5) md = 0
    · rw [if_pos z]
      exact sa_bad (j := i) (by omega) (by omega) (fun w => w ⟨c, z⟩)
    · rw [if_neg z]
      exact sa_step (fun w => z w.2) (ih (i + 1) (by omega) (by omega) _ _ _ _ _ _ _ _ _ _ _)
theorem does_eq (h : Sim T_brokenWays T_triesAllowed T_mends T_talkers vTg vTp vTm P_count vPb X_faultPlace O_taped O_fault vOt vOr vOp) (p md : Int32) (j1 j2 j3 j4 j5 o1 o2 o3 o4 o5 o6 m1 m2 m3 m4 m5 m6 : Int32) :
    (fO_does m1 m2 m3 m4 m5 m6 vOt vOr p md).1 = 0 ↔ (fM_letsTalk T_talkers vTg md = 0 ∨ (fM_makesSafe j1 j2 j3 j4 j5 o1 o2 o3 o4 o5 o6 T_brokenWays T_triesAllowed vTg vTm md p).1 = 0) := by
  have A : SaysA (fun j => okT vOt md j ∧ okS vOt vOr p md j) 0 (fO_does m1 m2 m3 m4 m5 m6 vOt vOr p md).1 := by
    rw [fO_does, fO_does_l2, if_neg (by decide)]
    exact does_says h p md 30 0 0 (by omega) (by omega) (by omega) 6 5 (by omega) (by omega) m1 m2 m3 m4 m5 m6
  have B : SaysA (okT vOt md) 0 (fM_letsTalk T_talkers vTg md) := by
    rw [fM_letsTalk, fM_letsTalk_l2, if_neg (by decide)]
    refine sa_skip (k := 5 * 0 + 1) (by omega) (fun j h1 h2 w => ?_) (lets_says h md 29 0 1 (by omega) (by omega) (by omega) (by omega) 6 5 (by omega) (by omega))
    have := w.1
    omega
  have C : SaysA (okS vOt vOr p md) 0 (fM_makesSafe j1 j2 j3 j4 j5 o1 o2 o3 o4 o5 o6 T_brokenWays T_triesAllowed vTg vTm md p).1 := by
    rw [fM_makesSafe]
    exact makes_says h md p 26 0 (by omega) (by omega) j1 j2 j3 j4 j5 o1 o2 o3 o4 o5 o6
  have n1 : ¬ (1 : Int32) = 0 := by decide
  rcases A with ⟨a1, a2⟩ | ⟨a1, j, a2, a3, a4⟩
  · rcases B with ⟨b1, b2⟩ | ⟨b1, j, b2, b3, b4⟩
    · rcases C with ⟨c1, c2⟩ | ⟨c1, j, c2, c3, c4⟩
      · rw [a1, b1, c1]
        exact ⟨fun w => absurd w n1, fun w => w.elim id id⟩
      · exact absurd (a2 j c2 c3).2 c4
    · exact absurd (a2 j b2 b3).1 b4
  · rcases B with ⟨b1, b2⟩ | ⟨b1, -⟩
    · rcases C with ⟨c1, c2⟩ | ⟨c1, -⟩
      · exact absurd ⟨b2 j a2 a3, c2 j a2 a3⟩ a4
      · exact ⟨fun _ => Or.inr c1, fun _ => a1⟩
    · exact ⟨fun _ => Or.inl b1, fun _ => a1⟩
/-- how many mends a set has, as the reference counts them -/
def cntl (p : Int32) : Nat → Int32 → Int32 → Int32
  | 0, c, _ => c
  | n + 1, c, m => if (7 : Int32) ≤ m then c else if ((p >>> (m &&& 31)) &&& (1 : Int32)) = 0 then cntl p n c (m + (1 : Int32)) else cntl p n (c + (1 : Int32)) (m + (1 : Int32))
theorem cnt_fin : ∀ k, k < 128 → cntl (nI k) 8 0 0 = fI_bitCount (nI k) := by decide +kernel
theorem l65_eq (h : Sim T_brokenWays T_triesAllowed T_mends T_talkers vTg vTp vTm P_count vPb X_faultPlace O_taped O_fault vOt vOr vOp) {K : Int32 → Int32 → Int32 → Int32 → Int32 → Int32 → Int32 → Int32 → Int32 → Int32 → (Int32 × Int32 × Int32 × Int32 × Int32 × Int32 × Int32)} {p1 p2 x3 x4 x5 mo m1 m2 m3 m4 m5 m6 : Int32} : ∀ n m : Nat, n + m = 8 → m ≤ 7 → ∀ s c : Int32,
    fO_cheapest_l65 K vOt vOr p1 p2 n x3 x4 x5 mo s c (nI m) m1 m2 m3 m4 m5 m6 = fO_cheapest_l65 K vOt vOr p1 p2 1 x3 x4 x5 mo (fM_priceOfAll_l4 vTp mo n s (nI m)) (cntl mo n c (nI m)) 7 m1 m2 m3 m4 m5 m6 := by
  intro n
  induction n with
  | zero => intro m hm hm2; omega
  | succ n ih =>
    intro m hm hm2 s c
    by_cases h7 : m = 7
    · subst h7
      obtain rfl : n = 0 := by omega
      rw [fM_priceOfAll_l4, if_pos (by decide), cntl, if_pos (by decide)]
      rfl
    have n7 : ¬ (7 : Int32) ≤ nI m := fun w => by rw [i32_le, t32_7, nI_toInt (by omega)] at w; omega
    rw [fO_cheapest_l65, if_neg n7, fM_priceOfAll_l4, if_neg n7, cntl, if_neg n7, fX_holds, nI_1]
    by_cases b0 : ((mo >>> (nI m &&& 31)) &&& (1 : Int32)) = 0
    · rw [if_pos b0, if_pos b0, if_pos b0, if_pos rfl]
      exact ih (m + 1) (by omega) (by omega) s c
    · rw [if_neg b0, if_neg b0, if_neg b0, if_neg (by decide)]
      have e1 : vOt ((8 : Int32) + nI m).toNatClampNeg = fT_priceOf vTp (nI m) := by
        rw [fT_priceOf, show (8 : Int32) = nI 8 from rfl, nI_add, nI_clamp (by omega), nI_clamp (by omega)]
        exact (h.2.2.2.2.1 m (by omega)).1.symm
      rw [e1]
      exact ih (m + 1) (by omega) (by omega) _ _
theorem l65_1 {K : Int32 → Int32 → Int32 → Int32 → Int32 → Int32 → Int32 → Int32 → Int32 → Int32 → (Int32 × Int32 × Int32 × Int32 × Int32 × Int32 × Int32)} {p1 p2 x3 x4 x5 mo m1 m2 m3 m4 m5 m6 : Int32} (hx : ¬ x3 = (-1 : Int32) → x5 = fI_bitCount x3) :
    fO_cheapest_l65 K vOt vOr p1 p2 1 x3 x4 x5 mo (fM_priceOfAll vTp mo) (fI_bitCount mo) 7 m1 m2 m3 m4 m5 m6 = fO_cheapest_b140 K vOt vOr p1 p2 x3 x4 x5 mo (fM_priceOfAll vTp mo) (fI_bitCount mo) (fM_isCheaper x3 x4 vTp mo) m1 m2 m3 m4 m5 m6 := by
  rw [fO_cheapest_l65, if_pos (by decide), fM_isCheaper]
  by_cases c1 : x3 = (-1 : Int32)
  · rw [if_pos c1, if_pos c1]
  rw [if_neg c1, if_neg c1, ← hx c1, fM_isCheaper_b35, fM_isCheaper_b35]
  by_cases c2 : fM_priceOfAll vTp mo < x4
  · rw [if_pos c2, if_pos c2, if_pos c2, ite_self]
  rw [if_neg c2, if_neg c2, if_neg c2]
  by_cases c3 : fM_priceOfAll vTp mo = x4
  · rw [if_pos c3, if_pos c3, if_pos c3]
    by_cases c4 : x5 ≤ fI_bitCount mo
    · rw [if_pos c4, if_pos c4, if_pos rfl]
    · rw [if_neg c4, if_neg c4, if_neg (by decide)]
  · rw [if_neg c3, if_neg c3, if_neg c3, ite_self]
/-- what the class answers of the searched set -/
def cfin (p2 r bs bp : Int32) : Int32 := if r = 0 then (-1 : Int32) else (if p2 = 0 then bp else (if p2 = (1 : Int32) then bs else fI_bitCount bs))
theorem or_cm (x y : Int32) : x ||| y = y ||| x := Int32.or_comm x y
theorem cheap_loop (h : Sim T_brokenWays T_triesAllowed T_mends T_talkers vTg vTp vTm P_count vPb X_faultPlace O_taped O_fault vOt vOr vOp) (p1 p2 : Int32) : ∀ n i : Nat, n + i = 129 → i ≤ 128 → ∀ bs bp le fe j1 j2 j3 j4 j5 o1 o2 o3 o4 o5 o6 m1 m2 m3 m4 m5 m6 : Int32, (¬ bs = (-1 : Int32) → bp = le ∧ fe = fI_bitCount bs) →
    cfin p2 (fM_searchFor_l7 T_brokenWays T_triesAllowed T_mends T_talkers vTg vTp vTm p1 n (nI i) bs bp j1 j2 j3 j4 j5 o1 o2 o3 o4 o5 o6).1 (fM_searchFor_l7 T_brokenWays T_triesAllowed T_mends T_talkers vTg vTp vTm p1 n (nI i) bs bp j1 j2 j3 j4 j5 o1 o2 o3 o4 o5 o6).2.1 (fM_searchFor_l7 T_brokenWays T_triesAllowed T_mends T_talkers vTg vTp vTm p1 n (nI i) bs bp j1 j2 j3 j4 j5 o1 o2 o3 o4 o5 o6).2.2.1 = (fO_cheapest_l32 vOt vOr p1 p2 n bs le fe (nI i) m1 m2 m3 m4 m5 m6).1 := by
  intro n
  induction n with
  | zero => intro i hi hi2; omega
  | succ n ih =>
    intro i hi hi2 bs bp le fe j1 j2 j3 j4 j5 o1 o2 o3 o4 o5 o6 m1 m2 m3 m4 m5 m6 hr
    rw [fM_searchFor_l7, fO_cheapest_l32, nI_1]
    by_cases hi5 : i = 128
    · subst hi5
      have p128 : (128 : Int32) ≤ nI 128 := by decide
      rw [if_pos p128, if_pos p128]
      by_cases c : bs = (-1 : Int32)
      · rw [if_pos c, if_pos c]; rfl
      · rw [if_neg c, if_neg c]
        obtain ⟨r1, r2⟩ := hr c
        unfold cfin
        dsimp only
        rw [if_neg (by decide), r1, r2]
        by_cases d : p2 = 0
        · rw [if_pos d, if_pos d]
        · rw [if_neg d, if_neg d]
          by_cases d2 : p2 = (1 : Int32)
          · rw [if_pos d2, if_pos d2]
          · rw [if_neg d2, if_neg d2]
    have n8 : ¬ (128 : Int32) ≤ nI i := fun w => by rw [i32_le, t32_128, nI_toInt (by omega)] at w; omega
    rw [if_neg n8, if_neg n8, cl7, ← h.2.2.2.1.1, show fT_mendsOn T_mends = T_mends from rfl]
    by_cases c1 : (nI i &&& T_mends) = 0
    · have E := l65_eq h (K := fO_cheapest_l32 vOt vOr p1 p2 n) (p1 := p1) (p2 := p2) (x3 := bs) (x4 := le) (x5 := fe) (mo := nI i) (m1 := m1) (m2 := m2) (m3 := m3) (m4 := m4) (m5 := m5) (m6 := m6) 8 0 (by omega) (by omega) 0 0
      rw [nI_0] at E
      rw [if_pos c1, if_pos c1, E]
      rw [cnt_fin i (by omega), show fM_priceOfAll_l4 vTp (nI i) 8 0 0 = fM_priceOfAll vTp (nI i) from rfl]
      have ec : fM_isCheaper bs bp vTp (nI i) = fM_isCheaper bs le vTp (nI i) := by
        by_cases cb : bs = (-1 : Int32)
        · rw [fM_isCheaper, fM_isCheaper, if_pos cb, if_pos cb]
        · rw [(hr cb).1]
      rw [l65_1 (fun w => (hr w).2), fO_cheapest_b140, ← ec, nI_1, cl7, ← h.2.2.2.1.1, or_cm T_mends (nI i)]
      have g := does_eq h p1 (nI i ||| T_mends) j1 j2 j3 j4 j5 o1 o2 o3 o4 o5 o6 m1 m2 m3 m4 m5 m6
      by_cases c2 : fM_isCheaper bs bp vTp (nI i) = 0
      · rw [if_pos c2, if_pos c2]
        exact ih (i + 1) (by omega) (by omega) _ _ _ _ _ _ _ _ _ _ _ _ _ _ _ _ _ _ _ _ _ hr
      rw [if_neg c2, if_neg c2]
      by_cases c3 : fM_letsTalk T_talkers vTg (nI i ||| T_mends) = 0
      · unfold bnd7
        dsimp only
        rw [if_pos c3, if_pos (g.mpr (Or.inl c3))]
        exact ih (i + 1) (by omega) (by omega) _ _ _ _ _ _ _ _ _ _ _ _ _ _ _ _ _ _ _ _ _ hr
      rw [if_neg c3]
      unfold bnd12 bnd7
      dsimp only
      by_cases c4 : (fM_makesSafe j1 j2 j3 j4 j5 o1 o2 o3 o4 o5 o6 T_brokenWays T_triesAllowed vTg vTm (nI i ||| T_mends) p1).1 = 0
      · rw [if_pos c4, if_pos (g.mpr (Or.inr c4))]
        exact ih (i + 1) (by omega) (by omega) _ _ _ _ _ _ _ _ _ _ _ _ _ _ _ _ _ _ _ _ _ hr
      · rw [if_neg c4, if_neg (fun w => (g.mp w).elim c3 c4)]
        exact ih (i + 1) (by omega) (by omega) _ _ _ _ _ _ _ _ _ _ _ _ _ _ _ _ _ _ _ _ _ (fun _ => ⟨rfl, rfl⟩)
    · rw [if_neg c1, if_neg c1]
      exact ih (i + 1) (by omega) (by omega) _ _ _ _ _ _ _ _ _ _ _ _ _ _ _ _ _ _ _ _ _ hr
theorem cfin_tup (p2 : Int32) (t : Int32 × Int32 × Int32 × Int32 × Int32 × Int32 × Int32 × Int32 × Int32 × Int32 × Int32 × Int32 × Int32 × Int32) :
    (bnd14 t (fun r bs bp j1 j2 j3 j4 j5 j6 j7 j8 j9 j10 j11 => (if r = 0 then ((-1 : Int32), j1, j2, j3, j4, j5, j6, j7, j8, j9, j10, j11, bs, bp) else (if p2 = 0 then ((fM_priceFound bp), j1, j2, j3, j4, j5, j6, j7, j8, j9, j10, j11, bs, bp) else (if p2 = (1 : Int32) then ((fM_setFound bs), j1, j2, j3, j4, j5, j6, j7, j8, j9, j10, j11, bs, bp) else ((fI_bitCount (fM_setFound bs)), j1, j2, j3, j4, j5, j6, j7, j8, j9, j10, j11, bs, bp)))))).1 = cfin p2 t.1 t.2.1 t.2.2.1 := by
  unfold bnd14 cfin fM_priceFound fM_setFound
  dsimp only
  by_cases d : t.1 = 0
  · rw [if_pos d, if_pos d]
  rw [if_neg d, if_neg d]
  by_cases d1 : p2 = 0
  · rw [if_pos d1, if_pos d1]
  rw [if_neg d1, if_neg d1]
  by_cases d2 : p2 = (1 : Int32)
  · rw [if_pos d2, if_pos d2]
  · rw [if_neg d2, if_neg d2]
theorem f_cheapest (h : Sim T_brokenWays T_triesAllowed T_mends T_talkers vTg vTp vTm P_count vPb X_faultPlace O_taped O_fault vOt vOr vOp) (j1 j2 j3 j4 j5 o1 o2 o3 o4 o5 o6 u1 u2 m1 m2 m3 m4 m5 m6 a1 a2 : Int32) : (fX_cheapest T_brokenWays T_triesAllowed T_mends T_talkers vTg vTp vTm j1 j2 j3 j4 j5 o1 o2 o3 o4 o5 o6 u1 u2 a1 a2).1 = (fO_cheapest m1 m2 m3 m4 m5 m6 vOt vOr a1 a2).1 := by
  rw [fX_cheapest, fO_cheapest, show fX_isFriendSet a1 = fO_isIn a1 (0 : Int32) (31 : Int32) from rfl]
  by_cases c1 : fO_isIn a1 (0 : Int32) (31 : Int32) = 0
  · rw [if_pos c1, if_pos c1]
  rw [if_neg c1, if_neg c1]
  by_cases c2 : a2 < 0
  · rw [if_pos c2, if_pos (show fO_isIn a2 (0 : Int32) (2 : Int32) = 0 by rw [fO_isIn, if_pos c2])]
  rw [if_neg c2]
  by_cases c3 : (2 : Int32) < a2
  · rw [if_pos c3, if_pos (show fO_isIn a2 (0 : Int32) (2 : Int32) = 0 by rw [fO_isIn, if_neg c2, if_pos c3])]
  rw [if_neg c3, if_neg (show ¬ fO_isIn a2 (0 : Int32) (2 : Int32) = 0 by rw [fO_isIn, if_neg c2, if_neg c3]; decide)]
  have g := cheap_loop h a1 a2 129 0 (by omega) (by omega) (-1 : Int32) u2 0 0 j1 j2 j3 j4 j5 o1 o2 o3 o4 o5 o6 m1 m2 m3 m4 m5 m6 (fun w => absurd rfl w)
  rw [nI_0] at g
  rw [fM_searchFor]
  exact (cfin_tup a2 _).trans g
end CHP
