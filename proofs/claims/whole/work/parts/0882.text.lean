-- the written text, statement by statement
section TXT
variable {T_brokenWays T_triesAllowed T_mends T_talkers : Int32} {vTg vTp vTm : Nat → Int32} {P_count : Int32} {vPb : Nat → Int32} {X_faultPlace O_taped O_fault : Int32} {vOt vOr vOp : Nat → Int32}
theorem bnd2_n {δ α β : Type} (p : α × β) (k : α → β → δ) : bnd2 p k = k p.1 p.2 := by cases p; rfl
theorem ew_put (pl : Int32) (si : Nat) (s : Int32 × Int32) : emW pl (sl si) s = fW_put s.1 pl s.2 si := (w_put pl si s.1 s.2).symm
theorem ew_num (pl p : Int32) (s : Int32 × Int32) : emW pl (nlW p) s = fW_putNumber s.1 pl s.2 p := (w_num pl s.1 s.2 p).symm
theorem ew_ways (pl p : Int32) (s : Int32 × Int32) : emW pl (wyW p 5 0) s = fW_putWays s.1 pl s.2 p := (w_ways pl p 5 0 s.1 s.2).symm
theorem ew_name (pl p : Int32) (s : Int32 × Int32) : emW pl (mnW p) s = fW_putMendName s.1 pl s.2 p := (w_name pl s.1 s.2 p).symm
theorem ew_59 (pl : Int32) (s : Int32 × Int32) : emW pl [59] s = fW_putByte s.1 pl s.2 59 := by rw [emW, emW]
theorem eo_word (w : Int64) (f : Int32) (t : Int32 × (Nat → Int32)) : emO (wl w f) t = fO_putWord t.1 t.2 w f := (o_word w f t.1 t.2).symm
theorem eo_num (p : Int32) (t : Int32 × (Nat → Int32)) : emO (nlO p) t = fO_putNumber t.1 t.2 p := (o_num t.1 p t.2).symm
theorem eo_set (p : Int32) (t : Int32 × (Nat → Int32)) : emO (stO p 5 0) t = fO_putSet t.1 t.2 p := (o_set p 5 0 t.1 t.2).symm
theorem eo_name (p : Int32) (t : Int32 × (Nat → Int32)) : emO (mnO p) t = fO_putName t.1 t.2 p := (o_name t.1 p t.2).symm
theorem eo_59 (t : Int32 × (Nat → Int32)) : emO [59] t = fO_put t.1 t.2 59 := by rw [emO, emO]
theorem musts_rw (h : Sim T_brokenWays T_triesAllowed T_mends T_talkers vTg vTp vTm P_count vPb X_faultPlace O_taped O_fault vOt vOr vOp) (pl : Int32) : ∀ m a b : Nat, 30 ≤ 6 * a + b + m → a < 5 → a < b → b ≤ 5 → ∀ no nk : Nat, no = 6 - (b - a - 1) → nk = 5 - a → ∀ (B : Nat) (s : Int32 × Int32) (t : Int32 × (Nat → Int32)), RW pl B s t → B + 40 * m ≤ 90000 →
    RW pl (B + 40 * m) (fW_writeMusts_l11 (fW_writeMusts_l2 pl T_talkers nk) pl T_talkers no (nI a) (nI b) s.1 s.2) (fO_writes_l273 (fO_writes_l264 vOt nk) vOt no (nI a) (nI b) t.1 t.2) := by
  intro m
  induction m with
  | zero => intro a b hm ha hab hb; omega
  | succ m ih =>
    intro a b hm ha hab hb no nk ho hk B s t R hB
    obtain ⟨no', rfl⟩ : ∃ q, no = q + 1 := ⟨no - 1, by omega⟩
    obtain ⟨nk', rfl⟩ : ∃ q, nk = q + 1 := ⟨nk - 1, by omega⟩
    rw [fW_writeMusts_l11, fO_writes_l273]
    by_cases hb5 : b = 5
    · subst hb5
      rw [if_pos (by decide), if_pos (by decide), fW_writeMusts_l2, fO_writes_l264, nI_1]
      by_cases ha4 : a = 4
      · subst ha4
        rw [if_pos (by decide), if_pos (by decide)]
        exact rw_up R (by omega)
      · rw [if_neg (le5 (by omega)), if_neg (le5 (by omega)), nI_1]
        exact rw_up (ih (a + 1) (a + 1 + 1) (by omega) (by omega) (by omega) (by omega) 6 nk' (by omega) (by omega) B s t R (by omega)) (by omega)
    · have hb' : b < 5 := by omega
      obtain ⟨t1, t2⟩ := must_fin h hab hb'
      rw [if_neg (le5 hb'), if_neg (le5 hb'), t1, (pn_fin a ha b hb').resolve_left (fun z => z hab), nI_1]
      have I := ih a (b + 1) (by omega) ha (by omega) (by omega) no' (nk' + 1) (by omega) (by omega)
      by_cases c1 : vOt (15 + pairN a b) = 0
      · rw [if_pos c1, if_pos c1]
        exact rw_up (I B s t R (by omega)) (by omega)
      · rw [if_neg c1, if_neg c1]
        have g := rw_ok (L_must a ha b hb') R (by omega)
        simp only [emW_app, emO_app, ew_put, ew_num, ew_59, eo_word, eo_num, eo_59] at g
        have g2 := I (B + 40) _ _ g (by omega)
        rw [show B + 40 * (m + 1) = B + 40 + 40 * m by omega]
        simp only [bnd2_n]
        exact g2
def tl3 (pl tk : Int32) (s : Int32 × Int32) : Int32 × Int32 := fW_writeMusts s.1 pl s.2 tk
def tl2 (pl tk : Int32) (vp : Nat → Int32) (s : Int32 × Int32) : Int32 × Int32 := tl3 pl tk (fW_writeCosts s.1 pl s.2 vp)
def tl1 (pl tk : Int32) (vp : Nat → Int32) (md : Int32) (s : Int32 × Int32) : Int32 × Int32 := tl2 pl tk vp (fW_writeMends s.1 pl s.2 md)
theorem musts0 (h : Sim T_brokenWays T_triesAllowed T_mends T_talkers vTg vTp vTm P_count vPb X_faultPlace O_taped O_fault vOt vOr vOp) (pl : Int32) {B : Nat} {s : Int32 × Int32} {t : Int32 × (Nat → Int32)} (R : RW pl B s t) (hB : B ≤ 50000) : RW pl (B + 1200) (tl3 pl T_talkers s) (fO_writes_l264 vOt 6 0 t.1 t.2) := by
  rw [tl3, fW_writeMusts, fW_writeMusts_l2, fO_writes_l264, if_neg (by decide), if_neg (by decide)]
  have g := musts_rw h pl 30 0 1 (by omega) (by omega) (by omega) (by omega) 6 5 (by omega) (by omega) B s t R (by omega)
  have e1 : (0 : Int32) + (1 : Int32) = nI 1 := by decide
  rw [e1, ← nI_0]
  exact g
theorem le7 {b : Nat} (hb : b < 7) : ¬ (7 : Int32) ≤ nI b := fun w => by rw [i32_le, t32_7, nI_toInt (by omega)] at w; omega
theorem costs_rw (h : Sim T_brokenWays T_triesAllowed T_mends T_talkers vTg vTp vTm P_count vPb X_faultPlace O_taped O_fault vOt vOr vOp) (pl : Int32) : ∀ n k : Nat, n + k = 8 → k ≤ 7 → ∀ (B : Nat) (s : Int32 × Int32) (t : Int32 × (Nat → Int32)), RW pl B s t → B + 40 * n ≤ 40000 →
    RW pl (B + 40 * n + 1200) (tl3 pl T_talkers (fW_writeCosts_l2 pl vTp n (nI k) s.1 s.2)) (fO_writes_l201 vOt n (nI k) t.1 t.2) := by
  intro n
  induction n with
  | zero => intro k hk hk2; omega
  | succ n ih =>
    intro k hk hk2 B s t R hB
    rw [fW_writeCosts_l2, fO_writes_l201]
    by_cases h7 : k = 7
    · subst h7
      rw [if_pos (by decide), if_pos (by decide)]
      exact rw_up (musts0 h pl R (by omega)) (by omega)
    have hk7 : k < 7 := by omega
    rw [if_neg (le7 hk7), if_neg (le7 hk7), nI_1]
    obtain ⟨p1, p2, p3⟩ := h.2.2.2.2.1 k hk7
    have e1 : vOt ((8 : Int32) + nI k).toNatClampNeg = fT_priceOf vTp (nI k) := by
      rw [fT_priceOf, show (8 : Int32) = nI 8 from rfl, nI_add, nI_clamp (by omega), nI_clamp (by omega)]; exact p1.symm
    have e2 : fT_priceOf vTp (nI k) = vTp k := by rw [fT_priceOf, nI_clamp (by omega)]
    obtain ⟨c, hc, ec, -⟩ := nat_of (n := 101) p2 (by omega) (by decide)
    rw [e1, e2, ec]
    by_cases c1 : nI c = (10 : Int32)
    · rw [if_pos c1, if_pos c1]
      exact rw_up (ih (k + 1) (by omega) (by omega) B s t R (by omega)) (by omega)
    · rw [if_neg c1, if_neg c1]
      have g := rw_ok (L_cost k hk7 c hc) R (by omega)
      simp only [emW_app, emO_app, ew_put, ew_num, ew_name, ew_59, eo_word, eo_num, eo_name, eo_59] at g
      have g2 := ih (k + 1) (by omega) (by omega) (B + 40) _ _ g (by omega)
      rw [show B + 40 * (n + 1) + 1200 = B + 40 + 40 * n + 1200 by omega]
      simp only [bnd2_n]
      exact g2
theorem mends_rw (h : Sim T_brokenWays T_triesAllowed T_mends T_talkers vTg vTp vTm P_count vPb X_faultPlace O_taped O_fault vOt vOr vOp) (pl : Int32) : ∀ n k : Nat, n + k = 8 → k ≤ 7 → ∀ (B : Nat) (s : Int32 × Int32) (t : Int32 × (Nat → Int32)), RW pl B s t → B + 40 * n ≤ 30000 →
    RW pl (B + 40 * n + 1520) (tl2 pl T_talkers vTp (fW_writeMends_l2 pl T_mends n (nI k) s.1 s.2)) (fO_writes_l125 vOt n (nI k) t.1 t.2) := by
  intro n
  induction n with
  | zero => intro k hk hk2; omega
  | succ n ih =>
    intro k hk hk2 B s t R hB
    rw [fW_writeMends_l2, fO_writes_l125]
    by_cases h7 : k = 7
    · subst h7
      rw [if_pos (by decide), if_pos (by decide)]
      have g := costs_rw h pl 8 0 (by omega) (by omega) B s t R (by omega)
      rw [nI_0] at g
      exact rw_up g (by omega)
    have hk7 : k < 7 := by omega
    rw [if_neg (le7 hk7), if_neg (le7 hk7), nI_1, cl7, ← h.2.2.2.1.1, fT_isOn, fX_holds]
    by_cases c1 : ((T_mends >>> (nI k &&& 31)) &&& (1 : Int32)) = 0
    · rw [if_pos c1, if_pos rfl, if_pos c1]
      exact rw_up (ih (k + 1) (by omega) (by omega) B s t R (by omega)) (by omega)
    · rw [if_neg c1, if_neg (show ¬ (1 : Int32) = 0 by decide), if_neg c1]
      have g := rw_ok (L_mend k hk7) R (by omega)
      rw [show B + 40 * (n + 1) + 1520 = B + 40 + 40 * n + 1520 by omega]
      by_cases c2 : (3 : Int32) ≤ nI k
      · rw [if_pos c2, if_pos c2] at g
        simp only [emW_app, emO_app, ew_put, ew_num, ew_name, ew_59, eo_word, eo_num, eo_name, eo_59] at g
        rw [if_pos c2, if_pos c2, fW_writeMends_b32, fO_writes_b163, nI_1]
        simp only [bnd2_n]
        rw [if_pos c2, fO_writes_b187, bnd2_n, nI_1]
        exact ih (k + 1) (by omega) (by omega) (B + 40) _ _ g (by omega)
      · rw [if_neg c2, if_neg c2] at g
        simp only [emW_app, emO_app, ew_put, ew_num, ew_name, ew_59, eo_word, eo_num, eo_name, eo_59] at g
        rw [if_neg c2, if_neg c2, fW_writeMends_b32, fO_writes_b163, nI_1]
        simp only [bnd2_n]
        rw [if_neg c2, fO_writes_b187, bnd2_n, nI_1]
        exact ih (k + 1) (by omega) (by omega) (B + 40) _ _ g (by omega)
theorem mends0 (h : Sim T_brokenWays T_triesAllowed T_mends T_talkers vTg vTp vTm P_count vPb X_faultPlace O_taped O_fault vOt vOr vOp) (pl : Int32) {B : Nat} {s : Int32 × Int32} {t : Int32 × (Nat → Int32)} (R : RW pl B s t) (hB : B ≤ 20000) : RW pl (B + 1840) (tl1 pl T_talkers vTp T_mends s) (fO_writes_b123 vOt t.1 t.2) := by
  have g := mends_rw h pl 8 0 (by omega) (by omega) B s t R (by omega)
  rw [nI_0] at g
  exact rw_up g (by omega)
/-- behind the friends: broken ways, retries, the rest -/
def tl0 (pl tk : Int32) (vp : Nat → Int32) (md tr : Int32) (s : Int32 × Int32) : Int32 × Int32 := if tr ≤ 0 then tl1 pl tk vp md s else tl1 pl tk vp md (emW pl (sl 3 ++ (nlW tr ++ [59])) s)
theorem retr_rw (h : Sim T_brokenWays T_triesAllowed T_mends T_talkers vTg vTp vTm P_count vPb X_faultPlace O_taped O_fault vOt vOr vOp) (pl : Int32) {B : Nat} {s : Int32 × Int32} {t : Int32 × (Nat → Int32)} (R : RW pl B s t) (hB : B ≤ 10000) : RW pl (B + 1880) (tl0 pl T_talkers vTp T_mends T_triesAllowed s) (fO_writes_b88 vOt t.1 t.2) := by
  obtain ⟨t1, t2, t3⟩ := h.2.2.1
  obtain ⟨c, hc, ec, -⟩ := nat_of (n := 4) t2 (by omega) (by decide)
  rw [tl0, fO_writes_b88, cl6, ← t1, ec]
  by_cases c1 : nI c ≤ 0
  · rw [if_pos c1, if_pos c1]
    exact rw_up (mends0 h pl R (by omega)) (by omega)
  · rw [if_neg c1, if_neg c1]
    have g := rw_ok (L_retries c hc) R (by omega)
    have g2 := mends0 h pl g (by omega)
    simp only [emO_app, eo_word, eo_num, eo_59] at g2
    simp only [bnd2_n]
    exact rw_up g2 (by omega)
def tlb (pl tk : Int32) (vp : Nat → Int32) (md tr br : Int32) (s : Int32 × Int32) : Int32 × Int32 := if br = 0 then tl0 pl tk vp md tr s else tl0 pl tk vp md tr (emW pl (sl 2 ++ (wyW br 5 0 ++ [59])) s)
theorem friends_rw (h : Sim T_brokenWays T_triesAllowed T_mends T_talkers vTg vTp vTm P_count vPb X_faultPlace O_taped O_fault vOt vOr vOp) (pl : Int32) : ∀ n k : Nat, n + k = 6 → k ≤ 5 → ∀ (B : Nat) (s : Int32 × Int32) (t : Int32 × (Nat → Int32)), RW pl B s t → B + 40 * n ≤ 5000 →
    RW pl (B + 40 * n + 1920) (tlb pl T_talkers vTp T_mends T_triesAllowed T_brokenWays (fW_writeFriends_l2 pl vTg n (nI k) s.1 s.2)) (fO_writes_l7 vOt n (nI k) t.1 t.2) := by
  intro n
  induction n with
  | zero => intro k hk hk2; omega
  | succ n ih =>
    intro k hk hk2 B s t R hB
    rw [fW_writeFriends_l2, fO_writes_l7]
    by_cases h7 : k = 5
    · subst h7
      rw [if_pos (by decide), if_pos (by decide), tlb, cl5, ← h.2.1.1]
      obtain ⟨c, hc, ec, -⟩ := nat_of (n := 16) h.2.1.2.1 (by have := h.2.1.2.2; omega) (by decide)
      rw [ec]
      by_cases c1 : nI c = 0
      · rw [if_pos c1, if_pos c1]
        exact rw_up (retr_rw h pl R (by omega)) (by omega)
      · rw [if_neg c1, if_neg c1]
        have g := rw_ok (L_broken c hc) R (by omega)
        have g2 := retr_rw h pl g (by omega)
        simp only [emO_app, eo_word, eo_set] at g2
        simp only [bnd2_n]
        exact rw_up g2 (by omega)
    have hk5 : k < 5 := by omega
    obtain ⟨p1, p2, p3⟩ := h.1 k hk5
    obtain ⟨c, hc, ec, -⟩ := nat_of (n := 16) p2 (by omega) (by decide)
    rw [if_neg (le5 hk5), if_neg (le5 hk5), nI_1, fT_waysGiven, nI_clamp (show k < 2 ^ 31 by omega), ← p1, ec]
    by_cases c1 : nI c = 0
    · rw [if_pos c1, if_pos c1]
      exact rw_up (ih (k + 1) (by omega) (by omega) B s t R (by omega)) (by omega)
    · rw [if_neg c1, if_neg c1]
      have g := rw_ok (L_friend k hk5 c hc) R (by omega)
      simp only [emW_app, emO_app, ew_put, ew_num, ew_ways, ew_59, eo_word, eo_num, eo_set] at g
      rw [show B + 40 * (n + 1) + 1920 = B + 40 + 40 * n + 1920 by omega]
      simp only [bnd2_n]
      exact ih (k + 1) (by omega) (by omega) (B + 40) _ _ g (by omega)
theorem all_tlb (c pl lk p br tr md tk : Int32) (vg vp : Nat → Int32) : fW_writeAll c p lk br tr md tk vg vp pl = ((tlb pl tk vp md tr br (fW_writeFriends 0 pl (-1 : Int32) vg)).1, (tlb pl tk vp md tr br (fW_writeFriends 0 pl (-1 : Int32) vg)).1, pl, (tlb pl tk vp md tr br (fW_writeFriends 0 pl (-1 : Int32) vg)).2) := by
  have b85 : ∀ s : Int32 × Int32, fW_writeAll_b85 br tr md tk vg vp pl s.1 pl s.2 = ((tl1 pl tk vp md s).1, (tl1 pl tk vp md s).1, pl, (tl1 pl tk vp md s).2) := by
    intro s
    rw [fW_writeAll_b85, tl1, tl2, tl3]
    simp only [bnd2_n]
  have b52 : ∀ s : Int32 × Int32, fW_writeAll_b52 br tr md tk vg vp pl s.1 pl s.2 = ((tl0 pl tk vp md tr s).1, (tl0 pl tk vp md tr s).1, pl, (tl0 pl tk vp md tr s).2) := by
    intro s
    rw [fW_writeAll_b52, tl0, show fT_triesAllowed tr = tr from rfl]
    by_cases e : tr ≤ 0
    · rw [if_pos e, if_pos e]; exact b85 s
    · rw [if_neg e, if_neg e]
      simp only [emW_app, ew_put, ew_num, ew_59, bnd2_n]
      exact b85 (fW_putByte (fW_putNumber (fW_put s.1 pl s.2 3).1 pl (fW_put s.1 pl s.2 3).2 tr).1 pl (fW_putNumber (fW_put s.1 pl s.2 3).1 pl (fW_put s.1 pl s.2 3).2 tr).2 59)
  rw [fW_writeAll, tlb, show fT_waysBroken br = br from rfl, bnd2_n]
  generalize fW_writeFriends 0 pl (-1 : Int32) vg = s
  by_cases e : br = 0
  · rw [if_pos e, if_pos e]; exact b52 s
  · rw [if_neg e, if_neg e]
    simp only [emW_app, ew_put, ew_ways, ew_59, bnd2_n]
    exact b52 (fW_putByte (fW_putWays (fW_put s.1 pl s.2 2).1 pl (fW_put s.1 pl s.2 2).2 br).1 pl (fW_putWays (fW_put s.1 pl s.2 2).1 pl (fW_put s.1 pl s.2 2).2 br).2 59)
theorem f_text (h : Sim T_brokenWays T_triesAllowed T_mends T_talkers vTg vTp vTm P_count vPb X_faultPlace O_taped O_fault vOt vOr vOp) (w1 w2 w3 wm a1 : Int32) (vOw : Nat → Int32) : (fX_text T_brokenWays T_triesAllowed T_mends T_talkers vTg vTp w1 w2 w3 a1).1 = (fO_text wm vOt vOw a1).1 := by
  have R0 : RW a1 0 (0, (-1 : Int32)) (0, vOw) := by
    refine ⟨rfl, by dsimp only; decide, by dsimp only; decide, ?_⟩
    dsimp only
    rw [if_neg (by rw [t32_0]; omega)]
  have g := friends_rw h a1 6 0 (by omega) (by omega) 0 _ _ R0 (by omega)
  rw [nI_0] at g
  rw [fX_text, fO_text, all_tlb, fO_writes]
  change RW a1 (0 + 40 * 6 + 1920) (tlb a1 T_talkers vTp T_mends T_triesAllowed T_brokenWays (fW_writeFriends 0 a1 (-1 : Int32) vTg)) (fO_writes_l7 vOt 6 0 0 vOw) at g
  revert g
  generalize tlb a1 T_talkers vTp T_mends T_triesAllowed T_brokenWays (fW_writeFriends 0 a1 (-1 : Int32) vTg) = s
  generalize fO_writes_l7 vOt 6 0 0 vOw = t
  intro g
  obtain ⟨g1, g2, g3, g4⟩ := g
  unfold bnd4 bnd2
  dsimp only
  by_cases c : a1 = (-1 : Int32)
  · rw [if_pos c, if_pos c]; exact g1
  rw [if_neg c, if_neg c, fO_isIn, fW_letterFound, g4]
  have b1 : (t.1 - (1 : Int32)).toInt = t.1.toInt - 1 := by
    rw [i32_subS] <;> rw [t32_1] <;> omega
  by_cases q0 : a1 < 0
  · have q1 := q0
    rw [i32_lt, t32_0] at q1
    rw [if_pos q0, if_pos rfl, if_neg (by omega)]
  have q1 := q0
  rw [i32_lt, t32_0] at q1
  rw [if_neg q0]
  by_cases q2 : t.1 - (1 : Int32) < a1
  · have q3 := q2
    rw [i32_lt, b1] at q3
    rw [if_pos q2, if_pos rfl, if_neg (by omega)]
  · have q3 := q2
    rw [i32_lt, b1] at q3
    rw [if_neg q2, if_neg (show ¬ (1 : Int32) = 0 by decide), if_pos (by omega)]
end TXT
