/-! what a state dominates -/
def actsM (S : M6) : Int32 := S.2.2.2.2.1
def dom (S : M6) (n : Int32) : Prop := ¬ actsM S = (-1 : Int32) ∧ (actsM S).toInt ≤ n.toInt
theorem dom_le {S : M6} {n k : Int32} (h : dom S n) (hk : n.toInt ≤ k.toInt) : dom S k := ⟨h.1, by have := h.2; omega⟩
theorem mActs_val {r ch pk t se : Int32} (hr : 0 ≤ r.toInt ∧ r.toInt ≤ 3) (hs : se = 0 ∨ se = 1) : (mActs r ch pk t se).toInt = r.toInt + (if ch = (-1 : Int32) then 0 else 1) + (if t = pk then 0 else 1) + (if se = 0 then 0 else 1) := by
  have h0 : ∀ c : Prop, ∀ _ : Decidable c, (if c then (0 : Int32) else 1).toInt = if c then 0 else 1 := by
    intro c i
    by_cases h : c
    · rw [if_pos h, if_pos h]; rfl
    · rw [if_neg h, if_neg h]; rfl
  have hse : se.toInt = if se = 0 then 0 else 1 := by rcases hs with rfl | rfl <;> rfl
  have b1 : (0 : Int) ≤ (if ch = (-1 : Int32) then 0 else 1) ∧ (if ch = (-1 : Int32) then (0 : Int) else 1) ≤ 1 := by split <;> omega
  have b2 : (0 : Int) ≤ (if t = pk then 0 else 1) ∧ (if t = pk then (0 : Int) else 1) ≤ 1 := by split <;> omega
  have b3 : (0 : Int) ≤ (if se = 0 then 0 else 1) ∧ (if se = 0 then (0 : Int) else 1) ≤ 1 := by split <;> omega
  have e1 : (r + (if ch = (-1 : Int32) then 0 else 1)).toInt = r.toInt + (if ch = (-1 : Int32) then 0 else 1) := by
    rw [i32_addS] <;> rw [h0] <;> omega
  have e2 : ((r + (if ch = (-1 : Int32) then 0 else 1)) + (if t = pk then 0 else 1)).toInt = r.toInt + (if ch = (-1 : Int32) then 0 else 1) + (if t = pk then 0 else 1) := by
    rw [i32_addS] <;> rw [h0, e1] <;> omega
  rw [mActs, i32_addS] <;> rw [e2, hse] <;> omega
section DOM
variable {vOt vOr : Nat → Int32} {p1 p2 g md r off ch co pk : Int32}
theorem mst_eq {t : Int32} {S : M6} (h : ¬ mOk vOt vOr p1 p2 g md off co pk t ∨ dom S (mActs r ch pk t (mSeen md co off pk t))) : mst vOt vOr p1 p2 g md r off ch co pk t S = S := by
  rw [mst, if_neg]
  intro hh
  rcases h with h | h
  · exact h hh.1
  · rcases hh.2 with z | z
    · exact h.1 z
    · have := h.2; rw [i32_lt] at z; simp only [actsM] at this; omega
theorem mst_acts (hr : 0 ≤ r.toInt ∧ r.toInt ≤ 3) (t : Int32) : ¬ mActs r ch pk t (mSeen md co off pk t) = (-1 : Int32) := by
  intro e
  have h := mActs_val (r := r) (ch := ch) (pk := pk) (t := t) hr (mSeen_b md co off pk t)
  rw [e, t32_m1] at h
  have b1 : (0 : Int) ≤ (if ch = (-1 : Int32) then 0 else 1) := by split <;> omega
  have b2 : (0 : Int) ≤ (if t = pk then 0 else 1) := by split <;> omega
  have b3 : (0 : Int) ≤ (if mSeen md co off pk t = 0 then 0 else 1) := by split <;> omega
  omega
theorem mst_after (hr : 0 ≤ r.toInt ∧ r.toInt ≤ 3) {t : Int32} {S : M6} (h : mOk vOt vOr p1 p2 g md off co pk t) : dom (mst vOt vOr p1 p2 g md r off ch co pk t S) (mActs r ch pk t (mSeen md co off pk t)) := by
  rw [mst]
  by_cases c : S.2.2.2.2.1 = (-1 : Int32) ∨ mActs r ch pk t (mSeen md co off pk t) < S.2.2.2.2.1
  · rw [if_pos ⟨h, c⟩]; exact ⟨mst_acts hr t, Int.le_refl _⟩
  · rw [if_neg (fun z => c z.2)]
    refine ⟨fun z => c (Or.inl z), ?_⟩
    have c2 : ¬ mActs r ch pk t (mSeen md co off pk t) < S.2.2.2.2.1 := fun z => c (Or.inr z)
    rw [i32_lt] at c2; simp only [actsM]; omega
theorem mst_mono (hr : 0 ≤ r.toInt ∧ r.toInt ≤ 3) {t n : Int32} {S : M6} (h : dom S n) : dom (mst vOt vOr p1 p2 g md r off ch co pk t S) n := by
  rw [mst]
  by_cases c : mOk vOt vOr p1 p2 g md off co pk t ∧ (S.2.2.2.2.1 = (-1 : Int32) ∨ mActs r ch pk t (mSeen md co off pk t) < S.2.2.2.2.1)
  · rw [if_pos c]
    refine ⟨mst_acts hr t, ?_⟩
    have h2 := h.2
    have c2 := c.2.resolve_left h.1
    rw [i32_lt] at c2; simp only [actsM] at *; omega
  · rw [if_neg c]; exact h
abbrev T4 (P : Int32 → Prop) : Prop := P (0 : Int32) ∧ P (1 : Int32) ∧ P (2 : Int32) ∧ P (3 : Int32)
theorem m4_eq {S : M6} (h : T4 fun t => ¬ mOk vOt vOr p1 p2 g md off co pk t ∨ dom S (mActs r ch pk t (mSeen md co off pk t))) : m4 vOt vOr p1 p2 g md r off ch co pk S = S := by
  rw [m4, mst_eq h.1, mst_eq h.2.1, mst_eq h.2.2.1, mst_eq h.2.2.2]
theorem m4_mono (hr : 0 ≤ r.toInt ∧ r.toInt ≤ 3) {n : Int32} {S : M6} (h : dom S n) : dom (m4 vOt vOr p1 p2 g md r off ch co pk S) n := mst_mono hr (mst_mono hr (mst_mono hr (mst_mono hr h)))
theorem m4_after (hr : 0 ≤ r.toInt ∧ r.toInt ≤ 3) (S : M6) : T4 fun t => mOk vOt vOr p1 p2 g md off co pk t → dom (m4 vOt vOr p1 p2 g md r off ch co pk S) (mActs r ch pk t (mSeen md co off pk t)) :=
  ⟨fun h => mst_mono hr (mst_mono hr (mst_mono hr (mst_after hr h))), fun h => mst_mono hr (mst_mono hr (mst_after hr h)), fun h => mst_mono hr (mst_after hr h), fun h => mst_after hr h⟩
end DOM
/-! one change of the offer -/
section TRY
variable (vOt vOr : Nat → Int32) (p1 p2 g md oth r off : Int32)
def tr (c : Int32) (S : M6) : M6 := fO_tries S.1 S.2.1 S.2.2.1 S.2.2.2.1 S.2.2.2.2.1 S.2.2.2.2.2 vOt vOr p1 p2 g md oth r off c
def coOf (c : Int32) : Int32 := if c = (-1 : Int32) then off else c
def B1 : Int32 := if (md &&& (1 : Int32)) = 0 then 0 else 1
abbrev ok1 (p t : Int32) : Prop := ¬ mWant g p t = 0 ∧ ¬ ((off >>> (t &&& 31)) &&& (1 : Int32)) = 0 ∧ ((md &&& (4 : Int32)) = 0 ∨ vOr (((5 : Int32) * p1) + p2).toNatClampNeg ≤ t) ∧ mForge (vOt (5 : Int32).toNatClampNeg) p t (B1 md)
def act1 (p t : Int32) : Int32 := mActs r 0 p t (B1 md)
/-- all that a change to p may do is dominated -/
def Cov (S : M6) (p : Int32) : Prop := T4 fun t => ok1 vOt vOr p1 p2 g md off p t → dom S (act1 md r p t)
/-- all that the offer as it is may do is dominated -/
def CovN (S : M6) : Prop := ¬ mStop oth off → ¬ fO_best (off &&& oth) = (-1 : Int32) → T4 fun t => mOk vOt vOr p1 p2 g md off off (fO_best (off &&& oth)) t → dom S (mActs r (-1 : Int32) (fO_best (off &&& oth)) t (mSeen md off off (fO_best (off &&& oth)) t))
end TRY
theorem B1_b (md : Int32) : B1 md = 0 ∨ B1 md = 1 := by
  rw [B1]
  by_cases h : (md &&& (1 : Int32)) = 0
  · rw [if_pos h]; exact Or.inl rfl
  · rw [if_neg h]; exact Or.inr rfl
theorem seen_ne {md co off p t : Int32} (h : ¬ co = off) : mSeen md co off p t = B1 md := by
  rw [mSeen, B1, if_neg h]
theorem seen_le (md co off p t : Int32) : (if mSeen md co off p t = 0 then (0 : Int) else 1) ≤ (if B1 md = 0 then 0 else 1) := by
  rw [mSeen, B1]
  by_cases h : (md &&& (1 : Int32)) = 0
  · rw [if_pos h, if_pos h]; exact Int.le_refl _
  · rw [if_neg h, if_neg h, if_neg (by decide : ¬ (1 : Int32) = 0)]
    split <;> omega
theorem acts_ch {r c p t se : Int32} (hc : ¬ c = (-1 : Int32)) : mActs r c p t se = mActs r 0 p t se := by
  rw [mActs, mActs, if_neg hc, if_neg (by decide : ¬ (0 : Int32) = (-1 : Int32))]
theorem forge_of {br p t se sf : Int32} (h : mForge br p t se) (hs : se = 0 → sf = 0) : mForge br p t sf := by
  rcases h with h | h
  · exact Or.inl (hs h)
  · exact Or.inr h
section TRY2
variable {vOt vOr : Nat → Int32} {p1 p2 g md oth r off : Int32}
theorem tr_skip {c : Int32} {S : M6} (h : mStop oth (coOf off c) ∨ fO_best (coOf off c &&& oth) = (-1 : Int32) ∨ T4 fun t => ¬ mOk vOt vOr p1 p2 g md off (coOf off c) (fO_best (coOf off c &&& oth)) t ∨ dom S (mActs r c (fO_best (coOf off c &&& oth)) t (mSeen md (coOf off c) off (fO_best (coOf off c &&& oth)) t))) : tr vOt vOr p1 p2 g md oth r off c S = S := by
  rw [tr, tries_eq]
  by_cases c1 : mStop oth (coOf off c) ∨ fO_best (coOf off c &&& oth) = (-1 : Int32)
  · exact if_pos c1
  · have e : (if mStop oth (coOf off c) ∨ fO_best (coOf off c &&& oth) = (-1 : Int32) then S else m4 vOt vOr p1 p2 g md r off c (coOf off c) (fO_best (coOf off c &&& oth)) S) = S := by
      rw [if_neg c1]
      rcases h with h | h | h
      · exact absurd (Or.inl h) c1
      · exact absurd (Or.inr h) c1
      · exact m4_eq h
    exact e
theorem tr_after (hr : 0 ≤ r.toInt ∧ r.toInt ≤ 3) {c : Int32} (S : M6) (h1 : ¬ mStop oth (coOf off c)) (h2 : ¬ fO_best (coOf off c &&& oth) = (-1 : Int32)) : T4 fun t => mOk vOt vOr p1 p2 g md off (coOf off c) (fO_best (coOf off c &&& oth)) t → dom (tr vOt vOr p1 p2 g md oth r off c S) (mActs r c (fO_best (coOf off c &&& oth)) t (mSeen md (coOf off c) off (fO_best (coOf off c &&& oth)) t)) := by
  have e : tr vOt vOr p1 p2 g md oth r off c S = m4 vOt vOr p1 p2 g md r off c (coOf off c) (fO_best (coOf off c &&& oth)) S := by
    rw [tr, tries_eq]
    exact if_neg (fun h => h.elim h1 h2)
  rw [e]; exact m4_after hr S
theorem tr_mono (hr : 0 ≤ r.toInt ∧ r.toInt ≤ 3) {c n : Int32} {S : M6} (h : dom S n) : dom (tr vOt vOr p1 p2 g md oth r off c S) n := by
  by_cases c1 : mStop oth (coOf off c) ∨ fO_best (coOf off c &&& oth) = (-1 : Int32)
  · have e : tr vOt vOr p1 p2 g md oth r off c S = S := by rw [tr, tries_eq]; exact if_pos c1
    rw [e]; exact h
  · have e : tr vOt vOr p1 p2 g md oth r off c S = m4 vOt vOr p1 p2 g md r off c (coOf off c) (fO_best (coOf off c &&& oth)) S := by rw [tr, tries_eq]; exact if_neg c1
    rw [e]; exact m4_mono hr h
theorem Cov_mono (hr : 0 ≤ r.toInt ∧ r.toInt ≤ 3) {c p : Int32} {S : M6} (h : Cov vOt vOr p1 p2 g md r off S p) : Cov vOt vOr p1 p2 g md r off (tr vOt vOr p1 p2 g md oth r off c S) p :=
  ⟨fun z => tr_mono hr (h.1 z), fun z => tr_mono hr (h.2.1 z), fun z => tr_mono hr (h.2.2.1 z), fun z => tr_mono hr (h.2.2.2 z)⟩
theorem CovN_mono (hr : 0 ≤ r.toInt ∧ r.toInt ≤ 3) {c : Int32} {S : M6} (h : CovN vOt vOr p1 p2 g md oth r off S) : CovN vOt vOr p1 p2 g md oth r off (tr vOt vOr p1 p2 g md oth r off c S) := fun h1 h2 =>
  ⟨fun z => tr_mono hr ((h h1 h2).1 z), fun z => tr_mono hr ((h h1 h2).2.1 z), fun z => tr_mono hr ((h h1 h2).2.2.1 z), fun z => tr_mono hr ((h h1 h2).2.2.2 z)⟩
theorem covN_none (hr : 0 ≤ r.toInt ∧ r.toInt ≤ 3) (S : M6) : CovN vOt vOr p1 p2 g md oth r off (tr vOt vOr p1 p2 g md oth r off (-1 : Int32) S) := by
  intro h1 h2
  have h := tr_after (vOt := vOt) (vOr := vOr) (p1 := p1) (p2 := p2) (g := g) (md := md) (oth := oth) (off := off) hr (c := (-1 : Int32)) S h1 h2
  exact h
theorem skip_off (hr : 0 ≤ r.toInt ∧ r.toInt ≤ 3) {c : Int32} {S : M6} (hc : ¬ c = (-1 : Int32)) (he : c = off) (h : CovN vOt vOr p1 p2 g md oth r off S) : tr vOt vOr p1 p2 g md oth r off c S = S := by
  have ec : coOf off c = off := by rw [coOf, if_neg hc]; exact he
  refine tr_skip ?_
  rw [ec]
  by_cases h1 : mStop oth off
  · exact Or.inl h1
  · by_cases h2 : fO_best (off &&& oth) = (-1 : Int32)
    · exact Or.inr (Or.inl h2)
    · have h3 := h h1 h2
      have key : ∀ t : Int32, (mOk vOt vOr p1 p2 g md off off (fO_best (off &&& oth)) t → dom S (mActs r (-1 : Int32) (fO_best (off &&& oth)) t (mSeen md off off (fO_best (off &&& oth)) t))) → (¬ mOk vOt vOr p1 p2 g md off off (fO_best (off &&& oth)) t ∨ dom S (mActs r c (fO_best (off &&& oth)) t (mSeen md off off (fO_best (off &&& oth)) t))) := by
        intro t ht
        by_cases h4 : mOk vOt vOr p1 p2 g md off off (fO_best (off &&& oth)) t
        · refine Or.inr (dom_le (ht h4) ?_)
          rw [mActs_val hr (mSeen_b _ _ _ _ _), mActs_val hr (mSeen_b _ _ _ _ _), if_pos rfl, if_neg hc]
          omega
        · exact Or.inl h4
      exact Or.inr (Or.inr ⟨key _ h3.1, key _ h3.2.1, key _ h3.2.2.1, key _ h3.2.2.2⟩)
theorem skip_cov {c : Int32} {S : M6} (hc : ¬ c = (-1 : Int32)) (hn : ¬ c = off) (h : fO_best (c &&& oth) = (-1 : Int32) ∨ Cov vOt vOr p1 p2 g md r off S (fO_best (c &&& oth))) : tr vOt vOr p1 p2 g md oth r off c S = S := by
  have ec : coOf off c = c := if_neg hc
  refine tr_skip ?_
  rw [ec]
  rcases h with h | h
  · exact Or.inr (Or.inl h)
  · refine Or.inr (Or.inr ?_)
    have key : ∀ t : Int32, (ok1 vOt vOr p1 p2 g md off (fO_best (c &&& oth)) t → dom S (act1 md r (fO_best (c &&& oth)) t)) → (¬ mOk vOt vOr p1 p2 g md off c (fO_best (c &&& oth)) t ∨ dom S (mActs r c (fO_best (c &&& oth)) t (mSeen md c off (fO_best (c &&& oth)) t))) := by
      intro t ht
      rw [seen_ne hn, acts_ch hc]
      by_cases h4 : mOk vOt vOr p1 p2 g md off c (fO_best (c &&& oth)) t
      · refine Or.inr (ht ⟨h4.1, h4.2.1, h4.2.2.1, ?_⟩)
        have h5 := h4.2.2.2
        rw [seen_ne hn] at h5; exact h5
      · exact Or.inl h4
    exact ⟨key _ h.1, key _ h.2.1, key _ h.2.2.1, key _ h.2.2.2⟩
theorem cov_after (hr : 0 ≤ r.toInt ∧ r.toInt ≤ 3) {c : Int32} (S : M6) (hc : ¬ c = (-1 : Int32)) (hn : ¬ c = off) (h1 : ¬ mStop oth c) (h2 : ¬ fO_best (c &&& oth) = (-1 : Int32)) : Cov vOt vOr p1 p2 g md r off (tr vOt vOr p1 p2 g md oth r off c S) (fO_best (c &&& oth)) := by
  have ec : coOf off c = c := if_neg hc
  have h := tr_after (vOt := vOt) (vOr := vOr) (p1 := p1) (p2 := p2) (g := g) (md := md) (oth := oth) (off := off) hr (c := c) S (by rw [ec]; exact h1) (by rw [ec]; exact h2)
  rw [ec] at h
  have key : ∀ t : Int32, (mOk vOt vOr p1 p2 g md off c (fO_best (c &&& oth)) t → dom (tr vOt vOr p1 p2 g md oth r off c S) (mActs r c (fO_best (c &&& oth)) t (mSeen md c off (fO_best (c &&& oth)) t))) → (ok1 vOt vOr p1 p2 g md off (fO_best (c &&& oth)) t → dom (tr vOt vOr p1 p2 g md oth r off c S) (act1 md r (fO_best (c &&& oth)) t)) := by
    intro t ht hk
    rw [seen_ne hn, acts_ch hc] at ht
    exact ht ⟨hk.1, hk.2.1, hk.2.2.1, by rw [seen_ne hn]; exact hk.2.2.2⟩
  exact ⟨key _ h.1, key _ h.2.1, key _ h.2.2.1, key _ h.2.2.2⟩
theorem cov_off (hr : 0 ≤ r.toInt ∧ r.toInt ≤ 3) {S : M6} (h1 : ¬ mStop oth off) (h2 : ¬ fO_best (off &&& oth) = (-1 : Int32)) (h : CovN vOt vOr p1 p2 g md oth r off S) : Cov vOt vOr p1 p2 g md r off S (fO_best (off &&& oth)) := by
  have h3 := h h1 h2
  have key : ∀ t : Int32, (mOk vOt vOr p1 p2 g md off off (fO_best (off &&& oth)) t → dom S (mActs r (-1 : Int32) (fO_best (off &&& oth)) t (mSeen md off off (fO_best (off &&& oth)) t))) → (ok1 vOt vOr p1 p2 g md off (fO_best (off &&& oth)) t → dom S (act1 md r (fO_best (off &&& oth)) t)) := by
    intro t ht hk
    refine dom_le (ht ⟨hk.1, hk.2.1, hk.2.2.1, forge_of hk.2.2.2 ?_⟩) ?_
    · intro e
      rw [B1] at e; rw [mSeen]
      by_cases h : (md &&& (1 : Int32)) = 0
      · rw [if_pos h]
      · rw [if_neg h] at e; exact absurd e (by decide)
    · rw [act1, mActs_val hr (mSeen_b _ _ _ _ _), mActs_val hr (B1_b md), if_pos rfl, if_neg (by decide : ¬ (0 : Int32) = (-1 : Int32))]
      have := seen_le md off off (fO_best (off &&& oth)) t
      omega
  exact ⟨key _ h3.1, key _ h3.2.1, key _ h3.2.2.1, key _ h3.2.2.2⟩
end TRY2
