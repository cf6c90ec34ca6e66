-- the search: tries one after another
section OUT
variable {vOt vOr : Nat → Int32} {p1 p2 g md lt : Int32} {x o : Nat}
theorem low_fin : ∀ o, o < 16 → ∀ k, k < 2 → ∀ x, x < 16 → fO_best (nI (o + 16 * k) &&& nI x) = fO_best (nI o &&& nI x) := by decide +kernel
theorem stop_fin : ∀ o, o < 16 → ∀ x, x < 16 → ¬ mStop (nI x) (nI (o + 16 * 0)) := by decide +kernel
theorem acts_r {r r' ch pk t se : Int32} (hr : 0 ≤ r.toInt ∧ r.toInt ≤ 3) (hr' : 0 ≤ r'.toInt ∧ r'.toInt ≤ 3) (h : r.toInt ≤ r'.toInt) (hs : se = 0 ∨ se = 1) : (mActs r ch pk t se).toInt ≤ (mActs r' ch pk t se).toInt := by
  rw [mActs_val hr hs, mActs_val hr' hs]; omega
theorem seen_off (md off off' pk t : Int32) : mSeen md off off pk t = mSeen md off' off' pk t := by
  simp only [mSeen, if_true]
theorem bit_T4 {k k' : Nat} (ho : o < 16) (hk : k < 2) (hk' : k' < 2) : T4 fun t => ((nI (o + 16 * k') >>> (t &&& 31)) &&& (1 : Int32)) = 0 ↔ ((nI (o + 16 * k) >>> (t &&& 31)) &&& (1 : Int32)) = 0 := by
  have h1 := hold_T4 (o := o) ho hk
  have h2 := hold_T4 (o := o) ho hk'
  exact ⟨h2.1.symm.trans h1.1, h2.2.1.symm.trans h1.2.1, h2.2.2.1.symm.trans h1.2.2.1, h2.2.2.2.symm.trans h1.2.2.2⟩
theorem cov_up {r r' off off' p : Int32} (hr : 0 ≤ r.toInt ∧ r.toInt ≤ 3) (hr' : 0 ≤ r'.toInt ∧ r'.toInt ≤ 3) (h : r.toInt ≤ r'.toInt) {t : Int32} (hb : ((off' >>> (t &&& 31)) &&& (1 : Int32)) = 0 ↔ ((off >>> (t &&& 31)) &&& (1 : Int32)) = 0) {S : M6} (hc : ok1 vOt vOr p1 p2 g md off p t → dom S (act1 md r p t)) : ok1 vOt vOr p1 p2 g md off' p t → dom S (act1 md r' p t) := by
  rintro ⟨w, b, l, f⟩
  exact dom_le (hc ⟨w, fun q => b (hb.2 q), l, f⟩) (acts_r hr hr' h (B1_b md))
theorem covN_up {r r' off off' pk : Int32} (hr : 0 ≤ r.toInt ∧ r.toInt ≤ 3) (hr' : 0 ≤ r'.toInt ∧ r'.toInt ≤ 3) (h : r.toInt ≤ r'.toInt) {t : Int32} (hb : ((off' >>> (t &&& 31)) &&& (1 : Int32)) = 0 ↔ ((off >>> (t &&& 31)) &&& (1 : Int32)) = 0) {S : M6} (hc : mOk vOt vOr p1 p2 g md off off pk t → dom S (mActs r (-1 : Int32) pk t (mSeen md off off pk t))) : mOk vOt vOr p1 p2 g md off' off' pk t → dom S (mActs r' (-1 : Int32) pk t (mSeen md off' off' pk t)) := by
  rw [← seen_off md off off' pk t]
  rintro ⟨w, b, l, f⟩
  rw [← seen_off md off off' pk t] at f
  exact dom_le (hc ⟨w, fun q => b (hb.2 q), l, f⟩) (acts_r hr hr' h (mSeen_b _ _ _ _ _))
theorem inv_up {r r' : Int32} {k k' : Nat} (hr : 0 ≤ r.toInt ∧ r.toInt ≤ 3) (hr' : 0 ≤ r'.toInt ∧ r'.toInt ≤ 3) (h : r.toInt ≤ r'.toInt) (ho : o < 16) (hx : x < 16) (hk' : k' < 2) (hk : k ≤ k') {S : M6} (hi : Inv vOt vOr p1 p2 g md r (nI (o + 16 * k)) x 16 S) : Inv vOt vOr p1 p2 g md r' (nI (o + 16 * k')) x 16 S := by
  have hb := bit_T4 (o := o) (k := k) ho (by omega) hk'
  refine ⟨?_, fun p hp h16 hx1 => ?_⟩
  · intro hs hn
    have e : fO_best (nI (o + 16 * k') &&& nI x) = fO_best (nI (o + 16 * k) &&& nI x) := by rw [low_fin o ho k' hk' x hx, low_fin o ho k (by omega) x hx]
    have hs1 : ¬ mStop (nI x) (nI (o + 16 * k)) := by
      by_cases q : k = k'
      · rw [q]; exact hs
      · rw [show k = 0 by omega]; exact stop_fin o ho x hx
    have hc := hi.1 hs1 (by rw [← e]; exact hn)
    rw [← e] at hc
    exact ⟨covN_up hr hr' h hb.1 hc.1, covN_up hr hr' h hb.2.1 hc.2.1, covN_up hr hr' h hb.2.2.1 hc.2.2.1, covN_up hr hr' h hb.2.2.2 hc.2.2.2⟩
  · have hc := hi.2 p hp h16 hx1
    exact ⟨cov_up hr hr' h hb.1 hc.1, cov_up hr hr' h hb.2.1 hc.2.1, cov_up hr hr' h hb.2.2.1 hc.2.2.1, cov_up hr hr' h hb.2.2.2 hc.2.2.2⟩
theorem none_id {r off : Int32} {S : M6} (h : CovN vOt vOr p1 p2 g md (nI x) r off S) : tr vOt vOr p1 p2 g md (nI x) r off (-1 : Int32) S = S := by
  refine tr_skip ?_
  rw [show coOf off (-1 : Int32) = off from if_pos rfl]
  by_cases a : mStop (nI x) off
  · exact Or.inl a
  · by_cases b : fO_best (off &&& nI x) = (-1 : Int32)
    · exact Or.inr (Or.inl b)
    · refine Or.inr (Or.inr ?_)
      have hc := h a b
      have cv : ∀ {A B : Prop}, (A → B) → (¬ A ∨ B) := fun {A B} f => (Classical.em A).elim (fun a => Or.inr (f a)) Or.inl
      exact ⟨cv hc.1, cv hc.2.1, cv hc.2.2.1, cv hc.2.2.2⟩
theorem trs_id {r off : Int32} (hr : 0 ≤ r.toInt ∧ r.toInt ≤ 3) (hx : x < 16) {S : M6} (h : Inv vOt vOr p1 p2 g md r off x 16 S) : ∀ n s, s + n ≤ 16 → trs vOt vOr p1 p2 g md r off x n s S = S := by
  intro n
  induction n with
  | zero => intro s _; rfl
  | succ n ih =>
    intro s hs
    have w : ∀ j, j ≤ 16 → Inv vOt vOr p1 p2 g md r off x j S := fun j hj => ⟨h.1, fun p hp hk hi => h.2 p hp (by omega) hi⟩
    rw [trs, skip1 hr hx (s := s) (by omega) (w _ (by omega)), skip1 hr hx (s := s + 16) (by omega) (w _ (by omega))]
    exact ih (s + 1) (by omega)
/-- the offer of the try r -/
def offN (own r : Nat) : Nat := (fO_offer (nI own) (nI r)).toInt.toNat
theorem offN_fin : ∀ own, own < 16 → ∀ r, r < 4 → fO_offer (nI own) (nI r) = nI (offN own r) := by decide +kernel
theorem offN_lt : ∀ own, own < 16 → ∀ r, r < 4 → offN own r < 16 := by decide +kernel
theorem offN_up : ∀ own, own < 16 → ∀ r, r < 3 → (if (2 : Int32) ≤ fI_bitCount (nI (offN own r)) then nI (offN own r) &&& (((1 : Int32) <<< ((fX_greatestOf (nI (offN own r))) &&& 31)) ^^^ (-1 : Int32)) else nI (offN own r)) = nI (offN own (r + 1)) := by decide +kernel
theorem offN_one : ∀ own, own < 16 → ∀ r, r < 3 → (2 : Int32) ≤ fI_bitCount (nI (offN own r)) ∨ offN own (r + 1) = offN own r := by decide +kernel
theorem offN_0 : ∀ own, own < 16 → offN own 0 = own := by decide +kernel
end OUT
