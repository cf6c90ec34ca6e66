-- the search: the loops over the tries
/-- what the reference keeps of its row fits together -/
def Good (S : M6) : Prop := actsM S = (-1 : Int32) ∨ ((0 ≤ S.1.toInt ∧ S.1.toInt ≤ 3) ∧ (S.2.2.2.2.2 = 0 ∨ S.2.2.2.2.2 = 1) ∧ ¬ S.2.2.2.1 = (-1 : Int32) ∧ actsM S = mActs S.1 S.2.1 S.2.2.1 S.2.2.2.1 S.2.2.2.2.2)
section OUT
variable {vOt vOr : Nat → Int32} {p1 p2 g md lt : Int32} {x own : Nat}
theorem good_mst {r off ch co pk t : Int32} (hr : 0 ≤ r.toInt ∧ r.toInt ≤ 3) (ht : ¬ t = (-1 : Int32)) {S : M6} (h : Good S) : Good (mst vOt vOr p1 p2 g md r off ch co pk t S) := by
  unfold mst
  split
  · exact Or.inr ⟨hr, mSeen_b _ _ _ _ _, ht, rfl⟩
  · exact h
theorem good_m4 {r off ch co pk : Int32} (hr : 0 ≤ r.toInt ∧ r.toInt ≤ 3) {S : M6} (h : Good S) : Good (m4 vOt vOr p1 p2 g md r off ch co pk S) :=
  good_mst hr (by decide) (good_mst hr (by decide) (good_mst hr (by decide) (good_mst hr (by decide) h)))
theorem good_tr {r off oth c : Int32} (hr : 0 ≤ r.toInt ∧ r.toInt ≤ 3) {S : M6} (h : Good S) : Good (tr vOt vOr p1 p2 g md oth r off c S) := by
  unfold tr
  rw [tries_eq]
  by_cases q : mStop oth (if c = (-1 : Int32) then off else c) ∨ fO_best ((if c = (-1 : Int32) then off else c) &&& oth) = (-1 : Int32)
  · rw [if_pos q]; exact h
  · rw [if_neg q]; exact good_m4 hr h
theorem good_trs {r off : Int32} (hr : 0 ≤ r.toInt ∧ r.toInt ≤ 3) : ∀ (n s : Nat) (S : M6), Good S → Good (trs vOt vOr p1 p2 g md r off x n s S) := by
  intro n
  induction n with
  | zero => intro s S h; exact h
  | succ n ih => intro s S h; exact ih _ _ (good_tr hr (good_tr hr h))
def kOf (md : Int32) (r : Nat) : Nat := if r = 0 then 0 else if (md &&& (2 : Int32)) = 0 then 0 else 1
theorem kOf_lt (md : Int32) (r : Nat) : kOf md r < 2 := by
  unfold kOf
  split
  · omega
  · split <;> omega
theorem kOf_0 {md : Int32} {r : Nat} (h : r = 0 ∨ (md &&& (2 : Int32)) = 0) : kOf md r = 0 := by
  unfold kOf
  by_cases a : r = 0
  · rw [if_pos a]
  · rw [if_neg a, if_pos (h.resolve_left a)]
theorem kOf_up (md : Int32) (r : Nat) : kOf md r ≤ kOf md (r + 1) := by
  unfold kOf
  by_cases a : r = 0
  · rw [if_pos a]; exact Nat.zero_le _
  · have b : ¬ r + 1 = 0 := by omega
    rw [if_neg a, if_neg b]; exact Nat.le_refl _
theorem nIup : ∀ r, r < 5 → nI r + (1 : Int32) = nI (r + 1) := by decide +kernel
theorem nIle : ∀ r, r < 5 → (nI r ≤ 0 ↔ r = 0) := by decide +kernel
theorem nIv : ∀ r, r < 6 → (nI r).toInt = (r : Int) := by decide +kernel
theorem add_fin : ∀ o, o < 16 → nI o + (0 : Int32) = nI (o + 16 * 0) ∧ nI o + (16 : Int32) = nI (o + 16 * 1) := by decide +kernel
theorem add_fin' : ∀ o, o < 16 → nI o + (0 : Int32) = nI (o + 16 * 0) := by decide +kernel
theorem own_fin : ∀ o, o < 16 → (nI o = 0 ↔ o = 0) := by decide +kernel
/-- one try of the reference -/
def mtry (vOt vOr : Nat → Int32) (p1 p2 g md : Int32) (x own r : Nat) (S : M6) : M6 := trs vOt vOr p1 p2 g md (nI r) (nI (offN own r + 16 * kOf md r)) x 15 1 (tr vOt vOr p1 p2 g md (nI x) (nI r) (nI (offN own r + 16 * kOf md r)) (-1 : Int32) S)
def mfin (S : M6) : Int32 × Int32 × Int32 × Int32 × Int32 × Int32 × Int32 := (actsM S, S)
theorem l26_step (hw : own < 16) (n r : Nat) (hr : r < 4) (S : M6) : app9 (fO_least_l26 vOt vOr p1 p2 g md (n + 1)) (nI own) (nI x) (nI r) S = if vOt (6 : Int32).toNatClampNeg < nI r ∨ own = 0 then mfin S else app9 (fO_least_l26 vOt vOr p1 p2 g md n) (nI own) (nI x) (nI (r + 1)) (mtry vOt vOr p1 p2 g md x own r S) := by
  unfold app9
  rw [fO_least_l26]
  by_cases a : vOt (6 : Int32).toNatClampNeg < nI r
  · rw [if_pos a, if_pos (Or.inl a)]; rfl
  by_cases b : own = 0
  · rw [if_neg a, if_pos ((own_fin own hw).2 b), if_pos (Or.inr b)]; rfl
  have c : ¬ (vOt (6 : Int32).toNatClampNeg < nI r ∨ own = 0) := fun q => q.elim a b
  rw [if_neg a, if_neg (fun q => b ((own_fin own hw).1 q)), if_neg c]
  have f := add_fin _ (offN_lt own hw r hr)
  by_cases d : (md &&& (2 : Int32)) = 0
  · rw [if_pos d, b68_eq, nIup r (by omega), offN_fin own hw r hr, f.1]
    unfold mtry app9
    rw [kOf_0 (Or.inr d)]
  · rw [if_neg d]
    by_cases e : r = 0
    · rw [if_pos ((nIle r (by omega)).2 e), b68_eq, nIup r (by omega), offN_fin own hw r hr, f.1]
      unfold mtry app9
      rw [show kOf md r = 0 from if_pos e]
    · rw [if_neg (fun q => e ((nIle r (by omega)).1 q)), b68_eq, nIup r (by omega), offN_fin own hw r hr, f.2]
      unfold mtry app9
      rw [show kOf md r = 1 by unfold kOf; rw [if_neg e, if_neg d]]
theorem l15_step {br tw h T : Int32} (n r : Nat) (hr : r < 4) (offc mk : Int32) (S : C4) : app7 (fJ_search_l15 md br tw h lt T g (n + 1)) (nI r) offc mk S = if T < nI r then cend offc mk S else if (2 : Int32) ≤ fI_bitCount offc then app7 (fJ_search_l15 md br tw h lt T g n) (nI (r + 1)) (offc &&& (((1 : Int32) <<< ((fX_greatestOf offc) &&& 31)) ^^^ (-1 : Int32))) (nI (kOf md r)) (ctry md br h lt g (nI r) offc (nI (kOf md r)) S) else cend offc (nI (kOf md r)) (ctry md br h lt g (nI r) offc (nI (kOf md r)) S) := by
  rw [← nIup r (by omega)]
  conv => lhs; unfold app7; rw [fJ_search_l15]
  rw [show fT_triesAllowed T = T from rfl]
  by_cases a : T < nI r
  · rw [if_pos a, if_pos a, b150_eq]
  rw [if_neg a, if_neg a]
  by_cases e : r = 0
  · rw [if_pos ((nIle r (by omega)).2 e), b45_eq, show kOf md r = 0 from if_pos e]; rfl
  rw [if_neg (fun q => e ((nIle r (by omega)).1 q))]
  by_cases d : (md &&& (2 : Int32)) = 0
  · rw [if_pos d, b45_eq, show kOf md r = 0 by unfold kOf; rw [if_neg e, if_pos d]]; rfl
  · rw [if_neg d, b45_eq, show kOf md r = 1 by unfold kOf; rw [if_neg e, if_neg d]]; rfl
theorem offN_stay : ∀ own, own < 16 → ∀ r, r < 4 → ∀ q, q < 3 → ((2 : Int32) ≤ fI_bitCount (nI (offN own r)) ∨ q < r ∨ offN own (q + 1) = offN own q) := by decide +kernel
theorem lt_T {T : Int32} (hT : T.toInt ≤ 3) {r : Nat} (hr : r < 6) (h : ¬ T < nI r) : r < 4 := by
  have h1 := nIv r hr
  simp only [i32_lt] at h
  omega
theorem mtry_id (hw : own < 16) (hx : x < 16) {r : Nat} (hr : r < 4) {S : M6} (hi : Inv vOt vOr p1 p2 g md (nI r) (nI (offN own r + 16 * kOf md r)) x 16 S) : mtry vOt vOr p1 p2 g md x own r S = S := by
  have h3 : 0 ≤ (nI r).toInt ∧ (nI r).toInt ≤ 3 := by have := nIv r (by omega); omega
  unfold mtry
  rw [none_id hi.1, trs_id h3 hx hi 15 1 (by omega)]
theorem l26_end (n : Nat) (ow r : Int32) (S : M6) (h : vOt (6 : Int32).toNatClampNeg < r) : app9 (fO_least_l26 vOt vOr p1 p2 g md (n + 1)) ow (nI x) r S = mfin S := by
  unfold app9
  rw [fO_least_l26, if_pos h]; rfl
theorem l15_end {br tw h T : Int32} (n : Nat) (r offc mk : Int32) (S : C4) (hq : T < r) : app7 (fJ_search_l15 md br tw h lt T g (n + 1)) r offc mk S = cend offc mk S := by
  unfold app7
  rw [fJ_search_l15, show fT_triesAllowed T = T from rfl, if_pos hq, b150_eq]
theorem lt_4 {T : Int32} (hT : T.toInt ≤ 3) : T < nI 4 := by
  have h1 := nIv 4 (by omega)
  simp only [i32_lt]
  omega
theorem l26_rest (hT : (vOt (6 : Int32).toNatClampNeg).toInt ≤ 3) (hw : own < 16) (hx : x < 16) {S : M6} : ∀ n r, n + r = 4 → r < 4 → Inv vOt vOr p1 p2 g md (nI r) (nI (offN own r + 16 * kOf md r)) x 16 S → (∀ q, r ≤ q → q < 3 → offN own (q + 1) = offN own q) → app9 (fO_least_l26 vOt vOr p1 p2 g md n) (nI own) (nI x) (nI (r + 1)) S = mfin S := by
  intro n
  induction n with
  | zero =>
    intro r hn h4 hi hq
    omega
  | succ n ih =>
    intro r hn h4 hi hq
    by_cases a : vOt (6 : Int32).toNatClampNeg < nI (r + 1)
    · exact l26_end n _ _ S a
    have a4 : r + 1 < 4 := lt_T hT (by omega) a
    rw [l26_step hw n (r + 1) a4]
    by_cases b : own = 0
    · rw [if_pos (Or.inr b)]
    rw [if_neg (fun q => q.elim a b)]
    have h1 := nIv r (by omega)
    have h2 := nIv (r + 1) (by omega)
    have hi2 : Inv vOt vOr p1 p2 g md (nI (r + 1)) (nI (offN own (r + 1) + 16 * kOf md (r + 1))) x 16 S := by
      rw [hq r (by omega) (by omega)]
      exact inv_up (k := kOf md r) (by omega) (by omega) (by omega) (offN_lt own hw r h4) hx (kOf_lt _ _) (kOf_up _ _) hi
    rw [mtry_id hw hx a4 hi2]
    exact ih (r + 1) (by omega) a4 hi2 (fun q h => hq q (by omega))
/-- from the try r on both sides end alike -/
theorem outer {tw T : Int32} (hT : T = vOt (6 : Int32).toNatClampNeg) (h3 : T.toInt ≤ 3) (hw : own < 16) (h0 : ¬ own = 0) (hx : x < 16) (hl : T4 fun t => t < lt ↔ ¬ ((md &&& (4 : Int32)) = 0 ∨ vOr (((5 : Int32) * p1) + p2).toNatClampNeg ≤ t)) : ∀ (n r : Nat) (offc mk : Int32) (Sc : C4) (Sm : M6), n + r = 5 → r < 5 → (r < 4 → offc = nI (offN own r)) → Rel Sc Sm → Good Sm →
    ∃ offc' mk' Sc' Sm', app7 (fJ_search_l15 md (vOt (5 : Int32).toNatClampNeg) tw (nI x) lt T g n) (nI r) offc mk Sc = cend offc' mk' Sc' ∧ app9 (fO_least_l26 vOt vOr p1 p2 g md n) (nI own) (nI x) (nI r) Sm = mfin Sm' ∧ Rel Sc' Sm' ∧ Good Sm' := by
  intro n
  induction n with
  | zero => intro r offc mk Sc Sm hn h5; omega
  | succ n ih =>
    intro r offc mk Sc Sm hn h5 ho R G
    by_cases a : T < nI r
    · exact ⟨offc, mk, Sc, Sm, l15_end n _ _ _ _ a, l26_end n _ _ _ (by rw [← hT]; exact a), R, G⟩
    have h4 : r < 4 := lt_T h3 (by omega) a
    have hr : 0 ≤ (nI r).toInt ∧ (nI r).toInt ≤ 3 := by have := nIv r (by omega); omega
    have a2 : ¬ (vOt (6 : Int32).toNatClampNeg < nI r ∨ own = 0) := fun q => q.elim (by rw [← hT]; exact a) h0
    rw [l15_step n r h4, l26_step hw n r h4, if_neg a, if_neg a2]
    obtain ⟨R2, I2⟩ := rel_try (vOt := vOt) (vOr := vOr) (p1 := p1) (p2 := p2) (g := g) (md := md) hr hx (offN_lt own hw r h4) (kOf_lt md r) hl R
    have G2 : Good (mtry vOt vOr p1 p2 g md x own r Sm) := good_trs hr _ _ _ (good_tr hr G)
    rw [← ho h4] at R2
    by_cases b : (2 : Int32) ≤ fI_bitCount offc
    · rw [if_pos b]
      refine ih (r + 1) _ _ _ _ (by omega) (by omega) (fun q => ?_) R2 G2
      have e := offN_up own hw r (by omega)
      rw [← ho h4, if_pos b] at e
      exact e
    · rw [if_neg b]
      refine ⟨_, _, _, _, rfl, ?_, R2, G2⟩
      refine l26_rest (by rw [← hT]; exact h3) hw hx n r (by omega) h4 I2 (fun q h1 h2 => ?_)
      have e := offN_stay own hw r h4 q h2
      rw [← ho h4] at e
      exact (e.resolve_left b).resolve_left (by omega)
/-- nothing offered: nothing found -/
theorem c4_0 {m br r c p : Int32} (S : C4) : c4 m br lt (nI 0) r c p g S = S := by
  have w : ∀ t, t < 4 → fX_holds (nI 0) (nI t) = 0 := by decide +kernel
  have e : ∀ t, t < 4 → ∀ S : C4, cst m br lt (nI 0) r c p g (nI t) S = S := fun t ht S => by
    unfold cst
    rw [if_neg (fun q => q.2.1 (w t ht))]
  unfold c4
  have e0 : cst m br lt (nI 0) r c p g (0 : Int32) S = S := e 0 (by omega) S
  have e1 : cst m br lt (nI 0) r c p g (1 : Int32) S = S := e 1 (by omega) S
  have e2 : cst m br lt (nI 0) r c p g (2 : Int32) S = S := e 2 (by omega) S
  have e3 : cst m br lt (nI 0) r c p g (3 : Int32) S = S := e 3 (by omega) S
  rw [e0, e1, e2, e3]
theorem wp_0 {m br r c p : Int32} (S : C4) : fJ_weighPick m br lt (nI 0) S.1 S.2.1 S.2.2.1 S.2.2.2 r c p g = S := by
  rw [wp_eq, c4_0]
  split <;> rfl
theorem ctry_0 {m br h r mk : Int32} (S : C4) : ctry m br h lt g r (nI 0) mk S = S := by
  have e : ∀ p S, cs1 m br lt h (nI 0) mk r g p S = S := fun p S => by
    unfold cs1
    rw [wp_0]
    split <;> rfl
  unfold ctry
  rw [wp_0, e, e, e, e]
/-- the searches of both sides answer alike -/
theorem search_eq {T : Int32} (hT : T = vOt (6 : Int32).toNatClampNeg) (h3 : 0 ≤ T.toInt ∧ T.toInt ≤ 3) (hw : own < 16) (hx : x < 16) (h1 : fO_waysOf vOt p1 md = nI own) (h2 : fO_waysOf vOt p2 md = nI x) (hl : T4 fun t => t < lt ↔ ¬ ((md &&& (4 : Int32)) = 0 ∨ vOr (((5 : Int32) * p1) + p2).toNatClampNeg ≤ t)) (of mk ac dr ca pc d c k u a f : Int32) :
    ∃ offc' mk' Sc' Sm', fJ_search md (vOt (5 : Int32).toNatClampNeg) (nI own) (nI x) lt of mk ac dr ca pc T g = cend offc' mk' Sc' ∧ fO_least d c k u a f vOt vOr p1 p2 g md = mfin Sm' ∧ Rel Sc' Sm' ∧ Good Sm' := by
  unfold fJ_search fO_least
  rw [h1, h2]
  have R : Rel ((-1 : Int32), dr, ca, pc) (d, c, k, u, (-1 : Int32), f) := ⟨rfl, fun q => absurd rfl q⟩
  have G : Good (d, c, k, u, (-1 : Int32), f) := Or.inl rfl
  by_cases h0 : own = 0
  · subst h0
    refine ⟨nI 0, nI (kOf md 0), ((-1 : Int32), dr, ca, pc), (d, c, k, u, (-1 : Int32), f), ?_, ?_, R, G⟩
    · have e := l15_step (md := md) (lt := lt) (g := g) (br := vOt (5 : Int32).toNatClampNeg) (tw := nI 0) (h := nI x) (T := T) 4 0 (by omega) (nI 0) mk ((-1 : Int32), dr, ca, pc)
      have z : ¬ T < nI 0 := by have := nIv 0 (by omega); simp only [i32_lt]; omega
      have y : ¬ (2 : Int32) ≤ fI_bitCount (nI 0) := by decide +kernel
      rw [if_neg z, if_neg y, ctry_0] at e
      exact e
    · have e := l26_step (vOt := vOt) (vOr := vOr) (p1 := p1) (p2 := p2) (g := g) (md := md) (x := x) hw 4 0 (by omega) (d, c, k, u, (-1 : Int32), f)
      rw [if_pos (Or.inr rfl)] at e
      exact e
  · have e := outer (p1 := p1) (p2 := p2) (g := g) (tw := nI own) hT h3.2 hw h0 hx hl 5 0 (nI own) mk _ _ (by omega) (by omega) (fun _ => by rw [offN_0 own hw]) R G
    simp only [app7, app9] at e
    rw [show nI 0 = (0 : Int32) by decide +kernel] at e
    exact e
end OUT
