/-! one try of both -/
theorem pick_fin : ∀ o, o < 16 → ∀ k, k < 2 → ∀ x, x < 16 → fJ_pickOfOffer (nI x) (nI o) (nI k) = (if mStop (nI x) (nI (o + 16 * k)) ∨ fO_best (nI (o + 16 * k) &&& nI x) = (-1 : Int32) then (-1 : Int32) else fO_best (nI (o + 16 * k) &&& nI x)) := by decide +kernel
theorem hold_fin : ∀ o, o < 16 → ∀ k, k < 2 → ∀ t, t < 4 → fX_holds (nI o) (nI t) = ((nI (o + 16 * k) >>> (nI t &&& 31)) &&& (1 : Int32)) := by decide +kernel
theorem inH_fin : ∀ x, x < 16 → ∀ p, p < 4 → (decide (fX_holds (nI x) (nI p) = 0) = !decide (inH x p)) := by decide +kernel
theorem sh_fin : ∀ p, p < 4 → (1 : Int32) <<< (nI p &&& 31) = nI (2 ^ p) := by decide +kernel
theorem one_fin : ∀ p, p < 4 → ∀ o, o < 16 → ∀ k, k < 2 → ((decide (nI k = 0) && decide (nI o = nI (2 ^ p))) = decide (nI (2 ^ p) = nI (o + 16 * k))) := by decide +kernel
section REL
variable {vOt vOr : Nat → Int32} {p1 p2 g md r lt : Int32} {x o k : Nat}
theorem hold_T4 (ho : o < 16) (hk : k < 2) : T4 fun t => fX_holds (nI o) t = 0 ↔ ((nI (o + 16 * k) >>> (t &&& 31)) &&& (1 : Int32)) = 0 := by
  have key : ∀ t, t < 4 → (fX_holds (nI o) (nI t) = 0 ↔ ((nI (o + 16 * k) >>> (nI t &&& 31)) &&& (1 : Int32)) = 0) := by
    intro t ht
    rw [hold_fin o ho k hk t ht]
  exact ⟨key 0 (by omega), key 1 (by omega), key 2 (by omega), key 3 (by omega)⟩
theorem rel_none (hx : x < 16) (ho : o < 16) (hk : k < 2) (hl : T4 fun t => t < lt ↔ ¬ ((md &&& (4 : Int32)) = 0 ∨ vOr (((5 : Int32) * p1) + p2).toNatClampNeg ≤ t)) {Sc : C4} {Sm : M6} (R : Rel Sc Sm) :
    Rel (fJ_weighPick md (vOt (5 : Int32).toNatClampNeg) lt (nI o) Sc.1 Sc.2.1 Sc.2.2.1 Sc.2.2.2 r (-1 : Int32) (fJ_pickOfOffer (nI x) (nI o) (nI k)) g) (tr vOt vOr p1 p2 g md (nI x) r (nI (o + 16 * k)) (-1 : Int32) Sm) := by
  rw [wp_eq, pick_fin o ho k hk x hx]
  by_cases c1 : mStop (nI x) (nI (o + 16 * k)) ∨ fO_best (nI (o + 16 * k) &&& nI x) = (-1 : Int32)
  · rw [if_pos c1, if_pos rfl]
    have e : tr vOt vOr p1 p2 g md (nI x) r (nI (o + 16 * k)) (-1 : Int32) Sm = Sm := by rw [tr, tries_eq]; exact if_pos c1
    rw [e]; exact R
  · have e : tr vOt vOr p1 p2 g md (nI x) r (nI (o + 16 * k)) (-1 : Int32) Sm = m4 vOt vOr p1 p2 g md r (nI (o + 16 * k)) (-1 : Int32) (nI (o + 16 * k)) (fO_best (nI (o + 16 * k) &&& nI x)) Sm := by rw [tr, tries_eq]; exact if_neg c1
    rw [if_neg c1, if_neg (fun z => c1 (Or.inr z)), e]
    exact rel_4 (hold_T4 ho hk) hl (Or.inl ⟨rfl, rfl⟩) R
theorem rel_one (hx : x < 16) (ho : o < 16) (hk : k < 2) (hl : T4 fun t => t < lt ↔ ¬ ((md &&& (4 : Int32)) = 0 ∨ vOr (((5 : Int32) * p1) + p2).toNatClampNeg ≤ t)) {p : Nat} (hp : p < 4) {Sc : C4} {Sm : M6} (R : Rel Sc Sm) :
    Rel (cs1 md (vOt (5 : Int32).toNatClampNeg) lt (nI x) (nI o) (nI k) r g (nI p) Sc) (st1 vOt vOr p1 p2 g md r (nI (o + 16 * k)) x p Sm) := by
  have h1 := inH_fin x hx p hp
  have h2 := one_fin p hp o ho k hk
  have h16 := two_lt hp
  rw [cs1, st1, sh_fin p hp]
  by_cases c1 : inH x p
  · have d1 : ¬ fX_holds (nI x) (nI p) = 0 := by
      intro z; rw [decide_eq_true z, decide_eq_true c1] at h1; exact absurd h1 (by decide)
    by_cases c2 : nI (2 ^ p) = nI (o + 16 * k)
    · have d2 : ¬ (¬ nI k = 0 ∨ ¬ nI o = nI (2 ^ p)) := by
        rw [decide_eq_true c2, Bool.and_eq_true, decide_eq_true_eq, decide_eq_true_eq] at h2
        exact fun z => z.elim (fun q => q h2.1) (fun q => q h2.2)
      rw [if_neg (fun z => d2 z.2), if_neg (fun z => z.2 c2)]; exact R
    · have d2 : ¬ nI k = 0 ∨ ¬ nI o = nI (2 ^ p) := by
        rw [decide_eq_false c2] at h2
        by_cases z : nI k = 0
        · refine Or.inr (fun q => ?_)
          rw [decide_eq_true z, decide_eq_true q] at h2; exact absurd h2 (by decide)
        · exact Or.inl z
      rw [if_pos ⟨d1, d2⟩, if_pos ⟨c1, c2⟩, wp_eq, if_neg (nI_m1 (by omega))]
      have hlt : nI (2 ^ p) < (16 : Int32) := by rw [i32_lt, nI_toInt (by omega), t32_16]; omega
      have b2 : fO_best (nI (2 ^ p) &&& nI x) = nI p := by
        rcases best_one p hp x hx with z | z
        · exact z.2
        · exact absurd c1 z.1
      have hm1 : ¬ nI (2 ^ p) = (-1 : Int32) := nI_m1 (by omega)
      have e : tr vOt vOr p1 p2 g md (nI x) r (nI (o + 16 * k)) (nI (2 ^ p)) Sm = m4 vOt vOr p1 p2 g md r (nI (o + 16 * k)) (nI (2 ^ p)) (nI (2 ^ p)) (nI p) Sm := by
        rw [tr, tries_eq, if_neg hm1, b2]
        exact if_neg (fun z => z.elim (fun q => q.1 hlt) (nI_m1 (by omega)))
      rw [e]
      exact rel_4 (hold_T4 ho hk) hl (Or.inr ⟨hm1, c2⟩) R
  · have d1 : fX_holds (nI x) (nI p) = 0 := by
      rw [decide_eq_false c1] at h1; exact of_decide_eq_true h1
    rw [if_neg (fun z => z.1 d1), if_neg (fun z => c1 z.1)]; exact R
theorem rel_try (hr : 0 ≤ r.toInt ∧ r.toInt ≤ 3) (hx : x < 16) (ho : o < 16) (hk : k < 2) (hl : T4 fun t => t < lt ↔ ¬ ((md &&& (4 : Int32)) = 0 ∨ vOr (((5 : Int32) * p1) + p2).toNatClampNeg ≤ t)) {Sc : C4} {Sm : M6} (R : Rel Sc Sm) :
    Rel (ctry md (vOt (5 : Int32).toNatClampNeg) (nI x) lt g r (nI o) (nI k) Sc) (trs vOt vOr p1 p2 g md r (nI (o + 16 * k)) x 15 1 (tr vOt vOr p1 p2 g md (nI x) r (nI (o + 16 * k)) (-1 : Int32) Sm)) ∧ Inv vOt vOr p1 p2 g md r (nI (o + 16 * k)) x 16 (trs vOt vOr p1 p2 g md r (nI (o + 16 * k)) x 15 1 (tr vOt vOr p1 p2 g md (nI x) r (nI (o + 16 * k)) (-1 : Int32) Sm)) := by
  obtain ⟨e, i⟩ := trs_all (vOt := vOt) (vOr := vOr) (p1 := p1) (p2 := p2) (g := g) (md := md) (off := nI (o + 16 * k)) hr hx (covN_none hr Sm)
  rw [e]
  refine ⟨?_, i⟩
  exact rel_one hx ho hk hl (p := 3) (by omega) (rel_one hx ho hk hl (p := 2) (by omega) (rel_one hx ho hk hl (p := 1) (by omega) (rel_one hx ho hk hl (p := 0) (by omega) (rel_none hx ho hk hl R))))
end REL
