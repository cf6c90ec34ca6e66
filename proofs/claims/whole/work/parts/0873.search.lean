/-! the class's row beside the reference's -/
def Rel (Sc : C4) (Sm : M6) : Prop := Sc.1 = actsM Sm ∧ (¬ actsM Sm = (-1 : Int32) → Sc.2.1 = Sm.1 ∧ Sc.2.2.1 = Sm.2.1 ∧ Sc.2.2.2 = (if Sm.2.2.2.1 = Sm.2.2.1 then (-1 : Int32) else Sm.2.2.2.1))
theorem want_iff (g p t : Int32) : cWant g p t = 0 ↔ mWant g p t = 0 := by
  rw [cWant, mWant]
  by_cases h1 : g = (-1 : Int32)
  · rw [if_pos h1, if_pos h1]
  · rw [if_neg h1, if_neg h1]
    by_cases h2 : t = p
    · subst h2
      rw [if_pos rfl]
      by_cases h3 : t = g
      · rw [if_pos h3, if_pos h3]
      · rw [if_neg h3, if_neg h3]
    · rw [if_neg h2]
      by_cases h3 : t = g
      · rw [if_pos h3, if_neg (fun e => h2 (by rw [h3, e]))]
      · rw [if_neg h3]
theorem and1_bt (x : Int32) : (x &&& (1 : Int32)) = if bt x 0 = true then 1 else 0 := by
  refine b_ext fun i hi => ?_
  rw [b_and, b_1]
  by_cases e : i = 0
  · subst e
    by_cases c : bt x 0 = true
    · rw [if_pos c, c, b_1]; rfl
    · rw [if_neg c, b_0]; simp at c; simp [c]
  · rw [decide_eq_false e, Bool.and_false]
    by_cases c : bt x 0 = true
    · rw [if_pos c, b_1, decide_eq_false e]
    · rw [if_neg c, b_0]
theorem and1_iff (x y : Int32) : ((x &&& y) &&& (1 : Int32)) = 0 ↔ ((x &&& (1 : Int32)) = 0 ∨ (y &&& (1 : Int32)) = 0) := by
  rw [and1_bt, and1_bt x, and1_bt y, b_and]
  cases bt x 0 <;> cases bt y 0 <;> decide
theorem fo_eq {md c co off p t : Int32} (hc : (c = (-1 : Int32) ∧ co = off) ∨ (¬ c = (-1 : Int32) ∧ ¬ co = off)) : cFo md c p t = mSeen md co off p t := by
  rw [cFo, mSeen, cCh]
  rcases hc with ⟨h1, h2⟩ | ⟨h1, h2⟩
  · rw [if_pos h1, if_pos h2]
    by_cases h3 : t = p
    · rw [if_pos h3, if_pos (by decide), ite_self]
    · rw [if_neg h3, if_neg (by decide)]
  · rw [if_neg h1, if_neg h2]
    by_cases h3 : t = p
    · rw [if_pos h3, if_neg (by decide)]
    · rw [if_neg h3, if_neg (by decide)]
theorem act_eq {md r c co off p t : Int32} (hc : (c = (-1 : Int32) ∧ co = off) ∨ (¬ c = (-1 : Int32) ∧ ¬ co = off)) : cAct md r c p t = mActs r c p t (mSeen md co off p t) := by
  rw [cAct, fo_eq hc, mActs, cCh, ← Int32.add_assoc]
theorem rel_step {vOt vOr : Nat → Int32} {p1 p2 g md r off offc lt c co p t : Int32} (ho : fX_holds offc t = 0 ↔ ((off >>> (t &&& 31)) &&& (1 : Int32)) = 0) (hl : t < lt ↔ ¬ ((md &&& (4 : Int32)) = 0 ∨ vOr (((5 : Int32) * p1) + p2).toNatClampNeg ≤ t)) (hc : (c = (-1 : Int32) ∧ co = off) ∨ (¬ c = (-1 : Int32) ∧ ¬ co = off)) {Sc : C4} {Sm : M6} (R : Rel Sc Sm) :
    Rel (cst md (vOt (5 : Int32).toNatClampNeg) lt offc r c p g t Sc) (mst vOt vOr p1 p2 g md r off c co p t Sm) := by
  have hs := mSeen_b md co off p t
  have hok : cOk (vOt (5 : Int32).toNatClampNeg) md c p t ↔ mForge (vOt (5 : Int32).toNatClampNeg) p t (mSeen md co off p t) := by
    rw [cOk, fo_eq hc, and1_iff]
    constructor
    · rintro (h | h)
      · refine Or.inl ?_
        rcases hs with z | z
        · exact z
        · rw [z] at h; exact absurd h (by decide)
      · exact Or.inr ⟨fun z => h (Or.inl z), fun z => h (Or.inr z)⟩
    · rintro (h | h)
      · rw [h]; exact Or.inl (by decide)
      · exact Or.inr (fun z => z.elim h.1 h.2)
  have hcmp : (Sc.1 = (-1 : Int32) ∨ ¬ Sc.1 ≤ cAct md r c p t) ↔ (Sm.2.2.2.2.1 = (-1 : Int32) ∨ mActs r c p t (mSeen md co off p t) < Sm.2.2.2.2.1) := by
    rw [R.1, act_eq hc, i32_le, i32_lt]
    show (Sm.2.2.2.2.1 = (-1 : Int32) ∨ ¬ (Sm.2.2.2.2.1).toInt ≤ _) ↔ _
    rw [Int.not_le]
  rw [cst, mst]
  by_cases c1 : mOk vOt vOr p1 p2 g md off co p t
  · obtain ⟨k1, k2, k3, k4⟩ := c1
    rw [if_pos ⟨fun z => k1 ((want_iff g p t).mp z), fun z => k2 (ho.mp z), fun z => hl.mp z k3⟩]
    by_cases c2 : Sm.2.2.2.2.1 = (-1 : Int32) ∨ mActs r c p t (mSeen md co off p t) < Sm.2.2.2.2.1
    · have q1 : cOk (vOt (5 : Int32).toNatClampNeg) md c p t ∧ (Sc.1 = (-1 : Int32) ∨ ¬ Sc.1 ≤ cAct md r c p t) := ⟨hok.mpr k4, hcmp.mpr c2⟩
      have q2 : mOk vOt vOr p1 p2 g md off co p t ∧ (Sm.2.2.2.2.1 = (-1 : Int32) ∨ mActs r c p t (mSeen md co off p t) < Sm.2.2.2.2.1) := ⟨⟨k1, k2, k3, k4⟩, c2⟩
      rw [if_pos q1, if_pos q2]
      exact ⟨act_eq hc, fun _ => ⟨rfl, rfl, rfl⟩⟩
    · rw [if_neg (fun z => c2 (hcmp.mp z.2)), if_neg (fun z => c2 z.2)]; exact R
  · rw [if_neg (fun z : mOk vOt vOr p1 p2 g md off co p t ∧ _ => c1 z.1)]
    by_cases c3 : ¬ cWant g p t = 0 ∧ ¬ fX_holds offc t = 0 ∧ ¬ t < lt
    · rw [if_pos c3, if_neg (fun z => c1 ⟨fun q => c3.1 ((want_iff g p t).mpr q), fun q => c3.2.1 (ho.mpr q), Classical.byContradiction (fun q => c3.2.2 (hl.mpr q)), hok.mp z.1⟩)]; exact R
    · rw [if_neg c3]; exact R
theorem rel_4 {vOt vOr : Nat → Int32} {p1 p2 g md r off offc lt c co p : Int32} (ho : T4 fun t => fX_holds offc t = 0 ↔ ((off >>> (t &&& 31)) &&& (1 : Int32)) = 0) (hl : T4 fun t => t < lt ↔ ¬ ((md &&& (4 : Int32)) = 0 ∨ vOr (((5 : Int32) * p1) + p2).toNatClampNeg ≤ t)) (hc : (c = (-1 : Int32) ∧ co = off) ∨ (¬ c = (-1 : Int32) ∧ ¬ co = off)) {Sc : C4} {Sm : M6} (R : Rel Sc Sm) :
    Rel (c4 md (vOt (5 : Int32).toNatClampNeg) lt offc r c p g Sc) (m4 vOt vOr p1 p2 g md r off c co p Sm) :=
  rel_step ho.2.2.2 hl.2.2.2 hc (rel_step ho.2.2.1 hl.2.2.1 hc (rel_step ho.2.1 hl.2.1 hc (rel_step ho.1 hl.1 hc R)))
