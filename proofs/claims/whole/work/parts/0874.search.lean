/-! the reference's try as one function -/
section LEAST
variable (vOt vOr : Nat → Int32) (p1 p2 g md : Int32)
abbrev KT : Type := Int32 → Int32 → Int32 → Int32 → Int32 → Int32 → Int32 → Int32 → Int32 → (Int32 × Int32 × Int32 × Int32 × Int32 × Int32 × Int32)
def app9 (K : KT) (a b c : Int32) (S : M6) : Int32 × Int32 × Int32 × Int32 × Int32 × Int32 × Int32 := K a b c S.1 S.2.1 S.2.2.1 S.2.2.2.1 S.2.2.2.2.1 S.2.2.2.2.2
theorem l100_eq (K26 : KT) (K90 : Int32 → Int32 → Int32 → Int32 → Int32 → Int32 → Int32 → Int32 → Int32 → Int32 → Int32 → (Int32 × Int32 × Int32 × Int32 × Int32 × Int32 × Int32)) (ow ot r off s : Int32) (S : M6) : fO_least_l100 K26 K90 vOt vOr p1 p2 g md 3 ow ot r off s (0 : Int32) S.1 S.2.1 S.2.2.1 S.2.2.2.1 S.2.2.2.2.1 S.2.2.2.2.2 = K90 ow ot r off (s + (1 : Int32)) (tr vOt vOr p1 p2 g md ot r off (s + (16 : Int32)) (tr vOt vOr p1 p2 g md ot r off s S)).1 (tr vOt vOr p1 p2 g md ot r off (s + (16 : Int32)) (tr vOt vOr p1 p2 g md ot r off s S)).2.1 (tr vOt vOr p1 p2 g md ot r off (s + (16 : Int32)) (tr vOt vOr p1 p2 g md ot r off s S)).2.2.1 (tr vOt vOr p1 p2 g md ot r off (s + (16 : Int32)) (tr vOt vOr p1 p2 g md ot r off s S)).2.2.2.1 (tr vOt vOr p1 p2 g md ot r off (s + (16 : Int32)) (tr vOt vOr p1 p2 g md ot r off s S)).2.2.2.2.1 (tr vOt vOr p1 p2 g md ot r off (s + (16 : Int32)) (tr vOt vOr p1 p2 g md ot r off s S)).2.2.2.2.2 := by
  have e0 : s + (16 : Int32) * (0 : Int32) = s := by rw [show (16 : Int32) * (0 : Int32) = 0 from by decide, Int32.add_zero]
  have e1 : s + (16 : Int32) * ((0 : Int32) + (1 : Int32)) = s + (16 : Int32) := by rw [show (16 : Int32) * ((0 : Int32) + (1 : Int32)) = 16 from by decide]
  rw [fO_least_l100, if_neg (by decide), bnd6, fO_least_l100, if_neg (by decide), bnd6, fO_least_l100, if_pos (by decide), e0, e1]
  rfl
theorem l90_eq (K26 : KT) (ow r off : Int32) {x : Nat} : ∀ (n j : Nat) (S : M6), j + n = 16 → fO_least_l90 K26 vOt vOr p1 p2 g md (n + 1) ow (nI x) r off (nI j) S.1 S.2.1 S.2.2.1 S.2.2.2.1 S.2.2.2.2.1 S.2.2.2.2.2 = app9 K26 ow (nI x) (r + (1 : Int32)) (trs vOt vOr p1 p2 g md r off x n j S) := by
  intro n
  induction n with
  | zero =>
    intro j S hj
    rw [fO_least_l90, if_pos (by rw [i32_lt, nI_toInt (by omega), t32_15]; omega)]
    rfl
  | succ n ih =>
    intro j S hj
    rw [fO_least_l90, if_neg (by rw [i32_lt, nI_toInt (by omega), t32_15]; omega), l100_eq, nI_1, ih (j + 1) _ (by omega), trs, show nI j + (16 : Int32) = nI (j + 16) from nI_add j 16]
theorem b68_eq (K26 : KT) (ow r s0 s1 : Int32) {x : Nat} (S : M6) : fO_least_b68 K26 vOt vOr p1 p2 g md ow (nI x) r s0 s1 S.1 S.2.1 S.2.2.1 S.2.2.2.1 S.2.2.2.2.1 S.2.2.2.2.2 = app9 K26 ow (nI x) (r + (1 : Int32)) (trs vOt vOr p1 p2 g md r (s1 + s0) x 15 1 (tr vOt vOr p1 p2 g md (nI x) r (s1 + s0) (-1 : Int32) S)) := by
  rw [fO_least_b68, bnd6]
  exact l90_eq vOt vOr p1 p2 g md K26 ow r (s1 + s0) 15 1 (tr vOt vOr p1 p2 g md (nI x) r (s1 + s0) (-1 : Int32) S) (by omega)
end LEAST
/-! the class's try -/
/-- the class's change to p alone -/
def cs1 (m br lt h offc mk r g p : Int32) (S : C4) : C4 := if ¬ fX_holds h p = 0 ∧ (¬ mk = 0 ∨ ¬ offc = ((1 : Int32) <<< (p &&& 31))) then fJ_weighPick m br lt offc S.1 S.2.1 S.2.2.1 S.2.2.2 r ((1 : Int32) <<< (p &&& 31)) p g else S
abbrev KC : Type := Int32 → Int32 → Int32 → Int32 → Int32 → Int32 → Int32 → (Int32 × Int32 × Int32 × Int32 × Int32 × Int32 × Int32)
section CLS
variable (m br tw h lt ta g : Int32) (K : KC)
theorem l61_step (n : Nat) (r p offc mk : Int32) (S : C4) (hp : ¬ (4 : Int32) ≤ p) : fJ_search_l61 K m br tw h lt ta g (n + 1) r p offc mk S.1 S.2.1 S.2.2.1 S.2.2.2 = fJ_search_l61 K m br tw h lt ta g n r (p + (1 : Int32)) offc mk (cs1 m br lt h offc mk r g p S).1 (cs1 m br lt h offc mk r g p S).2.1 (cs1 m br lt h offc mk r g p S).2.2.1 (cs1 m br lt h offc mk r g p S).2.2.2 := by
  rw [fJ_search_l61, if_neg hp]
  by_cases h1 : fX_holds h p = 0
  · have e : cs1 m br lt h offc mk r g p S = S := if_neg (fun z => z.1 h1)
    rw [if_pos h1, e]
  · rw [if_neg h1]
    by_cases h2 : mk = 0
    · rw [if_pos h2]
      by_cases h3 : offc = ((1 : Int32) <<< (p &&& 31))
      · have e : cs1 m br lt h offc mk r g p S = S := if_neg (fun z => z.2.elim (fun q => q h2) (fun q => q h3))
        rw [if_pos h3, e]
      · have e : cs1 m br lt h offc mk r g p S = fJ_weighPick m br lt offc S.1 S.2.1 S.2.2.1 S.2.2.2 r ((1 : Int32) <<< (p &&& 31)) p g := if_pos ⟨h1, Or.inr h3⟩
        rw [if_neg h3, e, fJ_search_b94, bnd4]
    · have e : cs1 m br lt h offc mk r g p S = fJ_weighPick m br lt offc S.1 S.2.1 S.2.2.1 S.2.2.2 r ((1 : Int32) <<< (p &&& 31)) p g := if_pos ⟨h1, Or.inl h2⟩
      rw [if_neg h2, e, fJ_search_b94, bnd4]
/-- the class's whole try -/
def ctry (r offc mk : Int32) (S : C4) : C4 := cs1 m br lt h offc mk r g (3 : Int32) (cs1 m br lt h offc mk r g (2 : Int32) (cs1 m br lt h offc mk r g (1 : Int32) (cs1 m br lt h offc mk r g (0 : Int32) (fJ_weighPick m br lt offc S.1 S.2.1 S.2.2.1 S.2.2.2 r (-1 : Int32) (fJ_pickOfOffer h offc mk) g))))
def app7 (K : KC) (a b c : Int32) (S : C4) : Int32 × Int32 × Int32 × Int32 × Int32 × Int32 × Int32 := K a b c S.1 S.2.1 S.2.2.1 S.2.2.2
/-- its answer -/
def cend (offc mk : Int32) (S : C4) : Int32 × Int32 × Int32 × Int32 × Int32 × Int32 × Int32 := (if S.1 = (-1 : Int32) then (0 : Int32) else 1, offc, mk, S.1, S.2.1, S.2.2.1, S.2.2.2)
theorem b150_eq (offc mk : Int32) (S : C4) : fJ_search_b150 m br tw h lt ta g offc mk S.1 S.2.1 S.2.2.1 S.2.2.2 = cend offc mk S := by
  rw [fJ_search_b150, cend]
  by_cases e : S.1 = (-1 : Int32)
  · rw [if_pos e, if_pos e]
  · rw [if_neg e, if_neg e]
theorem b45_eq (r offc mk mk0 : Int32) (S : C4) : fJ_search_b45 K m br tw h lt ta g r mk offc mk0 S.1 S.2.1 S.2.2.1 S.2.2.2 = if (2 : Int32) ≤ fI_bitCount offc then app7 K (r + (1 : Int32)) (offc &&& (((1 : Int32) <<< ((fX_greatestOf offc) &&& 31)) ^^^ (-1 : Int32))) mk (ctry m br h lt g r offc mk S) else cend offc mk (ctry m br h lt g r offc mk S) := by
  rw [fJ_search_b45, bnd4, l61_step _ _ _ _ _ _ _ _ _ _ _ _ _ _ (by decide), show (0 : Int32) + (1 : Int32) = 1 from by decide, l61_step _ _ _ _ _ _ _ _ _ _ _ _ _ _ (by decide), show (1 : Int32) + (1 : Int32) = 2 from by decide, l61_step _ _ _ _ _ _ _ _ _ _ _ _ _ _ (by decide), show (2 : Int32) + (1 : Int32) = 3 from by decide, l61_step _ _ _ _ _ _ _ _ _ _ _ _ _ _ (by decide), fJ_search_l61, if_pos (by decide : (4 : Int32) ≤ (3 : Int32) + (1 : Int32)), b150_eq]
  simp only [app7, ctry]
end CLS
