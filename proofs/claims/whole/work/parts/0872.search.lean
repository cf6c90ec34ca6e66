/-! all changes of the offer, in the reference's order: only those to one WAY that b has do anything -/
abbrev inH (x p : Nat) : Prop := x / 2 ^ p % 2 = 1
def bestIn (s x : Nat) : Bool := decide (fO_best (nI s &&& nI x) = (-1 : Int32)) || ((decide (fO_best (nI s &&& nI x) = nI 0) && (decide (2 ^ 0 ≤ s % 16) && decide (inH x 0))) || ((decide (fO_best (nI s &&& nI x) = nI 1) && (decide (2 ^ 1 ≤ s % 16) && decide (inH x 1))) || ((decide (fO_best (nI s &&& nI x) = nI 2) && (decide (2 ^ 2 ≤ s % 16) && decide (inH x 2))) || (decide (fO_best (nI s &&& nI x) = nI 3) && (decide (2 ^ 3 ≤ s % 16) && decide (inH x 3))))))
theorem bestIn_all : ∀ s, s < 32 → ∀ x, x < 16 → bestIn s x = true := by decide +kernel
theorem best_in (s : Nat) (hs : s < 32) (x : Nat) (hx : x < 16) : fO_best (nI s &&& nI x) = (-1 : Int32) ∨ (fO_best (nI s &&& nI x) = nI 0 ∧ 2 ^ 0 ≤ s % 16 ∧ inH x 0) ∨ (fO_best (nI s &&& nI x) = nI 1 ∧ 2 ^ 1 ≤ s % 16 ∧ inH x 1) ∨ (fO_best (nI s &&& nI x) = nI 2 ∧ 2 ^ 2 ≤ s % 16 ∧ inH x 2) ∨ (fO_best (nI s &&& nI x) = nI 3 ∧ 2 ^ 3 ≤ s % 16 ∧ inH x 3) := by
  have h := bestIn_all s hs x hx
  simp only [bestIn, Bool.or_eq_true, Bool.and_eq_true, decide_eq_true_eq] at h
  exact h
theorem best_one : ∀ p, p < 4 → ∀ x, x < 16 → ((inH x p ∧ fO_best (nI (2 ^ p) &&& nI x) = nI p) ∨ (¬ inH x p ∧ fO_best (nI (2 ^ p) &&& nI x) = (-1 : Int32))) := by decide +kernel
theorem nI_m1 {k : Nat} (h : k < 1000) : ¬ nI k = (-1 : Int32) := by
  intro e
  have := congrArg Int32.toInt e
  rw [nI_toInt (by omega), t32_m1] at this; omega
section FOLD
variable {vOt vOr : Nat → Int32} {p1 p2 g md r off : Int32} {x : Nat}
/-- what is covered when the sets below k have been tried -/
def Inv (vOt vOr : Nat → Int32) (p1 p2 g md r off : Int32) (x k : Nat) (S : M6) : Prop := CovN vOt vOr p1 p2 g md (nI x) r off S ∧ ∀ p, p < 4 → 2 ^ p < k → inH x p → Cov vOt vOr p1 p2 g md r off S (nI p)
theorem Inv_mono (hr : 0 ≤ r.toInt ∧ r.toInt ≤ 3) {k : Nat} {c : Int32} {S : M6} (h : Inv vOt vOr p1 p2 g md r off x k S) : Inv vOt vOr p1 p2 g md r off x k (tr vOt vOr p1 p2 g md (nI x) r off c S) := ⟨CovN_mono hr h.1, fun p hp hk hi => Cov_mono hr (h.2 p hp hk hi)⟩
theorem skip1 (hr : 0 ≤ r.toInt ∧ r.toInt ≤ 3) (hx : x < 16) {s : Nat} (hs : s < 32) {S : M6} (h : Inv vOt vOr p1 p2 g md r off x (s % 16 + 1) S) : tr vOt vOr p1 p2 g md (nI x) r off (nI s) S = S := by
  by_cases e : nI s = off
  · exact skip_off hr (nI_m1 (by omega)) e h.1
  · refine skip_cov (nI_m1 (by omega)) e ?_
    rcases best_in s hs x hx with b | ⟨b, b2, b3⟩ | ⟨b, b2, b3⟩ | ⟨b, b2, b3⟩ | ⟨b, b2, b3⟩
    · exact Or.inl b
    · rw [b]; exact Or.inr (h.2 0 (by omega) (by omega) b3)
    · rw [b]; exact Or.inr (h.2 1 (by omega) (by omega) b3)
    · rw [b]; exact Or.inr (h.2 2 (by omega) (by omega) b3)
    · rw [b]; exact Or.inr (h.2 3 (by omega) (by omega) b3)
/-- the change to p alone, where it does something -/
def st1 (vOt vOr : Nat → Int32) (p1 p2 g md r off : Int32) (x p : Nat) (S : M6) : M6 := if inH x p ∧ ¬ nI (2 ^ p) = off then tr vOt vOr p1 p2 g md (nI x) r off (nI (2 ^ p)) S else S
theorem two_lt {p : Nat} (hp : p < 4) : 2 ^ p < 16 := by
  rcases (show p = 0 ∨ p = 1 ∨ p = 2 ∨ p = 3 by omega) with rfl | rfl | rfl | rfl <;> decide
theorem two_inj : ∀ p, p < 4 → ∀ q, q < 4 → (2 ^ p = 2 ^ q → p = q) := by decide
theorem pass1 (hr : 0 ≤ r.toInt ∧ r.toInt ≤ 3) (hx : x < 16) {p : Nat} (hp : p < 4) {S : M6} (h : Inv vOt vOr p1 p2 g md r off x (2 ^ p) S) : tr vOt vOr p1 p2 g md (nI x) r off (nI (2 ^ p)) S = st1 vOt vOr p1 p2 g md r off x p S ∧ Inv vOt vOr p1 p2 g md r off x (2 ^ p + 1) (st1 vOt vOr p1 p2 g md r off x p S) := by
  have h16 := two_lt hp
  have hlt : nI (2 ^ p) < (16 : Int32) := by rw [i32_lt, nI_toInt (by omega), t32_16]; omega
  have hns : ¬ mStop (nI x) (nI (2 ^ p)) := fun z => z.1 hlt
  rcases best_one p hp x hx with ⟨b1, b2⟩ | ⟨b1, b2⟩
  · by_cases e : nI (2 ^ p) = off
    · have es : st1 vOt vOr p1 p2 g md r off x p S = S := if_neg (fun z => z.2 e)
      rw [es]
      refine ⟨skip_off hr (nI_m1 (by omega)) e h.1, h.1, fun q hq hk hi => ?_⟩
      by_cases eq : q = p
      · subst eq
        have hc := cov_off (vOt := vOt) (vOr := vOr) (p1 := p1) (p2 := p2) (g := g) (md := md) (oth := nI x) (r := r) (off := off) hr (S := S) (by rw [← e]; exact hns) (by rw [← e, b2]; exact nI_m1 (by omega)) h.1
        rw [← e, b2] at hc
        rw [← e]; exact hc
      · exact h.2 q hq (by have := two_inj q hq p hp; omega) hi
    · have es : st1 vOt vOr p1 p2 g md r off x p S = tr vOt vOr p1 p2 g md (nI x) r off (nI (2 ^ p)) S := if_pos ⟨b1, e⟩
      rw [es]
      refine ⟨rfl, CovN_mono hr h.1, fun q hq hk hi => ?_⟩
      by_cases eq : q = p
      · subst eq
        have hc := cov_after (vOt := vOt) (vOr := vOr) (p1 := p1) (p2 := p2) (g := g) (md := md) (oth := nI x) (r := r) (off := off) hr S (nI_m1 (k := 2 ^ q) (by omega)) e hns (by rw [b2]; exact nI_m1 (by omega))
        rw [b2] at hc; exact hc
      · exact Cov_mono hr (h.2 q hq (by have := two_inj q hq p hp; omega) hi)
  · have es : st1 vOt vOr p1 p2 g md r off x p S = S := if_neg (fun z => b1 z.1)
    rw [es]
    refine ⟨?_, h.1, fun q hq hk hi => ?_⟩
    · by_cases e : nI (2 ^ p) = off
      · exact skip_off hr (nI_m1 (by omega)) e h.1
      · exact skip_cov (nI_m1 (by omega)) e (Or.inl b2)
    · by_cases eq : q = p
      · subst eq; exact absurd hi b1
      · exact h.2 q hq (by have := two_inj q hq p hp; omega) hi
/-- both marks of the set s, from s on, n sets -/
def trs (vOt vOr : Nat → Int32) (p1 p2 g md r off : Int32) (x : Nat) : Nat → Nat → M6 → M6
  | 0, _, S => S
  | n + 1, s, S => trs vOt vOr p1 p2 g md r off x n (s + 1) (tr vOt vOr p1 p2 g md (nI x) r off (nI (s + 16)) (tr vOt vOr p1 p2 g md (nI x) r off (nI s) S))
theorem trs_1 (hr : 0 ≤ r.toInt ∧ r.toInt ≤ 3) (hx : x < 16) (n : Nat) {p : Nat} (hp : p < 4) {S : M6} (h : Inv vOt vOr p1 p2 g md r off x (2 ^ p) S) : trs vOt vOr p1 p2 g md r off x (n + 1) (2 ^ p) S = trs vOt vOr p1 p2 g md r off x n (2 ^ p + 1) (st1 vOt vOr p1 p2 g md r off x p S) ∧ Inv vOt vOr p1 p2 g md r off x (2 ^ p + 1) (st1 vOt vOr p1 p2 g md r off x p S) := by
  have h16 := two_lt hp
  obtain ⟨e, hi⟩ := pass1 hr hx hp h
  refine ⟨?_, hi⟩
  rw [trs, e, skip1 hr hx (s := 2 ^ p + 16) (by omega) (by rw [show (2 ^ p + 16) % 16 = 2 ^ p by rw [Nat.add_mod_right, Nat.mod_eq_of_lt h16]]; exact hi)]
theorem trs_0 (hr : 0 ≤ r.toInt ∧ r.toInt ≤ 3) (hx : x < 16) (n : Nat) {s : Nat} (hs : s < 16) (hn : ∀ p, p < 4 → ¬ 2 ^ p = s) {S : M6} (h : Inv vOt vOr p1 p2 g md r off x s S) : trs vOt vOr p1 p2 g md r off x (n + 1) s S = trs vOt vOr p1 p2 g md r off x n (s + 1) S ∧ Inv vOt vOr p1 p2 g md r off x (s + 1) S := by
  have hi : Inv vOt vOr p1 p2 g md r off x (s + 1) S := ⟨h.1, fun p hp hk hi => h.2 p hp (by have := hn p hp; omega) hi⟩
  refine ⟨?_, hi⟩
  rw [trs, skip1 hr hx (s := s) (by omega) (by rw [show s % 16 = s by omega]; exact hi), skip1 hr hx (s := s + 16) (by omega) (by rw [show (s + 16) % 16 = s by omega]; exact hi)]
theorem trs_all (hr : 0 ≤ r.toInt ∧ r.toInt ≤ 3) (hx : x < 16) {S : M6} (h : CovN vOt vOr p1 p2 g md (nI x) r off S) : trs vOt vOr p1 p2 g md r off x 15 1 S = st1 vOt vOr p1 p2 g md r off x 3 (st1 vOt vOr p1 p2 g md r off x 2 (st1 vOt vOr p1 p2 g md r off x 1 (st1 vOt vOr p1 p2 g md r off x 0 S))) ∧ Inv vOt vOr p1 p2 g md r off x 16 (st1 vOt vOr p1 p2 g md r off x 3 (st1 vOt vOr p1 p2 g md r off x 2 (st1 vOt vOr p1 p2 g md r off x 1 (st1 vOt vOr p1 p2 g md r off x 0 S)))) := by
  have i1 : Inv vOt vOr p1 p2 g md r off x (2 ^ 0) S := ⟨h, fun p hp hk => absurd hk (by have := Nat.one_le_two_pow (n := p); omega)⟩
  obtain ⟨e1, i2⟩ := trs_1 hr hx 14 (p := 0) (by omega) i1
  obtain ⟨e2, i3⟩ := trs_1 hr hx 13 (p := 1) (by omega) i2
  obtain ⟨e3, i4⟩ := trs_0 hr hx 12 (s := 3) (by omega) (by decide) i3
  obtain ⟨e4, i5⟩ := trs_1 hr hx 11 (p := 2) (by omega) i4
  obtain ⟨e5, i6⟩ := trs_0 hr hx 10 (s := 5) (by omega) (by decide) i5
  obtain ⟨e6, i7⟩ := trs_0 hr hx 9 (s := 6) (by omega) (by decide) i6
  obtain ⟨e7, i8⟩ := trs_0 hr hx 8 (s := 7) (by omega) (by decide) i7
  obtain ⟨e8, i9⟩ := trs_1 hr hx 7 (p := 3) (by omega) i8
  obtain ⟨e9, i10⟩ := trs_0 hr hx 6 (s := 9) (by omega) (by decide) i9
  obtain ⟨e10, i11⟩ := trs_0 hr hx 5 (s := 10) (by omega) (by decide) i10
  obtain ⟨e11, i12⟩ := trs_0 hr hx 4 (s := 11) (by omega) (by decide) i11
  obtain ⟨e12, i13⟩ := trs_0 hr hx 3 (s := 12) (by omega) (by decide) i12
  obtain ⟨e13, i14⟩ := trs_0 hr hx 2 (s := 13) (by omega) (by decide) i13
  obtain ⟨e14, i15⟩ := trs_0 hr hx 1 (s := 14) (by omega) (by decide) i14
  obtain ⟨e15, i16⟩ := trs_0 hr hx 0 (s := 15) (by omega) (by decide) i15
  refine ⟨?_, i16⟩
  refine e1.trans (e2.trans (e3.trans (e4.trans (e5.trans (e6.trans (e7.trans (e8.trans (e9.trans (e10.trans (e11.trans (e12.trans (e13.trans (e14.trans (e15.trans ?_))))))))))))))
  rfl
end FOLD
