theorem kindOf_digit {p : Int32} (h : fR_kindOf p = (2 : Int32)) : 48 ≤ p.toInt ∧ p.toInt ≤ 57 := by
  simp only [fR_kindOf, fR_kindOf_b21, fR_kindOf_b35] at h
  repeat' split at h
  all_goals first
    | exact absurd h (by decide)
    | (simp only [i32_le, i32_lt, t32_48, t32_57] at *; omega)
theorem q_none {f : Int32 → Int32} {a k : Int32} : ∀ j : Int32, a.toInt ≤ j.toInt → j.toInt < a.toInt → f j = k := fun j h1 h2 => absurd h2 (by omega)
theorem q_one {f : Int32 → Int32} {a k : Int32} (h : f a = k) (h0 : 0 ≤ a.toInt) (h1 : a.toInt ≤ 600) : ∀ j : Int32, a.toInt ≤ j.toInt → j.toInt < (a + (1 : Int32)).toInt → f j = k := by
  intro j hj1 hj2
  rw [i32_addS (by rw [t32_1]; omega) (by rw [t32_1]; omega), t32_1] at hj2
  have e : j = a := Int32.toInt_inj.mp (by omega)
  rw [e]; exact h
theorem q_ext {f : Int32 → Int32} {a n k : Int32} (h : ∀ j : Int32, a.toInt ≤ j.toInt → j.toInt < n.toInt → f j = k) (hn : f n = k) (h0 : 0 ≤ n.toInt) (h1 : n.toInt ≤ 600) : ∀ j : Int32, a.toInt ≤ j.toInt → j.toInt < (n + (1 : Int32)).toInt → f j = k := by
  intro j hj1 hj2
  rw [i32_addS (by rw [t32_1]; omega) (by rw [t32_1]; omega), t32_1] at hj2
  by_cases e : j.toInt = n.toInt
  · rw [Int32.toInt_inj.mp e]; exact hn
  · exact h j hj1 (by omega)
