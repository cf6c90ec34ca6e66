-- tokens: where one begins, where it ends, its kind, its number
theorem k_fin : ∀ j, j < 256 → (¬ fR_kindOf (nI j) = 0) ∧ (fR_kindOf (nI j) = 4 ↔ ((nI j).toInt8.toInt32 = 32 ∨ (nI j).toInt8.toInt32 = 10)) ∧ (fR_kindOf (nI j) = 1 ↔ (¬ (nI j).toInt8.toInt32 < 97 ∧ ¬ (122 : Int32) < (nI j).toInt8.toInt32)) ∧ (fR_kindOf (nI j) = 2 ↔ (¬ (nI j).toInt8.toInt32 < 48 ∧ ¬ (57 : Int32) < (nI j).toInt8.toInt32)) ∧ (fR_kindOf (nI j) = 3 ↔ (nI j).toInt8.toInt32 = 59) ∧ (fR_kindOf (nI j) = 1 → (nI j).toInt8.toInt32 = nI j ∧ 97 ≤ j ∧ j ≤ 122) ∧ (fR_kindOf (nI j) = 2 → (nI j).toInt8.toInt32 = nI j ∧ 48 ≤ j ∧ j ≤ 57) := by decide +kernel
/-- the kind of the letter at a place -/
def kd (v : Nat → Int32) (n i : Nat) : Int32 := if i < n then fR_kindOf (v i) else 0
def skp (v : Nat → Int32) (n : Nat) : Nat → Nat → Nat
  | 0, i => i
  | f + 1, i => if n ≤ i then i else if kd v n i = 4 then skp v n f (i + 1) else i
def run (v : Nat → Int32) (n : Nat) (k : Int32) : Nat → Nat → Nat
  | 0, i => i
  | f + 1, i => if n ≤ i then i else if kd v n i = k then run v n k f (i + 1) else i
def tS (v : Nat → Int32) (n i : Nat) : Nat := skp v n (n - i + 1) i
def tE (v : Nat → Int32) (n s : Nat) : Nat := if kd v n s = 0 then s else if kd v n s = 1 ∨ kd v n s = 2 then run v n (kd v n s) (n - (s + 1) + 1) (s + 1) else s + 1
def vn (v : Nat → Int32) (s : Nat) : Nat → Int32
  | 0 => 0
  | j + 1 => (((10 : Int32) * vn v s j) + v (s + j)) - (48 : Int32)
def tV (v : Nat → Int32) (n s : Nat) : Int32 := if kd v n s = 2 then vn v s (min 3 (tE v n s - s)) else 0
def nx (v : Nat → Int32) (n s : Nat) : Nat := tS v n (tE v n s)
theorem nI_subN {a b : Nat} (h : b ≤ a) (ha : a < 2 ^ 31) : nI a - nI b = nI (a - b) := by
  refine i32_eq.mpr ?_
  have e1 := nI_toInt (n := a) ha
  have e2 := nI_toInt (n := b) (by omega)
  rw [i32_subS, e1, e2, nI_toInt (by omega)] <;> (try rw [e1, e2]) <;> omega
section TOK
variable {v w : Nat → Int32} {n : Nat}
theorem kd_ge {i : Nat} (h : n ≤ i) : kd v n i = 0 := if_neg (by omega)
theorem kd_lt {i : Nat} (h : i < n) : kd v n i = fR_kindOf (v i) := if_pos h
theorem at_lt {i : Nat} (hn : n ≤ 600) (h : i < n) : fP_at (nI n) v (nI i) = v i := by
  rw [fP_at, if_neg (nI_pos (by omega)), if_neg (fun q => by rw [nI_leI (by omega) (by omega)] at q; omega), nI_clamp (by omega)]
theorem at_ge (hn : n ≤ 600) : fP_at (nI n) v (nI n) = (-1 : Int32) := by
  rw [fP_at, if_neg (nI_pos (by omega)), if_pos (nI_le (by omega) (by omega))]
theorem kd_at {i : Nat} (hn : n ≤ 600) (h : i ≤ n) : fR_kindOf (fP_at (nI n) v (nI i)) = kd v n i := by
  by_cases e : i < n
  · rw [at_lt hn e, kd_lt e]
  · obtain rfl : i = n := by omega
    rw [at_ge hn, kd_ge (by omega)]; decide
theorem tr_byte (hT : TR n v w) {i : Nat} (h : i < n) : ∃ j, j < 256 ∧ v i = nI j ∧ w i = (nI j).toInt8.toInt32 := by
  obtain ⟨h1, h2, h3⟩ := hT i h
  obtain ⟨j, hj, ej, -⟩ := nat_of (n := 256) h2 (by omega) (by decide)
  exact ⟨j, hj, ej, by rw [h1, ej]⟩
theorem kd0 (hT : TR n v w) {i : Nat} (h : i < n) : ¬ kd v n i = 0 := by
  obtain ⟨j, hj, e1, e2⟩ := tr_byte hT h
  rw [kd_lt h, e1]; exact (k_fin j hj).1
theorem kd4 (hT : TR n v w) {i : Nat} (h : i < n) : kd v n i = 4 ↔ (w i = 32 ∨ w i = 10) := by
  obtain ⟨j, hj, e1, e2⟩ := tr_byte hT h
  rw [kd_lt h, e1, e2]; exact (k_fin j hj).2.1
theorem kd1 (hT : TR n v w) {i : Nat} (h : i < n) : kd v n i = 1 ↔ (¬ w i < 97 ∧ ¬ (122 : Int32) < w i) := by
  obtain ⟨j, hj, e1, e2⟩ := tr_byte hT h
  rw [kd_lt h, e1, e2]; exact (k_fin j hj).2.2.1
theorem kd2 (hT : TR n v w) {i : Nat} (h : i < n) : kd v n i = 2 ↔ (¬ w i < 48 ∧ ¬ (57 : Int32) < w i) := by
  obtain ⟨j, hj, e1, e2⟩ := tr_byte hT h
  rw [kd_lt h, e1, e2]; exact (k_fin j hj).2.2.2.1
theorem kd3 (hT : TR n v w) {i : Nat} (h : i < n) : kd v n i = 3 ↔ w i = 59 := by
  obtain ⟨j, hj, e1, e2⟩ := tr_byte hT h
  rw [kd_lt h, e1, e2]; exact (k_fin j hj).2.2.2.2.1
theorem let_of (hT : TR n v w) {i : Nat} (h : i < n) (hk : kd v n i = 1) : ∃ j, v i = nI j ∧ w i = nI j ∧ 97 ≤ j ∧ j ≤ 122 := by
  obtain ⟨j, hj, e1, e2⟩ := tr_byte hT h
  rw [kd_lt h, e1] at hk
  obtain ⟨q1, q2, q3⟩ := (k_fin j hj).2.2.2.2.2.1 hk
  exact ⟨j, e1, by rw [e2, q1], q2, q3⟩
theorem dig_of (hT : TR n v w) {i : Nat} (h : i < n) (hk : kd v n i = 2) : ∃ j, v i = nI j ∧ w i = nI j ∧ 48 ≤ j ∧ j ≤ 57 := by
  obtain ⟨j, hj, e1, e2⟩ := tr_byte hT h
  rw [kd_lt h, e1] at hk
  obtain ⟨q1, q2, q3⟩ := (k_fin j hj).2.2.2.2.2.2 hk
  exact ⟨j, e1, by rw [e2, q1], q2, q3⟩
theorem kd_lt_n {s : Nat} (h : ¬ kd v n s = 0) : s < n := by
  rcases Nat.lt_or_ge s n with q | q
  · exact q
  · exact absurd (kd_ge q) h
theorem sk_spec : ∀ f i, i ≤ n → n - i < f → i ≤ skp v n f i ∧ skp v n f i ≤ n ∧ ¬ kd v n (skp v n f i) = 4 := by
  intro f
  induction f with
  | zero => intro i h1 h2; omega
  | succ f ih =>
    intro i h1 h2
    rw [skp]
    by_cases c : n ≤ i
    · rw [if_pos c, kd_ge c]; exact ⟨by omega, h1, by decide⟩
    rw [if_neg c]
    by_cases d : kd v n i = 4
    · rw [if_pos d]
      obtain ⟨q1, q2, q3⟩ := ih (i + 1) (by omega) (by omega)
      exact ⟨by omega, q2, q3⟩
    · rw [if_neg d]; exact ⟨by omega, h1, d⟩
theorem tS_spec {i : Nat} (h : i ≤ n) : i ≤ tS v n i ∧ tS v n i ≤ n ∧ ¬ kd v n (tS v n i) = 4 := sk_spec _ i h (by omega)
theorem tS_id {s : Nat} (h : ¬ kd v n s = 4) : tS v n s = s := by
  rw [tS, skp]
  by_cases c : n ≤ s
  · rw [if_pos c]
  · rw [if_neg c, if_neg h]
theorem rn_spec (k : Int32) : ∀ f i, i ≤ n → n - i < f → i ≤ run v n k f i ∧ run v n k f i ≤ n ∧ (∀ j, i ≤ j → j < run v n k f i → kd v n j = k) := by
  intro f
  induction f with
  | zero => intro i h1 h2; omega
  | succ f ih =>
    intro i h1 h2
    rw [run]
    by_cases c : n ≤ i
    · rw [if_pos c]; exact ⟨by omega, h1, fun j a b => by omega⟩
    rw [if_neg c]
    by_cases d : kd v n i = k
    · rw [if_pos d]
      obtain ⟨q1, q2, q3⟩ := ih (i + 1) (by omega) (by omega)
      refine ⟨by omega, q2, fun j a b => ?_⟩
      by_cases e : j = i
      · rw [e]; exact d
      · exact q3 j (by omega) b
    · rw [if_neg d]; exact ⟨by omega, h1, fun j a b => by omega⟩
theorem tE_spec {s : Nat} (h : s ≤ n) : s ≤ tE v n s ∧ tE v n s ≤ n ∧ (¬ kd v n s = 0 → s < tE v n s) ∧ ((kd v n s = 1 ∨ kd v n s = 2) → ∀ j, s ≤ j → j < tE v n s → kd v n j = kd v n s) := by
  rw [tE]
  by_cases c : kd v n s = 0
  · rw [if_pos c]; exact ⟨by omega, h, fun q => absurd c q, fun _ j a b => by omega⟩
  rw [if_neg c]
  have hs := kd_lt_n c
  by_cases d : kd v n s = 1 ∨ kd v n s = 2
  · rw [if_pos d]
    obtain ⟨q1, q2, q3⟩ := rn_spec (v := v) (n := n) (kd v n s) (n - (s + 1) + 1) (s + 1) (by omega) (by omega)
    refine ⟨by omega, q2, fun _ => by omega, fun _ j a b => ?_⟩
    by_cases e : j = s
    · rw [e]
    · exact q3 j (by omega) b
  · rw [if_neg d]; exact ⟨by omega, by omega, fun _ => by omega, fun q => absurd q d⟩
theorem nx_spec {s : Nat} (h : s ≤ n) : tE v n s ≤ nx v n s ∧ nx v n s ≤ n ∧ ¬ kd v n (nx v n s) = 4 := tS_spec (tE_spec h).2.1
/-- the run of one kind from a token's first letter is the token -/
theorem run_tE {s : Nat} {k : Int32} (hk : k = 1 ∨ k = 2) (h : kd v n s = k) : run v n k (n - s + 1) s = tE v n s := by
  have k0 : ¬ kd v n s = 0 := by rw [h]; rcases hk with rfl | rfl <;> decide
  have hs := kd_lt_n k0
  rw [tE, if_neg k0, if_pos (by rw [h]; exact hk), run, if_neg (by omega), if_pos h, h, show n - (s + 1) + 1 = n - s by omega]
theorem run_no {s : Nat} {k : Int32} (h : ¬ kd v n s = k) : run v n k (n - s + 1) s = s := by
  rw [run]
  by_cases c : n ≤ s
  · rw [if_pos c]
  · rw [if_neg c, if_neg h]
theorem bl_eq (hn : n ≤ 600) (hT : TR n v w) : ∀ f i, i ≤ n → fO_blanks_l0 (nI n) w f (nI i) = nI (skp v n f i) := by
  intro f
  induction f with
  | zero => intro i h; rfl
  | succ f ih =>
    intro i h
    rw [fO_blanks_l0, skp, fO_blanks_b39, nI_1, nI_clamp (by omega)]
    by_cases c : n ≤ i
    · rw [if_pos c, if_pos (nI_le c (by omega))]
    have hi : i < n := by omega
    rw [if_neg c, if_neg (fun q => by rw [nI_leI (by omega) (by omega)] at q; omega)]
    have q := kd4 hT hi
    by_cases d : kd v n i = 4
    · rw [if_pos d]
      rcases q.mp d with e | e
      · rw [if_pos e]; exact ih (i + 1) (by omega)
      · by_cases e2 : w i = 32
        · rw [if_pos e2]; exact ih (i + 1) (by omega)
        · rw [if_neg e2, if_pos e]; exact ih (i + 1) (by omega)
    · rw [if_neg d, if_neg (fun e => d (q.mpr (Or.inl e))), if_neg (fun e => d (q.mpr (Or.inr e)))]
theorem fuelN {i : Nat} (hn : n ≤ 600) (h : i ≤ n) : ((nI n).toInt - (nI i).toInt).toNat + 1 = n - i + 1 := by
  rw [nI_toInt (by omega), nI_toInt (by omega)]; omega
theorem blanks_eq (hn : n ≤ 600) (hT : TR n v w) {i : Nat} (h : i ≤ n) : fO_blanks (nI n) (nI i) w = nI (tS v n i) := by
  rw [fO_blanks, fuelN hn h]; exact bl_eq hn hT _ i h
theorem l8_eq (hn : n ≤ 600) (a b c : Int32) : ∀ f i, i ≤ n → n - i < f → fR_advance_l8 (nI n) v f (nI i) a b c = fR_advance_b53 (nI n) v (nI (skp v n f i)) a b c := by
  intro f
  induction f with
  | zero => intro i h1 h2; omega
  | succ f ih =>
    intro i h1 h2
    rw [fR_advance_l8, skp, fP_size, nI_1, kd_at hn h1]
    by_cases c : n ≤ i
    · rw [if_pos c, if_pos (nI_le c (by omega))]
    rw [if_neg c, if_neg (fun q => by rw [nI_leI (by omega) (by omega)] at q; omega)]
    by_cases d : kd v n i = 4
    · rw [if_pos d, if_pos d]; exact ih (i + 1) (by omega) (by omega)
    · rw [if_neg d, if_neg d]
theorem l111_eq (hn : n ≤ 600) (s : Nat) (k c : Int32) : ∀ f i, i ≤ n → n - i < f → fR_advance_l111 (nI n) v f (nI s) (nI i) k c = fR_advance_b159 (nI n) v (nI s) (nI (run v n k f i)) k c := by
  intro f
  induction f with
  | zero => intro i h1 h2; omega
  | succ f ih =>
    intro i h1 h2
    rw [fR_advance_l111, run, fP_size, nI_1, kd_at hn h1]
    by_cases c : n ≤ i
    · rw [if_pos c, if_pos (nI_le c (by omega))]
    rw [if_neg c, if_neg (fun q => by rw [nI_leI (by omega) (by omega)] at q; omega)]
    by_cases d : kd v n i = k
    · rw [if_pos d, if_pos d]; exact ih (i + 1) (by omega) (by omega)
    · rw [if_neg d, if_neg d]
theorem l169_eq (hn : n ≤ 600) {s e : Nat} (hse : s ≤ e) (he : e ≤ n) : ∀ m j f, j + m = min 3 (e - s) → m < f → fR_advance_l169 (nI n) v f (nI (s + j)) (nI s) (nI e) 2 (vn v s j) = (nI s, nI e, 2, vn v s (min 3 (e - s))) := by
  intro m
  induction m with
  | zero =>
    intro j f h1 h2
    rw [Nat.add_zero] at h1
    obtain ⟨f, rfl⟩ : ∃ q, f = q + 1 := ⟨f - 1, by omega⟩
    rw [fR_advance_l169, if_pos rfl, show (3 : Int32) = nI 3 from rfl, nI_add, ← h1]
    by_cases c : e ≤ s + j
    · rw [if_pos (nI_le c (by omega))]
    · rw [if_neg (fun q => by rw [nI_leI (by omega) (by omega)] at q; omega), if_pos (nI_le (by omega) (by omega))]
  | succ m ih =>
    intro j f h1 h2
    obtain ⟨f, rfl⟩ : ∃ q, f = q + 1 := ⟨f - 1, by omega⟩
    rw [fR_advance_l169, if_pos rfl, show (3 : Int32) = nI 3 from rfl, nI_add]
    rw [if_neg (fun q => by rw [nI_leI (by omega) (by omega)] at q; omega), if_neg (fun q => by rw [nI_leI (by omega) (by omega)] at q; omega), at_lt hn (by omega), nI_1]
    exact ih (j + 1) f (by omega) (by omega)
theorem b159_eq (hn : n ≤ 600) {s e : Nat} (hse : s ≤ e) (he : e ≤ n) (k c : Int32) : fR_advance_b159 (nI n) v (nI s) (nI e) k c = (nI s, nI e, k, if k = 2 then vn v s (min 3 (e - s)) else 0) := by
  rw [fR_advance_b159]
  by_cases d : k = 2
  · subst d
    rw [if_pos rfl]
    exact l169_eq hn hse he (min 3 (e - s)) 0 _ (by omega) (by rw [nI_toInt (by omega)]; omega)
  · rw [if_neg d, fR_advance_l169, if_neg d]
theorem adv_eq (hn : n ≤ 600) {i : Nat} (h : i ≤ n) (a b c : Int32) : fR_advance a (nI i) b c (nI n) v = (nI (tS v n i), nI (tE v n (tS v n i)), kd v n (tS v n i), tV v n (tS v n i)) := by
  rw [fR_advance, fuelN hn h, l8_eq hn _ _ _ _ i h (by omega)]
  show fR_advance_b53 (nI n) v (nI (tS v n i)) _ _ _ = _
  obtain ⟨-, h2, -⟩ := tS_spec (v := v) h
  revert h2
  generalize tS v n i = s
  intro h2
  rw [fR_advance_b53, kd_at hn h2]
  obtain ⟨e1, e2, e3, -⟩ := tE_spec (v := v) h2
  by_cases c0 : kd v n s = 0
  · have et : tE v n s = s := by rw [tE, if_pos c0]
    rw [if_pos c0, fR_advance_b92, if_neg (by rw [c0]; decide), if_neg (by rw [c0]; decide), b159_eq hn (Nat.le_refl s) h2, et, tV, et]
  have hs := kd_lt_n c0
  rw [if_neg c0, fR_advance_b92, nI_1]
  by_cases d : kd v n s = 1 ∨ kd v n s = 2
  · have et : tE v n s = run v n (kd v n s) (n - (s + 1) + 1) (s + 1) := by rw [tE, if_neg c0, if_pos d]
    have g := l111_eq (v := v) hn s (kd v n s) c (n - (s + 1) + 1) (s + 1) (by omega) (by omega)
    rw [← et, b159_eq hn e1 e2] at g
    rw [fuelN hn (show s + 1 ≤ n by omega), g]
    rcases d with d | d
    · rw [if_pos d]; rfl
    · rw [if_neg (by rw [d]; decide), if_pos d]; rfl
  · have et : tE v n s = s + 1 := by rw [tE, if_neg c0, if_neg d]
    rw [if_neg (fun q => d (Or.inl q)), if_neg (fun q => d (Or.inr q)), b159_eq hn (by omega) (by omega), ← et]; rfl
theorem adv_t (hn : n ≤ 600) {s : Nat} (h : s ≤ n) (a b c : Int32) : fR_advance a (nI (tE v n s)) b c (nI n) v = (nI (nx v n s), nI (tE v n (nx v n s)), kd v n (nx v n s), tV v n (nx v n s)) := adv_eq hn (tE_spec h).2.1 a b c
end TOK
