-- words and numbers: what the class sees of a token is what the reference takes
/-- letters packed, the last the lowest -/
def pkN (g : Nat → Nat) : Nat → Nat
  | 0 => 0
  | L + 1 => 256 * pkN g L + g L
theorem wpk_inj : ∀ (L M : Nat) {g h : Nat → Nat}, (∀ j, j < L → 1 ≤ g j ∧ g j ≤ 255) → (∀ j, j < M → 1 ≤ h j ∧ h j ≤ 255) → pkN g L = pkN h M → L = M ∧ ∀ j, j < L → g j = h j := by
  intro L
  induction L with
  | zero =>
    intro M g h hg hh e
    cases M with
    | zero => exact ⟨rfl, fun j q => by omega⟩
    | succ M =>
      have b := hh M (by omega)
      rw [pkN, pkN] at e; omega
  | succ L ih =>
    intro M g h hg hh e
    have a := hg L (by omega)
    cases M with
    | zero => rw [pkN, pkN] at e; omega
    | succ M =>
      have b := hh M (by omega)
      rw [pkN, pkN] at e
      have e1 : pkN g L = pkN h M := by omega
      have e2 : g L = h M := by omega
      obtain ⟨q1, q2⟩ := ih M (fun j q => hg j (by omega)) (fun j q => hh j (by omega)) e1
      subst q1
      refine ⟨rfl, fun j q => ?_⟩
      by_cases c : j = L
      · rw [c]; exact e2
      · exact q2 j (by omega)
theorem wpk_cg : ∀ (L : Nat) {g h : Nat → Nat}, (∀ j, j < L → g j = h j) → pkN g L = pkN h L := by
  intro L
  induction L with
  | zero => intro g h e; rfl
  | succ L ih => intro g h e; rw [pkN, pkN, e L (by omega), ih (fun j q => e j (by omega))]
theorem wpk_lt : ∀ (L : Nat) {g : Nat → Nat}, (∀ j, j < L → g j ≤ 255) → pkN g L < 256 ^ L := by
  intro L
  induction L with
  | zero => intro g e; rw [pkN]; decide
  | succ L ih =>
    intro g e
    have a := e L (by omega)
    have b := ih (g := g) (fun j q => e j (by omega))
    rw [pkN, Nat.pow_succ]; omega
theorem wpk_lt56 {L : Nat} (hL : L ≤ 7) {g : Nat → Nat} (e : ∀ j, j < L → g j ≤ 255) : pkN g L < 2 ^ 56 :=
  Nat.lt_of_lt_of_le (wpk_lt L e) (Nat.le_trans (Nat.pow_le_pow_right (by decide) hL) (by decide))
theorem wpk_lt48 {L : Nat} (hL : L ≤ 6) {g : Nat → Nat} (e : ∀ j, j < L → g j ≤ 255) : pkN g L < 2 ^ 48 :=
  Nat.lt_of_lt_of_le (wpk_lt L e) (Nat.le_trans (Nat.pow_le_pow_right (by decide) hL) (by decide))
theorem lN_inj {a b : Nat} (ha : a < 2 ^ 56) (hb : b < 2 ^ 56) (e : lN a = lN b) : a = b := by
  have q := congrArg Int64.toInt e
  rw [lN, lN, lg_ofNat_toInt (by omega), lg_ofNat_toInt (by omega)] at q; omega
theorem lN_nat (a : Nat) : (lN a).toBitVec.toNat = a % 2 ^ 64 := by
  show (BitVec.ofNat 64 a).toNat = _
  exact BitVec.toNat_ofNat a 64
theorem pack_step {P c : Nat} (hP : P < 2 ^ 48) (hc : c < 256) : ((lN P) <<< ((8 : Int32).toInt64 &&& 63)) ||| (nI c).toInt64 = lN (256 * P + c) := by
  rw [nI_l (by omega)]
  refine Int64.toBitVec_inj.mp (BitVec.eq_of_toNat_eq ?_)
  rw [Int64.toBitVec_or, BitVec.toNat_or, Int64.toBitVec_shiftLeft]
  show ((lN P).toBitVec <<< (((8 : Int32).toInt64 &&& 63).toBitVec.smod 64).toNat).toNat ||| (lN c).toBitVec.toNat = _
  rw [show (((8 : Int32).toInt64 &&& 63).toBitVec.smod 64).toNat = 8 by decide, BitVec.toNat_shiftLeft, lN_nat, lN_nat, lN_nat]
  rw [Nat.mod_eq_of_lt (show P < 2 ^ 64 by omega), Nat.mod_eq_of_lt (show c < 2 ^ 64 by omega), Nat.mod_eq_of_lt (show 256 * P + c < 2 ^ 64 by omega)]
  have e : P <<< 8 = P * 256 := Nat.shiftLeft_eq P 8
  rw [Nat.mod_eq_of_lt (show P <<< 8 < 2 ^ 64 by rw [e]; omega), ← Nat.shiftLeft_add_eq_or_of_lt (show c < 2 ^ 8 by omega), e]; omega
/-- the reference's word of L letters from s on -/
def wv (v : Nat → Int32) (s L : Nat) : Int64 := if L ≤ 7 then lN (pkN (fun j => (v (s + j)).toNatClampNeg) L) else 0
/-- a constant of the class spells a word of the reference -/
abbrev WC (si : Nat) (C : Int64) : Prop := (1 ≤ lenS.getD si 0 ∧ lenS.getD si 0 ≤ 7) ∧ (∀ j, j < lenS.getD si 0 → 1 ≤ (fS_charAt si (nI j)).toNatClampNeg ∧ (fS_charAt si (nI j)).toNatClampNeg ≤ 255 ∧ fS_charAt si (nI j) = nI (fS_charAt si (nI j)).toNatClampNeg) ∧ C = lN (pkN (fun j => (fS_charAt si (nI j)).toNatClampNeg) (lenS.getD si 0))
theorem wc0 : WC 0 112641580559972 := by decide +kernel
theorem wc1 : WC 1 6840691 := by decide +kernel
theorem wc2 : WC 2 108243635103086 := by decide +kernel
theorem wc3 : WC 3 32199698155136371 := by decide +kernel
theorem wc4 : WC 4 1835363940 := by decide +kernel
theorem wc5 : WC 5 1651076708 := by decide +kernel
theorem wc6 : WC 6 1835102827 := by decide +kernel
theorem wc7 : WC 7 7367022 := by decide +kernel
theorem wc8 : WC 8 112628846455140 := by decide +kernel
theorem wc9 : WC 9 1668248436 := by decide +kernel
theorem wc10 : WC 10 1836413812 := by decide +kernel
section WRD
variable {v w : Nat → Int32} {n : Nat}
theorem wl_eq (hn : n ≤ 600) (hT : TR n v w) {s : Nat} : ∀ f z, s ≤ z → z ≤ n → n - z < f → (∀ j, s ≤ j → j < z → kd v n j = 1) →
    fO_word_l14 (nI n) w f (wv v s (z - s)) (nI s) (nI z) = (wv v s (run v n 1 f z - s), nI s, nI (run v n 1 f z)) := by
  intro f
  induction f with
  | zero => intro z h1 h2 h3; omega
  | succ f ih =>
    intro z h1 h2 h3 h4
    have B : fO_word_b100 (nI n) w (wv v s (z - s)) (nI s) (nI z) = (wv v s (z - s), nI s, nI z) := by
      rw [fO_word_b100, nI_subN h1 (by omega), show (7 : Int32) = nI 7 from rfl]
      by_cases c : z - s ≤ 7
      · rw [if_pos (nI_le c (by omega))]
      · rw [if_neg (fun q => by rw [nI_leI (by omega) (by omega)] at q; omega), wv, if_neg c]
    rw [fO_word_l14, run, nI_clamp (by omega), B, nI_subN h1 (by omega)]
    by_cases c : n ≤ z
    · rw [if_pos c, if_pos (nI_le c (by omega))]
    have hz : z < n := by omega
    rw [if_neg c, if_neg (fun q => by rw [nI_leI (by omega) (by omega)] at q; omega)]
    have q := kd1 hT hz
    by_cases d : kd v n z = 1
    · obtain ⟨q1, q2⟩ := q.mp d
      rw [if_pos d, if_neg q1, if_neg q2, fO_word_b86, fO_word_b86, nI_1]
      have I := ih (z + 1) (by omega) (by omega) (by omega) (fun j a b => by
        by_cases e : j = z
        · rw [e]; exact d
        · exact h4 j a (by omega))
      by_cases c7 : 7 ≤ z - s
      · have e : wv v s (z + 1 - s) = 0 := by rw [wv, if_neg (by omega)]
        rw [e] at I
        rw [if_pos (show (7 : Int32) ≤ nI (z - s) from nI_le c7 (by omega))]
        exact I
      · rw [if_neg (show ¬ (7 : Int32) ≤ nI (z - s) from fun q => by
          rw [show (7 : Int32) = nI 7 from rfl, nI_leI (by omega) (by omega)] at q; omega)]
        have e : ((wv v s (z - s)) <<< ((8 : Int32).toInt64 &&& 63)) ||| ((w z).toInt64) = wv v s (z + 1 - s) := by
          obtain ⟨j, v1, w1, j1, j2⟩ := let_of hT hz d
          have hb : ∀ j, j < z - s → (fun j => (v (s + j)).toNatClampNeg) j ≤ 255 := by
            intro j hj
            obtain ⟨c, c1, -, c3, c4⟩ := let_of hT (show s + j < n by omega) (h4 (s + j) (by omega) (by omega))
            show (v (s + j)).toNatClampNeg ≤ 255
            rw [c1, nI_clamp (by omega)]; omega
          rw [wv, if_pos (by omega), wv, if_pos (by omega), w1, pack_step (wpk_lt48 (by omega) hb) (by omega), show z + 1 - s = (z - s) + 1 by omega, pkN]
          show _ = lN (256 * _ + (v (s + (z - s))).toNatClampNeg)
          rw [show s + (z - s) = z by omega, v1, nI_clamp (by omega)]
        rw [e]
        exact I
    · rw [if_neg d]
      by_cases q1 : w z < 97
      · rw [if_pos q1]
      · rw [if_neg q1]
        by_cases q2 : (122 : Int32) < w z
        · rw [if_pos q2]
        · exact absurd (q.mpr ⟨q1, q2⟩) d
theorem word_eq (hn : n ≤ 600) (hT : TR n v w) {i : Nat} (h : i ≤ n) (we : Int32) : fO_word (nI n) (nI i) we w = (wv v (tS v n i) (run v n 1 (n - tS v n i + 1) (tS v n i) - tS v n i), nI (tS v n i), nI (run v n 1 (n - tS v n i + 1) (tS v n i))) := by
  have hs := (tS_spec (v := v) h).2.1
  rw [fO_word, blanks_eq hn hT h, fuelN hn hs]
  have g := wl_eq hn hT (n - tS v n i + 1) (tS v n i) (Nat.le_refl _) hs (by omega) (fun j a b => by omega)
  rw [Nat.sub_self] at g
  exact g
theorem iw_l28 (hn : n ≤ 600) {s si : Nat} (hl : s + lenS.getD si 0 ≤ n) (a b : Int32) : ∀ f x, x ≤ lenS.getD si 0 → lenS.getD si 0 - x < f →
    (fR_isWord_l28 (nI s) a b (nI n) v si f (nI x) = 1 ∧ ∀ j, x ≤ j → j < lenS.getD si 0 → v (s + j) = fS_charAt si (nI j)) ∨ (fR_isWord_l28 (nI s) a b (nI n) v si f (nI x) = 0 ∧ ∃ j, j < lenS.getD si 0 ∧ ¬ v (s + j) = fS_charAt si (nI j)) := by
  intro f
  induction f with
  | zero => intro x h1 h2; omega
  | succ f ih =>
    intro x h1 h2
    rw [fR_isWord_l28, fS_length, nI_add, nI_1]
    by_cases c : lenS.getD si 0 ≤ x
    · rw [if_pos (nI_le c (by omega))]; exact Or.inl ⟨rfl, fun j p q => by omega⟩
    rw [if_neg (fun q => by rw [nI_leI (by omega) (by omega)] at q; omega), at_lt hn (by omega)]
    by_cases d : v (s + x) = fS_charAt si (nI x)
    · rw [if_pos d]
      rcases ih (x + 1) (by omega) (by omega) with ⟨q1, q2⟩ | q
      · refine Or.inl ⟨q1, fun j p q => ?_⟩
        by_cases e : j = x
        · rw [e]; exact d
        · exact q2 j (by omega) q
      · exact Or.inr q
    · rw [if_neg d]; exact Or.inr ⟨rfl, x, by omega, d⟩
theorem wc_ne0 {si : Nat} {C : Int64} (hC : WC si C) : ¬ (0 : Int64) = C := by
  obtain ⟨⟨a1, a2⟩, a3, a4⟩ := hC
  intro e
  have e2 : lN (pkN (fun _ => 1) 0) = lN (pkN (fun j => (fS_charAt si (nI j)).toNatClampNeg) (lenS.getD si 0)) := e.trans a4
  have q := lN_inj (by decide) (wpk_lt56 a2 (fun j hj => (a3 j hj).2.1)) e2
  have q2 := wpk_inj 0 _ (fun j hj => by omega) (fun j hj => ⟨(a3 j hj).1, (a3 j hj).2.1⟩) q
  omega
theorem word_iff (hn : n ≤ 600) (hT : TR n v w) {s : Nat} (hs : s ≤ n) {si : Nat} {C : Int64} (hC : WC si C) :
    (fR_isWord (nI s) (nI (tE v n s)) (kd v n s) (nI n) v si = 1 ∧ kd v n s = 1 ∧ wv v s (run v n 1 (n - s + 1) s - s) = C) ∨ (fR_isWord (nI s) (nI (tE v n s)) (kd v n s) (nI n) v si = 0 ∧ ¬ wv v s (run v n 1 (n - s + 1) s - s) = C) := by
  have c0 := wc_ne0 hC
  obtain ⟨⟨a1, a2⟩, a3, a4⟩ := hC
  rw [fR_isWord]
  by_cases k : kd v n s = 1
  · obtain ⟨t1, t2, t3, t4⟩ := tE_spec (v := v) hs
    have t4 := t4 (Or.inl k)
    have L1 : ∀ j, j < tE v n s - s → ∃ c, v (s + j) = nI c ∧ 97 ≤ c ∧ c ≤ 122 := by
      intro j hj
      obtain ⟨c, c1, -, c3, c4⟩ := let_of hT (show s + j < n by omega) (by rw [t4 (s + j) (by omega) (by omega)]; exact k)
      exact ⟨c, c1, c3, c4⟩
    have L2 : ∀ j, j < tE v n s - s → 1 ≤ (fun j => (v (s + j)).toNatClampNeg) j ∧ (fun j => (v (s + j)).toNatClampNeg) j ≤ 255 := by
      intro j hj
      obtain ⟨c, c1, c3, c4⟩ := L1 j hj
      show 1 ≤ (v (s + j)).toNatClampNeg ∧ (v (s + j)).toNatClampNeg ≤ 255
      rw [c1, nI_clamp (by omega)]; omega
    rw [if_pos k, run_tE (Or.inl rfl) k, nI_subN t1 (by omega), fS_length]
    have J : wv v s (tE v n s - s) = C → tE v n s - s = lenS.getD si 0 ∧ ∀ j, j < tE v n s - s → v (s + j) = fS_charAt si (nI j) := by
      intro e
      by_cases l7 : tE v n s - s ≤ 7
      · rw [wv, if_pos l7, a4] at e
        have e2 := lN_inj (wpk_lt56 l7 (fun j hj => (L2 j hj).2)) (wpk_lt56 a2 (fun j hj => (a3 j hj).2.1)) e
        obtain ⟨e3, e4⟩ := wpk_inj _ _ L2 (fun j hj => ⟨(a3 j hj).1, (a3 j hj).2.1⟩) e2
        refine ⟨e3, fun j hj => ?_⟩
        have e5 : (v (s + j)).toNatClampNeg = (fS_charAt si (nI j)).toNatClampNeg := e4 j hj
        obtain ⟨c, c1, c3, c4⟩ := L1 j hj
        rw [c1, nI_clamp (by omega)] at e5
        rw [c1, (a3 j (by omega)).2.2, ← e5]
      · rw [wv, if_neg l7] at e; exact absurd e c0
    by_cases e : tE v n s - s = lenS.getD si 0
    · rw [if_pos (by rw [e]), nI_toInt (by omega), t32_0]
      have g := iw_l28 (v := v) hn (s := s) (si := si) (by omega) (nI (tE v n s)) (kd v n s) (((lenS.getD si 0 : Nat) : Int) - 0).toNat.succ 0 (by omega) (by omega)
      rcases g with ⟨g1, g2⟩ | ⟨g1, j, g2, g3⟩
      · refine Or.inl ⟨g1, k, ?_⟩
        rw [wv, if_pos (by omega), a4, e]
        refine congrArg lN (wpk_cg _ (fun j hj => ?_))
        show (v (s + j)).toNatClampNeg = _
        rw [g2 j (by omega) hj]
      · exact Or.inr ⟨g1, fun q => g3 ((J q).2 j (by omega))⟩
    · rw [if_neg (fun q => e ((nI_eq (by omega) (by omega)).mp q))]
      exact Or.inr ⟨rfl, fun q => e (J q).1⟩
  · rw [if_neg k, run_no k, Nat.sub_self]
    exact Or.inr ⟨rfl, fun q => c0 q⟩
theorem takes_spec (hn : n ≤ 600) (hT : TR n v w) {i s : Nat} (h : i ≤ n) (hs : tS v n i = s) {si : Nat} {C : Int64} (hC : WC si C) (we : Int32) :
    (fR_isWord (nI s) (nI (tE v n s)) (kd v n s) (nI n) v si = 0 ∧ ∃ X, fO_takes (nI n) (nI i) we w C = (0, nI s, X)) ∨ (fR_isWord (nI s) (nI (tE v n s)) (kd v n s) (nI n) v si = 1 ∧ ∃ X, fO_takes (nI n) (nI i) we w C = (1, nI (tE v n s), X)) := by
  have hs2 := (tS_spec (v := v) h).2.1
  subst hs
  rw [fO_takes, word_eq hn hT h]
  unfold bnd3
  dsimp only
  rcases word_iff hn hT hs2 hC with ⟨g1, g2, g3⟩ | ⟨g1, g3⟩
  · refine Or.inr ⟨g1, nI (tE v n (tS v n i)), ?_⟩
    rw [if_pos ((lg_cmp_eq _ _).mpr g3), run_tE (Or.inl rfl) g2]
  · refine Or.inl ⟨g1, nI (run v n 1 (n - tS v n i + 1) (tS v n i)), ?_⟩
    rw [if_neg (fun q => g3 ((lg_cmp_eq _ _).mp q))]
theorem name_spec (hn : n ≤ 600) (hT : TR n v w) {i s : Nat} (h : i ≤ n) (hs : tS v n i = s) (we : Int32) :
    (fR_mendNamed (nI s) (nI (tE v n s)) (kd v n s) (nI n) v = (-1 : Int32) ∧ ∃ X, fO_name (nI n) (nI i) we w = ((-1 : Int32), nI s, X)) ∨ (∃ m, m < 3 ∧ fR_mendNamed (nI s) (nI (tE v n s)) (kd v n s) (nI n) v = nI m ∧ fR_isWord (nI s) (nI (tE v n s)) (kd v n s) (nI n) v 8 = 0 ∧ ∃ X, fO_name (nI n) (nI i) we w = (nI m, nI (tE v n s), X)) := by
  have hs2 := (tS_spec (v := v) h).2.1
  subst hs
  have n1 : ¬ (1 : Int32) = 0 := by decide
  rw [fO_name, word_eq hn hT h, fR_mendNamed]
  unfold bnd3
  dsimp only
  have F8 : ∀ C, ¬ C = (112628846455140 : Int64) → wv v (tS v n i) (run v n 1 (n - tS v n i + 1) (tS v n i) - tS v n i) = C → fR_isWord (nI (tS v n i)) (nI (tE v n (tS v n i))) (kd v n (tS v n i)) (nI n) v 8 = 0 := by
    intro C c1 c2
    rcases word_iff hn hT hs2 wc8 with ⟨g1, g2, g3⟩ | ⟨g1, g3⟩
    · exact absurd (c2.symm.trans g3) c1
    · exact g1
  rcases word_iff hn hT hs2 wc5 with ⟨g1, g2, g3⟩ | ⟨g1, g3⟩
  · refine Or.inr ⟨0, by omega, ?_, F8 _ (by decide) g3, nI (tE v n (tS v n i)), ?_⟩
    · rw [g1, if_neg n1]; rfl
    · rw [if_pos ((lg_cmp_eq _ _).mpr g3), fO_name_b42, if_neg (by decide), run_tE (Or.inl rfl) g2]; rfl
  rw [g1, if_pos rfl, if_neg (fun q => g3 ((lg_cmp_eq _ _).mp q))]
  rcases word_iff hn hT hs2 wc6 with ⟨k1, k2, k3⟩ | ⟨k1, k3⟩
  · refine Or.inr ⟨1, by omega, ?_, F8 _ (by decide) k3, nI (tE v n (tS v n i)), ?_⟩
    · rw [k1, if_neg n1]; rfl
    · rw [if_pos ((lg_cmp_eq _ _).mpr k3), fO_name_b42, if_neg (by decide), run_tE (Or.inl rfl) k2]; rfl
  rw [k1, if_pos rfl, if_neg (fun q => k3 ((lg_cmp_eq _ _).mp q))]
  rcases word_iff hn hT hs2 wc7 with ⟨l1, l2, l3⟩ | ⟨l1, l3⟩
  · refine Or.inr ⟨2, by omega, ?_, F8 _ (by decide) l3, nI (tE v n (tS v n i)), ?_⟩
    · rw [l1, if_neg n1]; rfl
    · rw [if_pos ((lg_cmp_eq _ _).mpr l3), fO_name_b42, if_neg (by decide), run_tE (Or.inl rfl) l2]; rfl
  rw [l1, if_pos rfl, if_neg (fun q => l3 ((lg_cmp_eq _ _).mp q))]
  exact Or.inl ⟨rfl, _, by rw [fO_name_b42, if_pos rfl]⟩
theorem nI_mul (a b : Nat) : nI a * nI b = nI (a * b) := (Int32.ofNat_mul a b).symm
theorem vn_rng (hT : TR n v w) {s e : Nat} (he : e ≤ n) (hk : ∀ j, s ≤ j → j < e → kd v n j = 2) : ∀ j, s + j ≤ e → j ≤ 3 → ∃ c, vn v s j = nI c ∧ c < 10 ^ j := by
  intro j
  induction j with
  | zero => intro h1 h2; exact ⟨0, rfl, by decide⟩
  | succ j ih =>
    intro h1 h2
    obtain ⟨c, c1, c2⟩ := ih (by omega) (by omega)
    obtain ⟨d, d1, -, d3, d4⟩ := dig_of hT (show s + j < n by omega) (hk (s + j) (by omega) (by omega))
    have p : 10 ^ j ≤ 100 := Nat.le_trans (Nat.pow_le_pow_right (by decide) (show j ≤ 2 by omega)) (by decide)
    refine ⟨10 * c + d - 48, ?_, by rw [Nat.pow_succ]; omega⟩
    rw [vn, c1, d1, show (10 : Int32) = nI 10 from rfl, nI_mul, nI_add, show (48 : Int32) = nI 48 from rfl, nI_subN (by omega) (by omega)]
theorem tn_eq (hn : n ≤ 600) (hT : TR n v w) (p1 p2 : Int32) {s : Nat} : ∀ f z, s ≤ z → z ≤ n → n - z < f →
    fO_takesNumber_l14 (nI n) w p1 p2 f (nI z) (nI s) (vn v s (min 3 (z - s))) = fO_takesNumber_b81 (nI n) w p1 p2 (nI (run v n 2 f z)) (nI s) (vn v s (min 3 (run v n 2 f z - s))) := by
  intro f
  induction f with
  | zero => intro z h1 h2 h3; omega
  | succ f ih =>
    intro z h1 h2 h3
    rw [fO_takesNumber_l14, run, nI_clamp (by omega), nI_subN h1 (by omega), nI_1]
    by_cases c : n ≤ z
    · rw [if_pos c, if_pos (nI_le c (by omega))]
    have hz : z < n := by omega
    rw [if_neg c, if_neg (fun q => by rw [nI_leI (by omega) (by omega)] at q; omega)]
    have q := kd2 hT hz
    by_cases d : kd v n z = 2
    · obtain ⟨q1, q2⟩ := q.mp d
      rw [if_pos d, if_neg q1, if_neg q2]
      have I := ih (z + 1) (by omega) (by omega) (by omega)
      by_cases c3 : 3 ≤ z - s
      · rw [if_pos (show (3 : Int32) ≤ nI (z - s) from nI_le c3 (by omega)), show min 3 (z - s) = min 3 (z + 1 - s) by omega]
        exact I
      · rw [if_neg (show ¬ (3 : Int32) ≤ nI (z - s) from fun q => by
          rw [show (3 : Int32) = nI 3 from rfl, nI_leI (by omega) (by omega)] at q; omega)]
        obtain ⟨j, v1, w1, -, -⟩ := dig_of hT hz d
        have e : ((((10 : Int32) * vn v s (min 3 (z - s))) + w z) - (48 : Int32)) = vn v s (min 3 (z + 1 - s)) := by
          rw [show min 3 (z + 1 - s) = (z - s) + 1 by omega, vn, show min 3 (z - s) = z - s by omega, show s + (z - s) = z by omega, w1, v1]
        rw [e]
        exact I
    · rw [if_neg d]
      by_cases q1 : w z < 48
      · rw [if_pos q1]
      · rw [if_neg q1]
        by_cases q2 : (57 : Int32) < w z
        · rw [if_pos q2]
        · exact absurd (q.mpr ⟨q1, q2⟩) d
theorem num_spec (hn : n ≤ 600) (hT : TR n v w) {i s : Nat} (h : i ≤ n) (hs : tS v n i = s) {p : Int32} {P : Nat} (hp : p = nI P) (hP : P < 1000) (p2 nm : Int32) :
    (fR_isNumberUpTo (nI s) (nI (tE v n s)) (kd v n s) (tV v n s) p = 0 ∧ ∃ X, fO_takesNumber (nI n) (nI i) nm w p p2 = (0, nI s, X)) ∨ (fR_isNumberUpTo (nI s) (nI (tE v n s)) (kd v n s) (tV v n s) p = 1 ∧ kd v n s = 2 ∧ ∃ c, c ≤ P ∧ tV v n s = nI c ∧ ((nI c = p2 ∧ ∃ X, fO_takesNumber (nI n) (nI i) nm w p p2 = (0, nI s, X)) ∨ (¬ nI c = p2 ∧ fO_takesNumber (nI n) (nI i) nm w p p2 = (1, nI (tE v n s), nI c)))) := by
  have hs2 := (tS_spec (v := v) h).2.1
  subst hs
  have g := tn_eq hn hT p p2 (n - tS v n i + 1) (tS v n i) (Nat.le_refl _) hs2 (by omega)
  rw [Nat.sub_self] at g
  have G : fO_takesNumber (nI n) (nI i) nm w p p2 = fO_takesNumber_b81 (nI n) w p p2 (nI (run v n 2 (n - tS v n i + 1) (tS v n i))) (nI (tS v n i)) (vn v (tS v n i) (min 3 (run v n 2 (n - tS v n i + 1) (tS v n i) - tS v n i))) := by
    rw [fO_takesNumber, blanks_eq hn hT h, fuelN hn hs2]; exact g
  rw [G]
  revert hs2
  generalize tS v n i = s
  intro hs2
  rw [fR_isNumberUpTo]
  by_cases k : kd v n s = 2
  · obtain ⟨t1, t2, t3, t4⟩ := tE_spec (v := v) hs2
    have t4 := t4 (Or.inr k)
    have t3 := t3 (by rw [k]; decide)
    obtain ⟨c, c1, c2⟩ := vn_rng hT t2 (fun j a b => (t4 j a b).trans k) (min 3 (tE v n s - s)) (by omega) (by omega)
    have c3 : c < 1000 := Nat.lt_of_lt_of_le c2 (Nat.le_trans (Nat.pow_le_pow_right (by decide) (show min 3 (tE v n s - s) ≤ 3 by omega)) (by decide))
    have eV : tV v n s = nI c := by rw [tV, if_pos k, c1]
    have ne : ¬ nI (tE v n s) = nI s := fun q => by
      have := (nI_eq (show tE v n s < 2 ^ 31 by omega) (show s < 2 ^ 31 by omega)).mp q
      omega
    rw [if_pos k, run_tE (Or.inr rfl) k, c1, eV, fO_takesNumber_b81, if_neg ne]
    by_cases l3 : (3 : Int32) < nI (tE v n s) - nI s
    · rw [if_pos l3, if_pos l3]; exact Or.inl ⟨rfl, _, rfl⟩
    rw [if_neg l3, if_neg l3]
    by_cases l4 : p < nI c
    · rw [if_pos l4, if_pos l4]; exact Or.inl ⟨rfl, _, rfl⟩
    rw [if_neg l4, if_neg l4]
    refine Or.inr ⟨rfl, k, c, ?_, rfl, ?_⟩
    · rw [hp, nI_ltI (by omega) (by omega)] at l4; omega
    by_cases l5 : nI c = p2
    · rw [if_pos l5]; exact Or.inl ⟨l5, _, rfl⟩
    · rw [if_neg l5]; exact Or.inr ⟨l5, rfl⟩
  · rw [if_neg k, run_no k, fO_takesNumber_b81, if_pos rfl]
    exact Or.inl ⟨rfl, _, rfl⟩
theorem num_m1 (hn : n ≤ 600) (hT : TR n v w) {i s : Nat} (h : i ≤ n) (hs : tS v n i = s) {p : Int32} {P : Nat} (hp : p = nI P) (hP : P < 1000) (nm : Int32) :
    (fR_isNumberUpTo (nI s) (nI (tE v n s)) (kd v n s) (tV v n s) p = 0 ∧ ∃ X, fO_takesNumber (nI n) (nI i) nm w p (-1 : Int32) = (0, nI s, X)) ∨ (fR_isNumberUpTo (nI s) (nI (tE v n s)) (kd v n s) (tV v n s) p = 1 ∧ kd v n s = 2 ∧ ∃ c, c ≤ P ∧ tV v n s = nI c ∧ fO_takesNumber (nI n) (nI i) nm w p (-1 : Int32) = (1, nI (tE v n s), nI c)) := by
  rcases num_spec hn hT h hs hp hP (-1 : Int32) nm with g | ⟨g1, g2, c, g3, g4, g5 | g5⟩
  · exact Or.inl g
  · exact absurd g5.1 (nI_m1 (by omega))
  · exact Or.inr ⟨g1, g2, c, g3, g4, g5.2⟩
end WRD
