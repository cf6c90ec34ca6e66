-- the whole text
section TEL
theorem cp142 (vOp : Nat → Int32) (x2 tp sz at_ fl we nm : Int32) (vr vx u : Nat → Int32) : ∀ f i, f + i = 26 → i ≤ 25 → ∀ vt : Nat → Int32, (∀ j, j < i → vt j = u (25 + j)) → (∀ j, 25 ≤ j → vt j = u j) →
    ∃ vt' : Nat → Int32, fO_tells_l142 vOp sz f x2 (nI i) tp sz at_ fl we nm vt vr vx = (x2, tp, sz, at_, fl, we, nm, vt', fO_forgets vr, vx) ∧ ∀ j, j < 25 → vt' j = u (25 + j) := by
  intro f
  induction f with
  | zero => intro i h1 h2; omega
  | succ f ih =>
    intro i h1 h2 vt h3 h4
    rw [fO_tells_l142]
    by_cases c : i = 25
    · subst c
      rw [if_pos (by decide)]
      exact ⟨vt, rfl, h3⟩
    · rw [if_neg (fun z => by rw [i32_le, t32_25, nI_toInt (by omega)] at z; omega), nI_1, nI_clamp (by omega), cl25 (by omega)]
      refine ih (i + 1) (by omega) (by omega) _ (fun j hj => ?_) (fun j hj => ?_)
      · by_cases e : j = i
        · subst e; rw [pk_us]; exact h4 _ (by omega)
        · rw [pk_un e]; exact h3 j (by omega)
      · rw [pk_un (by omega)]; exact h4 j hj
theorem forg_eq : ∀ f i, f + i = 26 → i ≤ 25 → ∀ vr : Nat → Int32, (∀ j, j < i → vr j = (-1 : Int32)) → ∀ j, j < 25 → fO_forgets_l2 f (nI i) vr j = (-1 : Int32) := by
  intro f
  induction f with
  | zero => intro i h1 h2; omega
  | succ f ih =>
    intro i h1 h2 vr h3
    rw [fO_forgets_l2]
    by_cases c : i = 25
    · subst c
      rw [if_pos (by decide)]; exact h3
    · rw [if_neg (fun z => by rw [i32_le, t32_25, nI_toInt (by omega)] at z; omega), nI_1, nI_clamp (by omega)]
      refine ih (i + 1) (by omega) (by omega) _ (fun j hj => ?_)
      by_cases e : j = i
      · subst e; rw [pk_us]
      · rw [pk_un e]; exact h3 j (by omega)
theorem forg0 (vr : Nat → Int32) {j : Nat} (hj : j < 25) : fO_forgets vr j = (-1 : Int32) := forg_eq 26 0 (by omega) (by omega) vr (fun j hj => by omega) j hj
theorem beg_eq (u : Nat → Int32) : ∀ f i, f + i = 26 → i ≤ 25 → ∀ vt : Nat → Int32, (∀ j, j < 25 → vt j = u j) → (∀ j, j < i → vt (25 + j) = if 8 ≤ j ∧ j < 15 then (10 : Int32) else 0) →
    (∀ j, j < 25 → fO_begins_l2 (25 : Int32) f (nI i) vt j = u j) ∧ (∀ j, j < 25 → fO_begins_l2 (25 : Int32) f (nI i) vt (25 + j) = if 8 ≤ j ∧ j < 15 then (10 : Int32) else 0) := by
  intro f
  induction f with
  | zero => intro i h1 h2; omega
  | succ f ih =>
    intro i h1 h2 vt h3 h4
    rw [fO_begins_l2]
    by_cases c : i = 25
    · subst c
      rw [if_pos (by decide)]; exact ⟨h3, h4⟩
    · rw [if_neg (fun z => by rw [i32_le, t32_25, nI_toInt (by omega)] at z; omega), fO_begins_b33, fO_begins_b33, nI_1, cl25 (by omega)]
      have S : ∀ x : Int32, x = (if 8 ≤ i ∧ i < 15 then (10 : Int32) else 0) → (∀ j, j < 25 → fO_begins_l2 (25 : Int32) f (nI (i + 1)) (upd vt (25 + i) x) j = u j) ∧ (∀ j, j < 25 → fO_begins_l2 (25 : Int32) f (nI (i + 1)) (upd vt (25 + i) x) (25 + j) = if 8 ≤ j ∧ j < 15 then (10 : Int32) else 0) := by
        intro x hx
        refine ih (i + 1) (by omega) (by omega) _ (fun j hj => ?_) (fun j hj => ?_)
        · rw [pk_un (by omega)]; exact h3 j hj
        · by_cases e : j = i
          · subst e; rw [pk_us]; exact hx
          · rw [pk_un (by omega)]; exact h4 j (by omega)
      by_cases d1 : i < 8
      · rw [if_pos (show nI i < (8 : Int32) from nI_lt (b := 8) d1 (by omega))]
        exact S 0 (by rw [if_neg (by omega)])
      · rw [if_neg (show ¬ nI i < (8 : Int32) from nI_nlt (a := i) (b := 8) (by omega) (by omega))]
        by_cases d2 : 15 ≤ i
        · rw [if_pos (show (15 : Int32) ≤ nI i from nI_le d2 (by omega))]
          exact S 0 (by rw [if_neg (by omega)])
        · rw [if_neg (show ¬ (15 : Int32) ≤ nI i from nI_ge (a := i) (b := 15) (by omega) (by omega))]
          exact S 10 (by rw [if_pos (by omega)])
theorem saf44 (a b c d : Int32) (g p : Nat → Int32) : ∀ f i, f + i = 26 → i ≤ 25 → ∀ vm : Nat → Int32, (∀ j, j < i → vm j = (-1 : Int32)) → ∃ vm' : Nat → Int32, fT_setAsAtFirst_l44 f (nI i) a b c d g p vm = (0, 0, 0, 0, g, p, vm') ∧ ∀ j, j < 25 → vm' j = (-1 : Int32) := by
  intro f
  induction f with
  | zero => intro i h1 h2; omega
  | succ f ih =>
    intro i h1 h2 vm h3
    rw [fT_setAsAtFirst_l44]
    by_cases e : i = 25
    · subst e
      rw [if_pos (by decide)]; exact ⟨vm, rfl, h3⟩
    · rw [if_neg (fun z => by rw [i32_le, t32_25, nI_toInt (by omega)] at z; omega), nI_1, nI_clamp (by omega)]
      refine ih (i + 1) (by omega) (by omega) _ (fun j hj => ?_)
      by_cases e2 : j = i
      · subst e2; rw [pk_us]
      · rw [pk_un e2]; exact h3 j (by omega)
theorem saf22 (a b c d : Int32) (g vm : Nat → Int32) : ∀ f i, f + i = 8 → i ≤ 7 → ∀ p : Nat → Int32, (∀ j, j < i → p j = (10 : Int32)) → ∃ p' vm' : Nat → Int32, fT_setAsAtFirst_l22 f (nI i) a b c d g p vm = (0, 0, 0, 0, g, p', vm') ∧ (∀ j, j < 7 → p' j = (10 : Int32)) ∧ ∀ j, j < 25 → vm' j = (-1 : Int32) := by
  intro f
  induction f with
  | zero => intro i h1 h2; omega
  | succ f ih =>
    intro i h1 h2 p h3
    rw [fT_setAsAtFirst_l22]
    by_cases e : i = 7
    · subst e
      rw [if_pos (by decide)]
      obtain ⟨vm', q1, q2⟩ := saf44 a b c d g p 26 0 (by omega) (by omega) vm (fun j hj => by omega)
      exact ⟨p, vm', q1, h3, q2⟩
    · rw [if_neg (fun z => by rw [i32_le, t32_7, nI_toInt (by omega)] at z; omega), nI_1, nI_clamp (by omega)]
      refine ih (i + 1) (by omega) (by omega) _ (fun j hj => ?_)
      by_cases e2 : j = i
      · subst e2; rw [pk_us]
      · rw [pk_un e2]; exact h3 j (by omega)
theorem saf2 (a b c d : Int32) (p vm : Nat → Int32) : ∀ f i, f + i = 6 → i ≤ 5 → ∀ g : Nat → Int32, (∀ j, j < i → g j = 0) → ∃ g' p' vm' : Nat → Int32, fT_setAsAtFirst_l2 f (nI i) a b c d g p vm = (0, 0, 0, 0, g', p', vm') ∧ (∀ j, j < 5 → g' j = 0) ∧ (∀ j, j < 7 → p' j = (10 : Int32)) ∧ ∀ j, j < 25 → vm' j = (-1 : Int32) := by
  intro f
  induction f with
  | zero => intro i h1 h2; omega
  | succ f ih =>
    intro i h1 h2 g h3
    rw [fT_setAsAtFirst_l2]
    by_cases e : i = 5
    · subst e
      rw [if_pos (by decide)]
      obtain ⟨p', vm', q1, q2, q3⟩ := saf22 a b c d g vm 8 0 (by omega) (by omega) p (fun j hj => by omega)
      exact ⟨g, p', vm', q1, h3, q2, q3⟩
    · rw [if_neg (fun z => by rw [i32_le, t32_5, nI_toInt (by omega)] at z; omega), nI_1, nI_clamp (by omega)]
      refine ih (i + 1) (by omega) (by omega) _ (fun j hj => ?_)
      by_cases e2 : j = i
      · subst e2; rw [pk_us]
      · rw [pk_un e2]; exact h3 j (by omega)
theorem dz_fin : ∀ n, n < 25 → (((0 : Int32) >>> (nI n &&& 31)) &&& 1) = 0 := by decide +kernel
theorem ds_first {g p vt : Nat → Int32} (hg : ∀ j, j < 5 → g j = 0) (hp : ∀ j, j < 7 → p j = (10 : Int32)) (hb : ∀ j, j < 25 → vt (25 + j) = if 8 ≤ j ∧ j < 15 then (10 : Int32) else 0) : DSim 0 0 0 0 g p vt := by
  have z : ∀ j, j < 25 → ¬ (8 ≤ j ∧ j < 15) → vt (25 + j) = 0 := fun j h1 h2 => by rw [hb j h1, if_neg h2]
  refine ⟨fun i hi => ?_, ?_, ?_, ?_, fun i hi => ?_, fun a b hab hb2 => ?_, fun i hi => ⟨rfl, (by decide : -1 ≤ (-1 : Int32).toInt), (by decide : (-1 : Int32).toInt ≤ 3)⟩, ⟨rfl, by decide, by decide⟩, fun i hi => ?_, rfl⟩
  · rw [hg i hi]; exact ⟨(z i (by omega) (by omega)).symm, by decide, by decide⟩
  · exact ⟨(z 5 (by omega) (by omega)).symm, by decide, by decide⟩
  · exact ⟨(z 6 (by omega) (by omega)).symm, by decide, by decide⟩
  · exact ⟨(z 7 (by omega) (by omega)).symm, by decide, by decide⟩
  · rw [hp i hi]
    refine ⟨?_, by decide, by decide⟩
    show (10 : Int32) = vt (25 + (8 + i))
    rw [hb (8 + i) (by omega), if_pos (by omega)]
  · have q := pn10 hab hb2
    have e : vt (25 + (15 + pairN a b)) = 0 := z _ (by omega) (by omega)
    refine ⟨?_, Or.inl e⟩
    show _ = vt (25 + (15 + pairN a b))
    rw [e]; exact dz_fin _ (by omega)
  · rw [t32_0] at hi; omega
abbrev XR : Type := Int32 × Int32 × Int32 × Int32 × Int32 × Int32 × Int32 × Int32 × Int32 × Int32 × (Nat → Int32) × (Nat → Int32) × (Nat → Int32)
abbrev YR : Type := Int32 × Int32 × Int32 × Int32 × Int32 × Int32 × Int32 × (Nat → Int32) × (Nat → Int32) × (Nat → Int32)
def LoopR (vm vt vr : Nat → Int32) (x : XR) (y : YR) : Prop :=
  x.1 = y.1 ∧ y.2.1 = 0 ∧ x.2.2.2.2.2.1 = y.2.2.2.2.1 ∧
  ((x.1 = (-1 : Int32) ∧ (∀ i, i < 25 → y.2.2.2.2.2.2.2.1 i = vt i) ∧ y.2.2.2.2.2.2.2.2.1 = vr) ∨
   ((¬ x.1 = (-1 : Int32)) ∧ x.2.2.2.2.2.2.2.2.2.2.2.2 = vm ∧ (∃ u : Nat → Int32, DSim x.2.2.2.2.2.2.1 x.2.2.2.2.2.2.2.1 x.2.2.2.2.2.2.2.2.1 x.2.2.2.2.2.2.2.2.2.1 x.2.2.2.2.2.2.2.2.2.2.1 x.2.2.2.2.2.2.2.2.2.2.2.1 u ∧ ∀ i, i < 25 → y.2.2.2.2.2.2.2.1 i = u (25 + i)) ∧ y.2.2.2.2.2.2.2.2.1 = fO_forgets vr))
variable {v w : Nat → Int32} {n : Nat}
theorem loop_eq (hn : n ≤ 600) (hT : TR n v w) (vOp vm vr vt0 : Nat → Int32) : ∀ f c, f + c = 34 → c ≤ 32 → ∀ s, s ≤ n → (¬ kd v n s = 4) → ∀ (fl we nm b t m k : Int32) (g p vt : Nat → Int32), DSim b t m k g p vt → (∀ i, i < 25 → vt i = vt0 i) →
    LoopR vm vt0 vr (fR_readText_l23 (nI n) v f (nI c) (nI s) (nI (tE v n s)) (kd v n s) (tV v n s) (-1 : Int32) b t m k g p vm) (fO_tells_l69 vOp (nI n) f (nI c) 1 0 (nI n) (nI s) fl we nm vt vr w) := by
  intro f
  induction f with
  | zero => intro c h1 h2; omega
  | succ f ih =>
    intro c h1 h2 s hs h4 fl we nm b t m k g p vt D hv
    obtain ⟨f, rfl⟩ : ∃ z, f = z + 1 := ⟨f - 1, by omega⟩
    rw [fR_readText_l23, fO_tells_l69, if_neg n10, if_neg (show ¬ (32 : Int32) < nI c from nI_nlt (a := 32) (b := c) (by omega) (by omega))]
    by_cases k0 : kd v n s = 0
    · have hs2 : n ≤ s := by
        rcases Nat.lt_or_ge s n with q | q
        · exact absurd k0 (kd0 hT q)
        · exact q
      rw [if_pos k0, if_pos (nI_le hs2 (by omega)), fO_tells_b117, if_neg n10, fO_tells_b130, if_neg n10]
      obtain ⟨vt', q1, q2⟩ := cp142 vOp (nI c) 0 (nI n) (nI s) (-1 : Int32) we nm vr w vt 26 0 (by omega) (by omega) vt (fun j hj => by omega) (fun j hj => rfl)
      rw [nI_0] at q1
      rw [q1]
      exact ⟨rfl, rfl, rfl, Or.inr ⟨nI_m1 (by omega), rfl, ⟨vt, D, q2⟩, rfl⟩⟩
    have hs2 := kd_lt_n k0
    rw [if_neg k0, if_neg (show ¬ nI n ≤ nI s from fun z => by rw [nI_leI (by omega) (by omega)] at z; omega)]
    have F : ∀ (at_ we2 nm2 x2 : Int32) (vt' : Nat → Int32) (a2 a3 a4 b' t' m' k' : Int32) (g' p' : Nat → Int32), (∀ i, i < 25 → vt' i = vt0 i) →
        LoopR vm vt0 vr (fR_readText_b60 (nI n) v at_ a2 a3 a4 (-1 : Int32) b' t' m' k' g' p' vm) (fO_tells_b102 (fO_tells_l69 vOp (nI n) (f + 1)) vOp (nI n) x2 0 0 (nI n) at_ fl we2 nm2 vt' vr w) := by
      intro at_ we2 nm2 x2 vt' a2 a3 a4 b' t' m' k' g' p' hv'
      rw [fR_readText_b60, fO_tells_b102, if_pos rfl, fO_tells_l69, if_pos rfl, fO_tells_b117, if_pos rfl, fO_tells_b130, if_pos rfl]
      exact ⟨rfl, rfl, rfl, Or.inl ⟨rfl, hv', rfl⟩⟩
    by_cases c32 : c = 32
    · subst c32
      rw [if_pos (show nI 32 = (32 : Int32) from rfl), if_pos (by decide)]
      exact F _ _ _ _ _ _ _ _ _ _ _ _ _ _ hv
    rw [if_neg (show ¬ nI c = (32 : Int32) from fun z => c32 ((nI_eq (b := 32) (by omega) (by omega)).mp z)), if_neg (show ¬ (32 : Int32) ≤ nI c from nI_ge (a := c) (b := 32) (by omega) (by omega))]
    have O := st_eq hn hT D hs h4 we nm
    revert O
    generalize fR_readStatement (nI s) (nI (tE v n s)) (kd v n s) (tV v n s) (nI n) v b t m k g p = x
    generalize fO_statement (nI n) (nI s) we nm vt w = y
    intro O
    obtain ⟨x0, x1, x2, x3, x4, x5, x6, x7, x8, x9, x10⟩ := x
    obtain ⟨y0, y1, y2, y3, y4⟩ := y
    obtain ⟨O1, O2⟩ := O
    unfold bnd11 bnd5
    dsimp only at O1 O2 ⊢
    rcases O2 with ⟨z1, z2, z3⟩ | ⟨z1, z2, i, z3, z4, z5, z6⟩
    · rw [z1, z2, z3, if_pos rfl, if_pos rfl]
      exact F _ _ _ _ _ _ _ _ _ _ _ _ _ _ (fun i hi => (O1 i hi).trans (hv i hi))
    · simp only [Prod.mk.injEq] at z5
      obtain ⟨w1, w2, w3, w4⟩ := z5
      obtain ⟨s1, s2, s3⟩ := tS_spec (v := v) z3
      rw [z1, z2, z4, w1, w2, w3, w4, if_neg n10, if_neg n10, fO_tells_b102, if_neg n10, blanks_eq hn hT z3, nI_1]
      exact ih (c + 1) (by omega) (by omega) _ s2 s3 _ _ _ _ _ _ _ _ _ _ z6 (fun i hi => (O1 i hi).trans (hv i hi))
theorem l17_eq (vOp : Nat → Int32) (tp sz at_ fl we nm : Int32) (vt vr : Nat → Int32) (hn : n ≤ 600) (hv : ∀ i, i < n → vOp i = (v i).toInt8.toInt32) : ∀ f i, f + i = n + 1 → i ≤ n → ∀ vx : Nat → Int32, (∀ j, j < i → vx j = vOp j) →
    ∃ x' : Nat → Int32, (∀ j, j < n → x' j = vOp j) ∧ fO_tells_l17 vOp (nI n) f (nI i) tp sz at_ fl we nm vt vr vx = fO_tells_l69 vOp (nI n) 34 0 1 0 (nI n) (fO_blanks (nI n) 0 x') fl we nm (fO_begins vt 25) vr x' := by
  intro f
  induction f with
  | zero => intro i h1 h2; omega
  | succ f ih =>
    intro i h1 h2 vx h3
    rw [fO_tells_l17]
    by_cases c : i = n
    · subst c
      rw [if_pos (nI_le (Nat.le_refl _) (by omega))]
      exact ⟨vx, h3, rfl⟩
    · rw [if_neg (fun z => by rw [nI_leI (by omega) (by omega)] at z; omega), nI_1, nI_clamp (by omega)]
      refine ih (i + 1) (by omega) (by omega) _ (fun j hj => ?_)
      by_cases e : j = i
      · subst e; rw [pk_us, hv j (by omega), pk_vb]
      · rw [pk_un e]; exact h3 j (by omega)
theorem cpy_eq {f g : Nat → Int32} {m i : Nat} {q : Int32} (hq : q.toNatClampNeg = m) (hi : i < m) : va_cpy f g (0 : Int32).toNatClampNeg (0 : Int32).toNatClampNeg q.toNatClampNeg i = f i := by
  have z : (0 : Int32).toNatClampNeg = 0 := by decide
  rw [va_cpy, hq, z, if_pos (by omega), Nat.zero_add, Nat.sub_zero]
end TEL
