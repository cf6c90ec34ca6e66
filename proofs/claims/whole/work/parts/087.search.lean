/-! Pure rows: the search. The reference's one take, in steps. -/
section MT
variable (K : Int32 → Int32 → Int32 → Int32 → Int32 → Int32 → Int32 → Int32 → Int32 → (Int32 × Int32 × Int32 × Int32 × Int32 × Int32))
variable (vOt vOr : Nat → Int32) (p1 p2 p3 p4 p5 p6 p7 p8 : Int32) (co pk t : Int32) (d c k u a f : Int32)
/-- is the take wanted -/
def mWant (g pk t : Int32) : Int32 := if g = (-1 : Int32) then (if t = pk then 0 else 1) else (if t = g then (if pk = g then 1 else 0) else 0)
/-- is it seen by BIND -/
def mSeen (m co off pk t : Int32) : Int32 := if (m &&& (1 : Int32)) = 0 then 0 else (if co = off then (if t = pk then 0 else 1) else 1)
/-- how many acts -/
def mActs (r ch pk t se : Int32) : Int32 := ((r + (if ch = (-1 : Int32) then 0 else 1)) + (if t = pk then 0 else 1)) + se
/-- may the stranger forge, if it is seen -/
abbrev mForge (br pk t se : Int32) : Prop := se = 0 ∨ (¬ ((br >>> (pk &&& 31)) &&& (1 : Int32)) = 0 ∧ ¬ ((br >>> (t &&& 31)) &&& (1 : Int32)) = 0)
theorem mSeen_b (m co off pk t : Int32) : mSeen m co off pk t = 0 ∨ mSeen m co off pk t = 1 := by
  unfold mSeen
  by_cases h1 : (m &&& (1 : Int32)) = 0
  · rw [if_pos h1]; exact Or.inl rfl
  · rw [if_neg h1]
    by_cases h2 : co = off
    · rw [if_pos h2]
      by_cases h3 : t = pk
      · rw [if_pos h3]; exact Or.inl rfl
      · rw [if_neg h3]; exact Or.inr rfl
    · rw [if_neg h2]; exact Or.inr rfl
theorem mt_240 {se : Int32} (hs : se = 0 ∨ se = 1) : fO_tries_b211 K vOt vOr p1 p2 p3 p4 p5 p6 p7 p8 co pk t se d c k u a f = if a = (-1 : Int32) ∨ mActs p6 p8 pk t se < a then K co pk (t + (1 : Int32)) p6 p8 pk t (mActs p6 p8 pk t se) se else K co pk (t + (1 : Int32)) d c k u a f := by
  have h240 : ∀ s0 s1 : Int32, (s0 = 0 ∨ s0 = 1) → fO_tries_b240 K vOt vOr p1 p2 p3 p4 p5 p6 p7 p8 co pk t se s0 s1 d c k u a f = if a = (-1 : Int32) ∨ ((s1 + s0) + se) < a then K co pk (t + (1 : Int32)) p6 p8 pk t ((s1 + s0) + se) se else K co pk (t + (1 : Int32)) d c k u a f := by
    intro s0 s1 h0
    rw [fO_tries_b240, one_b h0, one_b hs]
    simp only [fO_tries_b272]
    by_cases h1 : a = (-1 : Int32)
    · rw [if_pos h1, if_pos (Or.inl h1)]
    · rw [if_neg h1]
      by_cases h2 : ((s1 + s0) + se) < a
      · rw [if_pos h2, if_pos (Or.inr h2)]
      · rw [if_neg h2, if_neg (fun h => h.elim h1 h2)]
  have h224 : ∀ s0 : Int32, (s0 = 0 ∨ s0 = 1) → fO_tries_b224 K vOt vOr p1 p2 p3 p4 p5 p6 p7 p8 co pk t se s0 p6 d c k u a f = if a = (-1 : Int32) ∨ (((p6 + s0) + (if t = pk then 0 else 1)) + se) < a then K co pk (t + (1 : Int32)) p6 p8 pk t (((p6 + s0) + (if t = pk then 0 else 1)) + se) se else K co pk (t + (1 : Int32)) d c k u a f := by
    intro s0 h0
    rw [fO_tries_b224, one_b h0]
    by_cases h1 : t = pk
    · rw [if_pos h1, h240 0 _ (Or.inl rfl), if_pos h1]
    · rw [if_neg h1, h240 1 _ (Or.inr rfl), if_neg h1]
  rw [fO_tries_b211, mActs]
  by_cases h1 : p8 = (-1 : Int32)
  · rw [if_pos h1, h224 0 (Or.inl rfl), if_pos h1]
  · rw [if_neg h1, h224 1 (Or.inr rfl), if_neg h1]
theorem mt_147 : fO_tries_b147 K vOt vOr p1 p2 p3 p4 p5 p6 p7 p8 co pk t d c k u a f = fO_tries_b173 K vOt vOr p1 p2 p3 p4 p5 p6 p7 p8 co pk t (mSeen p4 co p7 pk t) d c k u a f := by
  rw [fO_tries_b147, mSeen]
  by_cases h1 : (p4 &&& (1 : Int32)) = 0
  · rw [if_pos h1, if_pos h1]
  · rw [if_neg h1, if_neg h1]
    by_cases h2 : co = p7
    · rw [if_pos h2, if_pos h2]
      by_cases h3 : t = pk
      · rw [if_pos h3, if_pos h3]
      · rw [if_neg h3, if_neg h3]
    · rw [if_neg h2, if_neg h2]
theorem mt_59 (n : Nat) : fO_tries_l59 vOt vOr p1 p2 p3 p4 p5 p6 p7 p8 (n + 1) co pk t d c k u a f = if (4 : Int32) ≤ t then (d, c, k, u, a, f) else fO_tries_b102 (fO_tries_l59 vOt vOr p1 p2 p3 p4 p5 p6 p7 p8 n) vOt vOr p1 p2 p3 p4 p5 p6 p7 p8 co pk t (mWant p3 pk t) d c k u a f := by
  rw [fO_tries_l59, mWant]
  by_cases h0 : (4 : Int32) ≤ t
  · rw [if_pos h0, if_pos h0]
  · rw [if_neg h0, if_neg h0]
    by_cases h1 : p3 = (-1 : Int32)
    · rw [if_pos h1, if_pos h1]
      by_cases h2 : t = pk
      · rw [if_pos h2, if_pos h2]
      · rw [if_neg h2, if_neg h2]
    · rw [if_neg h1, if_neg h1]
      by_cases h2 : t = p3
      · rw [if_pos h2, if_pos h2]
        by_cases h3 : pk = p3
        · rw [if_pos h3, if_pos h3]
        · rw [if_neg h3, if_neg h3]
      · rw [if_neg h2, if_neg h2]
/-- may a take it: it's wanted, offered, not below what is remembered, and forged where it must be -/
abbrev mOk (vOt vOr : Nat → Int32) (p1 p2 p3 p4 p7 co pk t : Int32) : Prop := ¬ mWant p3 pk t = 0 ∧ ¬ ((p7 >>> (t &&& 31)) &&& (1 : Int32)) = 0 ∧ ((p4 &&& (4 : Int32)) = 0 ∨ vOr (((5 : Int32) * p1) + p2).toNatClampNeg ≤ t) ∧ mForge (vOt (5 : Int32).toNatClampNeg) pk t (mSeen p4 co p7 pk t)
theorem mt_102 : fO_tries_b102 K vOt vOr p1 p2 p3 p4 p5 p6 p7 p8 co pk t (mWant p3 pk t) d c k u a f = (if mOk vOt vOr p1 p2 p3 p4 p7 co pk t ∧ (a = (-1 : Int32) ∨ mActs p6 p8 pk t (mSeen p4 co p7 pk t) < a) then K co pk (t + (1 : Int32)) p6 p8 pk t (mActs p6 p8 pk t (mSeen p4 co p7 pk t)) (mSeen p4 co p7 pk t) else K co pk (t + (1 : Int32)) d c k u a f) := by
  have hs := mSeen_b p4 co p7 pk t
  have h173 : fO_tries_b173 K vOt vOr p1 p2 p3 p4 p5 p6 p7 p8 co pk t (mSeen p4 co p7 pk t) d c k u a f = (if mForge (vOt (5 : Int32).toNatClampNeg) pk t (mSeen p4 co p7 pk t) ∧ (a = (-1 : Int32) ∨ mActs p6 p8 pk t (mSeen p4 co p7 pk t) < a) then K co pk (t + (1 : Int32)) p6 p8 pk t (mActs p6 p8 pk t (mSeen p4 co p7 pk t)) (mSeen p4 co p7 pk t) else K co pk (t + (1 : Int32)) d c k u a f) := by
    rw [fO_tries_b173, mt_240 K vOt vOr p1 p2 p3 p4 p5 p6 p7 p8 co pk t d c k u a f hs]
    by_cases h1 : mSeen p4 co p7 pk t = 0
    · rw [if_pos h1]
      by_cases h4 : a = (-1 : Int32) ∨ mActs p6 p8 pk t (mSeen p4 co p7 pk t) < a
      · rw [if_pos h4, if_pos ⟨Or.inl h1, h4⟩]
      · rw [if_neg h4, if_neg (fun h => h4 h.2)]
    · rw [if_neg h1]
      by_cases h2 : ((vOt (5 : Int32).toNatClampNeg >>> (pk &&& 31)) &&& (1 : Int32)) = 0
      · rw [if_pos h2, if_neg (fun h => h.1.elim h1 (fun z => z.1 h2))]
      · rw [if_neg h2]
        by_cases h3 : ((vOt (5 : Int32).toNatClampNeg >>> (t &&& 31)) &&& (1 : Int32)) = 0
        · rw [if_pos h3, if_neg (fun h => h.1.elim h1 (fun z => z.2 h3))]
        · rw [if_neg h3]
          by_cases h4 : a = (-1 : Int32) ∨ mActs p6 p8 pk t (mSeen p4 co p7 pk t) < a
          · rw [if_pos h4, if_pos ⟨Or.inr ⟨h2, h3⟩, h4⟩]
          · rw [if_neg h4, if_neg (fun h => h4 h.2)]
  rw [fO_tries_b102, mt_147, h173]
  by_cases h1 : mWant p3 pk t = 0
  · rw [if_pos h1, if_neg (fun h => h.1.1 h1)]
  · rw [if_neg h1]
    by_cases h2 : ((p7 >>> (t &&& 31)) &&& (1 : Int32)) = 0
    · rw [if_pos h2, if_neg (fun h => h.1.2.1 h2)]
    · rw [if_neg h2]
      by_cases h3 : (p4 &&& (4 : Int32)) = 0 ∨ vOr (((5 : Int32) * p1) + p2).toNatClampNeg ≤ t
      · have e : (if (p4 &&& (4 : Int32)) = 0 then (if mForge (vOt (5 : Int32).toNatClampNeg) pk t (mSeen p4 co p7 pk t) ∧ (a = (-1 : Int32) ∨ mActs p6 p8 pk t (mSeen p4 co p7 pk t) < a) then K co pk (t + (1 : Int32)) p6 p8 pk t (mActs p6 p8 pk t (mSeen p4 co p7 pk t)) (mSeen p4 co p7 pk t) else K co pk (t + (1 : Int32)) d c k u a f) else (if vOr (((5 : Int32) * p1) + p2).toNatClampNeg ≤ t then (if mForge (vOt (5 : Int32).toNatClampNeg) pk t (mSeen p4 co p7 pk t) ∧ (a = (-1 : Int32) ∨ mActs p6 p8 pk t (mSeen p4 co p7 pk t) < a) then K co pk (t + (1 : Int32)) p6 p8 pk t (mActs p6 p8 pk t (mSeen p4 co p7 pk t)) (mSeen p4 co p7 pk t) else K co pk (t + (1 : Int32)) d c k u a f) else K co pk (t + (1 : Int32)) d c k u a f)) = (if mForge (vOt (5 : Int32).toNatClampNeg) pk t (mSeen p4 co p7 pk t) ∧ (a = (-1 : Int32) ∨ mActs p6 p8 pk t (mSeen p4 co p7 pk t) < a) then K co pk (t + (1 : Int32)) p6 p8 pk t (mActs p6 p8 pk t (mSeen p4 co p7 pk t)) (mSeen p4 co p7 pk t) else K co pk (t + (1 : Int32)) d c k u a f) := by
          by_cases h5 : (p4 &&& (4 : Int32)) = 0
          · rw [if_pos h5]
          · rw [if_neg h5, if_pos (h3.resolve_left h5)]
        rw [e]
        by_cases h6 : mForge (vOt (5 : Int32).toNatClampNeg) pk t (mSeen p4 co p7 pk t) ∧ (a = (-1 : Int32) ∨ mActs p6 p8 pk t (mSeen p4 co p7 pk t) < a)
        · rw [if_pos h6, if_pos ⟨⟨h1, h2, h3, h6.1⟩, h6.2⟩]
        · rw [if_neg h6, if_neg (fun h => h6 ⟨h.1.2.2.2, h.2⟩)]
      · rw [if_neg (fun h => h3 (Or.inl h)), if_neg (fun h => h3 (Or.inr h)), if_neg (fun h => h3 h.1.2.2.1)]
end MT
/-! the class's one take -/
def cCh (c p t : Int32) : Int32 := (if c = (-1 : Int32) then 0 else 1) + (if t = p then 0 else 1)
def cFo (m c p t : Int32) : Int32 := if cCh c p t ≤ 0 then 0 else (if (m &&& (1 : Int32)) = 0 then 0 else 1)
abbrev cOk (br m c p t : Int32) : Prop := cFo m c p t ≤ 0 ∨ ¬ (((br >>> (p &&& 31)) &&& (br >>> (t &&& 31))) &&& (1 : Int32)) = 0
abbrev cAct (m r c p t : Int32) : Int32 := (r + cCh c p t) + cFo m c p t
section CT
variable (m br r c p t a d ca pc : Int32)
theorem ct_108 (n : Int32) : fJ_weighRow_b108 m br r c p t n a d ca pc = (n, r, c, if t = p then (-1 : Int32) else t) := by
  rw [fJ_weighRow_b108]
  by_cases h : t = p
  · rw [if_pos h, if_pos h, fJ_weighRow_b137]
  · rw [if_neg h, if_neg h, fJ_weighRow_b137]
theorem ct_82 (x s : Int32) : fJ_weighRow_b82 m br r c p t x s a d ca pc = if a = (-1 : Int32) ∨ ¬ a ≤ ((r + x) + s) then ((r + x) + s, r, c, if t = p then (-1 : Int32) else t) else (a, d, ca, pc) := by
  rw [fJ_weighRow_b82, ct_108]
  by_cases h1 : a = (-1 : Int32)
  · rw [if_pos h1, if_pos (Or.inl h1)]
  · rw [if_neg h1]
    by_cases h2 : a ≤ ((r + x) + s)
    · rw [if_pos h2, if_neg (fun h => h.elim h1 (fun z => z h2))]
    · rw [if_neg h2, if_pos (Or.inr h2)]
theorem ct_43 (x s : Int32) : fJ_weighRow_b43 m br r c p t x s a d ca pc = if (s ≤ 0 ∨ ¬ (((br >>> (p &&& 31)) &&& (br >>> (t &&& 31))) &&& (1 : Int32)) = 0) ∧ (a = (-1 : Int32) ∨ ¬ a ≤ ((r + x) + s)) then ((r + x) + s, r, c, if t = p then (-1 : Int32) else t) else (a, d, ca, pc) := by
  have h69 : ∀ z : Int32, fJ_weighRow_b69 m br r c p t x s z a d ca pc = if s ≤ 0 ∨ ¬ z = 0 then (if a = (-1 : Int32) ∨ ¬ a ≤ ((r + x) + s) then ((r + x) + s, r, c, if t = p then (-1 : Int32) else t) else (a, d, ca, pc)) else (a, d, ca, pc) := by
    intro z
    rw [fJ_weighRow_b69, ct_82]
    by_cases h1 : s ≤ 0
    · rw [if_pos h1, if_pos (Or.inl h1)]
    · rw [if_neg h1]
      by_cases h2 : z = 0
      · rw [if_pos h2, if_neg (fun h => h.elim h1 (fun q => q h2))]
      · rw [if_neg h2, if_pos (Or.inr h2)]
  rw [fJ_weighRow_b43, h69, h69]
  by_cases h0 : (((br >>> (p &&& 31)) &&& (br >>> (t &&& 31))) &&& (1 : Int32)) = 0
  · rw [if_pos h0]
    by_cases h1 : s ≤ 0
    · rw [if_pos (Or.inl h1)]
      by_cases h2 : a = (-1 : Int32) ∨ ¬ a ≤ ((r + x) + s)
      · have h9 : (s ≤ 0 ∨ ¬ (((br >>> (p &&& 31)) &&& (br >>> (t &&& 31))) &&& (1 : Int32)) = 0) ∧ (a = (-1 : Int32) ∨ ¬ a ≤ ((r + x) + s)) := ⟨Or.inl h1, h2⟩
        rw [if_pos h2, if_pos h9]
      · rw [if_neg h2, if_neg (fun h => h2 h.2)]
    · rw [if_neg (fun h => h.elim h1 (fun q => q rfl)), if_neg (fun h => h.1.elim h1 (fun q => q h0))]
  · rw [if_neg h0, if_pos (Or.inr (by decide : ¬ (1 : Int32) = 0))]
    by_cases h2 : a = (-1 : Int32) ∨ ¬ a ≤ ((r + x) + s)
    · have h9 : (s ≤ 0 ∨ ¬ (((br >>> (p &&& 31)) &&& (br >>> (t &&& 31))) &&& (1 : Int32)) = 0) ∧ (a = (-1 : Int32) ∨ ¬ a ≤ ((r + x) + s)) := ⟨Or.inr h0, h2⟩
      rw [if_pos h2, if_pos h9]
    · rw [if_neg h2, if_neg (fun h => h2 h.2)]
theorem wr_eq : fJ_weighRow m br a d ca pc r c p t = if cOk br m c p t ∧ (a = (-1 : Int32) ∨ ¬ a ≤ cAct m r c p t) then (cAct m r c p t, r, c, if t = p then (-1 : Int32) else t) else (a, d, ca, pc) := by
  have h21 : ∀ s1 s0 : Int32, fJ_weighRow_b21 m br r c p t s1 s0 a d ca pc = fJ_weighRow_b43 m br r c p t (s0 + s1) (if (s0 + s1) ≤ 0 then 0 else (if (m &&& (1 : Int32)) = 0 then 0 else 1)) a d ca pc := by
    intro s1 s0
    rw [fJ_weighRow_b21]
    by_cases h1 : (s0 + s1) ≤ 0
    · rw [if_pos h1, if_pos h1]
    · rw [if_neg h1, if_neg h1]
      by_cases h2 : (m &&& (1 : Int32)) = 0
      · rw [if_pos h2, if_pos h2]
      · rw [if_neg h2, if_neg h2]
  have h10 : ∀ s0 : Int32, fJ_weighRow_b10 m br r c p t s0 a d ca pc = fJ_weighRow_b21 m br r c p t (if t = p then 0 else 1) s0 a d ca pc := by
    intro s0
    rw [fJ_weighRow_b10]
    by_cases h1 : t = p
    · rw [if_pos h1, if_pos h1]
    · rw [if_neg h1, if_neg h1]
  have h0 : fJ_weighRow m br a d ca pc r c p t = fJ_weighRow_b10 m br r c p t (if c = (-1 : Int32) then 0 else 1) a d ca pc := by
    rw [fJ_weighRow]
    by_cases h1 : c = (-1 : Int32)
    · rw [if_pos h1, if_pos h1]
    · rw [if_neg h1, if_neg h1]
  rw [h0, h10, h21, ct_43]
  rfl
end CT
/-- is the take the goal -/
def cWant (g p t : Int32) : Int32 := if g = (-1 : Int32) then (if t = p then 0 else 1) else (if t = p then (if t = g then 1 else 0) else 0)
abbrev C4 : Type := Int32 × Int32 × Int32 × Int32
/-- the class weighs the take t -/
def cst (m br lt off r c p g t : Int32) (S : C4) : C4 := if ¬ cWant g p t = 0 ∧ ¬ fX_holds off t = 0 ∧ ¬ t < lt then (if cOk br m c p t ∧ (S.1 = (-1 : Int32) ∨ ¬ S.1 ≤ cAct m r c p t) then (cAct m r c p t, r, c, if t = p then (-1 : Int32) else t) else S) else S
theorem wp_step (m br lt off r c p g : Int32) (n : Nat) (t : Int32) (S : C4) : fJ_weighPick_l9 m br lt off r c p g (n + 1) t S.1 S.2.1 S.2.2.1 S.2.2.2 = if (4 : Int32) ≤ t then S else fJ_weighPick_l9 m br lt off r c p g n (t + (1 : Int32)) (cst m br lt off r c p g t S).1 (cst m br lt off r c p g t S).2.1 (cst m br lt off r c p g t S).2.2.1 (cst m br lt off r c p g t S).2.2.2 := by
  obtain ⟨a, d, ca, pc⟩ := S
  have h53 : ∀ z : Int32, fJ_weighPick_b53 (fJ_weighPick_l9 m br lt off r c p g n) m br lt off r c p g t z a d ca pc = if ¬ z = 0 ∧ ¬ fX_holds off t = 0 ∧ ¬ t < lt then fJ_weighPick_l9 m br lt off r c p g n (t + (1 : Int32)) (fJ_weighRow m br a d ca pc r c p t).1 (fJ_weighRow m br a d ca pc r c p t).2.1 (fJ_weighRow m br a d ca pc r c p t).2.2.1 (fJ_weighRow m br a d ca pc r c p t).2.2.2 else fJ_weighPick_l9 m br lt off r c p g n (t + (1 : Int32)) a d ca pc := by
    intro z
    rw [fJ_weighPick_b53]
    by_cases h1 : z = 0
    · rw [if_pos h1, if_neg (fun h => h.1 h1)]
    · rw [if_neg h1]
      by_cases h2 : fX_holds off t = 0
      · rw [if_pos h2, if_neg (fun h => h.2.1 h2)]
      · rw [if_neg h2]
        by_cases h3 : t < lt
        · rw [if_pos h3, if_neg (fun h => h.2.2 h3)]
        · rw [if_neg h3, if_pos ⟨h1, h2, h3⟩, bnd4]
  have hw : fJ_weighPick_l9 m br lt off r c p g (n + 1) t a d ca pc = if (4 : Int32) ≤ t then (a, d, ca, pc) else fJ_weighPick_b53 (fJ_weighPick_l9 m br lt off r c p g n) m br lt off r c p g t (cWant g p t) a d ca pc := by
    rw [fJ_weighPick_l9, cWant]
    by_cases h0 : (4 : Int32) ≤ t
    · rw [if_pos h0, if_pos h0]
    · rw [if_neg h0, if_neg h0]
      by_cases h1 : g = (-1 : Int32)
      · rw [if_pos h1, if_pos h1]
        by_cases h2 : t = p
        · rw [if_pos h2, if_pos h2]
        · rw [if_neg h2, if_neg h2]
      · rw [if_neg h1, if_neg h1]
        by_cases h2 : t = p
        · rw [if_pos h2, if_pos h2]
          by_cases h3 : t = g
          · rw [if_pos h3, if_pos h3]
          · rw [if_neg h3, if_neg h3]
        · rw [if_neg h2, if_neg h2]
  show fJ_weighPick_l9 m br lt off r c p g (n + 1) t a d ca pc = _
  rw [hw, h53]
  by_cases h0 : (4 : Int32) ≤ t
  · rw [if_pos h0, if_pos h0]
  · rw [if_neg h0, if_neg h0, cst]
    by_cases h1 : ¬ cWant g p t = 0 ∧ ¬ fX_holds off t = 0 ∧ ¬ t < lt
    · rw [if_pos h1, if_pos h1, wr_eq]
    · rw [if_neg h1, if_neg h1]
def c4 (m br lt off r c p g : Int32) (S : C4) : C4 := cst m br lt off r c p g (3 : Int32) (cst m br lt off r c p g (2 : Int32) (cst m br lt off r c p g (1 : Int32) (cst m br lt off r c p g (0 : Int32) S)))
theorem wp_eq (m br lt off r c p g : Int32) (S : C4) : fJ_weighPick m br lt off S.1 S.2.1 S.2.2.1 S.2.2.2 r c p g = if p = (-1 : Int32) then S else c4 m br lt off r c p g S := by
  rw [fJ_weighPick]
  by_cases h : p = (-1 : Int32)
  · rw [if_pos h, if_pos h]
  · rw [if_neg h, if_neg h, wp_step, if_neg (by decide), wp_step, if_neg (by decide), wp_step, if_neg (by decide), wp_step, if_neg (by decide), wp_step, if_pos (by decide)]
    rfl
/-! the reference's four takes -/
abbrev M6 : Type := Int32 × Int32 × Int32 × Int32 × Int32 × Int32
def mst (vOt vOr : Nat → Int32) (p1 p2 p3 p4 p6 p7 p8 co pk t : Int32) (S : M6) : M6 := if mOk vOt vOr p1 p2 p3 p4 p7 co pk t ∧ (S.2.2.2.2.1 = (-1 : Int32) ∨ mActs p6 p8 pk t (mSeen p4 co p7 pk t) < S.2.2.2.2.1) then (p6, p8, pk, t, mActs p6 p8 pk t (mSeen p4 co p7 pk t), mSeen p4 co p7 pk t) else S
def m4 (vOt vOr : Nat → Int32) (p1 p2 p3 p4 p6 p7 p8 co pk : Int32) (S : M6) : M6 := mst vOt vOr p1 p2 p3 p4 p6 p7 p8 co pk (3 : Int32) (mst vOt vOr p1 p2 p3 p4 p6 p7 p8 co pk (2 : Int32) (mst vOt vOr p1 p2 p3 p4 p6 p7 p8 co pk (1 : Int32) (mst vOt vOr p1 p2 p3 p4 p6 p7 p8 co pk (0 : Int32) S)))
theorem mt_step (vOt vOr : Nat → Int32) (p1 p2 p3 p4 p5 p6 p7 p8 co pk : Int32) (n : Nat) (t : Int32) (S : M6) : fO_tries_l59 vOt vOr p1 p2 p3 p4 p5 p6 p7 p8 (n + 1) co pk t S.1 S.2.1 S.2.2.1 S.2.2.2.1 S.2.2.2.2.1 S.2.2.2.2.2 = if (4 : Int32) ≤ t then S else fO_tries_l59 vOt vOr p1 p2 p3 p4 p5 p6 p7 p8 n co pk (t + (1 : Int32)) (mst vOt vOr p1 p2 p3 p4 p6 p7 p8 co pk t S).1 (mst vOt vOr p1 p2 p3 p4 p6 p7 p8 co pk t S).2.1 (mst vOt vOr p1 p2 p3 p4 p6 p7 p8 co pk t S).2.2.1 (mst vOt vOr p1 p2 p3 p4 p6 p7 p8 co pk t S).2.2.2.1 (mst vOt vOr p1 p2 p3 p4 p6 p7 p8 co pk t S).2.2.2.2.1 (mst vOt vOr p1 p2 p3 p4 p6 p7 p8 co pk t S).2.2.2.2.2 := by
  obtain ⟨d, c, k, u, a, f⟩ := S
  show fO_tries_l59 vOt vOr p1 p2 p3 p4 p5 p6 p7 p8 (n + 1) co pk t d c k u a f = _
  rw [mt_59]
  by_cases h0 : (4 : Int32) ≤ t
  · rw [if_pos h0, if_pos h0]
  · rw [if_neg h0, if_neg h0, mt_102, mst]
    by_cases h1 : mOk vOt vOr p1 p2 p3 p4 p7 co pk t ∧ (a = (-1 : Int32) ∨ mActs p6 p8 pk t (mSeen p4 co p7 pk t) < a)
    · rw [if_pos h1, if_pos h1]
    · rw [if_neg h1, if_neg h1]
/-- what comes stops b, or b has none of it -/
abbrev mStop (oth co : Int32) : Prop := ¬ co < (16 : Int32) ∧ ¬ fO_best oth ≤ fO_best (co &&& (15 : Int32))
theorem tries_eq (vOt vOr : Nat → Int32) (p1 p2 p3 p4 p5 p6 p7 p8 : Int32) (S : M6) : fO_tries S.1 S.2.1 S.2.2.1 S.2.2.2.1 S.2.2.2.2.1 S.2.2.2.2.2 vOt vOr p1 p2 p3 p4 p5 p6 p7 p8 = if mStop p5 (if p8 = (-1 : Int32) then p7 else p8) ∨ fO_best ((if p8 = (-1 : Int32) then p7 else p8) &&& p5) = (-1 : Int32) then S else m4 vOt vOr p1 p2 p3 p4 p6 p7 p8 (if p8 = (-1 : Int32) then p7 else p8) (fO_best ((if p8 = (-1 : Int32) then p7 else p8) &&& p5)) S := by
  have h13 : ∀ co : Int32, fO_tries_b13 vOt vOr p1 p2 p3 p4 p5 p6 p7 p8 co S.1 S.2.1 S.2.2.1 S.2.2.2.1 S.2.2.2.2.1 S.2.2.2.2.2 = if mStop p5 co ∨ fO_best (co &&& p5) = (-1 : Int32) then S else m4 vOt vOr p1 p2 p3 p4 p6 p7 p8 co (fO_best (co &&& p5)) S := by
    intro co
    have h39 : fO_tries_b39 vOt vOr p1 p2 p3 p4 p5 p6 p7 p8 co S.1 S.2.1 S.2.2.1 S.2.2.2.1 S.2.2.2.2.1 S.2.2.2.2.2 = if fO_best (co &&& p5) = (-1 : Int32) then S else m4 vOt vOr p1 p2 p3 p4 p6 p7 p8 co (fO_best (co &&& p5)) S := by
      rw [fO_tries_b39]
      by_cases h1 : fO_best (co &&& p5) = (-1 : Int32)
      · rw [if_pos h1, if_pos h1]
      · rw [if_neg h1, if_neg h1, mt_step, if_neg (by decide), mt_step, if_neg (by decide), mt_step, if_neg (by decide), mt_step, if_neg (by decide), mt_step, if_pos (by decide)]
        rfl
    rw [fO_tries_b13, h39]
    by_cases h1 : co < (16 : Int32)
    · rw [if_pos h1]
      by_cases h2 : fO_best (co &&& p5) = (-1 : Int32)
      · rw [if_pos h2, if_pos (Or.inr h2)]
      · rw [if_neg h2, if_neg (fun h => h.elim (fun z => z.1 h1) h2)]
    · rw [if_neg h1]
      by_cases h3 : fO_best p5 ≤ fO_best (co &&& (15 : Int32))
      · rw [if_pos h3]
        by_cases h2 : fO_best (co &&& p5) = (-1 : Int32)
        · rw [if_pos h2, if_pos (Or.inr h2)]
        · rw [if_neg h2, if_neg (fun h => h.elim (fun z => z.2 h3) h2)]
      · rw [if_neg h3, if_pos (Or.inl ⟨h1, h3⟩)]
  rw [fO_tries, h13, h13]
  by_cases h : p8 = (-1 : Int32)
  · rw [if_pos h, if_pos h]
  · rw [if_neg h, if_neg h]
