-- the written text: class and reference write the same bytes
theorem bnd2_e {δ α β : Type} (p : α × β) (k : α → β → δ) : bnd2 p k = k p.1 p.2 := rfl
theorem bnd2_id {α β : Type} (p : α × β) : bnd2 p (fun a b => (a, b)) = p := rfl
def emW (pl : Int32) : List Int32 → Int32 × Int32 → Int32 × Int32
  | [], s => s
  | b :: l, s => emW pl l (fW_putByte s.1 pl s.2 b)
def emO : List Int32 → Int32 × (Nat → Int32) → Int32 × (Nat → Int32)
  | [], t => t
  | b :: l, t => emO l (fO_put t.1 t.2 b)
theorem emW_app (pl : Int32) : ∀ (l m : List Int32) (s : Int32 × Int32), emW pl (l ++ m) s = emW pl m (emW pl l s)
  | [], _, _ => rfl
  | b :: l, m, s => emW_app pl l m (fW_putByte s.1 pl s.2 b)
theorem emO_app : ∀ (l m : List Int32) (t : Int32 × (Nat → Int32)), emO (l ++ m) t = emO m (emO l t)
  | [], _, _ => rfl
  | b :: l, m, t => emO_app l m (fO_put t.1 t.2 b)
/-- both have written the same: at most B bytes, the letter wanted is the class's -/
def RW (pl : Int32) (B : Nat) (s : Int32 × Int32) (t : Int32 × (Nat → Int32)) : Prop :=
  s.1 = t.1 ∧ 0 ≤ t.1.toInt ∧ t.1.toInt ≤ B ∧ s.2 = if 0 ≤ pl.toInt ∧ pl.toInt < t.1.toInt then t.2 pl.toNatClampNeg else (-1 : Int32)
def gdB (b : Int32) : Bool := decide (vp_nar .byte (b.toInt8.toInt32) = b)
theorem clampN {x : Int32} (h : 0 ≤ x.toInt) : (x.toNatClampNeg : Int) = x.toInt := by
  obtain ⟨j, hj, rfl⟩ := nI_of (x := x) (fun w => by rw [i32_lt, t32_0] at w; omega)
  rw [nI_clamp hj, nI_toInt hj]
theorem rw_put {pl : Int32} {B : Nat} {s : Int32 × Int32} {t : Int32 × (Nat → Int32)} (h : RW pl B s t) (hB : B < 1000000) {b : Int32} (hb : gdB b = true) : RW pl (B + 1) (fW_putByte s.1 pl s.2 b) (fO_put t.1 t.2 b) := by
  obtain ⟨c, lk⟩ := s
  obtain ⟨m, v⟩ := t
  obtain ⟨h1, h2, h3, h4⟩ := h
  dsimp only at h1 h2 h3 h4 ⊢
  subst h1
  have e1 : (c + (1 : Int32)).toInt = c.toInt + 1 := by
    rw [i32_addS] <;> rw [t32_1] <;> omega
  have hb' : vp_nar .byte (b.toInt8.toInt32) = b := of_decide_eq_true hb
  rw [fO_put, hb', fW_putByte, fW_putByte_b16, fW_putByte_b16]
  by_cases e : c = pl
  · subst e
    rw [if_pos rfl]
    refine ⟨rfl, by dsimp only; omega, by dsimp only; omega, ?_⟩
    dsimp only
    rw [if_pos (by omega), pk_us]
  · rw [if_neg e]
    refine ⟨rfl, by dsimp only; omega, by dsimp only; omega, ?_⟩
    dsimp only
    rw [h4]
    have ne : ¬ c.toInt = pl.toInt := fun w => e (i32_eq.mpr w)
    by_cases q : 0 ≤ pl.toInt ∧ pl.toInt < c.toInt
    · rw [if_pos q, if_pos (by omega), pk_un]
      intro w
      have a1 := clampN (x := pl) q.1
      have a2 := clampN (x := c) h2
      rw [w] at a1
      omega
    · rw [if_neg q, if_neg (by omega)]
theorem rw_em {pl : Int32} : ∀ (l : List Int32) {B : Nat} {s : Int32 × Int32} {t : Int32 × (Nat → Int32)}, RW pl B s t → B + l.length ≤ 100000 → l.all gdB = true → RW pl (B + l.length) (emW pl l s) (emO l t)
  | [], _, _, _, h, _, _ => h
  | b :: l, B, s, t, h, hB, hg => by
    rw [List.all_cons, Bool.and_eq_true] at hg
    rw [List.length_cons] at hB
    have g := rw_em l (rw_put h (by omega) hg.1) (by omega) hg.2
    rw [List.length_cons, show B + (l.length + 1) = B + 1 + l.length by omega]
    exact g
theorem rw_up {pl : Int32} {B C : Nat} {s : Int32 × Int32} {t : Int32 × (Nat → Int32)} (h : RW pl B s t) (hc : B ≤ C) : RW pl C s t := ⟨h.1, h.2.1, by have := h.2.2.1; omega, h.2.2.2⟩
/-- a list is written alike, in at most n bytes -/
def okL (n : Nat) (l m : List Int32) : Bool := decide (l = m) && decide (l.length ≤ n) && l.all gdB
theorem rw_ok {pl : Int32} {n B : Nat} {l m : List Int32} (ho : okL n l m = true) {s : Int32 × Int32} {t : Int32 × (Nat → Int32)} (h : RW pl B s t) (hB : B + n ≤ 100000) : RW pl (B + n) (emW pl l s) (emO m t) := by
  unfold okL at ho
  rw [Bool.and_eq_true, Bool.and_eq_true] at ho
  have e1 := of_decide_eq_true ho.1.1
  have e2 := of_decide_eq_true ho.1.2
  rw [← e1]
  exact rw_up (rw_em l h (by omega) ho.2) (by omega)
/-- the lists of the class -/
def slr (si : Nat) : Nat → Int32 → List Int32
  | 0, _ => []
  | n + 1, k => if (fS_length si) ≤ k then [] else fS_charAt si k :: slr si n (k + (1 : Int32))
def sl (si : Nat) : List Int32 := slr si (((fS_length si).toInt - (0 : Int32).toInt).toNat + 1) 0
def nlW (p : Int32) : List Int32 := (32 : Int32) :: ((if p < (100 : Int32) then [] else [((48 : Int32) + ((p / (100 : Int32)) - (p / (100 : Int32)) / (10 : Int32) * (10 : Int32)))]) ++ ((if p < (10 : Int32) then [] else [((48 : Int32) + ((p / (10 : Int32)) - (p / (10 : Int32)) / (10 : Int32) * (10 : Int32)))]) ++ [((48 : Int32) + (p - p / (10 : Int32) * (10 : Int32)))]))
def wyW (p : Int32) : Nat → Int32 → List Int32
  | 0, _ => []
  | n + 1, k => if (4 : Int32) ≤ k then [] else if (fX_holds p k) = 0 then wyW p n (k + (1 : Int32)) else nlW k ++ wyW p n (k + (1 : Int32))
def mnW (p : Int32) : List Int32 := if p = 0 then sl 5 else if p = (1 : Int32) then sl 6 else if p = (2 : Int32) then sl 7 else sl 8 ++ nlW (p - (3 : Int32))
theorem w_slr (pl : Int32) (si : Nat) : ∀ (n : Nat) (k c lk : Int32), fW_put_l2 pl si n k c lk = emW pl (slr si n k) (c, lk)
  | 0, _, _, _ => rfl
  | n + 1, k, c, lk => by
    rw [fW_put_l2, slr]
    by_cases e : (fS_length si) ≤ k
    · rw [if_pos e, if_pos e]; rfl
    · rw [if_neg e, if_neg e]
      exact w_slr pl si n _ _ _
theorem w_put (pl : Int32) (si : Nat) (c lk : Int32) : fW_put c pl lk si = emW pl (sl si) (c, lk) := w_slr pl si _ _ _ _
theorem w_num (pl c lk p : Int32) : fW_putNumber c pl lk p = emW pl (nlW p) (c, lk) := by
  unfold fW_putNumber nlW fW_putNumber_b26
  by_cases e1 : p < (100 : Int32)
  · by_cases e2 : p < (10 : Int32)
    · simp only [if_pos e1, if_pos e2]; rfl
    · simp only [if_pos e1, if_neg e2]; rfl
  · by_cases e2 : p < (10 : Int32)
    · simp only [if_neg e1, if_pos e2]; rfl
    · simp only [if_neg e1, if_neg e2]; rfl
theorem w_ways (pl p : Int32) : ∀ (n : Nat) (k c lk : Int32), fW_putWays_l2 pl p n k c lk = emW pl (wyW p n k) (c, lk)
  | 0, _, _, _ => rfl
  | n + 1, k, c, lk => by
    rw [fW_putWays_l2, wyW]
    by_cases e : (4 : Int32) ≤ k
    · rw [if_pos e, if_pos e]; rfl
    rw [if_neg e, if_neg e]
    by_cases e2 : (fX_holds p k) = 0
    · rw [if_pos e2, if_pos e2]; exact w_ways pl p n _ _ _
    · rw [if_neg e2, if_neg e2, emW_app, w_num]
      exact w_ways pl p n _ _ _
theorem w_name (pl c lk p : Int32) : fW_putMendName c pl lk p = emW pl (mnW p) (c, lk) := by
  rw [fW_putMendName, mnW]
  by_cases e0 : p = 0
  · rw [if_pos e0, if_pos e0, w_put, bnd2_id]
  rw [if_neg e0, if_neg e0]
  by_cases e1 : p = (1 : Int32)
  · rw [if_pos e1, if_pos e1, w_put, bnd2_id]
  rw [if_neg e1, if_neg e1]
  by_cases e2 : p = (2 : Int32)
  · rw [if_pos e2, if_pos e2, w_put, bnd2_id]
  rw [if_neg e2, if_neg e2, emW_app, w_put]
  generalize emW pl (sl 8) (c, lk) = s
  exact w_num pl s.1 s.2 _
/-- the lists of the reference -/
def wlr (w : Int64) : Nat → Int32 → List Int32
  | 0, _ => []
  | n + 1, k => if k < 0 then [] else if (lg_cmp ((w >>> (k.toInt64 &&& 63)) &&& (255 : Int64)) (0 : Int64)) = 0 then wlr w n (k + (-8 : Int32)) else (((w >>> (k.toInt64 &&& 63)) &&& (255 : Int64)).toInt32) :: wlr w n (k + (-8 : Int32))
def wl (w : Int64) (f : Int32) : List Int32 := if f = 0 then (32 : Int32) :: wlr w 9 56 else wlr w 9 56
def nlO (p : Int32) : List Int32 := (32 : Int32) :: ((if p ≤ (99 : Int32) then [] else [((48 : Int32) + (p / (100 : Int32)))]) ++ ((if p ≤ (9 : Int32) then [] else [((48 : Int32) + ((p / (10 : Int32)) - (p / (10 : Int32)) / (10 : Int32) * (10 : Int32)))]) ++ [((48 : Int32) + (p - p / (10 : Int32) * (10 : Int32)))]))
def stO (p : Int32) : Nat → Int32 → List Int32
  | 0, _ => []
  | n + 1, k => if (4 : Int32) ≤ k then [59] else if ((p >>> (k &&& 31)) &&& (1 : Int32)) = (1 : Int32) then nlO k ++ stO p n (k + (1 : Int32)) else stO p n (k + (1 : Int32))
def mnO (p : Int32) : List Int32 := if (3 : Int32) ≤ p then wl 112628846455140 0 ++ nlO (p - (3 : Int32)) else if p = 0 then wl 1651076708 0 else if p = (1 : Int32) then wl 1835102827 0 else wl 7367022 0
theorem o_wlr (w : Int64) (f : Int32) : ∀ (n : Nat) (k m : Int32) (v : Nat → Int32), fO_putWord_l14 w f n k m v = emO (wlr w n k) (m, v)
  | 0, _, _, _ => rfl
  | n + 1, k, m, v => by
    rw [fO_putWord_l14, wlr]
    by_cases e : k < 0
    · rw [if_pos e, if_pos e]; rfl
    rw [if_neg e, if_neg e]
    by_cases e2 : (lg_cmp ((w >>> (k.toInt64 &&& 63)) &&& (255 : Int64)) (0 : Int64)) = 0
    · rw [if_pos e2, if_pos e2]; exact o_wlr w f n _ _ _
    · rw [if_neg e2, if_neg e2]; exact o_wlr w f n _ _ _
theorem o_word (w : Int64) (f m : Int32) (v : Nat → Int32) : fO_putWord m v w f = emO (wl w f) (m, v) := by
  rw [fO_putWord, wl]
  by_cases e : f = 0
  · rw [if_pos e, if_pos e]; exact o_wlr w f 9 56 _ _
  · rw [if_neg e, if_neg e]; exact o_wlr w f 9 56 _ _
theorem o_num (m p : Int32) (v : Nat → Int32) : fO_putNumber m v p = emO (nlO p) (m, v) := by
  unfold fO_putNumber nlO fO_putNumber_b23
  by_cases e1 : p ≤ (99 : Int32)
  · by_cases e2 : p ≤ (9 : Int32)
    · simp only [if_pos e1, if_pos e2]; rfl
    · simp only [if_pos e1, if_neg e2]; rfl
  · by_cases e2 : p ≤ (9 : Int32)
    · simp only [if_neg e1, if_pos e2]; rfl
    · simp only [if_neg e1, if_neg e2]; rfl
theorem o_set (p : Int32) : ∀ (n : Nat) (k m : Int32) (v : Nat → Int32), fO_putSet_l2 p n k m v = emO (stO p n k) (m, v)
  | 0, _, _, _ => rfl
  | n + 1, k, m, v => by
    rw [fO_putSet_l2, stO]
    by_cases e : (4 : Int32) ≤ k
    · rw [if_pos e, if_pos e]; rfl
    rw [if_neg e, if_neg e]
    by_cases e2 : ((p >>> (k &&& 31)) &&& (1 : Int32)) = (1 : Int32)
    · rw [if_pos e2, if_pos e2, emO_app, o_num]
      exact o_set p n _ _ _
    · rw [if_neg e2, if_neg e2]; exact o_set p n _ _ _
theorem o_nm (w : Int64) (p m : Int32) (v : Nat → Int32) : fO_putName_b30 p w m v = emO (wl w 0) (m, v) := by rw [fO_putName_b30, o_word, bnd2_id]
theorem o_fb (w : Int64) (q m : Int32) (v : Nat → Int32) : (bnd2 (fO_putWord m v w (0 : Int32)) (fun a b => (bnd2 (fO_putNumber a b q) (fun c d => (c, d))))) = emO (wl w 0 ++ nlO q) (m, v) := by
  rw [emO_app, o_word]
  generalize emO (wl w 0) (m, v) = t
  obtain ⟨a, b⟩ := t
  rw [bnd2_e]
  dsimp only
  rw [bnd2_id]
  exact o_num a q b
theorem o_name (m p : Int32) (v : Nat → Int32) : fO_putName m v p = emO (mnO p) (m, v) := by
  unfold fO_putName mnO
  split
  · exact o_fb _ _ _ _
  · split
    · exact o_nm _ _ _ _
    · split
      · exact o_nm _ _ _ _
      · exact o_nm _ _ _ _
theorem L_friend : ∀ f, f < 5 → ∀ g, g < 16 → okL 40 (sl 0 ++ (nlW (nI f) ++ (sl 11 ++ (wyW (nI g) 5 0 ++ [59])))) (wl 112641580559972 1 ++ (nlO (nI f) ++ (wl 6840691 0 ++ stO (nI g) 5 0))) = true := by decide +kernel
theorem L_broken : ∀ g, g < 16 → okL 40 (sl 2 ++ (wyW (nI g) 5 0 ++ [59])) (wl 108243635103086 1 ++ stO (nI g) 5 0) = true := by decide +kernel
theorem L_retries : ∀ g, g < 4 → okL 40 (sl 3 ++ (nlW (nI g) ++ [59])) (wl 32199698155136371 1 ++ (nlO (nI g) ++ [59])) = true := by decide +kernel
theorem L_mend : ∀ m, m < 7 → okL 40 (sl (if (3 : Int32) ≤ nI m then 13 else 12) ++ (mnW (nI m) ++ [59])) (if (3 : Int32) ≤ nI m then wl 112628846455140 1 ++ (nlO (nI m - (3 : Int32)) ++ [59]) else wl 1835363940 1 ++ (mnO (nI m) ++ [59])) = true := by decide +kernel
theorem L_cost : ∀ m, m < 7 → ∀ c, c < 101 → okL 40 (sl 14 ++ (mnW (nI m) ++ (nlW (nI c) ++ [59]))) (wl 1668248436 1 ++ (mnO (nI m) ++ (nlO (nI c) ++ [59]))) = true := by decide +kernel
theorem L_must : ∀ a, a < 5 → ∀ b, b < 5 → okL 40 (sl 10 ++ (nlW (nI a) ++ (nlW (nI b) ++ [59]))) (wl 1836413812 1 ++ (nlO (nI a) ++ (nlO (nI b) ++ [59]))) = true := by decide +kernel
