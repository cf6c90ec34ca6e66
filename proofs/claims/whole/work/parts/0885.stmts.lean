-- what is told: the draft of the class and the second half of the reference's row
section DS
variable {T_brokenWays T_triesAllowed T_mends T_talkers : Int32} {vTg vTp vTm : Nat → Int32} {P_count : Int32} {vPb : Nat → Int32} {X_faultPlace O_taped O_fault : Int32} {vOt vOr vOp : Nat → Int32}
theorem pn10 {a b : Nat} (hab : a < b) (hb : b < 5) : pairN a b < 10 := by
  obtain ⟨-, g2, -, -⟩ := (pair_fin a (by omega) b hb).resolve_left (by omega)
  rw [show min a b = a by omega, show max a b = b by omega] at g2
  exact g2
theorem sim_ext (h : Sim T_brokenWays T_triesAllowed T_mends T_talkers vTg vTp vTm P_count vPb X_faultPlace O_taped O_fault vOt vOr vOp) {vOt' : Nat → Int32} (e : ∀ i, i < 25 → vOt' i = vOt i) : Sim T_brokenWays T_triesAllowed T_mends T_talkers vTg vTp vTm P_count vPb X_faultPlace O_taped O_fault vOt' vOr vOp := by
  obtain ⟨h1, h2, h3, h4, h5, h6, h7, h8, h9, h10⟩ := h
  refine ⟨fun i hi => ?_, ?_, ?_, ?_, fun i hi => ?_, fun a b hab hb => ?_, h7, h8, h9, h10⟩
  · rw [e i (by omega)]; exact h1 i hi
  · rw [e 5 (by omega)]; exact h2
  · rw [e 6 (by omega)]; exact h3
  · rw [e 7 (by omega)]; exact h4
  · rw [e (8 + i) (by omega)]; exact h5 i hi
  · have := pn10 hab hb
    rw [e (15 + pairN a b) (by omega)]; exact h6 a b hab hb
theorem sm_must (h : Sim T_brokenWays T_triesAllowed T_mends T_talkers vTg vTp vTm P_count vPb X_faultPlace O_taped O_fault vOt vOr vOp) {i j : Nat} (hi : i < 5) (hj : j < 5) (hij : ¬ i = j) : Sim T_brokenWays T_triesAllowed T_mends (fT_demandTalk T_talkers (nI i) (nI j) 1) vTg vTp vTm P_count vPb X_faultPlace O_taped O_fault (upd vOt (15 + pairN (min i j) (max i j)) 1) vOr vOp := by
  obtain ⟨h1, h2, h3, h4, h5, h6, h7, h8, h9, h10⟩ := h
  obtain ⟨g1, g2, g3, g4⟩ := (pair_fin i hi j hj).resolve_left hij
  have hlt : min i j < max i j := by omega
  have hmx : max i j < 5 := by omega
  generalize min i j = lo at *
  generalize max i j = hi2 at *
  refine ⟨fun i hi => ?_, ?_, ?_, ?_, fun i hi => ?_, fun a b hab hb2 => ?_, h7, h8, h9, h10⟩
  · rw [pk_un (by omega)]; exact h1 i hi
  · rw [pk_un (by omega)]; exact h2
  · rw [pk_un (by omega)]; exact h3
  · rw [pk_un (by omega)]; exact h4
  · rw [pk_un (by omega)]; exact h5 i hi
  · have hpj := pj_fin hb2 hmx hab hlt
    have hd : ((fT_demandTalk T_talkers (nI i) (nI j) 1 >>> (nI (5 * a + b) &&& 31)) &&& 1) = if 5 * a + b = 5 * lo + hi2 then 1 else ((T_talkers >>> (nI (5 * a + b) &&& 31)) &&& 1) := by
      rw [fT_demandTalk, fT_demandTalk_b41, fT_demandTalk_b41, g3, if_neg (by decide), bit_set (by omega) (by omega)]
    rw [hd]
    by_cases e : 5 * a + b = 5 * lo + hi2
    · rw [if_pos e, show 15 + pairN a b = 15 + pairN lo hi2 by rw [hpj.mpr e], pk_us]; exact ⟨rfl, Or.inr rfl⟩
    · rw [if_neg e, pk_un (fun z => e (hpj.mp (by omega)))]; exact h6 a b hab hb2
end DS
def DSim (b t m k : Int32) (g p vt : Nat → Int32) : Prop := Sim b t m k g p (fun _ => (-1 : Int32)) 0 (fun _ => 0) 0 0 0 (fun i => vt (25 + i)) (fun _ => (-1 : Int32)) (fun _ => 0)
theorem shf (vt : Nat → Int32) (k : Nat) (x : Int32) (i : Nat) : upd vt (25 + k) x (25 + i) = upd (fun i => vt (25 + i)) k x i := by
  by_cases e : i = k
  · subst e; rw [pk_us, pk_us]
  · rw [pk_un (by omega), pk_un e]
section DD
variable {b t m k : Int32} {g p vt : Nat → Int32}
theorem ds_ways (D : DSim b t m k g p vt) {q : Nat} {x : Int32} (hq : q < 5) (hx : 0 ≤ x.toInt ∧ x.toInt ≤ 15) : DSim b t m k (upd g q x) p (upd vt (25 + q) x) := sim_ext (sm_ways D hq hx) (fun i _ => shf vt q x i)
theorem ds_broken (D : DSim b t m k g p vt) {x : Int32} (hx : 0 ≤ x.toInt ∧ x.toInt ≤ 15) : DSim x t m k g p (upd vt 30 x) := sim_ext (sm_broken D hx) (fun i _ => shf vt 5 x i)
theorem ds_retries (D : DSim b t m k g p vt) {x : Int32} (hx : 0 ≤ x.toInt ∧ x.toInt ≤ 3) : DSim b x m k g p (upd vt 31 x) := sim_ext (sm_retries D hx) (fun i _ => shf vt 6 x i)
theorem ds_cost (D : DSim b t m k g p vt) {q : Nat} {x : Int32} (hq : q < 7) (hx : 0 ≤ x.toInt ∧ x.toInt ≤ 100) : DSim b t m k g (upd p q x) (upd vt (33 + q) x) := sim_ext (sm_cost D hq hx) (fun i _ => by
  rw [show 33 + q = 25 + (8 + q) by omega]; exact shf vt (8 + q) x i)
theorem on_fin : ∀ a, a < 128 → ∀ q, q < 7 → ∃ c, c < 128 ∧ (nI a ||| ((1 : Int32) <<< (nI q &&& 31))) = nI c := by
  have f : ∀ a, a < 128 → ∀ q, q < 7 → (nI a ||| ((1 : Int32) <<< (nI q &&& 31))) = nI (a ||| 2 ^ q) ∧ (a ||| 2 ^ q) < 128 := by decide +kernel
  exact fun a ha q hq => ⟨a ||| 2 ^ q, (f a ha q hq).2, (f a ha q hq).1⟩
theorem ds_on (D : DSim b t m k g p vt) {q : Nat} (hq : q < 7) : DSim b t (fT_switchMend m (nI q) 1) k g p (upd vt 32 (vt 32 ||| ((1 : Int32) <<< (nI q &&& 31)))) := by
  obtain ⟨e1, e2, e3⟩ := D.2.2.2.1
  have e1 : m = vt 32 := e1
  obtain ⟨a, ha, ea, -⟩ := nat_of (n := 128) e2 (by omega) (by decide)
  obtain ⟨c, hc, ec⟩ := on_fin a ha q hq
  have es : fT_switchMend m (nI q) 1 = nI c := by rw [fT_switchMend, if_neg (by decide), fT_switchMend_b26, ea, ec]
  rw [es, ← e1, ea, ec]
  exact sim_ext (sm_mend D (x := nI c) (by rw [nI_toInt (by omega)]; omega)) (fun i _ => shf vt 7 (nI c) i)
theorem ds_must (D : DSim b t m k g p vt) {i j : Nat} (hi : i < 5) (hj : j < 5) (hij : ¬ i = j) : DSim b t m (fT_demandTalk k (nI i) (nI j) 1) g p (upd vt (40 + pairN (min i j) (max i j)) 1) := sim_ext (sm_must D hi hj hij) (fun q _ => by
  rw [show 40 + pairN (min i j) (max i j) = 25 + (15 + pairN (min i j) (max i j)) by omega]; exact shf vt _ 1 q)
end DD
theorem bnd2_mk {δ a0 a1 : Type} (x0 : a0) (x1 : a1) (F : a0 → a1 → δ) : bnd2 (x0, x1) F = F x0 x1 := rfl
theorem bnd3_mk {δ a0 a1 a2 : Type} (x0 : a0) (x1 : a1) (x2 : a2) (F : a0 → a1 → a2 → δ) : bnd3 (x0, x1, x2) F = F x0 x1 x2 := rfl
theorem bnd4_mk {δ a0 a1 a2 a3 : Type} (x0 : a0) (x1 : a1) (x2 : a2) (x3 : a3) (F : a0 → a1 → a2 → a3 → δ) : bnd4 (x0, x1, x2, x3) F = F x0 x1 x2 x3 := rfl
theorem bnd5_mk {δ a0 a1 a2 a3 a4 : Type} (x0 : a0) (x1 : a1) (x2 : a2) (x3 : a3) (x4 : a4) (F : a0 → a1 → a2 → a3 → a4 → δ) : bnd5 (x0, x1, x2, x3, x4) F = F x0 x1 x2 x3 x4 := rfl
theorem bnd6_mk {δ a0 a1 a2 a3 a4 a5 : Type} (x0 : a0) (x1 : a1) (x2 : a2) (x3 : a3) (x4 : a4) (x5 : a5) (F : a0 → a1 → a2 → a3 → a4 → a5 → δ) : bnd6 (x0, x1, x2, x3, x4, x5) F = F x0 x1 x2 x3 x4 x5 := rfl
theorem bnd65 {δ a5 : Type} (E : Int32 × Int32 × Int32 × Int32 × Int32) (T : a5) (F : Int32 → Int32 → Int32 → Int32 → Int32 → a5 → δ) : bnd6 (bnd5 E (fun r a b c d => (r, a, b, c, d, T))) F = bnd5 E (fun r a b c d => F r a b c d T) := rfl
abbrev XT : Type := Int32 × Int32 × Int32 × Int32 × Int32 × Int32 × Int32 × Int32 × Int32 × (Nat → Int32) × (Nat → Int32)
abbrev YT : Type := Int32 × Int32 × Int32 × Int32 × (Nat → Int32)
/-- both refuse at one place; or both go on, from one place, with drafts alike; the first half of the row stays -/
def OutR (v : Nat → Int32) (n : Nat) (vt : Nat → Int32) (x : XT) (y : YT) : Prop :=
  (∀ i, i < 25 → y.2.2.2.2 i = vt i) ∧ ((x.1 = 0 ∧ y.1 = 0 ∧ x.2.1 = y.2.1) ∨ (x.1 = 1 ∧ y.1 = 1 ∧ ∃ i, i ≤ n ∧ y.2.1 = nI i ∧ (x.2.1, x.2.2.1, x.2.2.2.1, x.2.2.2.2.1) = (nI (tS v n i), nI (tE v n (tS v n i)), kd v n (tS v n i), tV v n (tS v n i)) ∧
    DSim x.2.2.2.2.2.1 x.2.2.2.2.2.2.1 x.2.2.2.2.2.2.2.1 x.2.2.2.2.2.2.2.2.1 x.2.2.2.2.2.2.2.2.2.1 x.2.2.2.2.2.2.2.2.2.2 y.2.2.2.2))
theorem n10 : ¬ (1 : Int32) = 0 := by decide
section STM
variable {v w : Nat → Int32} {n : Nat} {b t m k : Int32} {g p vt : Nat → Int32}
theorem out_no {a b2 c d we nm : Int32} {vt' : Nat → Int32} (hk : ∀ i, i < 25 → vt' i = vt i) : OutR v n vt (0, a, b2, c, d, b, t, m, k, g, p) (0, a, we, nm, vt') := ⟨hk, Or.inl ⟨rfl, rfl, rfl⟩⟩
theorem fin_out (hn : n ≤ 600) (hT : TR n v w) {i s : Nat} (h : i ≤ n) (hs : tS v n i = s) {vt' : Nat → Int32} (D : DSim b t m k g p vt') (hk : ∀ i, i < 25 → vt' i = vt i) (we nm : Int32) :
    OutR v n vt (bnd5 (fR_endsStatement (nI s) (nI (tE v n s)) (kd v n s) (tV v n s) (nI n) v) (fun r a1 a2 a3 a4 => (r, a1, a2, a3, a4, b, t, m, k, g, p))) (fO_statement_b347 (nI n) w (nI i) we nm vt') := by
  have hs2 := (tS_spec (v := v) h).2.1
  rw [fO_statement_b347, blanks_eq hn hT h, hs]
  rw [hs] at hs2
  rw [nI_clamp (by omega), fR_endsStatement]
  by_cases c : kd v n s = 3
  · have hs3 := kd_lt_n (show ¬ kd v n s = 0 by rw [c]; decide)
    have et : tE v n s = s + 1 := by rw [tE, if_neg (by rw [c]; decide), if_neg (by rw [c]; decide)]
    rw [if_pos c, adv_t hn hs2, bnd4_mk, bnd5_mk, if_neg (fun q => by have := (nI_eq (by omega) (by omega)).mp q; omega), if_pos ((kd3 hT hs3).mp c), nI_1, nx, et]
    exact ⟨hk, Or.inr ⟨rfl, rfl, s + 1, by omega, rfl, rfl, D⟩⟩
  · rw [if_neg c, bnd5_mk]
    by_cases e : nI s = nI n
    · rw [if_pos e]; exact out_no hk
    · have hs3 : s < n := by
        rcases Nat.lt_or_ge s n with q | q
        · exact q
        · exact absurd (show nI s = nI n by rw [show s = n by omega]) e
      rw [if_neg e, if_neg (fun q => c ((kd3 hT hs3).mpr q))]; exact out_no hk
theorem dig_eq (hn : n ≤ 600) (hT : TR n v w) {i : Nat} (h : i ≤ n) : fO_isDigit (nI n) (nI i) w = (if kd v n (tS v n i) = 2 then 1 else 0, nI (tS v n i)) := by
  have hs2 := (tS_spec (v := v) h).2.1
  rw [fO_isDigit, blanks_eq hn hT h, nI_clamp (by omega)]
  revert hs2
  generalize tS v n i = s
  intro hs2
  by_cases c : n ≤ s
  · rw [if_pos (nI_le c (by omega)), kd_ge c, if_neg (by decide)]
  rw [if_neg (fun q => by rw [nI_leI (by omega) (by omega)] at q; omega)]
  have q := kd2 hT (show s < n by omega)
  by_cases d : kd v n s = 2
  · obtain ⟨q1, q2⟩ := q.mp d
    rw [if_neg q1, if_neg q2, if_pos d]
  · rw [if_neg d]
    by_cases q1 : w s < 48
    · rw [if_pos q1]
    · rw [if_neg q1]
      by_cases q2 : (57 : Int32) < w s
      · rw [if_pos q2]
      · exact absurd (q.mpr ⟨q1, q2⟩) d
theorem or_fin : ∀ a, a < 16 → ∀ c, c < 4 → (nI a ||| ((1 : Int32) <<< (nI c &&& 31))) = nI (a ||| 2 ^ c) ∧ (a ||| 2 ^ c) < 16 := by decide +kernel
theorem set_spec (hn : n ≤ 600) (hT : TR n v w) : ∀ f i x2 gu q, i ≤ n → n - i < f → x2 ≤ i → gu + x2 = 601 → q < 16 → ∀ nm : Int32, ∃ s' q', s' ≤ n ∧ (¬ kd v n s' = 4) ∧ q' < 16 ∧
    fR_readWays_l4 (nI n) v gu (nI q) (nI x2) (nI (tS v n i)) (nI (tE v n (tS v n i))) (kd v n (tS v n i)) (tV v n (tS v n i)) = (nI q', nI s', nI (tE v n s'), kd v n s', tV v n s') ∧
    ((kd v n s' = 2 ∧ ∃ X, fO_set_l2 (nI n) w f (nI q) (nI i) nm = ((-1 : Int32), nI s', X)) ∨ ((¬ kd v n s' = 2) ∧ ∃ X, fO_set_l2 (nI n) w f (nI q) (nI i) nm = (nI q', nI s', X))) := by
  intro f
  induction f with
  | zero => intro i x2 gu q h1 h2; omega
  | succ f ih =>
    intro i x2 gu q h1 h2 h3 h4 h5 nm
    obtain ⟨s1, s2, s3⟩ := tS_spec (v := v) h1
    obtain ⟨gu, rfl⟩ : ∃ z, gu = z + 1 := ⟨gu - 1, by omega⟩
    rw [fR_readWays_l4, fO_set_l2, dig_eq hn hT h1, bnd2_mk]
    revert s1 s2 s3
    generalize tS v n i = s
    intro s1 s2 s3
    by_cases c : kd v n s = 2
    · have hs := kd_lt_n (show ¬ kd v n s = 0 by rw [c]; decide)
      obtain ⟨t1, t2, t3, -⟩ := tE_spec (v := v) s2
      have t3 := t3 (by rw [c]; decide)
      rw [if_pos c, if_neg n10, if_neg (show ¬ (600 : Int32) ≤ nI x2 from fun z => by rw [i32_le, t32_600, nI_toInt (by omega)] at z; omega)]
      rcases num_m1 hn hT s2 (tS_id s3) (p := 3) (P := 3) rfl (by omega) nm with ⟨u, X, o⟩ | ⟨u, -, a, a1, a2, o⟩
      · rw [u, if_pos rfl, o, bnd3_mk, if_pos rfl]
        exact ⟨s, q, s2, s3, h5, rfl, Or.inl ⟨c, X, rfl⟩⟩
      · obtain ⟨r1, r2⟩ := or_fin q h5 a (by omega)
        rw [u, if_neg n10, o, bnd3_mk, if_neg n10, adv_t hn s2, bnd4_mk, a2, nI_1, r1]
        exact ih (tE v n s) (x2 + 1) gu (q ||| 2 ^ a) t2 (by omega) (by omega) (by omega) r2 _
    · rw [if_neg c, if_pos rfl, show fR_isNumberUpTo (nI s) (nI (tE v n s)) (kd v n s) (tV v n s) (3 : Int32) = 0 by rw [fR_isNumberUpTo, if_neg c], if_pos rfl, ite_self]
      exact ⟨s, q, s2, s3, h5, rfl, Or.inr ⟨c, nm, rfl⟩⟩
theorem set0 (hn : n ≤ 600) (hT : TR n v w) {i s : Nat} (h : i ≤ n) (hs : tS v n i = s) (nm : Int32) : ∃ s' q', s' ≤ n ∧ (¬ kd v n s' = 4) ∧ q' < 16 ∧
    fR_readWays (nI s) (nI (tE v n s)) (kd v n s) (tV v n s) (nI n) v = (nI q', nI s', nI (tE v n s'), kd v n s', tV v n s') ∧
    ((kd v n s' = 2 ∧ ∃ X, fO_set (nI n) (nI i) nm w = ((-1 : Int32), nI s', X)) ∨ ((¬ kd v n s' = 2) ∧ ∃ X, fO_set (nI n) (nI i) nm w = (nI q', nI s', X))) := by
  subst hs
  have g := set_spec hn hT (n - i + 1) i 0 ((600 - (0 : Int32).toInt).toNat + 1) 0 h (by omega) (by omega) (by rw [t32_0]; omega) (by omega) nm
  rw [fR_readWays, fO_set, fuelN hn h]
  exact g
theorem cl25 {c : Nat} (hc : c < 100) : ((25 : Int32) + nI c).toNatClampNeg = 25 + c := by
  rw [show (25 : Int32) = nI 25 from rfl, nI_add, nI_clamp (by omega)]
theorem cl33 {c : Nat} (hc : c < 100) : ((33 : Int32) + nI c).toNatClampNeg = 33 + c := by
  rw [show (33 : Int32) = nI 33 from rfl, nI_add, nI_clamp (by omega)]
theorem cl30 : (30 : Int32).toNatClampNeg = 30 := by decide
theorem cl31 : (31 : Int32).toNatClampNeg = 31 := by decide
theorem cl32 : (32 : Int32).toNatClampNeg = 32 := by decide
theorem r15 {q : Nat} (h : q < 16) : 0 ≤ (nI q).toInt ∧ (nI q).toInt ≤ 15 := by rw [nI_toInt (by omega)]; omega
theorem st_friend (hn : n ≤ 600) (hT : TR n v w) (D : DSim b t m k g p vt) {s : Nat} (hs : s ≤ n) (we nm : Int32) :
    OutR v n vt (bnd6 (fR_readFriend (nI s) (nI (tE v n s)) (kd v n s) (tV v n s) (nI n) v g) (fun r10 a1 a2 a3 a4 g' => (r10, a1, a2, a3, a4, b, t, m, k, g', p)))
      (bnd3 (fO_takesNumber (nI n) (nI (tE v n s)) nm w (4 : Int32) (-1 : Int32)) (fun r13 at13 nm13 => (if r13 = 0 then ((0 : Int32), at13, we, nm13, vt) else (bnd3 (fO_takes (nI n) at13 we w (6840691 : Int64)) (fun r30 at30 we30 => (if r30 = 0 then ((0 : Int32), at30, we30, nm13, vt) else (bnd3 (fO_set (nI n) at30 nm13 w) (fun r47 at47 nm47 => (if ((upd vt ((25 : Int32) + nm13).toNatClampNeg r47) ((25 : Int32) + nm13).toNatClampNeg) = (-1 : Int32) then ((0 : Int32), at47, we30, nm47, (upd vt ((25 : Int32) + nm13).toNatClampNeg r47)) else fO_statement_b347 (nI n) w at47 we30 nm47 (upd vt ((25 : Int32) + nm13).toNatClampNeg r47)))))))))) := by
  obtain ⟨e1, e2, e3, -⟩ := tE_spec (v := v) hs
  obtain ⟨x1, x2, x3⟩ := nx_spec (v := v) hs
  rw [fR_readFriend, adv_t hn hs, bnd4_mk]
  rcases num_m1 hn hT e2 rfl (p := 4) (P := 4) rfl (by omega) nm with ⟨u, X, o⟩ | ⟨u, -, c, c1, c2, o⟩
  · rw [o, bnd3_mk, if_pos rfl, show fR_isNumberUpTo (nI (nx v n s)) (nI (tE v n (nx v n s))) (kd v n (nx v n s)) (tV v n (nx v n s)) 4 = 0 from u, if_pos rfl, bnd6_mk]
    exact out_no (fun _ _ => rfl)
  · have u : fR_isNumberUpTo (nI (nx v n s)) (nI (tE v n (nx v n s))) (kd v n (nx v n s)) (tV v n (nx v n s)) 4 = 1 := u
    have c2 : tV v n (nx v n s) = nI c := c2
    have o : fO_takesNumber (nI n) (nI (tE v n s)) nm w 4 (-1 : Int32) = (1, nI (tE v n (nx v n s)), nI c) := o
    rw [o, bnd3_mk, if_neg n10, u, if_neg n10, adv_t hn x2, bnd4_mk, c2]
    obtain ⟨y1, y2, y3⟩ := nx_spec (v := v) x2
    rcases takes_spec hn hT (tE_spec (v := v) x2).2.1 rfl wc1 we with ⟨u1, X1, o1⟩ | ⟨u1, X1, o1⟩
    · have u1 : fR_isWord (nI (nx v n (nx v n s))) (nI (tE v n (nx v n (nx v n s)))) (kd v n (nx v n (nx v n s))) (nI n) v 1 = 0 := u1
      rw [o1, bnd3_mk, if_pos rfl, u1, if_pos rfl, bnd6_mk]
      exact out_no (fun _ _ => rfl)
    · have u1 : fR_isWord (nI (nx v n (nx v n s))) (nI (tE v n (nx v n (nx v n s)))) (kd v n (nx v n (nx v n s))) (nI n) v 1 = 1 := u1
      have o1 : fO_takes (nI n) (nI (tE v n (nx v n s))) we w 6840691 = (1, nI (tE v n (nx v n (nx v n s))), X1) := o1
      rw [o1, bnd3_mk, if_neg n10, u1, if_neg n10, adv_t hn y2, bnd4_mk]
      obtain ⟨s', q', a1, a2, a3, a4, a5⟩ := set0 hn hT (tE_spec (v := v) y2).2.1 (s := nx v n (nx v n (nx v n s))) rfl (nI c)
      rw [a4, bnd5_mk, bnd65, fT_giveWays, nI_clamp (show c < 2 ^ 31 by omega), cl25 (by omega)]
      rcases a5 with ⟨k2, X2, o2⟩ | ⟨k2, X2, o2⟩
      · rw [o2, bnd3_mk, pk_us, if_pos rfl, fR_endsStatement, if_neg (by rw [k2]; decide), bnd5_mk]
        exact out_no (fun i hi => pk_un (by omega))
      · rw [o2, bnd3_mk, pk_us, if_neg (nI_m1 (by omega))]
        exact fin_out hn hT a1 (tS_id a2) (ds_ways D (by omega) (r15 a3)) (fun i hi => pk_un (by omega)) _ _
theorem st_broken (hn : n ≤ 600) (hT : TR n v w) (D : DSim b t m k g p vt) {s : Nat} (hs : s ≤ n) (we nm : Int32) :
    OutR v n vt (bnd4 (fR_advance (nI s) (nI (tE v n s)) (kd v n s) (tV v n s) (nI n) v) (fun a1 a2 a3 a4 => (bnd5 (fR_readWays a1 a2 a3 a4 (nI n) v) (fun r32 b1 b2 b3 b4 => (bnd5 (fR_endsStatement b1 b2 b3 b4 (nI n) v) (fun r39 c1 c2 c3 c4 => (r39, c1, c2, c3, c4, (fT_breakWays b r32), t, m, k, g, p)))))))
      (bnd3 (fO_set (nI n) (nI (tE v n s)) nm w) (fun r86 at86 nm86 => (if ((upd vt (30 : Int32).toNatClampNeg r86) (30 : Int32).toNatClampNeg) = (-1 : Int32) then ((0 : Int32), at86, we, nm86, (upd vt (30 : Int32).toNatClampNeg r86)) else fO_statement_b347 (nI n) w at86 we nm86 (upd vt (30 : Int32).toNatClampNeg r86)))) := by
  obtain ⟨e1, e2, e3, -⟩ := tE_spec (v := v) hs
  rw [adv_t hn hs, bnd4_mk]
  obtain ⟨s', q', a1, a2, a3, a4, a5⟩ := set0 hn hT e2 (s := nx v n s) rfl nm
  rw [a4, bnd5_mk, fT_breakWays]
  rcases a5 with ⟨k2, X2, o2⟩ | ⟨k2, X2, o2⟩
  · rw [o2, bnd3_mk, pk_us, if_pos rfl, fR_endsStatement, if_neg (by rw [k2]; decide), bnd5_mk]
    exact out_no (fun i hi => pk_un (by rw [cl30]; omega))
  · rw [o2, bnd3_mk, pk_us, if_neg (nI_m1 (by omega)), cl30]
    exact fin_out hn hT a1 (tS_id a2) (ds_broken D (r15 a3)) (fun i hi => pk_un (by omega)) _ _
theorem st_retries (hn : n ≤ 600) (hT : TR n v w) (D : DSim b t m k g p vt) {s : Nat} (hs : s ≤ n) (we nm : Int32) :
    OutR v n vt (bnd6 (fR_readRetries (nI s) (nI (tE v n s)) (kd v n s) (tV v n s) (nI n) v t) (fun r53 a1 a2 a3 a4 t' => (r53, a1, a2, a3, a4, b, t', m, k, g, p)))
      (bnd3 (fO_takesNumber (nI n) (nI (tE v n s)) nm w (3 : Int32) (-1 : Int32)) (fun r116 at116 nm116 => (if r116 = 0 then ((0 : Int32), at116, we, nm116, vt) else fO_statement_b347 (nI n) w at116 we nm116 (upd vt (31 : Int32).toNatClampNeg nm116)))) := by
  obtain ⟨e1, e2, e3, -⟩ := tE_spec (v := v) hs
  obtain ⟨x1, x2, x3⟩ := nx_spec (v := v) hs
  rw [fR_readRetries, adv_t hn hs, bnd4_mk]
  rcases num_m1 hn hT e2 (s := nx v n s) rfl (p := 3) (P := 3) rfl (by omega) nm with ⟨u, X, o⟩ | ⟨u, -, c, c1, c2, o⟩
  · rw [o, bnd3_mk, if_pos rfl, u, if_pos rfl, bnd6_mk]
    exact out_no (fun _ _ => rfl)
  · rw [o, bnd3_mk, if_neg n10, u, if_neg n10, adv_t hn x2, bnd4_mk, bnd65, c2, fT_allowTries, cl31]
    exact fin_out hn hT (tE_spec (v := v) x2).2.1 rfl (ds_retries D (by rw [nI_toInt (by omega)]; omega)) (fun i hi => pk_un (by omega)) _ _
theorem st_mend (hn : n ≤ 600) (hT : TR n v w) (D : DSim b t m k g p vt) {s : Nat} (hs : s ≤ n) (we nm : Int32) :
    OutR v n vt (bnd6 (fR_readMend (nI s) (nI (tE v n s)) (kd v n s) (tV v n s) (nI n) v m) (fun r67 a1 a2 a3 a4 m' => (r67, a1, a2, a3, a4, b, t, m', k, g, p)))
      (bnd3 (fO_name (nI n) (nI (tE v n s)) we w) (fun r149 at149 we149 => (if r149 = (-1 : Int32) then ((0 : Int32), at149, we149, nm, vt) else fO_statement_b347 (nI n) w at149 we149 nm (upd vt (32 : Int32).toNatClampNeg ((vt (32 : Int32).toNatClampNeg) ||| ((1 : Int32) <<< (r149 &&& 31))))))) := by
  obtain ⟨e1, e2, e3, -⟩ := tE_spec (v := v) hs
  obtain ⟨x1, x2, x3⟩ := nx_spec (v := v) hs
  rw [fR_readMend, adv_t hn hs, bnd4_mk]
  rcases name_spec hn hT e2 (s := nx v n s) rfl we with ⟨u, X, o⟩ | ⟨q, q1, u, -, X, o⟩
  · rw [o, bnd3_mk, if_pos rfl, u, if_pos rfl, bnd6_mk]
    exact out_no (fun _ _ => rfl)
  · rw [o, bnd3_mk, if_neg (nI_m1 (by omega)), u, if_neg (nI_m1 (by omega)), adv_t hn x2, bnd4_mk, bnd65, cl32]
    exact fin_out hn hT (tE_spec (v := v) x2).2.1 rfl (ds_on D (by omega)) (fun i hi => pk_un (by omega)) _ _
theorem fb_fin : ∀ c, c < 4 → (3 : Int32) + nI c = nI (3 + c) ∧ (8 : Int32) <<< (nI c &&& 31) = (1 : Int32) <<< (nI (3 + c) &&& 31) := by decide +kernel
theorem st_forbid (hn : n ≤ 600) (hT : TR n v w) (D : DSim b t m k g p vt) {s : Nat} (hs : s ≤ n) (we nm : Int32) :
    OutR v n vt (bnd6 (fR_readForbid (nI s) (nI (tE v n s)) (kd v n s) (tV v n s) (nI n) v m) (fun r81 a1 a2 a3 a4 m' => (r81, a1, a2, a3, a4, b, t, m', k, g, p)))
      (bnd3 (fO_takesNumber (nI n) (nI (tE v n s)) nm w (3 : Int32) (-1 : Int32)) (fun r189 at189 nm189 => (if r189 = 0 then ((0 : Int32), at189, we, nm189, vt) else fO_statement_b347 (nI n) w at189 we nm189 (upd vt (32 : Int32).toNatClampNeg ((vt (32 : Int32).toNatClampNeg) ||| ((8 : Int32) <<< (nm189 &&& 31))))))) := by
  obtain ⟨e1, e2, e3, -⟩ := tE_spec (v := v) hs
  obtain ⟨x1, x2, x3⟩ := nx_spec (v := v) hs
  rw [fR_readForbid, adv_t hn hs, bnd4_mk]
  rcases num_m1 hn hT e2 (s := nx v n s) rfl (p := 3) (P := 3) rfl (by omega) nm with ⟨u, X, o⟩ | ⟨u, -, c, c1, c2, o⟩
  · rw [o, bnd3_mk, if_pos rfl, u, if_pos rfl, bnd6_mk]
    exact out_no (fun _ _ => rfl)
  · obtain ⟨f1, f2⟩ := fb_fin c (by omega)
    rw [o, bnd3_mk, if_neg n10, u, if_neg n10, adv_t hn x2, bnd4_mk, bnd65, c2, f1, f2, cl32]
    exact fin_out hn hT (tE_spec (v := v) x2).2.1 rfl (ds_on D (by omega)) (fun i hi => pk_un (by omega)) _ _
theorem cost_tail (hn : n ≤ 600) (hT : TR n v w) (D : DSim b t m k g p vt) {s q : Nat} (hs : s ≤ n) (hq : q < 7) (we nm : Int32) :
    OutR v n vt (bnd6 (fR_readCost_b41 (nI n) v (nI q) (nI s) (nI (tE v n s)) (kd v n s) (tV v n s) p) (fun r95 a1 a2 a3 a4 p' => (r95, a1, a2, a3, a4, b, t, m, k, g, p')))
      (fO_statement_b265 (nI n) w (nI q) (nI (tE v n s)) we nm vt) := by
  obtain ⟨e1, e2, e3, -⟩ := tE_spec (v := v) hs
  obtain ⟨x1, x2, x3⟩ := nx_spec (v := v) hs
  rw [fR_readCost_b41, fO_statement_b265, if_neg (nI_m1 (by omega)), adv_t hn hs, bnd4_mk]
  rcases num_m1 hn hT e2 (s := nx v n s) rfl (p := 100) (P := 100) rfl (by omega) nm with ⟨u, X, o⟩ | ⟨u, -, c, c1, c2, o⟩
  · rw [o, bnd3_mk, if_pos rfl, u, if_pos rfl, bnd6_mk]
    exact out_no (fun _ _ => rfl)
  · rw [o, bnd3_mk, if_neg n10, u, if_neg n10, adv_t hn x2, bnd4_mk, bnd65, c2, fT_priceMend, nI_clamp (show q < 2 ^ 31 by omega), cl33 (by omega)]
    exact fin_out hn hT (tE_spec (v := v) x2).2.1 rfl (ds_cost D hq (by rw [nI_toInt (by omega)]; omega)) (fun i hi => pk_un (by omega)) _ _
theorem st_cost (hn : n ≤ 600) (hT : TR n v w) (D : DSim b t m k g p vt) {s : Nat} (hs : s ≤ n) (we nm : Int32) :
    OutR v n vt (bnd6 (fR_readCost (nI s) (nI (tE v n s)) (kd v n s) (tV v n s) (nI n) v p) (fun r95 a1 a2 a3 a4 p' => (r95, a1, a2, a3, a4, b, t, m, k, g, p')))
      (bnd3 (fO_name (nI n) (nI (tE v n s)) we w) (fun r228 at228 we228 => (if r228 = (-1 : Int32) then (bnd3 (fO_takes (nI n) at228 we228 w (112628846455140 : Int64)) (fun r241 at241 we241 => (if r241 = 0 then ((0 : Int32), at241, we241, nm, vt) else (bnd3 (fO_takesNumber (nI n) at241 nm w (3 : Int32) (-1 : Int32)) (fun r250 at250 nm250 => (if r250 = 0 then ((0 : Int32), at250, we241, nm250, vt) else fO_statement_b265 (nI n) w ((3 : Int32) + nm250) at250 we241 nm250 vt)))))) else fO_statement_b265 (nI n) w r228 at228 we228 nm vt))) := by
  obtain ⟨e1, e2, e3, -⟩ := tE_spec (v := v) hs
  obtain ⟨x1, x2, x3⟩ := nx_spec (v := v) hs
  rw [fR_readCost, adv_t hn hs, bnd4_mk]
  rcases name_spec hn hT e2 (s := nx v n s) rfl we with ⟨u, X, o⟩ | ⟨q, q1, u, u8, X, o⟩
  · rw [o, bnd3_mk, if_pos rfl]
    rcases takes_spec hn hT x2 (tS_id x3) wc8 X with ⟨u1, X1, o1⟩ | ⟨u1, X1, o1⟩
    · rw [o1, bnd3_mk, if_pos rfl, u1, if_pos rfl, u, fR_readCost_b41, if_pos rfl, bnd6_mk]
      exact out_no (fun _ _ => rfl)
    · rw [o1, bnd3_mk, if_neg n10, u1, if_neg n10, adv_t hn x2, bnd4_mk]
      obtain ⟨y1, y2, y3⟩ := nx_spec (v := v) x2
      rcases num_m1 hn hT (tE_spec (v := v) x2).2.1 (s := nx v n (nx v n s)) rfl (p := 3) (P := 3) rfl (by omega) nm with ⟨u2, X2, o2⟩ | ⟨u2, -, c, c1, c2, o2⟩
      · rw [o2, bnd3_mk, if_pos rfl, u2, if_pos rfl, fR_readCost_b41, if_pos rfl, bnd6_mk]
        exact out_no (fun _ _ => rfl)
      · rw [o2, bnd3_mk, if_neg n10, u2, if_neg n10]
        have f1 := (fb_fin c (by omega)).1
        rw [f1, show (3 : Int32) + tV v n (nx v n (nx v n s)) = nI (3 + c) by rw [c2, f1]]
        exact cost_tail hn hT D y2 (by omega) _ _
  · rw [o, bnd3_mk, if_neg (nI_m1 (by omega)), u8, if_pos rfl, u]
    exact cost_tail hn hT D x2 (by omega) _ _
theorem st_must (hn : n ≤ 600) (hT : TR n v w) (D : DSim b t m k g p vt) {s : Nat} (hs : s ≤ n) (we nm : Int32) :
    OutR v n vt (bnd6 (fR_readMust (nI s) (nI (tE v n s)) (kd v n s) (tV v n s) (nI n) v k) (fun r109 a1 a2 a3 a4 k' => (r109, a1, a2, a3, a4, b, t, m, k', g, p)))
      (bnd3 (fO_takesNumber (nI n) (nI (tE v n s)) nm w (4 : Int32) (-1 : Int32)) (fun r306 at306 nm306 => (if r306 = 0 then ((0 : Int32), at306, we, nm306, vt) else (bnd3 (fO_takesNumber (nI n) at306 nm306 w (4 : Int32) nm306) (fun r322 at322 nm322 => (if r322 = 0 then ((0 : Int32), at322, we, nm322, vt) else fO_statement_b347 (nI n) w at322 we nm322 (upd vt ((40 : Int32) + (fO_pair nm306 nm322)).toNatClampNeg (1 : Int32)))))))) := by
  obtain ⟨e1, e2, e3, -⟩ := tE_spec (v := v) hs
  obtain ⟨x1, x2, x3⟩ := nx_spec (v := v) hs
  rw [fR_readMust, adv_t hn hs, bnd4_mk]
  rcases num_m1 hn hT e2 (s := nx v n s) rfl (p := 4) (P := 4) rfl (by omega) nm with ⟨u, X, o⟩ | ⟨u, -, c, c1, c2, o⟩
  · rw [o, bnd3_mk, if_pos rfl, u, if_pos rfl, bnd6_mk]
    exact out_no (fun _ _ => rfl)
  · rw [o, bnd3_mk, if_neg n10, u, if_neg n10, adv_t hn x2, bnd4_mk, c2]
    obtain ⟨y1, y2, y3⟩ := nx_spec (v := v) x2
    rcases num_spec hn hT (tE_spec (v := v) x2).2.1 (s := nx v n (nx v n s)) rfl (p := 4) (P := 4) rfl (by omega) (nI c) (nI c) with ⟨u2, X2, o2⟩ | ⟨u2, -, d, d1, d2, ⟨d3, X2, o2⟩ | ⟨d3, o2⟩⟩
    · rw [o2, bnd3_mk, if_pos rfl, u2, if_pos rfl, bnd6_mk]
      exact out_no (fun _ _ => rfl)
    · rw [o2, bnd3_mk, if_pos rfl, u2, if_neg n10, d2, if_pos d3, bnd6_mk]
      exact out_no (fun _ _ => rfl)
    · have hcd : ¬ c = d := fun z => d3 (by rw [z])
      obtain ⟨g1, g2, g3, g4⟩ := (pair_fin c (by omega) d (by omega)).resolve_left hcd
      have e40 : ((40 : Int32) + fO_pair (nI c) (nI d)).toNatClampNeg = 40 + pairN (min c d) (max c d) := by
        rw [g1, show (40 : Int32) = nI 40 from rfl, nI_add, nI_clamp (by omega)]
      rw [o2, bnd3_mk, if_neg n10, u2, if_neg n10, d2, if_neg d3, adv_t hn y2, bnd4_mk, bnd65, e40]
      exact fin_out hn hT (tE_spec (v := v) y2).2.1 rfl (ds_must D (by omega) (by omega) hcd) (fun i hi => pk_un (by omega)) _ _
theorem out_wrap {E : Int32 × Int32 × Int32 × Int32 × Int32 × Int32} {y : YT} (h : OutR v n vt (bnd6 E (fun r109 a1 a2 a3 a4 k' => (r109, a1, a2, a3, a4, b, t, m, k', g, p))) y) :
    OutR v n vt (bnd6 E (fun r109 a1 a2 a3 a4 k' => (if r109 = 0 then ((0 : Int32), a1, a2, a3, a4, b, t, m, k', g, p) else ((1 : Int32), a1, a2, a3, a4, b, t, m, k', g, p)))) y := by
  obtain ⟨E1, E2⟩ := E
  obtain ⟨h1, h2⟩ := h
  unfold bnd6 at h2 ⊢
  dsimp only at h2 ⊢
  rcases h2 with ⟨q1, q2⟩ | ⟨q1, q2⟩
  · subst q1; rw [if_pos rfl]; exact ⟨h1, Or.inl ⟨rfl, q2⟩⟩
  · subst q1; rw [if_neg n10]; exact ⟨h1, Or.inr ⟨rfl, q2⟩⟩
theorem st_eq (hn : n ≤ 600) (hT : TR n v w) (D : DSim b t m k g p vt) {s : Nat} (hs : s ≤ n) (h4 : ¬ kd v n s = 4) (we nm : Int32) :
    OutR v n vt (fR_readStatement (nI s) (nI (tE v n s)) (kd v n s) (tV v n s) (nI n) v b t m k g p) (fO_statement (nI n) (nI s) we nm vt w) := by
  have T := fun {si : Nat} {C : Int64} (hC : WC si C) (we : Int32) => takes_spec hn hT hs (tS_id h4) hC we
  rw [fR_readStatement, fO_statement]
  rcases T wc0 we with ⟨u0, X0, o0⟩ | ⟨u0, X0, o0⟩
  rotate_left
  · rw [u0, if_neg n10, o0, bnd3_mk, if_neg n10]
    exact st_friend hn hT D hs _ _
  rw [u0, if_pos rfl, o0, bnd3_mk, if_pos rfl]
  rcases T wc2 X0 with ⟨u2, X2, o2⟩ | ⟨u2, X2, o2⟩
  rotate_left
  · rw [u2, if_neg n10, o2, bnd3_mk, if_neg n10]
    exact st_broken hn hT D hs _ _
  rw [u2, if_pos rfl, o2, bnd3_mk, if_pos rfl]
  rcases T wc3 X2 with ⟨u3, X3, o3⟩ | ⟨u3, X3, o3⟩
  rotate_left
  · rw [u3, if_neg n10, o3, bnd3_mk, if_neg n10]
    exact st_retries hn hT D hs _ _
  rw [u3, if_pos rfl, o3, bnd3_mk, if_pos rfl]
  rcases T wc4 X3 with ⟨u4, X4, o4⟩ | ⟨u4, X4, o4⟩
  rotate_left
  · rw [u4, if_neg n10, o4, bnd3_mk, if_neg n10]
    exact st_mend hn hT D hs _ _
  rw [u4, if_pos rfl, o4, bnd3_mk, if_pos rfl]
  rcases T wc8 X4 with ⟨u8, X8, o8⟩ | ⟨u8, X8, o8⟩
  rotate_left
  · rw [u8, if_neg n10, o8, bnd3_mk, if_neg n10]
    exact st_forbid hn hT D hs _ _
  rw [u8, if_pos rfl, o8, bnd3_mk, if_pos rfl]
  rcases T wc9 X8 with ⟨u9, X9, o9⟩ | ⟨u9, X9, o9⟩
  rotate_left
  · rw [u9, if_neg n10, o9, bnd3_mk, if_neg n10]
    exact st_cost hn hT D hs _ _
  rw [u9, if_pos rfl, o9, bnd3_mk, if_pos rfl]
  rcases T wc10 X9 with ⟨u10, X10, o10⟩ | ⟨u10, X10, o10⟩
  · rw [u10, if_pos rfl, o10, bnd3_mk, if_pos rfl]
    exact out_no (fun _ _ => rfl)
  · rw [u10, if_neg n10, o10, bnd3_mk, if_neg n10]
    exact out_wrap (st_must hn hT D hs _ _)
end STM
