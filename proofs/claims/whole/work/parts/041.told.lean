-- X4_pairNumber
def fT_pairNumber (p0 : Int32) (p1 : Int32) : Int32 := (((5 : Int32) * p0) + p1)
set_option maxHeartbeats 4000000 in
set_option maxRecDepth 100000 in
theorem kT_pairNumber (l : Launch) (dC : Nat → ClassId) (dI : Nat → Nat → Nat) (cI cB : ClassId) (sz : Nat) (p0 : Int32) (p1 : Int32) : Met l yX4_pairNumber wsX4_pairNumber ({ frames := 0, cells := 0, slots := 0, locals := 0 }) (va_Pc [.int p0, .int p1] (PB (dC, dI) vwCl [(cI, .int), (cB, .byte)] [] sz)) (va_Qi (fun (r : Int32) (u : Unit) => r = fT_pairNumber p0 p1 ∧ ((0 ≤ p0.toInt ∧ p0.toInt < 5) ∧ (0 ≤ p1.toInt ∧ p1.toInt < 5) → (0 ≤ r.toInt ∧ r.toInt < 25))) (fun (_ : Unit) t => va_P (dC, dI) vwCl [] t.heap ∧ va_K (dC, dI) vwCl [(cI, .int), (cB, .byte)] t ∧ va_D (va_A [] sz) []) (va_A [] sz)) 0 0 (va_A [] sz) := by
  refine Met.ofW (cc := cX4_pairNumber) (maxL := 2) (ret := (some .int)) (by decide) rfl ?_
  intro p e s m args below meth c s₁ B hml hv
  obtain ⟨rfl, hsz, hP, hK, hD0⟩ := hv
  have hx := B.exec
  have hb := B.bytes
  have hr := B.returns
  have hts := atoms_spec (ws := wsX4_pairNumber) B.pre
  have hown : s.vm.findClass RX4 = some m.cls := findClass_of_methodNamed B.named
  have hlocks := B.notSynchronized
  clear B
  subst hsz
  have hD := hD0.self (sz := s.heap.size)
  clear hD0
  generalize hAe : va_A [] s.heap.size = A at hD ⊢
  have hA : ∀ q : Nat, s.heap.size ≤ q → A q := fun q h => by rw [← hAe]; exact Or.inr h
  clear hAe
  have hS : va_S A s.heap s.heap [] := va_S.rf
  have hP : va_P (dC, dI) vwCl [] s.heap := hP
  have hl := lv_entry ([.int p0, .int p1]) (n := 2) (Nat.le_of_ble_eq_true rfl)
  rw [lg_entry_eq]
  generalize (lg_sl ([.int p0, .int p1]) ++ List.replicate (2 - (lg_sl ([.int p0, .int p1])).length) Slot.unset).toArray = ls at hl ⊢
  have hl : lv_has ls 2 [(0, .int p0), (1, .int p1)] := hl
  obtain ⟨RES, hRES⟩ : ∃ y, y = fT_pairNumber p0 p1 := ⟨_, rfl⟩
  have hE := hRES.symm
  rw [fT_pairNumber] at hE
  refine lv_iconst (v := (5 : Int32)) hx hb dX4_pairNumber_0 (by decide) ?_
  refine lv_iload_n hx hb dX4_pairNumber_1 rfl (lv_at hl 0 rfl) ?_
  refine lv_imul hx hb dX4_pairNumber_2 ?_
  refine lv_iload_n hx hb dX4_pairNumber_3 rfl (lv_at hl 1 rfl) ?_
  refine lv_iadd hx hb dX4_pairNumber_4 ?_
  exact W.iret (v := (((5 : Int32) * p0) + p1)) hx hb hr (fun t ht hW => ⟨⟨(((5 : Int32) * p0) + p1), (), rfl, ⟨hE.trans hRES, (fun h => pairn_f h.1 h.2)⟩, (by rw [ht]; exact hP), va_K.moved hW.alike hK, hD⟩, hS.F ht⟩) hS.2.2 dX4_pairNumber_5
-- X4_setAsAtFirst
def fT_setAsAtFirst_l44   : Nat → Int32 → Int32 → Int32 → Int32 → Int32 → (Nat → Int32) → (Nat → Int32) → (Nat → Int32) → (Int32 × Int32 × Int32 × Int32 × (Nat → Int32) × (Nat → Int32) × (Nat → Int32))
  | 0, x1_44, T_brokenWays, T_triesAllowed, T_mends, T_talkers, vTg_2, vTp_22, vTm_44 => (T_brokenWays, T_triesAllowed, T_mends, T_talkers, vTg_2, vTp_22, vTm_44)
  | n_44 + 1, x1_44, T_brokenWays, T_triesAllowed, T_mends, T_talkers, vTg_2, vTp_22, vTm_44 => (if (25 : Int32) ≤ x1_44 then ((0 : Int32), (0 : Int32), (0 : Int32), (0 : Int32), vTg_2, vTp_22, vTm_44) else (fT_setAsAtFirst_l44 n_44) (x1_44 + (1 : Int32)) T_brokenWays T_triesAllowed T_mends T_talkers vTg_2 vTp_22 (upd vTm_44 x1_44.toNatClampNeg (-1 : Int32)))
def fT_setAsAtFirst_l22   : Nat → Int32 → Int32 → Int32 → Int32 → Int32 → (Nat → Int32) → (Nat → Int32) → (Nat → Int32) → (Int32 × Int32 × Int32 × Int32 × (Nat → Int32) × (Nat → Int32) × (Nat → Int32))
  | 0, x1_22, T_brokenWays, T_triesAllowed, T_mends, T_talkers, vTg_2, vTp_22, vTm => (T_brokenWays, T_triesAllowed, T_mends, T_talkers, vTg_2, vTp_22, vTm)
  | n_22 + 1, x1_22, T_brokenWays, T_triesAllowed, T_mends, T_talkers, vTg_2, vTp_22, vTm => (if (7 : Int32) ≤ x1_22 then fT_setAsAtFirst_l44 (26) (0 : Int32) T_brokenWays T_triesAllowed T_mends T_talkers vTg_2 vTp_22 vTm else (fT_setAsAtFirst_l22 n_22) (x1_22 + (1 : Int32)) T_brokenWays T_triesAllowed T_mends T_talkers vTg_2 (upd vTp_22 x1_22.toNatClampNeg (10 : Int32)) vTm)
def fT_setAsAtFirst_l2   : Nat → Int32 → Int32 → Int32 → Int32 → Int32 → (Nat → Int32) → (Nat → Int32) → (Nat → Int32) → (Int32 × Int32 × Int32 × Int32 × (Nat → Int32) × (Nat → Int32) × (Nat → Int32))
  | 0, x1_2, T_brokenWays, T_triesAllowed, T_mends, T_talkers, vTg_2, vTp, vTm => (T_brokenWays, T_triesAllowed, T_mends, T_talkers, vTg_2, vTp, vTm)
  | n_2 + 1, x1_2, T_brokenWays, T_triesAllowed, T_mends, T_talkers, vTg_2, vTp, vTm => (if (5 : Int32) ≤ x1_2 then fT_setAsAtFirst_l22 (8) (0 : Int32) T_brokenWays T_triesAllowed T_mends T_talkers vTg_2 vTp vTm else (fT_setAsAtFirst_l2 n_2) (x1_2 + (1 : Int32)) T_brokenWays T_triesAllowed T_mends T_talkers (upd vTg_2 x1_2.toNatClampNeg (0 : Int32)) vTp vTm)
def fT_setAsAtFirst (T_brokenWays : Int32) (T_triesAllowed : Int32) (T_mends : Int32) (T_talkers : Int32) (vTg : Nat → Int32) (vTp : Nat → Int32) (vTm : Nat → Int32) : Int32 × Int32 × Int32 × Int32 × (Nat → Int32) × (Nat → Int32) × (Nat → Int32) := fT_setAsAtFirst_l2 (6) (0 : Int32) T_brokenWays T_triesAllowed T_mends T_talkers vTg vTp vTm
set_option maxHeartbeats 4000000 in
set_option maxRecDepth 100000 in
theorem kT_setAsAtFirst (l : Launch) (dC : Nat → ClassId) (dI : Nat → Nat → Nat) (cI cB : ClassId) (aT aTg aTp aTm : Nat) (sz : Nat) (T_brokenWays : Int32) (T_triesAllowed : Int32) (T_mends : Int32) (T_talkers : Int32) (vTg : Nat → Int32) (vTp : Nat → Int32) (vTm : Nat → Int32) : Met l yX4_setAsAtFirst wsX4_setAsAtFirst ({ frames := 0, cells := 0, slots := 0, locals := 0 }) (va_Pc [.ref aT] (PB (dC, dI) vwCl [(cI, .int), (cB, .byte)] [(aT, .inr (4, [.ref aTg, .ref aTp, .ref aTm, .int T_brokenWays, .int T_triesAllowed, .int T_mends, .int T_talkers])), (aTg, .inl (cI, 5, .inl vTg)), (aTp, .inl (cI, 7, .inl vTp)), (aTm, .inl (cI, 25, .inl vTm))] sz)) (va_Qv (fun (u : Int32 × Int32 × Int32 × Int32 × (Nat → Int32) × (Nat → Int32) × (Nat → Int32)) => u = fT_setAsAtFirst T_brokenWays T_triesAllowed T_mends T_talkers vTg vTp vTm ∧ (u.2.1.toInt = 0)) (fun (u : Int32 × Int32 × Int32 × Int32 × (Nat → Int32) × (Nat → Int32) × (Nat → Int32)) t => va_P (dC, dI) vwCl [(aT, .inr (4, [.ref aTg, .ref aTp, .ref aTm, .int u.1, .int u.2.1, .int u.2.2.1, .int u.2.2.2.1])), (aTg, .inl (cI, 5, .inl u.2.2.2.2.1)), (aTp, .inl (cI, 7, .inl u.2.2.2.2.2.1)), (aTm, .inl (cI, 25, .inl u.2.2.2.2.2.2))] t.heap ∧ va_K (dC, dI) vwCl [(cI, .int), (cB, .byte)] t ∧ va_D (va_A [(aT, .inr (4, [.ref aTg, .ref aTp, .ref aTm, .int T_brokenWays, .int T_triesAllowed, .int T_mends, .int T_talkers])), (aTg, .inl (cI, 5, .inl vTg)), (aTp, .inl (cI, 7, .inl vTp)), (aTm, .inl (cI, 25, .inl vTm))] sz) [(aT, .inr (4, [.ref aTg, .ref aTp, .ref aTm, .int u.1, .int u.2.1, .int u.2.2.1, .int u.2.2.2.1])), (aTg, .inl (cI, 5, .inl u.2.2.2.2.1)), (aTp, .inl (cI, 7, .inl u.2.2.2.2.2.1)), (aTm, .inl (cI, 25, .inl u.2.2.2.2.2.2))]) (va_A [(aT, .inr (4, [.ref aTg, .ref aTp, .ref aTm, .int T_brokenWays, .int T_triesAllowed, .int T_mends, .int T_talkers])), (aTg, .inl (cI, 5, .inl vTg)), (aTp, .inl (cI, 7, .inl vTp)), (aTm, .inl (cI, 25, .inl vTm))] sz)) 0 0 (va_A [(aT, .inr (4, [.ref aTg, .ref aTp, .ref aTm, .int T_brokenWays, .int T_triesAllowed, .int T_mends, .int T_talkers])), (aTg, .inl (cI, 5, .inl vTg)), (aTp, .inl (cI, 7, .inl vTp)), (aTm, .inl (cI, 25, .inl vTm))] sz) := by
  refine Met.ofW (cc := cX4_setAsAtFirst) (maxL := 2) (ret := none) (by decide) rfl ?_
  intro p e s m args below meth c s₁ B hml hv
  obtain ⟨rfl, hsz, hP, hK, hD0⟩ := hv
  have hx := B.exec
  have hb := B.bytes
  have hr := B.returns
  have hts := atoms_spec (ws := wsX4_setAsAtFirst) B.pre
  have hown : s.vm.findClass RX4 = some m.cls := findClass_of_methodNamed B.named
  have hlocks := B.notSynchronized
  clear B
  subst hsz
  have hD := hD0.self (sz := s.heap.size)
  clear hD0
  generalize hAe : va_A [(aT, .inr (4, [.ref aTg, .ref aTp, .ref aTm, .int T_brokenWays, .int T_triesAllowed, .int T_mends, .int T_talkers])), (aTg, .inl (cI, 5, .inl vTg)), (aTp, .inl (cI, 7, .inl vTp)), (aTm, .inl (cI, 25, .inl vTm))] s.heap.size = A at hD ⊢
  have hA : ∀ q : Nat, s.heap.size ≤ q → A q := fun q h => by rw [← hAe]; exact Or.inr h
  clear hAe
  have hS : va_S A s.heap s.heap [] := va_S.rf
  have hP : va_P (dC, dI) vwCl [(aT, .inr (4, [.ref aTg, .ref aTp, .ref aTm, .int T_brokenWays, .int T_triesAllowed, .int T_mends, .int T_talkers])), (aTg, .inl (cI, 5, .inl vTg)), (aTp, .inl (cI, 7, .inl vTp)), (aTm, .inl (cI, 25, .inl vTm))] s.heap := hP
  have hl := lv_entry ([.ref aT]) (n := 2) (Nat.le_of_ble_eq_true rfl)
  rw [lg_entry_eq]
  generalize (lg_sl ([.ref aT]) ++ List.replicate (2 - (lg_sl ([.ref aT])).length) Slot.unset).toArray = ls at hl ⊢
  have hl : lv_has ls 2 [(0, .ref aT)] := hl
  obtain ⟨RES, hRES⟩ : ∃ y, y = fT_setAsAtFirst T_brokenWays T_triesAllowed T_mends T_talkers vTg vTp vTm := ⟨_, rfl⟩
  have hE := hRES.symm
  rw [fT_setAsAtFirst] at hE
  refine W.nameQ (fun Q9 hQ9 => ?_)
  refine lv_iconst (v := (0 : Int32)) hx hb dX4_setAsAtFirst_0 (by decide) ?_
  refine lv_istore_n (lv' := [(1, .int (0 : Int32)), (0, .ref aT)]) hx hb dX4_setAsAtFirst_1 rfl hl (by decide) rfl (fun ls hl => ?_)
  have b_2 : ∀ (n_2 : Nat) (x1_2 : Int32) (vTg_2 : Nat → Int32), (0 ≤ x1_2.toInt ∧ x1_2.toInt ≤ 5) → ((5 - x1_2.toInt).toNat : Nat) < n_2 → fT_setAsAtFirst_l2 n_2 x1_2 T_brokenWays T_triesAllowed T_mends T_talkers vTg_2 vTp vTm = RES → ∀ (H : Heap) (locs : List Loc) (ls : Array Slot), va_P (dC, dI) vwCl [(aT, .inr (4, [.ref aTg, .ref aTp, .ref aTm, .int T_brokenWays, .int T_triesAllowed, .int T_mends, .int T_talkers])), (aTg, .inl (cI, 5, .inl vTg_2)), (aTp, .inl (cI, 7, .inl vTp)), (aTm, .inl (cI, 25, .inl vTm))] H → va_D A [(aT, .inr (4, [.ref aTg, .ref aTp, .ref aTm, .int T_brokenWays, .int T_triesAllowed, .int T_mends, .int T_talkers])), (aTg, .inl (cI, 5, .inl vTg_2)), (aTp, .inl (cI, 7, .inl vTp)), (aTm, .inl (cI, 25, .inl vTm))] → va_S A s.heap H locs → lv_has ls 2 [(0, .ref aT), (1, .int x1_2)] → W p l e (headSpec wsX4_setAsAtFirst ({ frames := 0, cells := 0, slots := 0, locals := 0 })).room s m ([.ref aT] : List Value).toArray below meth c H locs 0 0 Q9 (F0 m 2 ls []) := by
    intro n_2
    induction n_2 with
    | zero => intro x1_2 vTg_2 hi0_2 hm_2 hE; exact absurd hm_2 (Nat.not_lt_zero _)
    | succ n_2 ih_2 =>
      intro x1_2 vTg_2 hi0_2 hm_2 hE H locs ls hP hD hS hl
      rw [fT_setAsAtFirst_l2] at hE
      refine lv_iload_n hx hb dX4_setAsAtFirst_2 rfl (lv_at hl 1 rfl) ?_
      refine lv_iconst (v := (5 : Int32)) hx hb dX4_setAsAtFirst_3 (by decide) ?_
      refine lv_icmp_ge (tgt := 20) hx hb dX4_setAsAtFirst_4 (by decide) (fun c_4 => ?_) (fun c_4 => ?_)
      · have hE := ipos c_4 hE
        refine lv_iconst (v := (0 : Int32)) hx hb dX4_setAsAtFirst_20 (by decide) ?_
        refine lv_istore_n (lv' := [(1, .int (0 : Int32)), (0, .ref aT)]) hx hb dX4_setAsAtFirst_21 rfl hl (by decide) rfl (fun ls hl => ?_)
        have b_22 : ∀ (n_22 : Nat) (x1_22 : Int32) (vTp_22 : Nat → Int32), (0 ≤ x1_22.toInt ∧ x1_22.toInt ≤ 7) → ((7 - x1_22.toInt).toNat : Nat) < n_22 → fT_setAsAtFirst_l22 n_22 x1_22 T_brokenWays T_triesAllowed T_mends T_talkers vTg_2 vTp_22 vTm = RES → ∀ (H : Heap) (locs : List Loc) (ls : Array Slot), va_P (dC, dI) vwCl [(aT, .inr (4, [.ref aTg, .ref aTp, .ref aTm, .int T_brokenWays, .int T_triesAllowed, .int T_mends, .int T_talkers])), (aTg, .inl (cI, 5, .inl vTg_2)), (aTp, .inl (cI, 7, .inl vTp_22)), (aTm, .inl (cI, 25, .inl vTm))] H → va_D A [(aT, .inr (4, [.ref aTg, .ref aTp, .ref aTm, .int T_brokenWays, .int T_triesAllowed, .int T_mends, .int T_talkers])), (aTg, .inl (cI, 5, .inl vTg_2)), (aTp, .inl (cI, 7, .inl vTp_22)), (aTm, .inl (cI, 25, .inl vTm))] → va_S A s.heap H locs → lv_has ls 2 [(0, .ref aT), (1, .int x1_22)] → W p l e (headSpec wsX4_setAsAtFirst ({ frames := 0, cells := 0, slots := 0, locals := 0 })).room s m ([.ref aT] : List Value).toArray below meth c H locs 0 0 Q9 (F0 m 22 ls []) := by
          intro n_22
          induction n_22 with
          | zero => intro x1_22 vTp_22 hi0_22 hm_22 hE; exact absurd hm_22 (Nat.not_lt_zero _)
          | succ n_22 ih_22 =>
            intro x1_22 vTp_22 hi0_22 hm_22 hE H locs ls hP hD hS hl
            rw [fT_setAsAtFirst_l22] at hE
            refine lv_iload_n hx hb dX4_setAsAtFirst_22 rfl (lv_at hl 1 rfl) ?_
            refine lv_bipush (v := (7 : Int32)) hx hb dX4_setAsAtFirst_23 (by decide) ?_
            refine lv_icmp_ge (tgt := 42) hx hb dX4_setAsAtFirst_25 (by decide) (fun c_25 => ?_) (fun c_25 => ?_)
            · have hE := ipos c_25 hE
              refine lv_iconst (v := (0 : Int32)) hx hb dX4_setAsAtFirst_42 (by decide) ?_
              refine lv_istore_n (lv' := [(1, .int (0 : Int32)), (0, .ref aT)]) hx hb dX4_setAsAtFirst_43 rfl hl (by decide) rfl (fun ls hl => ?_)
              have b_44 : ∀ (n_44 : Nat) (x1_44 : Int32) (vTm_44 : Nat → Int32), (0 ≤ x1_44.toInt ∧ x1_44.toInt ≤ 25) → ((25 - x1_44.toInt).toNat : Nat) < n_44 → fT_setAsAtFirst_l44 n_44 x1_44 T_brokenWays T_triesAllowed T_mends T_talkers vTg_2 vTp_22 vTm_44 = RES → ∀ (H : Heap) (locs : List Loc) (ls : Array Slot), va_P (dC, dI) vwCl [(aT, .inr (4, [.ref aTg, .ref aTp, .ref aTm, .int T_brokenWays, .int T_triesAllowed, .int T_mends, .int T_talkers])), (aTg, .inl (cI, 5, .inl vTg_2)), (aTp, .inl (cI, 7, .inl vTp_22)), (aTm, .inl (cI, 25, .inl vTm_44))] H → va_D A [(aT, .inr (4, [.ref aTg, .ref aTp, .ref aTm, .int T_brokenWays, .int T_triesAllowed, .int T_mends, .int T_talkers])), (aTg, .inl (cI, 5, .inl vTg_2)), (aTp, .inl (cI, 7, .inl vTp_22)), (aTm, .inl (cI, 25, .inl vTm_44))] → va_S A s.heap H locs → lv_has ls 2 [(0, .ref aT), (1, .int x1_44)] → W p l e (headSpec wsX4_setAsAtFirst ({ frames := 0, cells := 0, slots := 0, locals := 0 })).room s m ([.ref aT] : List Value).toArray below meth c H locs 0 0 Q9 (F0 m 44 ls []) := by
                intro n_44
                induction n_44 with
                | zero => intro x1_44 vTm_44 hi0_44 hm_44 hE; exact absurd hm_44 (Nat.not_lt_zero _)
                | succ n_44 ih_44 =>
                  intro x1_44 vTm_44 hi0_44 hm_44 hE H locs ls hP hD hS hl
                  rw [fT_setAsAtFirst_l44] at hE
                  refine lv_iload_n hx hb dX4_setAsAtFirst_44 rfl (lv_at hl 1 rfl) ?_
                  refine lv_bipush (v := (25 : Int32)) hx hb dX4_setAsAtFirst_45 (by decide) ?_
                  refine lv_icmp_ge (tgt := 63) hx hb dX4_setAsAtFirst_47 (by decide) (fun c_47 => ?_) (fun c_47 => ?_)
                  · have hE := ipos c_47 hE
                    refine lv_aload_n hx hb dX4_setAsAtFirst_63 rfl (lv_at hl 0 rfl) ?_
                    refine lv_iconst (v := (0 : Int32)) hx hb dX4_setAsAtFirst_64 (by decide) ?_
                    refine va_put (D := (dC, dI)) (ci := 4) (v := .int (0 : Int32)) (ty := .int) (C := RX4) (T := TX4) (N := 7) hx hb hts (fun _ h => List.mem_cons_of_mem _ (List.mem_append_right _ h)) tyX4 tyX4_ok nmX4 hown hK hP hD hS 0 rfl rfl 3 (by decide) (hts _ (List.mem_cons_of_mem _ (List.mem_append_left _ (List.mem_of_getElem? (i := 3) rfl)))) (fun _ h9 => h9) rfl (by decide +kernel) rfl rfl (Nat.le_of_ble_eq_true rfl) dX4_setAsAtFirst_65 (fun H locs hP hD hS => ?_)
                    have hP : va_P (dC, dI) vwCl [(aT, .inr (4, [.ref aTg, .ref aTp, .ref aTm, .int (0 : Int32), .int T_triesAllowed, .int T_mends, .int T_talkers])), (aTg, .inl (cI, 5, .inl vTg_2)), (aTp, .inl (cI, 7, .inl vTp_22)), (aTm, .inl (cI, 25, .inl vTm_44))] H := hP
                    have hD : va_D A [(aT, .inr (4, [.ref aTg, .ref aTp, .ref aTm, .int (0 : Int32), .int T_triesAllowed, .int T_mends, .int T_talkers])), (aTg, .inl (cI, 5, .inl vTg_2)), (aTp, .inl (cI, 7, .inl vTp_22)), (aTm, .inl (cI, 25, .inl vTm_44))] := hD
                    refine lv_aload_n hx hb dX4_setAsAtFirst_68 rfl (lv_at hl 0 rfl) ?_
                    refine lv_iconst (v := (0 : Int32)) hx hb dX4_setAsAtFirst_69 (by decide) ?_
                    refine va_put (D := (dC, dI)) (ci := 4) (v := .int (0 : Int32)) (ty := .int) (C := RX4) (T := TX4) (N := 7) hx hb hts (fun _ h => List.mem_cons_of_mem _ (List.mem_append_right _ h)) tyX4 tyX4_ok nmX4 hown hK hP hD hS 0 rfl rfl 4 (by decide) (hts _ (List.mem_cons_of_mem _ (List.mem_append_left _ (List.mem_of_getElem? (i := 4) rfl)))) (fun _ h9 => h9) rfl (by decide +kernel) rfl rfl (Nat.le_of_ble_eq_true rfl) dX4_setAsAtFirst_70 (fun H locs hP hD hS => ?_)
                    have hP : va_P (dC, dI) vwCl [(aT, .inr (4, [.ref aTg, .ref aTp, .ref aTm, .int (0 : Int32), .int (0 : Int32), .int T_mends, .int T_talkers])), (aTg, .inl (cI, 5, .inl vTg_2)), (aTp, .inl (cI, 7, .inl vTp_22)), (aTm, .inl (cI, 25, .inl vTm_44))] H := hP
                    have hD : va_D A [(aT, .inr (4, [.ref aTg, .ref aTp, .ref aTm, .int (0 : Int32), .int (0 : Int32), .int T_mends, .int T_talkers])), (aTg, .inl (cI, 5, .inl vTg_2)), (aTp, .inl (cI, 7, .inl vTp_22)), (aTm, .inl (cI, 25, .inl vTm_44))] := hD
                    refine lv_aload_n hx hb dX4_setAsAtFirst_73 rfl (lv_at hl 0 rfl) ?_
                    refine lv_iconst (v := (0 : Int32)) hx hb dX4_setAsAtFirst_74 (by decide) ?_
                    refine va_put (D := (dC, dI)) (ci := 4) (v := .int (0 : Int32)) (ty := .int) (C := RX4) (T := TX4) (N := 7) hx hb hts (fun _ h => List.mem_cons_of_mem _ (List.mem_append_right _ h)) tyX4 tyX4_ok nmX4 hown hK hP hD hS 0 rfl rfl 5 (by decide) (hts _ (List.mem_cons_of_mem _ (List.mem_append_left _ (List.mem_of_getElem? (i := 5) rfl)))) (fun _ h9 => h9) rfl (by decide +kernel) rfl rfl (Nat.le_of_ble_eq_true rfl) dX4_setAsAtFirst_75 (fun H locs hP hD hS => ?_)
                    have hP : va_P (dC, dI) vwCl [(aT, .inr (4, [.ref aTg, .ref aTp, .ref aTm, .int (0 : Int32), .int (0 : Int32), .int (0 : Int32), .int T_talkers])), (aTg, .inl (cI, 5, .inl vTg_2)), (aTp, .inl (cI, 7, .inl vTp_22)), (aTm, .inl (cI, 25, .inl vTm_44))] H := hP
                    have hD : va_D A [(aT, .inr (4, [.ref aTg, .ref aTp, .ref aTm, .int (0 : Int32), .int (0 : Int32), .int (0 : Int32), .int T_talkers])), (aTg, .inl (cI, 5, .inl vTg_2)), (aTp, .inl (cI, 7, .inl vTp_22)), (aTm, .inl (cI, 25, .inl vTm_44))] := hD
                    refine lv_aload_n hx hb dX4_setAsAtFirst_78 rfl (lv_at hl 0 rfl) ?_
                    refine lv_iconst (v := (0 : Int32)) hx hb dX4_setAsAtFirst_79 (by decide) ?_
                    refine va_put (D := (dC, dI)) (ci := 4) (v := .int (0 : Int32)) (ty := .int) (C := RX4) (T := TX4) (N := 7) hx hb hts (fun _ h => List.mem_cons_of_mem _ (List.mem_append_right _ h)) tyX4 tyX4_ok nmX4 hown hK hP hD hS 0 rfl rfl 6 (by decide) (hts _ (List.mem_cons_of_mem _ (List.mem_append_left _ (List.mem_of_getElem? (i := 6) rfl)))) (fun _ h9 => h9) rfl (by decide +kernel) rfl rfl (Nat.le_of_ble_eq_true rfl) dX4_setAsAtFirst_80 (fun H locs hP hD hS => ?_)
                    have hP : va_P (dC, dI) vwCl [(aT, .inr (4, [.ref aTg, .ref aTp, .ref aTm, .int (0 : Int32), .int (0 : Int32), .int (0 : Int32), .int (0 : Int32)])), (aTg, .inl (cI, 5, .inl vTg_2)), (aTp, .inl (cI, 7, .inl vTp_22)), (aTm, .inl (cI, 25, .inl vTm_44))] H := hP
                    have hD : va_D A [(aT, .inr (4, [.ref aTg, .ref aTp, .ref aTm, .int (0 : Int32), .int (0 : Int32), .int (0 : Int32), .int (0 : Int32)])), (aTg, .inl (cI, 5, .inl vTg_2)), (aTp, .inl (cI, 7, .inl vTp_22)), (aTm, .inl (cI, 25, .inl vTm_44))] := hD
                    subst hQ9
                    exact W.vret hx hb hr (fun t ht hW => ⟨⟨((0 : Int32), (0 : Int32), (0 : Int32), (0 : Int32), vTg_2, vTp_22, vTm_44), rfl, ⟨hE.trans hRES, (by first | ((try simp only [not_true_eq_false, not_false_eq_true, false_implies, true_implies, implies_true, vp_in_iff, i32_lt, i32_le, i32_eq, i32_add, i32_sub, i32_mul, t32_m1, t32_0, t32_1, t32_5, t32_7, t32_10, t32_25] at hi0_2 hm_2 c_4 hi0_22 hm_22 c_25 hi0_44 hm_44 c_47 ⊢) <;> intros <;> omega))⟩, (by rw [ht]; exact hP), va_K.moved hW.alike hK, hD⟩, hS.F ht⟩) hS.2.2 dX4_setAsAtFirst_83
                  · have hE := ineg c_47 hE
                    refine lv_aload_n hx hb dX4_setAsAtFirst_50 rfl (lv_at hl 0 rfl) ?_
                    refine va_get (D := (dC, dI)) (ci := 4) (v := .ref aTm) (C := RX4) (T := TX4) (N := 7) hx hb hts (fun _ h => List.mem_cons_of_mem _ (List.mem_append_right _ h)) hown hK hP 0 rfl rfl 2 (by decide) (hts _ (List.mem_cons_of_mem _ (List.mem_append_left _ (List.mem_of_getElem? (i := 2) rfl)))) (fun _ h9 => h9) rfl dX4_setAsAtFirst_51 ?_
                    refine lv_iload_n hx hb dX4_setAsAtFirst_54 rfl (lv_at hl 1 rfl) ?_
                    refine lv_iconst (v := (-1 : Int32)) hx hb dX4_setAsAtFirst_55 (by decide) ?_
                    refine va_iast (D := (dC, dI)) (cl := vwCl) hx hb hK hP hD hS 3 0 rfl rfl (by first | ((try simp only [not_true_eq_false, not_false_eq_true, false_implies, true_implies, implies_true, vp_in_iff, i32_lt, i32_le, i32_eq, i32_add, i32_sub, i32_mul, t32_m1, t32_0, t32_1, t32_5, t32_7, t32_10, t32_25] at hi0_2 hm_2 c_4 hi0_22 hm_22 c_25 hi0_44 hm_44 c_47 ⊢) <;> intros <;> omega)) dX4_setAsAtFirst_56 (fun H locs hP hD hS => ?_)
                    have hP : va_P (dC, dI) vwCl [(aT, .inr (4, [.ref aTg, .ref aTp, .ref aTm, .int T_brokenWays, .int T_triesAllowed, .int T_mends, .int T_talkers])), (aTg, .inl (cI, 5, .inl vTg_2)), (aTp, .inl (cI, 7, .inl vTp_22)), (aTm, .inl (cI, 25, .inl (upd vTm_44 x1_44.toNatClampNeg (-1 : Int32))))] H := hP
                    have hD : va_D A [(aT, .inr (4, [.ref aTg, .ref aTp, .ref aTm, .int T_brokenWays, .int T_triesAllowed, .int T_mends, .int T_talkers])), (aTg, .inl (cI, 5, .inl vTg_2)), (aTp, .inl (cI, 7, .inl vTp_22)), (aTm, .inl (cI, 25, .inl (upd vTm_44 x1_44.toNatClampNeg (-1 : Int32))))] := hD
                    refine lv_iinc (v := (x1_44 + (1 : Int32))) (lv' := [(1, .int (x1_44 + (1 : Int32))), (0, .ref aT)]) hx hb dX4_setAsAtFirst_57 hl (k := 1) rfl rfl (by decide) rfl (fun ls hl => ?_)
                    refine lv_goto (tgt := 44) hx hb dX4_setAsAtFirst_60 (by decide) ?_
                    exact ih_44 (x1_44 + (1 : Int32)) (upd vTm_44 x1_44.toNatClampNeg (-1 : Int32)) (by first | ((try simp only [not_true_eq_false, not_false_eq_true, false_implies, true_implies, implies_true, vp_in_iff, i32_lt, i32_le, i32_eq, i32_add, i32_sub, i32_mul, t32_m1, t32_0, t32_1, t32_5, t32_7, t32_10, t32_25] at hi0_2 hm_2 c_4 hi0_22 hm_22 c_25 hi0_44 hm_44 c_47 ⊢) <;> intros <;> omega) | ((try (have hs0 : (x1_44 + (1 : Int32)).toInt = x1_44.toInt + 1 := by (have h := i32_addS (x := x1_44) (y := (1 : Int32)) (by (try simp only [not_true_eq_false, not_false_eq_true, false_implies, true_implies, implies_true, vp_in_iff, i32_lt, i32_le, i32_eq, t32_m1, t32_0, t32_1, t32_5, t32_7, t32_10, t32_25] at hi0_2 hm_2 c_4 hi0_22 hm_22 c_25 hi0_44 hm_44 c_47 ⊢) <;> omega) (by (try simp only [not_true_eq_false, not_false_eq_true, false_implies, true_implies, implies_true, vp_in_iff, i32_lt, i32_le, i32_eq, t32_m1, t32_0, t32_1, t32_5, t32_7, t32_10, t32_25] at hi0_2 hm_2 c_4 hi0_22 hm_22 c_25 hi0_44 hm_44 c_47 ⊢) <;> omega); (try simp only [t32_m1, t32_0, t32_1, t32_5, t32_7, t32_10, t32_25] at h); exact h))); (try simp only [not_true_eq_false, not_false_eq_true, false_implies, true_implies, implies_true, vp_in_iff, i32_lt, i32_le, i32_eq, t32_m1, t32_0, t32_1, t32_5, t32_7, t32_10, t32_25] at hi0_2 hm_2 c_4 hi0_22 hm_22 c_25 hi0_44 hm_44 c_47 ⊢) <;> intros <;> omega)) (by first | ((try simp only [not_true_eq_false, not_false_eq_true, false_implies, true_implies, implies_true, vp_in_iff, i32_lt, i32_le, i32_eq, i32_add, i32_sub, i32_mul, t32_m1, t32_0, t32_1, t32_5, t32_7, t32_10, t32_25] at hi0_2 hm_2 c_4 hi0_22 hm_22 c_25 hi0_44 hm_44 c_47 ⊢) <;> intros <;> omega)) hE _ _ _ hP hD hS (lv_sub hl [1, 0] rfl)
              exact b_44 (26) (0 : Int32) vTm (by first | ((try simp only [not_true_eq_false, not_false_eq_true, false_implies, true_implies, implies_true, vp_in_iff, i32_lt, i32_le, i32_eq, i32_add, i32_sub, i32_mul, t32_m1, t32_0, t32_1, t32_5, t32_7, t32_10, t32_25] at hi0_2 hm_2 c_4 hi0_22 hm_22 c_25 ⊢) <;> intros <;> omega)) (by first | ((try simp only [not_true_eq_false, not_false_eq_true, false_implies, true_implies, implies_true, vp_in_iff, i32_lt, i32_le, i32_eq, i32_add, i32_sub, i32_mul, t32_m1, t32_0, t32_1, t32_5, t32_7, t32_10, t32_25] at hi0_2 hm_2 c_4 hi0_22 hm_22 c_25 ⊢) <;> intros <;> omega) | decide) hE _ _ _ hP hD hS (lv_sub hl [1, 0] rfl)
            · have hE := ineg c_25 hE
              refine lv_aload_n hx hb dX4_setAsAtFirst_28 rfl (lv_at hl 0 rfl) ?_
              refine va_get (D := (dC, dI)) (ci := 4) (v := .ref aTp) (C := RX4) (T := TX4) (N := 7) hx hb hts (fun _ h => List.mem_cons_of_mem _ (List.mem_append_right _ h)) hown hK hP 0 rfl rfl 1 (by decide) (hts _ (List.mem_cons_of_mem _ (List.mem_append_left _ (List.mem_of_getElem? (i := 1) rfl)))) (fun _ h9 => h9) rfl dX4_setAsAtFirst_29 ?_
              refine lv_iload_n hx hb dX4_setAsAtFirst_32 rfl (lv_at hl 1 rfl) ?_
              refine lv_bipush (v := (10 : Int32)) hx hb dX4_setAsAtFirst_33 (by decide) ?_
              refine va_iast (D := (dC, dI)) (cl := vwCl) hx hb hK hP hD hS 2 0 rfl rfl (by first | ((try simp only [not_true_eq_false, not_false_eq_true, false_implies, true_implies, implies_true, vp_in_iff, i32_lt, i32_le, i32_eq, i32_add, i32_sub, i32_mul, t32_m1, t32_0, t32_1, t32_5, t32_7, t32_10, t32_25] at hi0_2 hm_2 c_4 hi0_22 hm_22 c_25 ⊢) <;> intros <;> omega)) dX4_setAsAtFirst_35 (fun H locs hP hD hS => ?_)
              have hP : va_P (dC, dI) vwCl [(aT, .inr (4, [.ref aTg, .ref aTp, .ref aTm, .int T_brokenWays, .int T_triesAllowed, .int T_mends, .int T_talkers])), (aTg, .inl (cI, 5, .inl vTg_2)), (aTp, .inl (cI, 7, .inl (upd vTp_22 x1_22.toNatClampNeg (10 : Int32)))), (aTm, .inl (cI, 25, .inl vTm))] H := hP
              have hD : va_D A [(aT, .inr (4, [.ref aTg, .ref aTp, .ref aTm, .int T_brokenWays, .int T_triesAllowed, .int T_mends, .int T_talkers])), (aTg, .inl (cI, 5, .inl vTg_2)), (aTp, .inl (cI, 7, .inl (upd vTp_22 x1_22.toNatClampNeg (10 : Int32)))), (aTm, .inl (cI, 25, .inl vTm))] := hD
              refine lv_iinc (v := (x1_22 + (1 : Int32))) (lv' := [(1, .int (x1_22 + (1 : Int32))), (0, .ref aT)]) hx hb dX4_setAsAtFirst_36 hl (k := 1) rfl rfl (by decide) rfl (fun ls hl => ?_)
              refine lv_goto (tgt := 22) hx hb dX4_setAsAtFirst_39 (by decide) ?_
              exact ih_22 (x1_22 + (1 : Int32)) (upd vTp_22 x1_22.toNatClampNeg (10 : Int32)) (by first | ((try simp only [not_true_eq_false, not_false_eq_true, false_implies, true_implies, implies_true, vp_in_iff, i32_lt, i32_le, i32_eq, i32_add, i32_sub, i32_mul, t32_m1, t32_0, t32_1, t32_5, t32_7, t32_10, t32_25] at hi0_2 hm_2 c_4 hi0_22 hm_22 c_25 ⊢) <;> intros <;> omega) | ((try (have hs0 : (x1_22 + (1 : Int32)).toInt = x1_22.toInt + 1 := by (have h := i32_addS (x := x1_22) (y := (1 : Int32)) (by (try simp only [not_true_eq_false, not_false_eq_true, false_implies, true_implies, implies_true, vp_in_iff, i32_lt, i32_le, i32_eq, t32_m1, t32_0, t32_1, t32_5, t32_7, t32_10, t32_25] at hi0_2 hm_2 c_4 hi0_22 hm_22 c_25 ⊢) <;> omega) (by (try simp only [not_true_eq_false, not_false_eq_true, false_implies, true_implies, implies_true, vp_in_iff, i32_lt, i32_le, i32_eq, t32_m1, t32_0, t32_1, t32_5, t32_7, t32_10, t32_25] at hi0_2 hm_2 c_4 hi0_22 hm_22 c_25 ⊢) <;> omega); (try simp only [t32_m1, t32_0, t32_1, t32_5, t32_7, t32_10, t32_25] at h); exact h))); (try simp only [not_true_eq_false, not_false_eq_true, false_implies, true_implies, implies_true, vp_in_iff, i32_lt, i32_le, i32_eq, t32_m1, t32_0, t32_1, t32_5, t32_7, t32_10, t32_25] at hi0_2 hm_2 c_4 hi0_22 hm_22 c_25 ⊢) <;> intros <;> omega)) (by first | ((try simp only [not_true_eq_false, not_false_eq_true, false_implies, true_implies, implies_true, vp_in_iff, i32_lt, i32_le, i32_eq, i32_add, i32_sub, i32_mul, t32_m1, t32_0, t32_1, t32_5, t32_7, t32_10, t32_25] at hi0_2 hm_2 c_4 hi0_22 hm_22 c_25 ⊢) <;> intros <;> omega)) hE _ _ _ hP hD hS (lv_sub hl [1, 0] rfl)
        exact b_22 (8) (0 : Int32) vTp (by first | ((try simp only [not_true_eq_false, not_false_eq_true, false_implies, true_implies, implies_true, vp_in_iff, i32_lt, i32_le, i32_eq, i32_add, i32_sub, i32_mul, t32_m1, t32_0, t32_1, t32_5, t32_7, t32_10, t32_25] at hi0_2 hm_2 c_4 ⊢) <;> intros <;> omega)) (by first | ((try simp only [not_true_eq_false, not_false_eq_true, false_implies, true_implies, implies_true, vp_in_iff, i32_lt, i32_le, i32_eq, i32_add, i32_sub, i32_mul, t32_m1, t32_0, t32_1, t32_5, t32_7, t32_10, t32_25] at hi0_2 hm_2 c_4 ⊢) <;> intros <;> omega) | decide) hE _ _ _ hP hD hS (lv_sub hl [1, 0] rfl)
      · have hE := ineg c_4 hE
        refine lv_aload_n hx hb dX4_setAsAtFirst_7 rfl (lv_at hl 0 rfl) ?_
        refine va_get (D := (dC, dI)) (ci := 4) (v := .ref aTg) (C := RX4) (T := TX4) (N := 7) hx hb hts (fun _ h => List.mem_cons_of_mem _ (List.mem_append_right _ h)) hown hK hP 0 rfl rfl 0 (by decide) (hts _ (List.mem_cons_of_mem _ (List.mem_append_left _ (List.mem_of_getElem? (i := 0) rfl)))) (fun _ h9 => h9) rfl dX4_setAsAtFirst_8 ?_
        refine lv_iload_n hx hb dX4_setAsAtFirst_11 rfl (lv_at hl 1 rfl) ?_
        refine lv_iconst (v := (0 : Int32)) hx hb dX4_setAsAtFirst_12 (by decide) ?_
        refine va_iast (D := (dC, dI)) (cl := vwCl) hx hb hK hP hD hS 1 0 rfl rfl (by first | ((try simp only [not_true_eq_false, not_false_eq_true, false_implies, true_implies, implies_true, vp_in_iff, i32_lt, i32_le, i32_eq, i32_add, i32_sub, i32_mul, t32_m1, t32_0, t32_1, t32_5, t32_7, t32_10, t32_25] at hi0_2 hm_2 c_4 ⊢) <;> intros <;> omega)) dX4_setAsAtFirst_13 (fun H locs hP hD hS => ?_)
        have hP : va_P (dC, dI) vwCl [(aT, .inr (4, [.ref aTg, .ref aTp, .ref aTm, .int T_brokenWays, .int T_triesAllowed, .int T_mends, .int T_talkers])), (aTg, .inl (cI, 5, .inl (upd vTg_2 x1_2.toNatClampNeg (0 : Int32)))), (aTp, .inl (cI, 7, .inl vTp)), (aTm, .inl (cI, 25, .inl vTm))] H := hP
        have hD : va_D A [(aT, .inr (4, [.ref aTg, .ref aTp, .ref aTm, .int T_brokenWays, .int T_triesAllowed, .int T_mends, .int T_talkers])), (aTg, .inl (cI, 5, .inl (upd vTg_2 x1_2.toNatClampNeg (0 : Int32)))), (aTp, .inl (cI, 7, .inl vTp)), (aTm, .inl (cI, 25, .inl vTm))] := hD
        refine lv_iinc (v := (x1_2 + (1 : Int32))) (lv' := [(1, .int (x1_2 + (1 : Int32))), (0, .ref aT)]) hx hb dX4_setAsAtFirst_14 hl (k := 1) rfl rfl (by decide) rfl (fun ls hl => ?_)
        refine lv_goto (tgt := 2) hx hb dX4_setAsAtFirst_17 (by decide) ?_
        exact ih_2 (x1_2 + (1 : Int32)) (upd vTg_2 x1_2.toNatClampNeg (0 : Int32)) (by first | ((try simp only [not_true_eq_false, not_false_eq_true, false_implies, true_implies, implies_true, vp_in_iff, i32_lt, i32_le, i32_eq, i32_add, i32_sub, i32_mul, t32_m1, t32_0, t32_1, t32_5, t32_7, t32_10, t32_25] at hi0_2 hm_2 c_4 ⊢) <;> intros <;> omega) | ((try (have hs0 : (x1_2 + (1 : Int32)).toInt = x1_2.toInt + 1 := by (have h := i32_addS (x := x1_2) (y := (1 : Int32)) (by (try simp only [not_true_eq_false, not_false_eq_true, false_implies, true_implies, implies_true, vp_in_iff, i32_lt, i32_le, i32_eq, t32_m1, t32_0, t32_1, t32_5, t32_7, t32_10, t32_25] at hi0_2 hm_2 c_4 ⊢) <;> omega) (by (try simp only [not_true_eq_false, not_false_eq_true, false_implies, true_implies, implies_true, vp_in_iff, i32_lt, i32_le, i32_eq, t32_m1, t32_0, t32_1, t32_5, t32_7, t32_10, t32_25] at hi0_2 hm_2 c_4 ⊢) <;> omega); (try simp only [t32_m1, t32_0, t32_1, t32_5, t32_7, t32_10, t32_25] at h); exact h))); (try simp only [not_true_eq_false, not_false_eq_true, false_implies, true_implies, implies_true, vp_in_iff, i32_lt, i32_le, i32_eq, t32_m1, t32_0, t32_1, t32_5, t32_7, t32_10, t32_25] at hi0_2 hm_2 c_4 ⊢) <;> intros <;> omega)) (by first | ((try simp only [not_true_eq_false, not_false_eq_true, false_implies, true_implies, implies_true, vp_in_iff, i32_lt, i32_le, i32_eq, i32_add, i32_sub, i32_mul, t32_m1, t32_0, t32_1, t32_5, t32_7, t32_10, t32_25] at hi0_2 hm_2 c_4 ⊢) <;> intros <;> omega)) hE _ _ _ hP hD hS (lv_sub hl [1, 0] rfl)
  exact b_2 (6) (0 : Int32) vTg (by first | decide | (simp only [not_true_eq_false, not_false_eq_true, false_implies, true_implies, implies_true, vp_in_iff, i32_lt, i32_le, i32_eq, i32_add, i32_sub, i32_mul, t32_m1, t32_0, t32_1, t32_5, t32_7, t32_10, t32_25] <;> intros <;> omega)) (by first | decide | (simp only [not_true_eq_false, not_false_eq_true, false_implies, true_implies, implies_true, vp_in_iff, i32_lt, i32_le, i32_eq, i32_add, i32_sub, i32_mul, t32_m1, t32_0, t32_1, t32_5, t32_7, t32_10, t32_25] <;> intros <;> omega) | decide) hE _ _ _ hP hD hS (lv_sub hl [1, 0] rfl)
-- X4_giveWays
def fT_giveWays (vTg : Nat → Int32) (p1 : Int32) (p2 : Int32) : (Nat → Int32) := (upd vTg p1.toNatClampNeg p2)
set_option maxHeartbeats 4000000 in
set_option maxRecDepth 100000 in
theorem kT_giveWays (l : Launch) (dC : Nat → ClassId) (dI : Nat → Nat → Nat) (cI cB : ClassId) (aT aTg aTp aTm : Nat) (sz : Nat) (T_brokenWays : Int32) (T_triesAllowed : Int32) (T_mends : Int32) (T_talkers : Int32) (vTg : Nat → Int32) (vTp : Nat → Int32) (vTm : Nat → Int32) (p1 : Int32) (p2 : Int32) (hp0 : 0 ≤ p1.toInt ∧ p1.toInt < 5) : Met l yX4_giveWays wsX4_giveWays ({ frames := 0, cells := 0, slots := 0, locals := 0 }) (va_Pc [.ref aT, .int p1, .int p2] (PB (dC, dI) vwCl [(cI, .int), (cB, .byte)] [(aT, .inr (4, [.ref aTg, .ref aTp, .ref aTm, .int T_brokenWays, .int T_triesAllowed, .int T_mends, .int T_talkers])), (aTg, .inl (cI, 5, .inl vTg)), (aTp, .inl (cI, 7, .inl vTp)), (aTm, .inl (cI, 25, .inl vTm))] sz)) (va_Qv (fun (u : (Nat → Int32)) => u = fT_giveWays vTg p1 p2) (fun (u : (Nat → Int32)) t => va_P (dC, dI) vwCl [(aT, .inr (4, [.ref aTg, .ref aTp, .ref aTm, .int T_brokenWays, .int T_triesAllowed, .int T_mends, .int T_talkers])), (aTg, .inl (cI, 5, .inl u)), (aTp, .inl (cI, 7, .inl vTp)), (aTm, .inl (cI, 25, .inl vTm))] t.heap ∧ va_K (dC, dI) vwCl [(cI, .int), (cB, .byte)] t ∧ va_D (va_A [(aT, .inr (4, [.ref aTg, .ref aTp, .ref aTm, .int T_brokenWays, .int T_triesAllowed, .int T_mends, .int T_talkers])), (aTg, .inl (cI, 5, .inl vTg)), (aTp, .inl (cI, 7, .inl vTp)), (aTm, .inl (cI, 25, .inl vTm))] sz) [(aT, .inr (4, [.ref aTg, .ref aTp, .ref aTm, .int T_brokenWays, .int T_triesAllowed, .int T_mends, .int T_talkers])), (aTg, .inl (cI, 5, .inl u)), (aTp, .inl (cI, 7, .inl vTp)), (aTm, .inl (cI, 25, .inl vTm))]) (va_A [(aT, .inr (4, [.ref aTg, .ref aTp, .ref aTm, .int T_brokenWays, .int T_triesAllowed, .int T_mends, .int T_talkers])), (aTg, .inl (cI, 5, .inl vTg)), (aTp, .inl (cI, 7, .inl vTp)), (aTm, .inl (cI, 25, .inl vTm))] sz)) 0 0 (va_A [(aT, .inr (4, [.ref aTg, .ref aTp, .ref aTm, .int T_brokenWays, .int T_triesAllowed, .int T_mends, .int T_talkers])), (aTg, .inl (cI, 5, .inl vTg)), (aTp, .inl (cI, 7, .inl vTp)), (aTm, .inl (cI, 25, .inl vTm))] sz) := by
  refine Met.ofW (cc := cX4_giveWays) (maxL := 3) (ret := none) (by decide) rfl ?_
  intro p e s m args below meth c s₁ B hml hv
  obtain ⟨rfl, hsz, hP, hK, hD0⟩ := hv
  have hx := B.exec
  have hb := B.bytes
  have hr := B.returns
  have hts := atoms_spec (ws := wsX4_giveWays) B.pre
  have hown : s.vm.findClass RX4 = some m.cls := findClass_of_methodNamed B.named
  have hlocks := B.notSynchronized
  clear B
  subst hsz
  have hD := hD0.self (sz := s.heap.size)
  clear hD0
  generalize hAe : va_A [(aT, .inr (4, [.ref aTg, .ref aTp, .ref aTm, .int T_brokenWays, .int T_triesAllowed, .int T_mends, .int T_talkers])), (aTg, .inl (cI, 5, .inl vTg)), (aTp, .inl (cI, 7, .inl vTp)), (aTm, .inl (cI, 25, .inl vTm))] s.heap.size = A at hD ⊢
  have hA : ∀ q : Nat, s.heap.size ≤ q → A q := fun q h => by rw [← hAe]; exact Or.inr h
  clear hAe
  have hS : va_S A s.heap s.heap [] := va_S.rf
  have hP : va_P (dC, dI) vwCl [(aT, .inr (4, [.ref aTg, .ref aTp, .ref aTm, .int T_brokenWays, .int T_triesAllowed, .int T_mends, .int T_talkers])), (aTg, .inl (cI, 5, .inl vTg)), (aTp, .inl (cI, 7, .inl vTp)), (aTm, .inl (cI, 25, .inl vTm))] s.heap := hP
  have hl := lv_entry ([.ref aT, .int p1, .int p2]) (n := 3) (Nat.le_of_ble_eq_true rfl)
  rw [lg_entry_eq]
  generalize (lg_sl ([.ref aT, .int p1, .int p2]) ++ List.replicate (3 - (lg_sl ([.ref aT, .int p1, .int p2])).length) Slot.unset).toArray = ls at hl ⊢
  have hl : lv_has ls 3 [(0, .ref aT), (1, .int p1), (2, .int p2)] := hl
  obtain ⟨RES, hRES⟩ : ∃ y, y = fT_giveWays vTg p1 p2 := ⟨_, rfl⟩
  have hE := hRES.symm
  rw [fT_giveWays] at hE
  refine lv_aload_n hx hb dX4_giveWays_0 rfl (lv_at hl 0 rfl) ?_
  refine va_get (D := (dC, dI)) (ci := 4) (v := .ref aTg) (C := RX4) (T := TX4) (N := 7) hx hb hts (fun _ h => List.mem_cons_of_mem _ (List.mem_append_right _ h)) hown hK hP 0 rfl rfl 0 (by decide) (hts _ (List.mem_cons_of_mem _ (List.mem_append_left _ (List.mem_of_getElem? (i := 0) rfl)))) (fun _ h9 => h9) rfl dX4_giveWays_1 ?_
  refine lv_iload_n hx hb dX4_giveWays_4 rfl (lv_at hl 1 rfl) ?_
  refine lv_iload_n hx hb dX4_giveWays_5 rfl (lv_at hl 2 rfl) ?_
  refine va_iast (D := (dC, dI)) (cl := vwCl) hx hb hK hP hD hS 1 0 rfl rfl (vp_in_iff.mpr hp0) dX4_giveWays_6 (fun H locs hP hD hS => ?_)
  have hP : va_P (dC, dI) vwCl [(aT, .inr (4, [.ref aTg, .ref aTp, .ref aTm, .int T_brokenWays, .int T_triesAllowed, .int T_mends, .int T_talkers])), (aTg, .inl (cI, 5, .inl (upd vTg p1.toNatClampNeg p2))), (aTp, .inl (cI, 7, .inl vTp)), (aTm, .inl (cI, 25, .inl vTm))] H := hP
  have hD : va_D A [(aT, .inr (4, [.ref aTg, .ref aTp, .ref aTm, .int T_brokenWays, .int T_triesAllowed, .int T_mends, .int T_talkers])), (aTg, .inl (cI, 5, .inl (upd vTg p1.toNatClampNeg p2))), (aTp, .inl (cI, 7, .inl vTp)), (aTm, .inl (cI, 25, .inl vTm))] := hD
  exact W.vret hx hb hr (fun t ht hW => ⟨⟨((upd vTg p1.toNatClampNeg p2)), rfl, hE.trans hRES, (by rw [ht]; exact hP), va_K.moved hW.alike hK, hD⟩, hS.F ht⟩) hS.2.2 dX4_giveWays_7
-- X4_waysGiven
def fT_waysGiven (vTg : Nat → Int32) (p1 : Int32) : Int32 := (vTg p1.toNatClampNeg)
set_option maxHeartbeats 4000000 in
set_option maxRecDepth 100000 in
theorem kT_waysGiven (l : Launch) (dC : Nat → ClassId) (dI : Nat → Nat → Nat) (cI cB : ClassId) (aT aTg aTp aTm : Nat) (sz : Nat) (T_brokenWays : Int32) (T_triesAllowed : Int32) (T_mends : Int32) (T_talkers : Int32) (vTg : Nat → Int32) (vTp : Nat → Int32) (vTm : Nat → Int32) (p1 : Int32) (hp0 : 0 ≤ p1.toInt ∧ p1.toInt < 5) : Met l yX4_waysGiven wsX4_waysGiven ({ frames := 0, cells := 0, slots := 0, locals := 0 }) (va_Pc [.ref aT, .int p1] (PB (dC, dI) vwCl [(cI, .int), (cB, .byte)] [(aT, .inr (4, [.ref aTg, .ref aTp, .ref aTm, .int T_brokenWays, .int T_triesAllowed, .int T_mends, .int T_talkers])), (aTg, .inl (cI, 5, .inl vTg)), (aTp, .inl (cI, 7, .inl vTp)), (aTm, .inl (cI, 25, .inl vTm))] sz)) (va_Qi (fun (r : Int32) (u : Unit) => r = fT_waysGiven vTg p1) (fun (_ : Unit) t => va_P (dC, dI) vwCl [(aT, .inr (4, [.ref aTg, .ref aTp, .ref aTm, .int T_brokenWays, .int T_triesAllowed, .int T_mends, .int T_talkers])), (aTg, .inl (cI, 5, .inl vTg)), (aTp, .inl (cI, 7, .inl vTp)), (aTm, .inl (cI, 25, .inl vTm))] t.heap ∧ va_K (dC, dI) vwCl [(cI, .int), (cB, .byte)] t ∧ va_D (va_A [(aT, .inr (4, [.ref aTg, .ref aTp, .ref aTm, .int T_brokenWays, .int T_triesAllowed, .int T_mends, .int T_talkers])), (aTg, .inl (cI, 5, .inl vTg)), (aTp, .inl (cI, 7, .inl vTp)), (aTm, .inl (cI, 25, .inl vTm))] sz) [(aT, .inr (4, [.ref aTg, .ref aTp, .ref aTm, .int T_brokenWays, .int T_triesAllowed, .int T_mends, .int T_talkers])), (aTg, .inl (cI, 5, .inl vTg)), (aTp, .inl (cI, 7, .inl vTp)), (aTm, .inl (cI, 25, .inl vTm))]) (va_A [(aT, .inr (4, [.ref aTg, .ref aTp, .ref aTm, .int T_brokenWays, .int T_triesAllowed, .int T_mends, .int T_talkers])), (aTg, .inl (cI, 5, .inl vTg)), (aTp, .inl (cI, 7, .inl vTp)), (aTm, .inl (cI, 25, .inl vTm))] sz)) 0 0 (va_A [(aT, .inr (4, [.ref aTg, .ref aTp, .ref aTm, .int T_brokenWays, .int T_triesAllowed, .int T_mends, .int T_talkers])), (aTg, .inl (cI, 5, .inl vTg)), (aTp, .inl (cI, 7, .inl vTp)), (aTm, .inl (cI, 25, .inl vTm))] sz) := by
  refine Met.ofW (cc := cX4_waysGiven) (maxL := 2) (ret := (some .int)) (by decide) rfl ?_
  intro p e s m args below meth c s₁ B hml hv
  obtain ⟨rfl, hsz, hP, hK, hD0⟩ := hv
  have hx := B.exec
  have hb := B.bytes
  have hr := B.returns
  have hts := atoms_spec (ws := wsX4_waysGiven) B.pre
  have hown : s.vm.findClass RX4 = some m.cls := findClass_of_methodNamed B.named
  have hlocks := B.notSynchronized
  clear B
  subst hsz
  have hD := hD0.self (sz := s.heap.size)
  clear hD0
  generalize hAe : va_A [(aT, .inr (4, [.ref aTg, .ref aTp, .ref aTm, .int T_brokenWays, .int T_triesAllowed, .int T_mends, .int T_talkers])), (aTg, .inl (cI, 5, .inl vTg)), (aTp, .inl (cI, 7, .inl vTp)), (aTm, .inl (cI, 25, .inl vTm))] s.heap.size = A at hD ⊢
  have hA : ∀ q : Nat, s.heap.size ≤ q → A q := fun q h => by rw [← hAe]; exact Or.inr h
  clear hAe
  have hS : va_S A s.heap s.heap [] := va_S.rf
  have hP : va_P (dC, dI) vwCl [(aT, .inr (4, [.ref aTg, .ref aTp, .ref aTm, .int T_brokenWays, .int T_triesAllowed, .int T_mends, .int T_talkers])), (aTg, .inl (cI, 5, .inl vTg)), (aTp, .inl (cI, 7, .inl vTp)), (aTm, .inl (cI, 25, .inl vTm))] s.heap := hP
  have hl := lv_entry ([.ref aT, .int p1]) (n := 2) (Nat.le_of_ble_eq_true rfl)
  rw [lg_entry_eq]
  generalize (lg_sl ([.ref aT, .int p1]) ++ List.replicate (2 - (lg_sl ([.ref aT, .int p1])).length) Slot.unset).toArray = ls at hl ⊢
  have hl : lv_has ls 2 [(0, .ref aT), (1, .int p1)] := hl
  obtain ⟨RES, hRES⟩ : ∃ y, y = fT_waysGiven vTg p1 := ⟨_, rfl⟩
  have hE := hRES.symm
  rw [fT_waysGiven] at hE
  refine lv_aload_n hx hb dX4_waysGiven_0 rfl (lv_at hl 0 rfl) ?_
  refine va_get (D := (dC, dI)) (ci := 4) (v := .ref aTg) (C := RX4) (T := TX4) (N := 7) hx hb hts (fun _ h => List.mem_cons_of_mem _ (List.mem_append_right _ h)) hown hK hP 0 rfl rfl 0 (by decide) (hts _ (List.mem_cons_of_mem _ (List.mem_append_left _ (List.mem_of_getElem? (i := 0) rfl)))) (fun _ h9 => h9) rfl dX4_waysGiven_1 ?_
  refine lv_iload_n hx hb dX4_waysGiven_4 rfl (lv_at hl 1 rfl) ?_
  refine va_iald (D := (dC, dI)) (cl := vwCl) hx hb hK hP 1 0 rfl rfl (vp_in_iff.mpr hp0) dX4_waysGiven_5 ?_
  exact W.iret (v := (vTg p1.toNatClampNeg)) hx hb hr (fun t ht hW => ⟨⟨(vTg p1.toNatClampNeg), (), rfl, hE.trans hRES, (by rw [ht]; exact hP), va_K.moved hW.alike hK, hD⟩, hS.F ht⟩) hS.2.2 dX4_waysGiven_6
-- X4_waysUnder
def fT_waysUnder (vTg : Nat → Int32) (p1 : Int32) (p2 : Int32) : Int32 := ((vTg p2.toNatClampNeg) &&& ((p1 >>> ((3 : Int32) &&& 31)) ^^^ (-1 : Int32)))
set_option maxHeartbeats 4000000 in
set_option maxRecDepth 100000 in
theorem kT_waysUnder (l : Launch) (dC : Nat → ClassId) (dI : Nat → Nat → Nat) (cI cB : ClassId) (aT aTg aTp aTm : Nat) (sz : Nat) (T_brokenWays : Int32) (T_triesAllowed : Int32) (T_mends : Int32) (T_talkers : Int32) (vTg : Nat → Int32) (vTp : Nat → Int32) (vTm : Nat → Int32) (p1 : Int32) (p2 : Int32) (hp0 : 0 ≤ p2.toInt ∧ p2.toInt < 5) : Met l yX4_waysUnder wsX4_waysUnder ({ frames := 0, cells := 0, slots := 0, locals := 0 }) (va_Pc [.ref aT, .int p1, .int p2] (PB (dC, dI) vwCl [(cI, .int), (cB, .byte)] [(aT, .inr (4, [.ref aTg, .ref aTp, .ref aTm, .int T_brokenWays, .int T_triesAllowed, .int T_mends, .int T_talkers])), (aTg, .inl (cI, 5, .inl vTg)), (aTp, .inl (cI, 7, .inl vTp)), (aTm, .inl (cI, 25, .inl vTm))] sz)) (va_Qi (fun (r : Int32) (u : Unit) => r = fT_waysUnder vTg p1 p2) (fun (_ : Unit) t => va_P (dC, dI) vwCl [(aT, .inr (4, [.ref aTg, .ref aTp, .ref aTm, .int T_brokenWays, .int T_triesAllowed, .int T_mends, .int T_talkers])), (aTg, .inl (cI, 5, .inl vTg)), (aTp, .inl (cI, 7, .inl vTp)), (aTm, .inl (cI, 25, .inl vTm))] t.heap ∧ va_K (dC, dI) vwCl [(cI, .int), (cB, .byte)] t ∧ va_D (va_A [(aT, .inr (4, [.ref aTg, .ref aTp, .ref aTm, .int T_brokenWays, .int T_triesAllowed, .int T_mends, .int T_talkers])), (aTg, .inl (cI, 5, .inl vTg)), (aTp, .inl (cI, 7, .inl vTp)), (aTm, .inl (cI, 25, .inl vTm))] sz) [(aT, .inr (4, [.ref aTg, .ref aTp, .ref aTm, .int T_brokenWays, .int T_triesAllowed, .int T_mends, .int T_talkers])), (aTg, .inl (cI, 5, .inl vTg)), (aTp, .inl (cI, 7, .inl vTp)), (aTm, .inl (cI, 25, .inl vTm))]) (va_A [(aT, .inr (4, [.ref aTg, .ref aTp, .ref aTm, .int T_brokenWays, .int T_triesAllowed, .int T_mends, .int T_talkers])), (aTg, .inl (cI, 5, .inl vTg)), (aTp, .inl (cI, 7, .inl vTp)), (aTm, .inl (cI, 25, .inl vTm))] sz)) 0 0 (va_A [(aT, .inr (4, [.ref aTg, .ref aTp, .ref aTm, .int T_brokenWays, .int T_triesAllowed, .int T_mends, .int T_talkers])), (aTg, .inl (cI, 5, .inl vTg)), (aTp, .inl (cI, 7, .inl vTp)), (aTm, .inl (cI, 25, .inl vTm))] sz) := by
  refine Met.ofW (cc := cX4_waysUnder) (maxL := 3) (ret := (some .int)) (by decide) rfl ?_
  intro p e s m args below meth c s₁ B hml hv
  obtain ⟨rfl, hsz, hP, hK, hD0⟩ := hv
  have hx := B.exec
  have hb := B.bytes
  have hr := B.returns
  have hts := atoms_spec (ws := wsX4_waysUnder) B.pre
  have hown : s.vm.findClass RX4 = some m.cls := findClass_of_methodNamed B.named
  have hlocks := B.notSynchronized
  clear B
  subst hsz
  have hD := hD0.self (sz := s.heap.size)
  clear hD0
  generalize hAe : va_A [(aT, .inr (4, [.ref aTg, .ref aTp, .ref aTm, .int T_brokenWays, .int T_triesAllowed, .int T_mends, .int T_talkers])), (aTg, .inl (cI, 5, .inl vTg)), (aTp, .inl (cI, 7, .inl vTp)), (aTm, .inl (cI, 25, .inl vTm))] s.heap.size = A at hD ⊢
  have hA : ∀ q : Nat, s.heap.size ≤ q → A q := fun q h => by rw [← hAe]; exact Or.inr h
  clear hAe
  have hS : va_S A s.heap s.heap [] := va_S.rf
  have hP : va_P (dC, dI) vwCl [(aT, .inr (4, [.ref aTg, .ref aTp, .ref aTm, .int T_brokenWays, .int T_triesAllowed, .int T_mends, .int T_talkers])), (aTg, .inl (cI, 5, .inl vTg)), (aTp, .inl (cI, 7, .inl vTp)), (aTm, .inl (cI, 25, .inl vTm))] s.heap := hP
  have hl := lv_entry ([.ref aT, .int p1, .int p2]) (n := 3) (Nat.le_of_ble_eq_true rfl)
  rw [lg_entry_eq]
  generalize (lg_sl ([.ref aT, .int p1, .int p2]) ++ List.replicate (3 - (lg_sl ([.ref aT, .int p1, .int p2])).length) Slot.unset).toArray = ls at hl ⊢
  have hl : lv_has ls 3 [(0, .ref aT), (1, .int p1), (2, .int p2)] := hl
  obtain ⟨RES, hRES⟩ : ∃ y, y = fT_waysUnder vTg p1 p2 := ⟨_, rfl⟩
  have hE := hRES.symm
  rw [fT_waysUnder] at hE
  refine lv_aload_n hx hb dX4_waysUnder_0 rfl (lv_at hl 0 rfl) ?_
  refine va_get (D := (dC, dI)) (ci := 4) (v := .ref aTg) (C := RX4) (T := TX4) (N := 7) hx hb hts (fun _ h => List.mem_cons_of_mem _ (List.mem_append_right _ h)) hown hK hP 0 rfl rfl 0 (by decide) (hts _ (List.mem_cons_of_mem _ (List.mem_append_left _ (List.mem_of_getElem? (i := 0) rfl)))) (fun _ h9 => h9) rfl dX4_waysUnder_1 ?_
  refine lv_iload_n hx hb dX4_waysUnder_4 rfl (lv_at hl 2 rfl) ?_
  refine va_iald (D := (dC, dI)) (cl := vwCl) hx hb hK hP 1 0 rfl rfl (vp_in_iff.mpr hp0) dX4_waysUnder_5 ?_
  refine lv_iload_n hx hb dX4_waysUnder_6 rfl (lv_at hl 1 rfl) ?_
  refine lv_iconst (v := (3 : Int32)) hx hb dX4_waysUnder_7 (by decide) ?_
  refine lv_ishr hx hb dX4_waysUnder_8 ?_
  refine lv_iconst (v := (-1 : Int32)) hx hb dX4_waysUnder_9 (by decide) ?_
  refine lv_ixor hx hb dX4_waysUnder_10 ?_
  refine lv_iand hx hb dX4_waysUnder_11 ?_
  exact W.iret (v := ((vTg p2.toNatClampNeg) &&& ((p1 >>> ((3 : Int32) &&& 31)) ^^^ (-1 : Int32)))) hx hb hr (fun t ht hW => ⟨⟨((vTg p2.toNatClampNeg) &&& ((p1 >>> ((3 : Int32) &&& 31)) ^^^ (-1 : Int32))), (), rfl, hE.trans hRES, (by rw [ht]; exact hP), va_K.moved hW.alike hK, hD⟩, hS.F ht⟩) hS.2.2 dX4_waysUnder_12
-- X4_bestUnder
def fT_bestUnder (vTg : Nat → Int32) (p1 : Int32) (p2 : Int32) (p3 : Int32) : Int32 := (fX_greatestOf ((fT_waysUnder vTg p1 p2) &&& (fT_waysUnder vTg p1 p3)))
set_option maxHeartbeats 4000000 in
set_option maxRecDepth 100000 in
theorem kT_bestUnder (l : Launch) (dC : Nat → ClassId) (dI : Nat → Nat → Nat) (cI cB : ClassId) (adK adV : Nat → Nat) (aT aTg aTp aTm : Nat) (sz : Nat) (T_brokenWays : Int32) (T_triesAllowed : Int32) (T_mends : Int32) (T_talkers : Int32) (vTg : Nat → Int32) (vTp : Nat → Int32) (vTm : Nat → Int32) (p1 : Int32) (p2 : Int32) (p3 : Int32) (hp0 : 0 ≤ p2.toInt ∧ p2.toInt < 5) (hp1 : 0 ≤ p3.toInt ∧ p3.toInt < 5) : Met l yX4_bestUnder wsX4_bestUnder ({ frames := 1, cells := 0, slots := 0, locals := 22 }) (va_Pc [.ref aT, .int p1, .int p2, .int p3] (PE (dC, dI) vwCl [(cI, .int), (cB, .byte)] [(aT, .inr (4, [.ref aTg, .ref aTp, .ref aTm, .int T_brokenWays, .int T_triesAllowed, .int T_mends, .int T_talkers])), (aTg, .inl (cI, 5, .inl vTg)), (aTp, .inl (cI, 7, .inl vTp)), (aTm, .inl (cI, 25, .inl vTm))] sz adK adV)) (va_Qi (fun (r : Int32) (u : Unit) => r = fT_bestUnder vTg p1 p2 p3 ∧ (-1 ≤ r.toInt ∧ r.toInt ≤ 3)) (fun (_ : Unit) t => va_P (dC, dI) vwCl [(aT, .inr (4, [.ref aTg, .ref aTp, .ref aTm, .int T_brokenWays, .int T_triesAllowed, .int T_mends, .int T_talkers])), (aTg, .inl (cI, 5, .inl vTg)), (aTp, .inl (cI, 7, .inl vTp)), (aTm, .inl (cI, 25, .inl vTm))] t.heap ∧ va_K (dC, dI) vwCl [(cI, .int), (cB, .byte)] t ∧ va_D (va_A [(aT, .inr (4, [.ref aTg, .ref aTp, .ref aTm, .int T_brokenWays, .int T_triesAllowed, .int T_mends, .int T_talkers])), (aTg, .inl (cI, 5, .inl vTg)), (aTp, .inl (cI, 7, .inl vTp)), (aTm, .inl (cI, 25, .inl vTm))] sz) [(aT, .inr (4, [.ref aTg, .ref aTp, .ref aTm, .int T_brokenWays, .int T_triesAllowed, .int T_mends, .int T_talkers])), (aTg, .inl (cI, 5, .inl vTg)), (aTp, .inl (cI, 7, .inl vTp)), (aTm, .inl (cI, 25, .inl vTm))]) (va_A [(aT, .inr (4, [.ref aTg, .ref aTp, .ref aTm, .int T_brokenWays, .int T_triesAllowed, .int T_mends, .int T_talkers])), (aTg, .inl (cI, 5, .inl vTg)), (aTp, .inl (cI, 7, .inl vTp)), (aTm, .inl (cI, 25, .inl vTm))] sz)) 0 0 (va_A [(aT, .inr (4, [.ref aTg, .ref aTp, .ref aTm, .int T_brokenWays, .int T_triesAllowed, .int T_mends, .int T_talkers])), (aTg, .inl (cI, 5, .inl vTg)), (aTp, .inl (cI, 7, .inl vTp)), (aTm, .inl (cI, 25, .inl vTm))] sz) := by
  refine Met.ofW (cc := cX4_bestUnder) (maxL := 4) (ret := (some .int)) (by decide) rfl ?_
  intro p e s m args below meth c s₁ B hml hv
  obtain ⟨rfl, ⟨hsz, hP, hK, hD0⟩, hEv⟩ := hv
  have hx := B.exec
  have hb := B.bytes
  have hr := B.returns
  have hts := atoms_spec (ws := wsX4_bestUnder) B.pre
  have hown : s.vm.findClass RX4 = some m.cls := findClass_of_methodNamed B.named
  have hlocks := B.notSynchronized
  clear B
  subst hsz
  have hD := hD0.self (sz := s.heap.size)
  clear hD0
  generalize hAe : va_A [(aT, .inr (4, [.ref aTg, .ref aTp, .ref aTm, .int T_brokenWays, .int T_triesAllowed, .int T_mends, .int T_talkers])), (aTg, .inl (cI, 5, .inl vTg)), (aTp, .inl (cI, 7, .inl vTp)), (aTm, .inl (cI, 25, .inl vTm))] s.heap.size = A at hD hEv ⊢
  have hA : ∀ q : Nat, s.heap.size ≤ q → A q := fun q h => by rw [← hAe]; exact Or.inr h
  clear hAe
  have hS : va_S A s.heap s.heap [] := va_S.rf
  have hP : va_P (dC, dI) vwCl [(aT, .inr (4, [.ref aTg, .ref aTp, .ref aTm, .int T_brokenWays, .int T_triesAllowed, .int T_mends, .int T_talkers])), (aTg, .inl (cI, 5, .inl vTg)), (aTp, .inl (cI, 7, .inl vTp)), (aTm, .inl (cI, 25, .inl vTm))] s.heap := hP
  have hl := lv_entry ([.ref aT, .int p1, .int p2, .int p3]) (n := 4) (Nat.le_of_ble_eq_true rfl)
  rw [lg_entry_eq]
  generalize (lg_sl ([.ref aT, .int p1, .int p2, .int p3]) ++ List.replicate (4 - (lg_sl ([.ref aT, .int p1, .int p2, .int p3])).length) Slot.unset).toArray = ls at hl ⊢
  have hl : lv_has ls 4 [(0, .ref aT), (1, .int p1), (2, .int p2), (3, .int p3)] := hl
  obtain ⟨RES, hRES⟩ : ∃ y, y = fT_bestUnder vTg p1 p2 p3 := ⟨_, rfl⟩
  have hE := hRES.symm
  rw [fT_bestUnder] at hE
  refine lv_aload_n hx hb dX4_bestUnder_0 rfl (lv_at hl 0 rfl) ?_
  refine lv_iload_n hx hb dX4_bestUnder_1 rfl (lv_at hl 1 rfl) ?_
  refine lv_iload_n hx hb dX4_bestUnder_2 rfl (lv_at hl 2 rfl) ?_
  have hPc := hP.sub (ws' := [(aT, .inr (4, [.ref aTg, .ref aTp, .ref aTm, .int T_brokenWays, .int T_triesAllowed, .int T_mends, .int T_talkers])), (aTg, .inl (cI, 5, .inl vTg)), (aTp, .inl (cI, 7, .inl vTp)), (aTm, .inl (cI, 25, .inl vTm))]) [0, 1, 2, 3] rfl
  have hDc := hD.sub (ws' := [(aT, .inr (4, [.ref aTg, .ref aTp, .ref aTm, .int T_brokenWays, .int T_triesAllowed, .int T_mends, .int T_talkers])), (aTg, .inl (cI, 5, .inl vTg)), (aTp, .inl (cI, 7, .inl vTp)), (aTm, .inl (cI, 25, .inl vTm))]) [0, 1, 2, 3] (by decide) rfl
  have hFc := va_free (wc := [(aT, .inr (4, [.ref aTg, .ref aTp, .ref aTm, .int T_brokenWays, .int T_triesAllowed, .int T_mends, .int T_talkers])), (aTg, .inl (cI, 5, .inl vTg)), (aTp, .inl (cI, 7, .inl vTp)), (aTm, .inl (cI, 25, .inl vTm))]) hD hS hA [0, 1, 2, 3] rfl
  refine va_calli (va_runV (As := [.int p1, .int p2]) (rest := []) ⟨hx, hb, hml, hown, hts⟩ (kT_waysUnder l dC dI cI cB aT aTg aTp aTm s.heap.size T_brokenWays T_triesAllowed T_mends T_talkers vTg vTp vTm p1 p2 hp0) (cwV 2 hts gX4_bestUnder_X4_waysUnder rfl rfl rfl (by decide +kernel) ⟨Nat.le_of_ble_eq_true rfl, Nat.le_of_ble_eq_true rfl⟩) (pre_V (q := (RX4, TX4, 7)) hK hPc hDc rfl rfl) rfl rfl hl.1 rfl (lv_room (Nat.le_of_ble_eq_true rfl)) dX4_bestUnder_3 ⟨(Nat.zero_le _), (Nat.zero_le _)⟩) hS (fun q _ h => hFc q h) hFc (fun r3 u t H1 locs ht hvm hw hB hz1 hk1 hS => ?_)
  obtain ⟨hP1, hK1, hD1⟩ := hB
  rw [ht] at hP1
  have hw := hw.symm
  subst hw
  obtain ⟨hP, hD⟩ := va_join (wr := []) (w1 := [(aT, .inr (4, [.ref aTg, .ref aTp, .ref aTm, .int T_brokenWays, .int T_triesAllowed, .int T_mends, .int T_talkers])), (aTg, .inl (cI, 5, .inl vTg)), (aTp, .inl (cI, 7, .inl vTp)), (aTm, .inl (cI, 25, .inl vTm))]) hP hD [0, 1, 2, 3] [] rfl rfl (by decide) (by decide) hk1 hFc hP1 hD1
  generalize H1 = H at hP hS ⊢
  have hP : va_P (dC, dI) vwCl [(aT, .inr (4, [.ref aTg, .ref aTp, .ref aTm, .int T_brokenWays, .int T_triesAllowed, .int T_mends, .int T_talkers])), (aTg, .inl (cI, 5, .inl vTg)), (aTp, .inl (cI, 7, .inl vTp)), (aTm, .inl (cI, 25, .inl vTm))] H := hP
  have hD : va_D A [(aT, .inr (4, [.ref aTg, .ref aTp, .ref aTm, .int T_brokenWays, .int T_triesAllowed, .int T_mends, .int T_talkers])), (aTg, .inl (cI, 5, .inl vTg)), (aTp, .inl (cI, 7, .inl vTp)), (aTm, .inl (cI, 25, .inl vTm))] := hD
  refine lv_aload_n hx hb dX4_bestUnder_6 rfl (lv_at hl 0 rfl) ?_
  refine lv_iload_n hx hb dX4_bestUnder_7 rfl (lv_at hl 1 rfl) ?_
  refine lv_iload_n hx hb dX4_bestUnder_8 rfl (lv_at hl 3 rfl) ?_
  have hPc := hP.sub (ws' := [(aT, .inr (4, [.ref aTg, .ref aTp, .ref aTm, .int T_brokenWays, .int T_triesAllowed, .int T_mends, .int T_talkers])), (aTg, .inl (cI, 5, .inl vTg)), (aTp, .inl (cI, 7, .inl vTp)), (aTm, .inl (cI, 25, .inl vTm))]) [0, 1, 2, 3] rfl
  have hDc := hD.sub (ws' := [(aT, .inr (4, [.ref aTg, .ref aTp, .ref aTm, .int T_brokenWays, .int T_triesAllowed, .int T_mends, .int T_talkers])), (aTg, .inl (cI, 5, .inl vTg)), (aTp, .inl (cI, 7, .inl vTp)), (aTm, .inl (cI, 25, .inl vTm))]) [0, 1, 2, 3] (by decide) rfl
  have hFc := va_free (wc := [(aT, .inr (4, [.ref aTg, .ref aTp, .ref aTm, .int T_brokenWays, .int T_triesAllowed, .int T_mends, .int T_talkers])), (aTg, .inl (cI, 5, .inl vTg)), (aTp, .inl (cI, 7, .inl vTp)), (aTm, .inl (cI, 25, .inl vTm))]) hD hS hA [0, 1, 2, 3] rfl
  refine va_calli (va_runV (As := [.int p1, .int p3]) (rest := [.int (fT_waysUnder vTg p1 p2)]) ⟨hx, hb, hml, hown, hts⟩ (kT_waysUnder l dC dI cI cB aT aTg aTp aTm H.size T_brokenWays T_triesAllowed T_mends T_talkers vTg vTp vTm p1 p3 hp1) (cwV 2 hts gX4_bestUnder_X4_waysUnder rfl rfl rfl (by decide +kernel) ⟨Nat.le_of_ble_eq_true rfl, Nat.le_of_ble_eq_true rfl⟩) (pre_V (q := (RX4, TX4, 7)) hK hPc hDc rfl rfl) rfl rfl hl.1 rfl (lv_room (Nat.le_of_ble_eq_true rfl)) dX4_bestUnder_9 ⟨(Nat.zero_le _), (Nat.zero_le _)⟩) hS (fun q _ h => hFc q h) hFc (fun r9 u t H1 locs ht hvm hw hB hz1 hk1 hS => ?_)
  obtain ⟨hP1, hK1, hD1⟩ := hB
  rw [ht] at hP1
  have hw := hw.symm
  subst hw
  obtain ⟨hP, hD⟩ := va_join (wr := []) (w1 := [(aT, .inr (4, [.ref aTg, .ref aTp, .ref aTm, .int T_brokenWays, .int T_triesAllowed, .int T_mends, .int T_talkers])), (aTg, .inl (cI, 5, .inl vTg)), (aTp, .inl (cI, 7, .inl vTp)), (aTm, .inl (cI, 25, .inl vTm))]) hP hD [0, 1, 2, 3] [] rfl rfl (by decide) (by decide) hk1 hFc hP1 hD1
  generalize H1 = H at hP hS ⊢
  have hP : va_P (dC, dI) vwCl [(aT, .inr (4, [.ref aTg, .ref aTp, .ref aTm, .int T_brokenWays, .int T_triesAllowed, .int T_mends, .int T_talkers])), (aTg, .inl (cI, 5, .inl vTg)), (aTp, .inl (cI, 7, .inl vTp)), (aTm, .inl (cI, 25, .inl vTm))] H := hP
  have hD : va_D A [(aT, .inr (4, [.ref aTg, .ref aTp, .ref aTm, .int T_brokenWays, .int T_triesAllowed, .int T_mends, .int T_talkers])), (aTg, .inl (cI, 5, .inl vTg)), (aTp, .inl (cI, 7, .inl vTp)), (aTm, .inl (cI, 25, .inl vTm))] := hD
  refine lv_iand hx hb dX4_bestUnder_12 ?_
  have hPc := hP.sub (ws' := []) [] rfl
  have hDc := hD.sub (ws' := []) [] (by decide) rfl
  have hFc := va_free (wc := []) hD hS hA [] rfl
  refine va_calli (va_runSN (As := [.int ((fT_waysUnder vTg p1 p2) &&& (fT_waysUnder vTg p1 p3))]) (rest := []) ⟨hx, hb, hml, hown, hts⟩ (kX_greatestOf l dC dI cI cB H.size ((fT_waysUnder vTg p1 p2) &&& (fT_waysUnder vTg p1 p3)) ) ⟨va_cnB 1 hts gX4_bestUnder_X6_greatestOf_n47 rfl rfl rfl (hEv.1 _ (List.mem_of_getElem? (i := 2) rfl)) (hts _ (List.mem_cons_of_mem _ (List.mem_append_left _ (List.mem_of_getElem? (i := 7) rfl)))) (by decide +kernel) ⟨Nat.le_of_ble_eq_true rfl, Nat.le_of_ble_eq_true rfl⟩, (hts _ (List.mem_cons_of_mem _ (List.mem_append_left _ (List.mem_of_getElem? (i := 6) rfl)))), trivial⟩ (pre_S hK hPc hDc) rfl rfl hl.1 rfl (lv_room (Nat.le_of_ble_eq_true rfl)) dX4_bestUnder_13 ⟨(Nat.zero_le _), (Nat.zero_le _)⟩) hS (fun q _ h => hFc q h) hFc (fun r13 u t H1 locs ht hvm hw hB hz1 hk1 hS => ?_)
  obtain ⟨hP1, hK1, hD1⟩ := hB
  rw [ht] at hP1
  obtain ⟨hw, hq0_13⟩ := hw
  have hw := hw.symm
  subst hw
  obtain ⟨hP, hD⟩ := va_join (wr := [(aT, .inr (4, [.ref aTg, .ref aTp, .ref aTm, .int T_brokenWays, .int T_triesAllowed, .int T_mends, .int T_talkers])), (aTg, .inl (cI, 5, .inl vTg)), (aTp, .inl (cI, 7, .inl vTp)), (aTm, .inl (cI, 25, .inl vTm))]) (w1 := []) hP hD [] [0, 1, 2, 3] rfl rfl (by decide) (by decide) hk1 hFc hP1 hD1
  generalize H1 = H at hP hS ⊢
  have hP : va_P (dC, dI) vwCl [(aT, .inr (4, [.ref aTg, .ref aTp, .ref aTm, .int T_brokenWays, .int T_triesAllowed, .int T_mends, .int T_talkers])), (aTg, .inl (cI, 5, .inl vTg)), (aTp, .inl (cI, 7, .inl vTp)), (aTm, .inl (cI, 25, .inl vTm))] H := hP
  have hD : va_D A [(aT, .inr (4, [.ref aTg, .ref aTp, .ref aTm, .int T_brokenWays, .int T_triesAllowed, .int T_mends, .int T_talkers])), (aTg, .inl (cI, 5, .inl vTg)), (aTp, .inl (cI, 7, .inl vTp)), (aTm, .inl (cI, 25, .inl vTm))] := hD
  exact W.iret (v := (fX_greatestOf ((fT_waysUnder vTg p1 p2) &&& (fT_waysUnder vTg p1 p3)))) hx hb hr (fun t ht hW => ⟨⟨(fX_greatestOf ((fT_waysUnder vTg p1 p2) &&& (fT_waysUnder vTg p1 p3))), (), rfl, ⟨hE.trans hRES, hq0_13⟩, (by rw [ht]; exact hP), va_K.moved hW.alike hK, hD⟩, hS.F ht⟩) hS.2.2 dX4_bestUnder_16
-- X4_breakWays
def fT_breakWays (T_brokenWays : Int32) (p1 : Int32) : Int32 := p1
set_option maxHeartbeats 4000000 in
set_option maxRecDepth 100000 in
theorem kT_breakWays (l : Launch) (dC : Nat → ClassId) (dI : Nat → Nat → Nat) (cI cB : ClassId) (aT aTg aTp aTm : Nat) (sz : Nat) (T_brokenWays : Int32) (T_triesAllowed : Int32) (T_mends : Int32) (T_talkers : Int32) (vTg : Nat → Int32) (vTp : Nat → Int32) (vTm : Nat → Int32) (p1 : Int32) : Met l yX4_breakWays wsX4_breakWays ({ frames := 0, cells := 0, slots := 0, locals := 0 }) (va_Pc [.ref aT, .int p1] (PB (dC, dI) vwCl [(cI, .int), (cB, .byte)] [(aT, .inr (4, [.ref aTg, .ref aTp, .ref aTm, .int T_brokenWays, .int T_triesAllowed, .int T_mends, .int T_talkers])), (aTg, .inl (cI, 5, .inl vTg)), (aTp, .inl (cI, 7, .inl vTp)), (aTm, .inl (cI, 25, .inl vTm))] sz)) (va_Qv (fun (u : Int32) => u = fT_breakWays T_brokenWays p1) (fun (u : Int32) t => va_P (dC, dI) vwCl [(aT, .inr (4, [.ref aTg, .ref aTp, .ref aTm, .int u, .int T_triesAllowed, .int T_mends, .int T_talkers])), (aTg, .inl (cI, 5, .inl vTg)), (aTp, .inl (cI, 7, .inl vTp)), (aTm, .inl (cI, 25, .inl vTm))] t.heap ∧ va_K (dC, dI) vwCl [(cI, .int), (cB, .byte)] t ∧ va_D (va_A [(aT, .inr (4, [.ref aTg, .ref aTp, .ref aTm, .int T_brokenWays, .int T_triesAllowed, .int T_mends, .int T_talkers])), (aTg, .inl (cI, 5, .inl vTg)), (aTp, .inl (cI, 7, .inl vTp)), (aTm, .inl (cI, 25, .inl vTm))] sz) [(aT, .inr (4, [.ref aTg, .ref aTp, .ref aTm, .int u, .int T_triesAllowed, .int T_mends, .int T_talkers])), (aTg, .inl (cI, 5, .inl vTg)), (aTp, .inl (cI, 7, .inl vTp)), (aTm, .inl (cI, 25, .inl vTm))]) (va_A [(aT, .inr (4, [.ref aTg, .ref aTp, .ref aTm, .int T_brokenWays, .int T_triesAllowed, .int T_mends, .int T_talkers])), (aTg, .inl (cI, 5, .inl vTg)), (aTp, .inl (cI, 7, .inl vTp)), (aTm, .inl (cI, 25, .inl vTm))] sz)) 0 0 (va_A [(aT, .inr (4, [.ref aTg, .ref aTp, .ref aTm, .int T_brokenWays, .int T_triesAllowed, .int T_mends, .int T_talkers])), (aTg, .inl (cI, 5, .inl vTg)), (aTp, .inl (cI, 7, .inl vTp)), (aTm, .inl (cI, 25, .inl vTm))] sz) := by
  refine Met.ofW (cc := cX4_breakWays) (maxL := 2) (ret := none) (by decide) rfl ?_
  intro p e s m args below meth c s₁ B hml hv
  obtain ⟨rfl, hsz, hP, hK, hD0⟩ := hv
  have hx := B.exec
  have hb := B.bytes
  have hr := B.returns
  have hts := atoms_spec (ws := wsX4_breakWays) B.pre
  have hown : s.vm.findClass RX4 = some m.cls := findClass_of_methodNamed B.named
  have hlocks := B.notSynchronized
  clear B
  subst hsz
  have hD := hD0.self (sz := s.heap.size)
  clear hD0
  generalize hAe : va_A [(aT, .inr (4, [.ref aTg, .ref aTp, .ref aTm, .int T_brokenWays, .int T_triesAllowed, .int T_mends, .int T_talkers])), (aTg, .inl (cI, 5, .inl vTg)), (aTp, .inl (cI, 7, .inl vTp)), (aTm, .inl (cI, 25, .inl vTm))] s.heap.size = A at hD ⊢
  have hA : ∀ q : Nat, s.heap.size ≤ q → A q := fun q h => by rw [← hAe]; exact Or.inr h
  clear hAe
  have hS : va_S A s.heap s.heap [] := va_S.rf
  have hP : va_P (dC, dI) vwCl [(aT, .inr (4, [.ref aTg, .ref aTp, .ref aTm, .int T_brokenWays, .int T_triesAllowed, .int T_mends, .int T_talkers])), (aTg, .inl (cI, 5, .inl vTg)), (aTp, .inl (cI, 7, .inl vTp)), (aTm, .inl (cI, 25, .inl vTm))] s.heap := hP
  have hl := lv_entry ([.ref aT, .int p1]) (n := 2) (Nat.le_of_ble_eq_true rfl)
  rw [lg_entry_eq]
  generalize (lg_sl ([.ref aT, .int p1]) ++ List.replicate (2 - (lg_sl ([.ref aT, .int p1])).length) Slot.unset).toArray = ls at hl ⊢
  have hl : lv_has ls 2 [(0, .ref aT), (1, .int p1)] := hl
  obtain ⟨RES, hRES⟩ : ∃ y, y = fT_breakWays T_brokenWays p1 := ⟨_, rfl⟩
  have hE := hRES.symm
  rw [fT_breakWays] at hE
  refine lv_aload_n hx hb dX4_breakWays_0 rfl (lv_at hl 0 rfl) ?_
  refine lv_iload_n hx hb dX4_breakWays_1 rfl (lv_at hl 1 rfl) ?_
  refine va_put (D := (dC, dI)) (ci := 4) (v := .int p1) (ty := .int) (C := RX4) (T := TX4) (N := 7) hx hb hts (fun _ h => List.mem_cons_of_mem _ (List.mem_append_right _ h)) tyX4 tyX4_ok nmX4 hown hK hP hD hS 0 rfl rfl 3 (by decide) (hts _ (List.mem_cons_of_mem _ (List.mem_append_left _ (List.mem_of_getElem? (i := 0) rfl)))) (fun _ h9 => h9) rfl (by decide +kernel) rfl rfl (Nat.le_of_ble_eq_true rfl) dX4_breakWays_2 (fun H locs hP hD hS => ?_)
  have hP : va_P (dC, dI) vwCl [(aT, .inr (4, [.ref aTg, .ref aTp, .ref aTm, .int p1, .int T_triesAllowed, .int T_mends, .int T_talkers])), (aTg, .inl (cI, 5, .inl vTg)), (aTp, .inl (cI, 7, .inl vTp)), (aTm, .inl (cI, 25, .inl vTm))] H := hP
  have hD : va_D A [(aT, .inr (4, [.ref aTg, .ref aTp, .ref aTm, .int p1, .int T_triesAllowed, .int T_mends, .int T_talkers])), (aTg, .inl (cI, 5, .inl vTg)), (aTp, .inl (cI, 7, .inl vTp)), (aTm, .inl (cI, 25, .inl vTm))] := hD
  exact W.vret hx hb hr (fun t ht hW => ⟨⟨(p1), rfl, hE.trans hRES, (by rw [ht]; exact hP), va_K.moved hW.alike hK, hD⟩, hS.F ht⟩) hS.2.2 dX4_breakWays_5
-- X4_waysBroken
def fT_waysBroken (T_brokenWays : Int32) : Int32 := T_brokenWays
set_option maxHeartbeats 4000000 in
set_option maxRecDepth 100000 in
theorem kT_waysBroken (l : Launch) (dC : Nat → ClassId) (dI : Nat → Nat → Nat) (cI cB : ClassId) (aT aTg aTp aTm : Nat) (sz : Nat) (T_brokenWays : Int32) (T_triesAllowed : Int32) (T_mends : Int32) (T_talkers : Int32) (vTg : Nat → Int32) (vTp : Nat → Int32) (vTm : Nat → Int32) : Met l yX4_waysBroken wsX4_waysBroken ({ frames := 0, cells := 0, slots := 0, locals := 0 }) (va_Pc [.ref aT] (PB (dC, dI) vwCl [(cI, .int), (cB, .byte)] [(aT, .inr (4, [.ref aTg, .ref aTp, .ref aTm, .int T_brokenWays, .int T_triesAllowed, .int T_mends, .int T_talkers])), (aTg, .inl (cI, 5, .inl vTg)), (aTp, .inl (cI, 7, .inl vTp)), (aTm, .inl (cI, 25, .inl vTm))] sz)) (va_Qi (fun (r : Int32) (u : Unit) => r = fT_waysBroken T_brokenWays) (fun (_ : Unit) t => va_P (dC, dI) vwCl [(aT, .inr (4, [.ref aTg, .ref aTp, .ref aTm, .int T_brokenWays, .int T_triesAllowed, .int T_mends, .int T_talkers])), (aTg, .inl (cI, 5, .inl vTg)), (aTp, .inl (cI, 7, .inl vTp)), (aTm, .inl (cI, 25, .inl vTm))] t.heap ∧ va_K (dC, dI) vwCl [(cI, .int), (cB, .byte)] t ∧ va_D (va_A [(aT, .inr (4, [.ref aTg, .ref aTp, .ref aTm, .int T_brokenWays, .int T_triesAllowed, .int T_mends, .int T_talkers])), (aTg, .inl (cI, 5, .inl vTg)), (aTp, .inl (cI, 7, .inl vTp)), (aTm, .inl (cI, 25, .inl vTm))] sz) [(aT, .inr (4, [.ref aTg, .ref aTp, .ref aTm, .int T_brokenWays, .int T_triesAllowed, .int T_mends, .int T_talkers])), (aTg, .inl (cI, 5, .inl vTg)), (aTp, .inl (cI, 7, .inl vTp)), (aTm, .inl (cI, 25, .inl vTm))]) (va_A [(aT, .inr (4, [.ref aTg, .ref aTp, .ref aTm, .int T_brokenWays, .int T_triesAllowed, .int T_mends, .int T_talkers])), (aTg, .inl (cI, 5, .inl vTg)), (aTp, .inl (cI, 7, .inl vTp)), (aTm, .inl (cI, 25, .inl vTm))] sz)) 0 0 (va_A [(aT, .inr (4, [.ref aTg, .ref aTp, .ref aTm, .int T_brokenWays, .int T_triesAllowed, .int T_mends, .int T_talkers])), (aTg, .inl (cI, 5, .inl vTg)), (aTp, .inl (cI, 7, .inl vTp)), (aTm, .inl (cI, 25, .inl vTm))] sz) := by
  refine Met.ofW (cc := cX4_waysBroken) (maxL := 1) (ret := (some .int)) (by decide) rfl ?_
  intro p e s m args below meth c s₁ B hml hv
  obtain ⟨rfl, hsz, hP, hK, hD0⟩ := hv
  have hx := B.exec
  have hb := B.bytes
  have hr := B.returns
  have hts := atoms_spec (ws := wsX4_waysBroken) B.pre
  have hown : s.vm.findClass RX4 = some m.cls := findClass_of_methodNamed B.named
  have hlocks := B.notSynchronized
  clear B
  subst hsz
  have hD := hD0.self (sz := s.heap.size)
  clear hD0
  generalize hAe : va_A [(aT, .inr (4, [.ref aTg, .ref aTp, .ref aTm, .int T_brokenWays, .int T_triesAllowed, .int T_mends, .int T_talkers])), (aTg, .inl (cI, 5, .inl vTg)), (aTp, .inl (cI, 7, .inl vTp)), (aTm, .inl (cI, 25, .inl vTm))] s.heap.size = A at hD ⊢
  have hA : ∀ q : Nat, s.heap.size ≤ q → A q := fun q h => by rw [← hAe]; exact Or.inr h
  clear hAe
  have hS : va_S A s.heap s.heap [] := va_S.rf
  have hP : va_P (dC, dI) vwCl [(aT, .inr (4, [.ref aTg, .ref aTp, .ref aTm, .int T_brokenWays, .int T_triesAllowed, .int T_mends, .int T_talkers])), (aTg, .inl (cI, 5, .inl vTg)), (aTp, .inl (cI, 7, .inl vTp)), (aTm, .inl (cI, 25, .inl vTm))] s.heap := hP
  have hl := lv_entry ([.ref aT]) (n := 1) (Nat.le_of_ble_eq_true rfl)
  rw [lg_entry_eq]
  generalize (lg_sl ([.ref aT]) ++ List.replicate (1 - (lg_sl ([.ref aT])).length) Slot.unset).toArray = ls at hl ⊢
  have hl : lv_has ls 1 [(0, .ref aT)] := hl
  obtain ⟨RES, hRES⟩ : ∃ y, y = fT_waysBroken T_brokenWays := ⟨_, rfl⟩
  have hE := hRES.symm
  rw [fT_waysBroken] at hE
  refine lv_aload_n hx hb dX4_waysBroken_0 rfl (lv_at hl 0 rfl) ?_
  refine va_get (D := (dC, dI)) (ci := 4) (v := .int T_brokenWays) (C := RX4) (T := TX4) (N := 7) hx hb hts (fun _ h => List.mem_cons_of_mem _ (List.mem_append_right _ h)) hown hK hP 0 rfl rfl 3 (by decide) (hts _ (List.mem_cons_of_mem _ (List.mem_append_left _ (List.mem_of_getElem? (i := 0) rfl)))) (fun _ h9 => h9) rfl dX4_waysBroken_1 ?_
  exact W.iret (v := T_brokenWays) hx hb hr (fun t ht hW => ⟨⟨T_brokenWays, (), rfl, hE.trans hRES, (by rw [ht]; exact hP), va_K.moved hW.alike hK, hD⟩, hS.F ht⟩) hS.2.2 dX4_waysBroken_4
-- X4_allowTries
def fT_allowTries (T_triesAllowed : Int32) (p1 : Int32) : Int32 := p1
set_option maxHeartbeats 4000000 in
set_option maxRecDepth 100000 in
theorem kT_allowTries (l : Launch) (dC : Nat → ClassId) (dI : Nat → Nat → Nat) (cI cB : ClassId) (aT aTg aTp aTm : Nat) (sz : Nat) (T_brokenWays : Int32) (T_triesAllowed : Int32) (T_mends : Int32) (T_talkers : Int32) (vTg : Nat → Int32) (vTp : Nat → Int32) (vTm : Nat → Int32) (p1 : Int32) : Met l yX4_allowTries wsX4_allowTries ({ frames := 0, cells := 0, slots := 0, locals := 0 }) (va_Pc [.ref aT, .int p1] (PB (dC, dI) vwCl [(cI, .int), (cB, .byte)] [(aT, .inr (4, [.ref aTg, .ref aTp, .ref aTm, .int T_brokenWays, .int T_triesAllowed, .int T_mends, .int T_talkers])), (aTg, .inl (cI, 5, .inl vTg)), (aTp, .inl (cI, 7, .inl vTp)), (aTm, .inl (cI, 25, .inl vTm))] sz)) (va_Qv (fun (u : Int32) => u = fT_allowTries T_triesAllowed p1) (fun (u : Int32) t => va_P (dC, dI) vwCl [(aT, .inr (4, [.ref aTg, .ref aTp, .ref aTm, .int T_brokenWays, .int u, .int T_mends, .int T_talkers])), (aTg, .inl (cI, 5, .inl vTg)), (aTp, .inl (cI, 7, .inl vTp)), (aTm, .inl (cI, 25, .inl vTm))] t.heap ∧ va_K (dC, dI) vwCl [(cI, .int), (cB, .byte)] t ∧ va_D (va_A [(aT, .inr (4, [.ref aTg, .ref aTp, .ref aTm, .int T_brokenWays, .int T_triesAllowed, .int T_mends, .int T_talkers])), (aTg, .inl (cI, 5, .inl vTg)), (aTp, .inl (cI, 7, .inl vTp)), (aTm, .inl (cI, 25, .inl vTm))] sz) [(aT, .inr (4, [.ref aTg, .ref aTp, .ref aTm, .int T_brokenWays, .int u, .int T_mends, .int T_talkers])), (aTg, .inl (cI, 5, .inl vTg)), (aTp, .inl (cI, 7, .inl vTp)), (aTm, .inl (cI, 25, .inl vTm))]) (va_A [(aT, .inr (4, [.ref aTg, .ref aTp, .ref aTm, .int T_brokenWays, .int T_triesAllowed, .int T_mends, .int T_talkers])), (aTg, .inl (cI, 5, .inl vTg)), (aTp, .inl (cI, 7, .inl vTp)), (aTm, .inl (cI, 25, .inl vTm))] sz)) 0 0 (va_A [(aT, .inr (4, [.ref aTg, .ref aTp, .ref aTm, .int T_brokenWays, .int T_triesAllowed, .int T_mends, .int T_talkers])), (aTg, .inl (cI, 5, .inl vTg)), (aTp, .inl (cI, 7, .inl vTp)), (aTm, .inl (cI, 25, .inl vTm))] sz) := by
  refine Met.ofW (cc := cX4_allowTries) (maxL := 2) (ret := none) (by decide) rfl ?_
  intro p e s m args below meth c s₁ B hml hv
  obtain ⟨rfl, hsz, hP, hK, hD0⟩ := hv
  have hx := B.exec
  have hb := B.bytes
  have hr := B.returns
  have hts := atoms_spec (ws := wsX4_allowTries) B.pre
  have hown : s.vm.findClass RX4 = some m.cls := findClass_of_methodNamed B.named
  have hlocks := B.notSynchronized
  clear B
  subst hsz
  have hD := hD0.self (sz := s.heap.size)
  clear hD0
  generalize hAe : va_A [(aT, .inr (4, [.ref aTg, .ref aTp, .ref aTm, .int T_brokenWays, .int T_triesAllowed, .int T_mends, .int T_talkers])), (aTg, .inl (cI, 5, .inl vTg)), (aTp, .inl (cI, 7, .inl vTp)), (aTm, .inl (cI, 25, .inl vTm))] s.heap.size = A at hD ⊢
  have hA : ∀ q : Nat, s.heap.size ≤ q → A q := fun q h => by rw [← hAe]; exact Or.inr h
  clear hAe
  have hS : va_S A s.heap s.heap [] := va_S.rf
  have hP : va_P (dC, dI) vwCl [(aT, .inr (4, [.ref aTg, .ref aTp, .ref aTm, .int T_brokenWays, .int T_triesAllowed, .int T_mends, .int T_talkers])), (aTg, .inl (cI, 5, .inl vTg)), (aTp, .inl (cI, 7, .inl vTp)), (aTm, .inl (cI, 25, .inl vTm))] s.heap := hP
  have hl := lv_entry ([.ref aT, .int p1]) (n := 2) (Nat.le_of_ble_eq_true rfl)
  rw [lg_entry_eq]
  generalize (lg_sl ([.ref aT, .int p1]) ++ List.replicate (2 - (lg_sl ([.ref aT, .int p1])).length) Slot.unset).toArray = ls at hl ⊢
  have hl : lv_has ls 2 [(0, .ref aT), (1, .int p1)] := hl
  obtain ⟨RES, hRES⟩ : ∃ y, y = fT_allowTries T_triesAllowed p1 := ⟨_, rfl⟩
  have hE := hRES.symm
  rw [fT_allowTries] at hE
  refine lv_aload_n hx hb dX4_allowTries_0 rfl (lv_at hl 0 rfl) ?_
  refine lv_iload_n hx hb dX4_allowTries_1 rfl (lv_at hl 1 rfl) ?_
  refine va_put (D := (dC, dI)) (ci := 4) (v := .int p1) (ty := .int) (C := RX4) (T := TX4) (N := 7) hx hb hts (fun _ h => List.mem_cons_of_mem _ (List.mem_append_right _ h)) tyX4 tyX4_ok nmX4 hown hK hP hD hS 0 rfl rfl 4 (by decide) (hts _ (List.mem_cons_of_mem _ (List.mem_append_left _ (List.mem_of_getElem? (i := 0) rfl)))) (fun _ h9 => h9) rfl (by decide +kernel) rfl rfl (Nat.le_of_ble_eq_true rfl) dX4_allowTries_2 (fun H locs hP hD hS => ?_)
  have hP : va_P (dC, dI) vwCl [(aT, .inr (4, [.ref aTg, .ref aTp, .ref aTm, .int T_brokenWays, .int p1, .int T_mends, .int T_talkers])), (aTg, .inl (cI, 5, .inl vTg)), (aTp, .inl (cI, 7, .inl vTp)), (aTm, .inl (cI, 25, .inl vTm))] H := hP
  have hD : va_D A [(aT, .inr (4, [.ref aTg, .ref aTp, .ref aTm, .int T_brokenWays, .int p1, .int T_mends, .int T_talkers])), (aTg, .inl (cI, 5, .inl vTg)), (aTp, .inl (cI, 7, .inl vTp)), (aTm, .inl (cI, 25, .inl vTm))] := hD
  exact W.vret hx hb hr (fun t ht hW => ⟨⟨(p1), rfl, hE.trans hRES, (by rw [ht]; exact hP), va_K.moved hW.alike hK, hD⟩, hS.F ht⟩) hS.2.2 dX4_allowTries_5
-- X4_triesAllowed
def fT_triesAllowed (T_triesAllowed : Int32) : Int32 := T_triesAllowed
set_option maxHeartbeats 4000000 in
set_option maxRecDepth 100000 in
theorem kT_triesAllowed (l : Launch) (dC : Nat → ClassId) (dI : Nat → Nat → Nat) (cI cB : ClassId) (aT aTg aTp aTm : Nat) (sz : Nat) (T_brokenWays : Int32) (T_triesAllowed : Int32) (T_mends : Int32) (T_talkers : Int32) (vTg : Nat → Int32) (vTp : Nat → Int32) (vTm : Nat → Int32) : Met l yX4_triesAllowed wsX4_triesAllowed ({ frames := 0, cells := 0, slots := 0, locals := 0 }) (va_Pc [.ref aT] (PB (dC, dI) vwCl [(cI, .int), (cB, .byte)] [(aT, .inr (4, [.ref aTg, .ref aTp, .ref aTm, .int T_brokenWays, .int T_triesAllowed, .int T_mends, .int T_talkers])), (aTg, .inl (cI, 5, .inl vTg)), (aTp, .inl (cI, 7, .inl vTp)), (aTm, .inl (cI, 25, .inl vTm))] sz)) (va_Qi (fun (r : Int32) (u : Unit) => r = fT_triesAllowed T_triesAllowed ∧ (r = T_triesAllowed)) (fun (_ : Unit) t => va_P (dC, dI) vwCl [(aT, .inr (4, [.ref aTg, .ref aTp, .ref aTm, .int T_brokenWays, .int T_triesAllowed, .int T_mends, .int T_talkers])), (aTg, .inl (cI, 5, .inl vTg)), (aTp, .inl (cI, 7, .inl vTp)), (aTm, .inl (cI, 25, .inl vTm))] t.heap ∧ va_K (dC, dI) vwCl [(cI, .int), (cB, .byte)] t ∧ va_D (va_A [(aT, .inr (4, [.ref aTg, .ref aTp, .ref aTm, .int T_brokenWays, .int T_triesAllowed, .int T_mends, .int T_talkers])), (aTg, .inl (cI, 5, .inl vTg)), (aTp, .inl (cI, 7, .inl vTp)), (aTm, .inl (cI, 25, .inl vTm))] sz) [(aT, .inr (4, [.ref aTg, .ref aTp, .ref aTm, .int T_brokenWays, .int T_triesAllowed, .int T_mends, .int T_talkers])), (aTg, .inl (cI, 5, .inl vTg)), (aTp, .inl (cI, 7, .inl vTp)), (aTm, .inl (cI, 25, .inl vTm))]) (va_A [(aT, .inr (4, [.ref aTg, .ref aTp, .ref aTm, .int T_brokenWays, .int T_triesAllowed, .int T_mends, .int T_talkers])), (aTg, .inl (cI, 5, .inl vTg)), (aTp, .inl (cI, 7, .inl vTp)), (aTm, .inl (cI, 25, .inl vTm))] sz)) 0 0 (va_A [(aT, .inr (4, [.ref aTg, .ref aTp, .ref aTm, .int T_brokenWays, .int T_triesAllowed, .int T_mends, .int T_talkers])), (aTg, .inl (cI, 5, .inl vTg)), (aTp, .inl (cI, 7, .inl vTp)), (aTm, .inl (cI, 25, .inl vTm))] sz) := by
  refine Met.ofW (cc := cX4_triesAllowed) (maxL := 1) (ret := (some .int)) (by decide) rfl ?_
  intro p e s m args below meth c s₁ B hml hv
  obtain ⟨rfl, hsz, hP, hK, hD0⟩ := hv
  have hx := B.exec
  have hb := B.bytes
  have hr := B.returns
  have hts := atoms_spec (ws := wsX4_triesAllowed) B.pre
  have hown : s.vm.findClass RX4 = some m.cls := findClass_of_methodNamed B.named
  have hlocks := B.notSynchronized
  clear B
  subst hsz
  have hD := hD0.self (sz := s.heap.size)
  clear hD0
  generalize hAe : va_A [(aT, .inr (4, [.ref aTg, .ref aTp, .ref aTm, .int T_brokenWays, .int T_triesAllowed, .int T_mends, .int T_talkers])), (aTg, .inl (cI, 5, .inl vTg)), (aTp, .inl (cI, 7, .inl vTp)), (aTm, .inl (cI, 25, .inl vTm))] s.heap.size = A at hD ⊢
  have hA : ∀ q : Nat, s.heap.size ≤ q → A q := fun q h => by rw [← hAe]; exact Or.inr h
  clear hAe
  have hS : va_S A s.heap s.heap [] := va_S.rf
  have hP : va_P (dC, dI) vwCl [(aT, .inr (4, [.ref aTg, .ref aTp, .ref aTm, .int T_brokenWays, .int T_triesAllowed, .int T_mends, .int T_talkers])), (aTg, .inl (cI, 5, .inl vTg)), (aTp, .inl (cI, 7, .inl vTp)), (aTm, .inl (cI, 25, .inl vTm))] s.heap := hP
  have hl := lv_entry ([.ref aT]) (n := 1) (Nat.le_of_ble_eq_true rfl)
  rw [lg_entry_eq]
  generalize (lg_sl ([.ref aT]) ++ List.replicate (1 - (lg_sl ([.ref aT])).length) Slot.unset).toArray = ls at hl ⊢
  have hl : lv_has ls 1 [(0, .ref aT)] := hl
  obtain ⟨RES, hRES⟩ : ∃ y, y = fT_triesAllowed T_triesAllowed := ⟨_, rfl⟩
  have hE := hRES.symm
  rw [fT_triesAllowed] at hE
  refine lv_aload_n hx hb dX4_triesAllowed_0 rfl (lv_at hl 0 rfl) ?_
  refine va_get (D := (dC, dI)) (ci := 4) (v := .int T_triesAllowed) (C := RX4) (T := TX4) (N := 7) hx hb hts (fun _ h => List.mem_cons_of_mem _ (List.mem_append_right _ h)) hown hK hP 0 rfl rfl 4 (by decide) (hts _ (List.mem_cons_of_mem _ (List.mem_append_left _ (List.mem_of_getElem? (i := 0) rfl)))) (fun _ h9 => h9) rfl dX4_triesAllowed_1 ?_
  exact W.iret (v := T_triesAllowed) hx hb hr (fun t ht hW => ⟨⟨T_triesAllowed, (), rfl, ⟨hE.trans hRES, rfl⟩, (by rw [ht]; exact hP), va_K.moved hW.alike hK, hD⟩, hS.F ht⟩) hS.2.2 dX4_triesAllowed_4
-- X4_switchMend
def fT_switchMend_b26  (p1 : Int32) (p2 : Int32) (s0_26 : Int32) (T_mends : Int32) : Int32 := s0_26
def fT_switchMend (T_mends : Int32) (p1 : Int32) (p2 : Int32) : Int32 := (if p2 = 0 then fT_switchMend_b26 p1 p2 (T_mends &&& (((1 : Int32) <<< (p1 &&& 31)) ^^^ (-1 : Int32))) T_mends else fT_switchMend_b26 p1 p2 (T_mends ||| ((1 : Int32) <<< (p1 &&& 31))) T_mends)
set_option maxHeartbeats 4000000 in
set_option maxRecDepth 100000 in
theorem kT_switchMend (l : Launch) (dC : Nat → ClassId) (dI : Nat → Nat → Nat) (cI cB : ClassId) (aT aTg aTp aTm : Nat) (sz : Nat) (T_brokenWays : Int32) (T_triesAllowed : Int32) (T_mends : Int32) (T_talkers : Int32) (vTg : Nat → Int32) (vTp : Nat → Int32) (vTm : Nat → Int32) (p1 : Int32) (p2 : Int32) : Met l yX4_switchMend wsX4_switchMend ({ frames := 0, cells := 0, slots := 0, locals := 0 }) (va_Pc [.ref aT, .int p1, .int p2] (PB (dC, dI) vwCl [(cI, .int), (cB, .byte)] [(aT, .inr (4, [.ref aTg, .ref aTp, .ref aTm, .int T_brokenWays, .int T_triesAllowed, .int T_mends, .int T_talkers])), (aTg, .inl (cI, 5, .inl vTg)), (aTp, .inl (cI, 7, .inl vTp)), (aTm, .inl (cI, 25, .inl vTm))] sz)) (va_Qv (fun (u : Int32) => u = fT_switchMend T_mends p1 p2) (fun (u : Int32) t => va_P (dC, dI) vwCl [(aT, .inr (4, [.ref aTg, .ref aTp, .ref aTm, .int T_brokenWays, .int T_triesAllowed, .int u, .int T_talkers])), (aTg, .inl (cI, 5, .inl vTg)), (aTp, .inl (cI, 7, .inl vTp)), (aTm, .inl (cI, 25, .inl vTm))] t.heap ∧ va_K (dC, dI) vwCl [(cI, .int), (cB, .byte)] t ∧ va_D (va_A [(aT, .inr (4, [.ref aTg, .ref aTp, .ref aTm, .int T_brokenWays, .int T_triesAllowed, .int T_mends, .int T_talkers])), (aTg, .inl (cI, 5, .inl vTg)), (aTp, .inl (cI, 7, .inl vTp)), (aTm, .inl (cI, 25, .inl vTm))] sz) [(aT, .inr (4, [.ref aTg, .ref aTp, .ref aTm, .int T_brokenWays, .int T_triesAllowed, .int u, .int T_talkers])), (aTg, .inl (cI, 5, .inl vTg)), (aTp, .inl (cI, 7, .inl vTp)), (aTm, .inl (cI, 25, .inl vTm))]) (va_A [(aT, .inr (4, [.ref aTg, .ref aTp, .ref aTm, .int T_brokenWays, .int T_triesAllowed, .int T_mends, .int T_talkers])), (aTg, .inl (cI, 5, .inl vTg)), (aTp, .inl (cI, 7, .inl vTp)), (aTm, .inl (cI, 25, .inl vTm))] sz)) 0 0 (va_A [(aT, .inr (4, [.ref aTg, .ref aTp, .ref aTm, .int T_brokenWays, .int T_triesAllowed, .int T_mends, .int T_talkers])), (aTg, .inl (cI, 5, .inl vTg)), (aTp, .inl (cI, 7, .inl vTp)), (aTm, .inl (cI, 25, .inl vTm))] sz) := by
  refine Met.ofW (cc := cX4_switchMend) (maxL := 3) (ret := none) (by decide) rfl ?_
  intro p e s m args below meth c s₁ B hml hv
  obtain ⟨rfl, hsz, hP, hK, hD0⟩ := hv
  have hx := B.exec
  have hb := B.bytes
  have hr := B.returns
  have hts := atoms_spec (ws := wsX4_switchMend) B.pre
  have hown : s.vm.findClass RX4 = some m.cls := findClass_of_methodNamed B.named
  have hlocks := B.notSynchronized
  clear B
  subst hsz
  have hD := hD0.self (sz := s.heap.size)
  clear hD0
  generalize hAe : va_A [(aT, .inr (4, [.ref aTg, .ref aTp, .ref aTm, .int T_brokenWays, .int T_triesAllowed, .int T_mends, .int T_talkers])), (aTg, .inl (cI, 5, .inl vTg)), (aTp, .inl (cI, 7, .inl vTp)), (aTm, .inl (cI, 25, .inl vTm))] s.heap.size = A at hD ⊢
  have hA : ∀ q : Nat, s.heap.size ≤ q → A q := fun q h => by rw [← hAe]; exact Or.inr h
  clear hAe
  have hS : va_S A s.heap s.heap [] := va_S.rf
  have hP : va_P (dC, dI) vwCl [(aT, .inr (4, [.ref aTg, .ref aTp, .ref aTm, .int T_brokenWays, .int T_triesAllowed, .int T_mends, .int T_talkers])), (aTg, .inl (cI, 5, .inl vTg)), (aTp, .inl (cI, 7, .inl vTp)), (aTm, .inl (cI, 25, .inl vTm))] s.heap := hP
  have hl := lv_entry ([.ref aT, .int p1, .int p2]) (n := 3) (Nat.le_of_ble_eq_true rfl)
  rw [lg_entry_eq]
  generalize (lg_sl ([.ref aT, .int p1, .int p2]) ++ List.replicate (3 - (lg_sl ([.ref aT, .int p1, .int p2])).length) Slot.unset).toArray = ls at hl ⊢
  have hl : lv_has ls 3 [(0, .ref aT), (1, .int p1), (2, .int p2)] := hl
  obtain ⟨RES, hRES⟩ : ∃ y, y = fT_switchMend T_mends p1 p2 := ⟨_, rfl⟩
  have hE := hRES.symm
  rw [fT_switchMend] at hE
  refine W.nameQ (fun Q9 hQ9 => ?_)
  refine lv_aload_n hx hb dX4_switchMend_0 rfl (lv_at hl 0 rfl) ?_
  refine lv_iload_n hx hb dX4_switchMend_1 rfl (lv_at hl 2 rfl) ?_
  have b_26 : ∀ (s0_26 : Int32), fT_switchMend_b26 p1 p2 s0_26 T_mends = RES → ∀ (H : Heap) (locs : List Loc) (ls : Array Slot), va_P (dC, dI) vwCl [(aT, .inr (4, [.ref aTg, .ref aTp, .ref aTm, .int T_brokenWays, .int T_triesAllowed, .int T_mends, .int T_talkers])), (aTg, .inl (cI, 5, .inl vTg)), (aTp, .inl (cI, 7, .inl vTp)), (aTm, .inl (cI, 25, .inl vTm))] H → va_D A [(aT, .inr (4, [.ref aTg, .ref aTp, .ref aTm, .int T_brokenWays, .int T_triesAllowed, .int T_mends, .int T_talkers])), (aTg, .inl (cI, 5, .inl vTg)), (aTp, .inl (cI, 7, .inl vTp)), (aTm, .inl (cI, 25, .inl vTm))] → va_S A s.heap H locs → lv_has ls 3 [] → W p l e (headSpec wsX4_switchMend ({ frames := 0, cells := 0, slots := 0, locals := 0 })).room s m ([.ref aT, .int p1, .int p2] : List Value).toArray below meth c H locs 0 0 Q9 (F0 m 26 ls [.int s0_26, .ref aT]) := by
    intro s0_26 hE H locs ls hP hD hS hl
    rw [fT_switchMend_b26] at hE
    refine va_put (D := (dC, dI)) (ci := 4) (v := .int s0_26) (ty := .int) (C := RX4) (T := TX4) (N := 7) hx hb hts (fun _ h => List.mem_cons_of_mem _ (List.mem_append_right _ h)) tyX4 tyX4_ok nmX4 hown hK hP hD hS 0 rfl rfl 5 (by decide) (hts _ (List.mem_cons_of_mem _ (List.mem_append_left _ (List.mem_of_getElem? (i := 0) rfl)))) (fun _ h9 => h9) rfl (by decide +kernel) rfl rfl (Nat.le_of_ble_eq_true rfl) dX4_switchMend_26 (fun H locs hP hD hS => ?_)
    have hP : va_P (dC, dI) vwCl [(aT, .inr (4, [.ref aTg, .ref aTp, .ref aTm, .int T_brokenWays, .int T_triesAllowed, .int s0_26, .int T_talkers])), (aTg, .inl (cI, 5, .inl vTg)), (aTp, .inl (cI, 7, .inl vTp)), (aTm, .inl (cI, 25, .inl vTm))] H := hP
    have hD : va_D A [(aT, .inr (4, [.ref aTg, .ref aTp, .ref aTm, .int T_brokenWays, .int T_triesAllowed, .int s0_26, .int T_talkers])), (aTg, .inl (cI, 5, .inl vTg)), (aTp, .inl (cI, 7, .inl vTp)), (aTm, .inl (cI, 25, .inl vTm))] := hD
    subst hQ9
    exact W.vret hx hb hr (fun t ht hW => ⟨⟨(s0_26), rfl, hE.trans hRES, (by rw [ht]; exact hP), va_K.moved hW.alike hK, hD⟩, hS.F ht⟩) hS.2.2 dX4_switchMend_29
  refine lv_if_eq (tgt := 16) hx hb dX4_switchMend_2 (by decide) (fun c_2 => ?_) (fun c_2 => ?_)
  · have hE := ipos c_2 hE
    refine lv_aload_n hx hb dX4_switchMend_16 rfl (lv_at hl 0 rfl) ?_
    refine va_get (D := (dC, dI)) (ci := 4) (v := .int T_mends) (C := RX4) (T := TX4) (N := 7) hx hb hts (fun _ h => List.mem_cons_of_mem _ (List.mem_append_right _ h)) hown hK hP 0 rfl rfl 5 (by decide) (hts _ (List.mem_cons_of_mem _ (List.mem_append_left _ (List.mem_of_getElem? (i := 0) rfl)))) (fun _ h9 => h9) rfl dX4_switchMend_17 ?_
    refine lv_iconst (v := (1 : Int32)) hx hb dX4_switchMend_20 (by decide) ?_
    refine lv_iload_n hx hb dX4_switchMend_21 rfl (lv_at hl 1 rfl) ?_
    refine lv_ishl hx hb dX4_switchMend_22 ?_
    refine lv_iconst (v := (-1 : Int32)) hx hb dX4_switchMend_23 (by decide) ?_
    refine lv_ixor hx hb dX4_switchMend_24 ?_
    refine lv_iand hx hb dX4_switchMend_25 ?_
    exact b_26 (T_mends &&& (((1 : Int32) <<< (p1 &&& 31)) ^^^ (-1 : Int32)))  hE _ _ _ hP hD hS (lv_sub hl [] rfl)
  · have hE := ineg c_2 hE
    refine lv_aload_n hx hb dX4_switchMend_5 rfl (lv_at hl 0 rfl) ?_
    refine va_get (D := (dC, dI)) (ci := 4) (v := .int T_mends) (C := RX4) (T := TX4) (N := 7) hx hb hts (fun _ h => List.mem_cons_of_mem _ (List.mem_append_right _ h)) hown hK hP 0 rfl rfl 5 (by decide) (hts _ (List.mem_cons_of_mem _ (List.mem_append_left _ (List.mem_of_getElem? (i := 0) rfl)))) (fun _ h9 => h9) rfl dX4_switchMend_6 ?_
    refine lv_iconst (v := (1 : Int32)) hx hb dX4_switchMend_9 (by decide) ?_
    refine lv_iload_n hx hb dX4_switchMend_10 rfl (lv_at hl 1 rfl) ?_
    refine lv_ishl hx hb dX4_switchMend_11 ?_
    refine lv_ior hx hb dX4_switchMend_12 ?_
    refine lv_goto (tgt := 26) hx hb dX4_switchMend_13 (by decide) ?_
    exact b_26 (T_mends ||| ((1 : Int32) <<< (p1 &&& 31)))  hE _ _ _ hP hD hS (lv_sub hl [] rfl)
-- X4_isOn
def fT_isOn (T_mends : Int32) (p1 : Int32) : Int32 := (fX_holds T_mends p1)
set_option maxHeartbeats 4000000 in
set_option maxRecDepth 100000 in
theorem kT_isOn (l : Launch) (dC : Nat → ClassId) (dI : Nat → Nat → Nat) (cI cB : ClassId) (adK adV : Nat → Nat) (aT aTg aTp aTm : Nat) (sz : Nat) (T_brokenWays : Int32) (T_triesAllowed : Int32) (T_mends : Int32) (T_talkers : Int32) (vTg : Nat → Int32) (vTp : Nat → Int32) (vTm : Nat → Int32) (p1 : Int32) : Met l yX4_isOn wsX4_isOn ({ frames := 1, cells := 0, slots := 0, locals := 21 }) (va_Pc [.ref aT, .int p1] (PE (dC, dI) vwCl [(cI, .int), (cB, .byte)] [(aT, .inr (4, [.ref aTg, .ref aTp, .ref aTm, .int T_brokenWays, .int T_triesAllowed, .int T_mends, .int T_talkers])), (aTg, .inl (cI, 5, .inl vTg)), (aTp, .inl (cI, 7, .inl vTp)), (aTm, .inl (cI, 25, .inl vTm))] sz adK adV)) (va_Qi (fun (r : Int32) (u : Unit) => r = fT_isOn T_mends p1 ∧ (r = 0 ∨ r = 1)) (fun (_ : Unit) t => va_P (dC, dI) vwCl [(aT, .inr (4, [.ref aTg, .ref aTp, .ref aTm, .int T_brokenWays, .int T_triesAllowed, .int T_mends, .int T_talkers])), (aTg, .inl (cI, 5, .inl vTg)), (aTp, .inl (cI, 7, .inl vTp)), (aTm, .inl (cI, 25, .inl vTm))] t.heap ∧ va_K (dC, dI) vwCl [(cI, .int), (cB, .byte)] t ∧ va_D (va_A [(aT, .inr (4, [.ref aTg, .ref aTp, .ref aTm, .int T_brokenWays, .int T_triesAllowed, .int T_mends, .int T_talkers])), (aTg, .inl (cI, 5, .inl vTg)), (aTp, .inl (cI, 7, .inl vTp)), (aTm, .inl (cI, 25, .inl vTm))] sz) [(aT, .inr (4, [.ref aTg, .ref aTp, .ref aTm, .int T_brokenWays, .int T_triesAllowed, .int T_mends, .int T_talkers])), (aTg, .inl (cI, 5, .inl vTg)), (aTp, .inl (cI, 7, .inl vTp)), (aTm, .inl (cI, 25, .inl vTm))]) (va_A [(aT, .inr (4, [.ref aTg, .ref aTp, .ref aTm, .int T_brokenWays, .int T_triesAllowed, .int T_mends, .int T_talkers])), (aTg, .inl (cI, 5, .inl vTg)), (aTp, .inl (cI, 7, .inl vTp)), (aTm, .inl (cI, 25, .inl vTm))] sz)) 0 0 (va_A [(aT, .inr (4, [.ref aTg, .ref aTp, .ref aTm, .int T_brokenWays, .int T_triesAllowed, .int T_mends, .int T_talkers])), (aTg, .inl (cI, 5, .inl vTg)), (aTp, .inl (cI, 7, .inl vTp)), (aTm, .inl (cI, 25, .inl vTm))] sz) := by
  refine Met.ofW (cc := cX4_isOn) (maxL := 2) (ret := (some .boolean)) (by decide) rfl ?_
  intro p e s m args below meth c s₁ B hml hv
  obtain ⟨rfl, ⟨hsz, hP, hK, hD0⟩, hEv⟩ := hv
  have hx := B.exec
  have hb := B.bytes
  have hr := B.returns
  have hts := atoms_spec (ws := wsX4_isOn) B.pre
  have hown : s.vm.findClass RX4 = some m.cls := findClass_of_methodNamed B.named
  have hlocks := B.notSynchronized
  clear B
  subst hsz
  have hD := hD0.self (sz := s.heap.size)
  clear hD0
  generalize hAe : va_A [(aT, .inr (4, [.ref aTg, .ref aTp, .ref aTm, .int T_brokenWays, .int T_triesAllowed, .int T_mends, .int T_talkers])), (aTg, .inl (cI, 5, .inl vTg)), (aTp, .inl (cI, 7, .inl vTp)), (aTm, .inl (cI, 25, .inl vTm))] s.heap.size = A at hD hEv ⊢
  have hA : ∀ q : Nat, s.heap.size ≤ q → A q := fun q h => by rw [← hAe]; exact Or.inr h
  clear hAe
  have hS : va_S A s.heap s.heap [] := va_S.rf
  have hP : va_P (dC, dI) vwCl [(aT, .inr (4, [.ref aTg, .ref aTp, .ref aTm, .int T_brokenWays, .int T_triesAllowed, .int T_mends, .int T_talkers])), (aTg, .inl (cI, 5, .inl vTg)), (aTp, .inl (cI, 7, .inl vTp)), (aTm, .inl (cI, 25, .inl vTm))] s.heap := hP
  have hl := lv_entry ([.ref aT, .int p1]) (n := 2) (Nat.le_of_ble_eq_true rfl)
  rw [lg_entry_eq]
  generalize (lg_sl ([.ref aT, .int p1]) ++ List.replicate (2 - (lg_sl ([.ref aT, .int p1])).length) Slot.unset).toArray = ls at hl ⊢
  have hl : lv_has ls 2 [(0, .ref aT), (1, .int p1)] := hl
  obtain ⟨RES, hRES⟩ : ∃ y, y = fT_isOn T_mends p1 := ⟨_, rfl⟩
  have hE := hRES.symm
  rw [fT_isOn] at hE
  refine lv_aload_n hx hb dX4_isOn_0 rfl (lv_at hl 0 rfl) ?_
  refine va_get (D := (dC, dI)) (ci := 4) (v := .int T_mends) (C := RX4) (T := TX4) (N := 7) hx hb hts (fun _ h => List.mem_cons_of_mem _ (List.mem_append_right _ h)) hown hK hP 0 rfl rfl 5 (by decide) (hts _ (List.mem_cons_of_mem _ (List.mem_append_left _ (List.mem_of_getElem? (i := 0) rfl)))) (fun _ h9 => h9) rfl dX4_isOn_1 ?_
  refine lv_iload_n hx hb dX4_isOn_4 rfl (lv_at hl 1 rfl) ?_
  have hPc := hP.sub (ws' := []) [] rfl
  have hDc := hD.sub (ws' := []) [] (by decide) rfl
  have hFc := va_free (wc := []) hD hS hA [] rfl
  refine va_calli (va_runSN (As := [.int T_mends, .int p1]) (rest := []) ⟨hx, hb, hml, hown, hts⟩ (kX_holds l dC dI cI cB s.heap.size T_mends p1 ) ⟨va_cnB 2 hts gX4_isOn_X6_holds_n51 rfl rfl rfl (hEv.1 _ (List.mem_of_getElem? (i := 1) rfl)) (hts _ (List.mem_cons_of_mem _ (List.mem_append_left _ (List.mem_of_getElem? (i := 2) rfl)))) (by decide +kernel) ⟨Nat.le_of_ble_eq_true rfl, Nat.le_of_ble_eq_true rfl⟩, (hts _ (List.mem_cons_of_mem _ (List.mem_append_left _ (List.mem_of_getElem? (i := 1) rfl)))), trivial⟩ (pre_S hK hPc hDc) rfl rfl hl.1 rfl (lv_room (Nat.le_of_ble_eq_true rfl)) dX4_isOn_5 ⟨(Nat.zero_le _), (Nat.zero_le _)⟩) hS (fun q _ h => hFc q h) hFc (fun r5 u t H1 locs ht hvm hw hB hz1 hk1 hS => ?_)
  obtain ⟨hP1, hK1, hD1⟩ := hB
  rw [ht] at hP1
  obtain ⟨hw, hbz5⟩ := hw
  have hw := hw.symm
  subst hw
  obtain ⟨hP, hD⟩ := va_join (wr := [(aT, .inr (4, [.ref aTg, .ref aTp, .ref aTm, .int T_brokenWays, .int T_triesAllowed, .int T_mends, .int T_talkers])), (aTg, .inl (cI, 5, .inl vTg)), (aTp, .inl (cI, 7, .inl vTp)), (aTm, .inl (cI, 25, .inl vTm))]) (w1 := []) hP hD [] [0, 1, 2, 3] rfl rfl (by decide) (by decide) hk1 hFc hP1 hD1
  generalize H1 = H at hP hS ⊢
  have hP : va_P (dC, dI) vwCl [(aT, .inr (4, [.ref aTg, .ref aTp, .ref aTm, .int T_brokenWays, .int T_triesAllowed, .int T_mends, .int T_talkers])), (aTg, .inl (cI, 5, .inl vTg)), (aTp, .inl (cI, 7, .inl vTp)), (aTm, .inl (cI, 25, .inl vTm))] H := hP
  have hD : va_D A [(aT, .inr (4, [.ref aTg, .ref aTp, .ref aTm, .int T_brokenWays, .int T_triesAllowed, .int T_mends, .int T_talkers])), (aTg, .inl (cI, 5, .inl vTg)), (aTp, .inl (cI, 7, .inl vTp)), (aTm, .inl (cI, 25, .inl vTm))] := hD
  exact W.zret (v := (fX_holds T_mends p1)) (ty := .boolean) hx hb hr (bool_nar hbz5) (fun t ht hW => ⟨⟨(fX_holds T_mends p1), (), rfl, ⟨hE.trans hRES, hbz5⟩, (by rw [ht]; exact hP), va_K.moved hW.alike hK, hD⟩, hS.F ht⟩) hS.2.2 dX4_isOn_8
-- X4_mendsOn
def fT_mendsOn (T_mends : Int32) : Int32 := T_mends
set_option maxHeartbeats 4000000 in
set_option maxRecDepth 100000 in
theorem kT_mendsOn (l : Launch) (dC : Nat → ClassId) (dI : Nat → Nat → Nat) (cI cB : ClassId) (aT aTg aTp aTm : Nat) (sz : Nat) (T_brokenWays : Int32) (T_triesAllowed : Int32) (T_mends : Int32) (T_talkers : Int32) (vTg : Nat → Int32) (vTp : Nat → Int32) (vTm : Nat → Int32) : Met l yX4_mendsOn wsX4_mendsOn ({ frames := 0, cells := 0, slots := 0, locals := 0 }) (va_Pc [.ref aT] (PB (dC, dI) vwCl [(cI, .int), (cB, .byte)] [(aT, .inr (4, [.ref aTg, .ref aTp, .ref aTm, .int T_brokenWays, .int T_triesAllowed, .int T_mends, .int T_talkers])), (aTg, .inl (cI, 5, .inl vTg)), (aTp, .inl (cI, 7, .inl vTp)), (aTm, .inl (cI, 25, .inl vTm))] sz)) (va_Qi (fun (r : Int32) (u : Unit) => r = fT_mendsOn T_mends) (fun (_ : Unit) t => va_P (dC, dI) vwCl [(aT, .inr (4, [.ref aTg, .ref aTp, .ref aTm, .int T_brokenWays, .int T_triesAllowed, .int T_mends, .int T_talkers])), (aTg, .inl (cI, 5, .inl vTg)), (aTp, .inl (cI, 7, .inl vTp)), (aTm, .inl (cI, 25, .inl vTm))] t.heap ∧ va_K (dC, dI) vwCl [(cI, .int), (cB, .byte)] t ∧ va_D (va_A [(aT, .inr (4, [.ref aTg, .ref aTp, .ref aTm, .int T_brokenWays, .int T_triesAllowed, .int T_mends, .int T_talkers])), (aTg, .inl (cI, 5, .inl vTg)), (aTp, .inl (cI, 7, .inl vTp)), (aTm, .inl (cI, 25, .inl vTm))] sz) [(aT, .inr (4, [.ref aTg, .ref aTp, .ref aTm, .int T_brokenWays, .int T_triesAllowed, .int T_mends, .int T_talkers])), (aTg, .inl (cI, 5, .inl vTg)), (aTp, .inl (cI, 7, .inl vTp)), (aTm, .inl (cI, 25, .inl vTm))]) (va_A [(aT, .inr (4, [.ref aTg, .ref aTp, .ref aTm, .int T_brokenWays, .int T_triesAllowed, .int T_mends, .int T_talkers])), (aTg, .inl (cI, 5, .inl vTg)), (aTp, .inl (cI, 7, .inl vTp)), (aTm, .inl (cI, 25, .inl vTm))] sz)) 0 0 (va_A [(aT, .inr (4, [.ref aTg, .ref aTp, .ref aTm, .int T_brokenWays, .int T_triesAllowed, .int T_mends, .int T_talkers])), (aTg, .inl (cI, 5, .inl vTg)), (aTp, .inl (cI, 7, .inl vTp)), (aTm, .inl (cI, 25, .inl vTm))] sz) := by
  refine Met.ofW (cc := cX4_mendsOn) (maxL := 1) (ret := (some .int)) (by decide) rfl ?_
  intro p e s m args below meth c s₁ B hml hv
  obtain ⟨rfl, hsz, hP, hK, hD0⟩ := hv
  have hx := B.exec
  have hb := B.bytes
  have hr := B.returns
  have hts := atoms_spec (ws := wsX4_mendsOn) B.pre
  have hown : s.vm.findClass RX4 = some m.cls := findClass_of_methodNamed B.named
  have hlocks := B.notSynchronized
  clear B
  subst hsz
  have hD := hD0.self (sz := s.heap.size)
  clear hD0
  generalize hAe : va_A [(aT, .inr (4, [.ref aTg, .ref aTp, .ref aTm, .int T_brokenWays, .int T_triesAllowed, .int T_mends, .int T_talkers])), (aTg, .inl (cI, 5, .inl vTg)), (aTp, .inl (cI, 7, .inl vTp)), (aTm, .inl (cI, 25, .inl vTm))] s.heap.size = A at hD ⊢
  have hA : ∀ q : Nat, s.heap.size ≤ q → A q := fun q h => by rw [← hAe]; exact Or.inr h
  clear hAe
  have hS : va_S A s.heap s.heap [] := va_S.rf
  have hP : va_P (dC, dI) vwCl [(aT, .inr (4, [.ref aTg, .ref aTp, .ref aTm, .int T_brokenWays, .int T_triesAllowed, .int T_mends, .int T_talkers])), (aTg, .inl (cI, 5, .inl vTg)), (aTp, .inl (cI, 7, .inl vTp)), (aTm, .inl (cI, 25, .inl vTm))] s.heap := hP
  have hl := lv_entry ([.ref aT]) (n := 1) (Nat.le_of_ble_eq_true rfl)
  rw [lg_entry_eq]
  generalize (lg_sl ([.ref aT]) ++ List.replicate (1 - (lg_sl ([.ref aT])).length) Slot.unset).toArray = ls at hl ⊢
  have hl : lv_has ls 1 [(0, .ref aT)] := hl
  obtain ⟨RES, hRES⟩ : ∃ y, y = fT_mendsOn T_mends := ⟨_, rfl⟩
  have hE := hRES.symm
  rw [fT_mendsOn] at hE
  refine lv_aload_n hx hb dX4_mendsOn_0 rfl (lv_at hl 0 rfl) ?_
  refine va_get (D := (dC, dI)) (ci := 4) (v := .int T_mends) (C := RX4) (T := TX4) (N := 7) hx hb hts (fun _ h => List.mem_cons_of_mem _ (List.mem_append_right _ h)) hown hK hP 0 rfl rfl 5 (by decide) (hts _ (List.mem_cons_of_mem _ (List.mem_append_left _ (List.mem_of_getElem? (i := 0) rfl)))) (fun _ h9 => h9) rfl dX4_mendsOn_1 ?_
  exact W.iret (v := T_mends) hx hb hr (fun t ht hW => ⟨⟨T_mends, (), rfl, hE.trans hRES, (by rw [ht]; exact hP), va_K.moved hW.alike hK, hD⟩, hS.F ht⟩) hS.2.2 dX4_mendsOn_4
-- X4_priceMend
def fT_priceMend (vTp : Nat → Int32) (p1 : Int32) (p2 : Int32) : (Nat → Int32) := (upd vTp p1.toNatClampNeg p2)
set_option maxHeartbeats 4000000 in
set_option maxRecDepth 100000 in
theorem kT_priceMend (l : Launch) (dC : Nat → ClassId) (dI : Nat → Nat → Nat) (cI cB : ClassId) (aT aTg aTp aTm : Nat) (sz : Nat) (T_brokenWays : Int32) (T_triesAllowed : Int32) (T_mends : Int32) (T_talkers : Int32) (vTg : Nat → Int32) (vTp : Nat → Int32) (vTm : Nat → Int32) (p1 : Int32) (p2 : Int32) (hp0 : 0 ≤ p1.toInt ∧ p1.toInt < 7) : Met l yX4_priceMend wsX4_priceMend ({ frames := 0, cells := 0, slots := 0, locals := 0 }) (va_Pc [.ref aT, .int p1, .int p2] (PB (dC, dI) vwCl [(cI, .int), (cB, .byte)] [(aT, .inr (4, [.ref aTg, .ref aTp, .ref aTm, .int T_brokenWays, .int T_triesAllowed, .int T_mends, .int T_talkers])), (aTg, .inl (cI, 5, .inl vTg)), (aTp, .inl (cI, 7, .inl vTp)), (aTm, .inl (cI, 25, .inl vTm))] sz)) (va_Qv (fun (u : (Nat → Int32)) => u = fT_priceMend vTp p1 p2) (fun (u : (Nat → Int32)) t => va_P (dC, dI) vwCl [(aT, .inr (4, [.ref aTg, .ref aTp, .ref aTm, .int T_brokenWays, .int T_triesAllowed, .int T_mends, .int T_talkers])), (aTg, .inl (cI, 5, .inl vTg)), (aTp, .inl (cI, 7, .inl u)), (aTm, .inl (cI, 25, .inl vTm))] t.heap ∧ va_K (dC, dI) vwCl [(cI, .int), (cB, .byte)] t ∧ va_D (va_A [(aT, .inr (4, [.ref aTg, .ref aTp, .ref aTm, .int T_brokenWays, .int T_triesAllowed, .int T_mends, .int T_talkers])), (aTg, .inl (cI, 5, .inl vTg)), (aTp, .inl (cI, 7, .inl vTp)), (aTm, .inl (cI, 25, .inl vTm))] sz) [(aT, .inr (4, [.ref aTg, .ref aTp, .ref aTm, .int T_brokenWays, .int T_triesAllowed, .int T_mends, .int T_talkers])), (aTg, .inl (cI, 5, .inl vTg)), (aTp, .inl (cI, 7, .inl u)), (aTm, .inl (cI, 25, .inl vTm))]) (va_A [(aT, .inr (4, [.ref aTg, .ref aTp, .ref aTm, .int T_brokenWays, .int T_triesAllowed, .int T_mends, .int T_talkers])), (aTg, .inl (cI, 5, .inl vTg)), (aTp, .inl (cI, 7, .inl vTp)), (aTm, .inl (cI, 25, .inl vTm))] sz)) 0 0 (va_A [(aT, .inr (4, [.ref aTg, .ref aTp, .ref aTm, .int T_brokenWays, .int T_triesAllowed, .int T_mends, .int T_talkers])), (aTg, .inl (cI, 5, .inl vTg)), (aTp, .inl (cI, 7, .inl vTp)), (aTm, .inl (cI, 25, .inl vTm))] sz) := by
  refine Met.ofW (cc := cX4_priceMend) (maxL := 3) (ret := none) (by decide) rfl ?_
  intro p e s m args below meth c s₁ B hml hv
  obtain ⟨rfl, hsz, hP, hK, hD0⟩ := hv
  have hx := B.exec
  have hb := B.bytes
  have hr := B.returns
  have hts := atoms_spec (ws := wsX4_priceMend) B.pre
  have hown : s.vm.findClass RX4 = some m.cls := findClass_of_methodNamed B.named
  have hlocks := B.notSynchronized
  clear B
  subst hsz
  have hD := hD0.self (sz := s.heap.size)
  clear hD0
  generalize hAe : va_A [(aT, .inr (4, [.ref aTg, .ref aTp, .ref aTm, .int T_brokenWays, .int T_triesAllowed, .int T_mends, .int T_talkers])), (aTg, .inl (cI, 5, .inl vTg)), (aTp, .inl (cI, 7, .inl vTp)), (aTm, .inl (cI, 25, .inl vTm))] s.heap.size = A at hD ⊢
  have hA : ∀ q : Nat, s.heap.size ≤ q → A q := fun q h => by rw [← hAe]; exact Or.inr h
  clear hAe
  have hS : va_S A s.heap s.heap [] := va_S.rf
  have hP : va_P (dC, dI) vwCl [(aT, .inr (4, [.ref aTg, .ref aTp, .ref aTm, .int T_brokenWays, .int T_triesAllowed, .int T_mends, .int T_talkers])), (aTg, .inl (cI, 5, .inl vTg)), (aTp, .inl (cI, 7, .inl vTp)), (aTm, .inl (cI, 25, .inl vTm))] s.heap := hP
  have hl := lv_entry ([.ref aT, .int p1, .int p2]) (n := 3) (Nat.le_of_ble_eq_true rfl)
  rw [lg_entry_eq]
  generalize (lg_sl ([.ref aT, .int p1, .int p2]) ++ List.replicate (3 - (lg_sl ([.ref aT, .int p1, .int p2])).length) Slot.unset).toArray = ls at hl ⊢
  have hl : lv_has ls 3 [(0, .ref aT), (1, .int p1), (2, .int p2)] := hl
  obtain ⟨RES, hRES⟩ : ∃ y, y = fT_priceMend vTp p1 p2 := ⟨_, rfl⟩
  have hE := hRES.symm
  rw [fT_priceMend] at hE
  refine lv_aload_n hx hb dX4_priceMend_0 rfl (lv_at hl 0 rfl) ?_
  refine va_get (D := (dC, dI)) (ci := 4) (v := .ref aTp) (C := RX4) (T := TX4) (N := 7) hx hb hts (fun _ h => List.mem_cons_of_mem _ (List.mem_append_right _ h)) hown hK hP 0 rfl rfl 1 (by decide) (hts _ (List.mem_cons_of_mem _ (List.mem_append_left _ (List.mem_of_getElem? (i := 0) rfl)))) (fun _ h9 => h9) rfl dX4_priceMend_1 ?_
  refine lv_iload_n hx hb dX4_priceMend_4 rfl (lv_at hl 1 rfl) ?_
  refine lv_iload_n hx hb dX4_priceMend_5 rfl (lv_at hl 2 rfl) ?_
  refine va_iast (D := (dC, dI)) (cl := vwCl) hx hb hK hP hD hS 2 0 rfl rfl (vp_in_iff.mpr hp0) dX4_priceMend_6 (fun H locs hP hD hS => ?_)
  have hP : va_P (dC, dI) vwCl [(aT, .inr (4, [.ref aTg, .ref aTp, .ref aTm, .int T_brokenWays, .int T_triesAllowed, .int T_mends, .int T_talkers])), (aTg, .inl (cI, 5, .inl vTg)), (aTp, .inl (cI, 7, .inl (upd vTp p1.toNatClampNeg p2))), (aTm, .inl (cI, 25, .inl vTm))] H := hP
  have hD : va_D A [(aT, .inr (4, [.ref aTg, .ref aTp, .ref aTm, .int T_brokenWays, .int T_triesAllowed, .int T_mends, .int T_talkers])), (aTg, .inl (cI, 5, .inl vTg)), (aTp, .inl (cI, 7, .inl (upd vTp p1.toNatClampNeg p2))), (aTm, .inl (cI, 25, .inl vTm))] := hD
  exact W.vret hx hb hr (fun t ht hW => ⟨⟨((upd vTp p1.toNatClampNeg p2)), rfl, hE.trans hRES, (by rw [ht]; exact hP), va_K.moved hW.alike hK, hD⟩, hS.F ht⟩) hS.2.2 dX4_priceMend_7
-- X4_priceOf
def fT_priceOf (vTp : Nat → Int32) (p1 : Int32) : Int32 := (vTp p1.toNatClampNeg)
set_option maxHeartbeats 4000000 in
set_option maxRecDepth 100000 in
theorem kT_priceOf (l : Launch) (dC : Nat → ClassId) (dI : Nat → Nat → Nat) (cI cB : ClassId) (aT aTg aTp aTm : Nat) (sz : Nat) (T_brokenWays : Int32) (T_triesAllowed : Int32) (T_mends : Int32) (T_talkers : Int32) (vTg : Nat → Int32) (vTp : Nat → Int32) (vTm : Nat → Int32) (p1 : Int32) (hp0 : 0 ≤ p1.toInt ∧ p1.toInt < 7) : Met l yX4_priceOf wsX4_priceOf ({ frames := 0, cells := 0, slots := 0, locals := 0 }) (va_Pc [.ref aT, .int p1] (PB (dC, dI) vwCl [(cI, .int), (cB, .byte)] [(aT, .inr (4, [.ref aTg, .ref aTp, .ref aTm, .int T_brokenWays, .int T_triesAllowed, .int T_mends, .int T_talkers])), (aTg, .inl (cI, 5, .inl vTg)), (aTp, .inl (cI, 7, .inl vTp)), (aTm, .inl (cI, 25, .inl vTm))] sz)) (va_Qi (fun (r : Int32) (u : Unit) => r = fT_priceOf vTp p1) (fun (_ : Unit) t => va_P (dC, dI) vwCl [(aT, .inr (4, [.ref aTg, .ref aTp, .ref aTm, .int T_brokenWays, .int T_triesAllowed, .int T_mends, .int T_talkers])), (aTg, .inl (cI, 5, .inl vTg)), (aTp, .inl (cI, 7, .inl vTp)), (aTm, .inl (cI, 25, .inl vTm))] t.heap ∧ va_K (dC, dI) vwCl [(cI, .int), (cB, .byte)] t ∧ va_D (va_A [(aT, .inr (4, [.ref aTg, .ref aTp, .ref aTm, .int T_brokenWays, .int T_triesAllowed, .int T_mends, .int T_talkers])), (aTg, .inl (cI, 5, .inl vTg)), (aTp, .inl (cI, 7, .inl vTp)), (aTm, .inl (cI, 25, .inl vTm))] sz) [(aT, .inr (4, [.ref aTg, .ref aTp, .ref aTm, .int T_brokenWays, .int T_triesAllowed, .int T_mends, .int T_talkers])), (aTg, .inl (cI, 5, .inl vTg)), (aTp, .inl (cI, 7, .inl vTp)), (aTm, .inl (cI, 25, .inl vTm))]) (va_A [(aT, .inr (4, [.ref aTg, .ref aTp, .ref aTm, .int T_brokenWays, .int T_triesAllowed, .int T_mends, .int T_talkers])), (aTg, .inl (cI, 5, .inl vTg)), (aTp, .inl (cI, 7, .inl vTp)), (aTm, .inl (cI, 25, .inl vTm))] sz)) 0 0 (va_A [(aT, .inr (4, [.ref aTg, .ref aTp, .ref aTm, .int T_brokenWays, .int T_triesAllowed, .int T_mends, .int T_talkers])), (aTg, .inl (cI, 5, .inl vTg)), (aTp, .inl (cI, 7, .inl vTp)), (aTm, .inl (cI, 25, .inl vTm))] sz) := by
  refine Met.ofW (cc := cX4_priceOf) (maxL := 2) (ret := (some .int)) (by decide) rfl ?_
  intro p e s m args below meth c s₁ B hml hv
  obtain ⟨rfl, hsz, hP, hK, hD0⟩ := hv
  have hx := B.exec
  have hb := B.bytes
  have hr := B.returns
  have hts := atoms_spec (ws := wsX4_priceOf) B.pre
  have hown : s.vm.findClass RX4 = some m.cls := findClass_of_methodNamed B.named
  have hlocks := B.notSynchronized
  clear B
  subst hsz
  have hD := hD0.self (sz := s.heap.size)
  clear hD0
  generalize hAe : va_A [(aT, .inr (4, [.ref aTg, .ref aTp, .ref aTm, .int T_brokenWays, .int T_triesAllowed, .int T_mends, .int T_talkers])), (aTg, .inl (cI, 5, .inl vTg)), (aTp, .inl (cI, 7, .inl vTp)), (aTm, .inl (cI, 25, .inl vTm))] s.heap.size = A at hD ⊢
  have hA : ∀ q : Nat, s.heap.size ≤ q → A q := fun q h => by rw [← hAe]; exact Or.inr h
  clear hAe
  have hS : va_S A s.heap s.heap [] := va_S.rf
  have hP : va_P (dC, dI) vwCl [(aT, .inr (4, [.ref aTg, .ref aTp, .ref aTm, .int T_brokenWays, .int T_triesAllowed, .int T_mends, .int T_talkers])), (aTg, .inl (cI, 5, .inl vTg)), (aTp, .inl (cI, 7, .inl vTp)), (aTm, .inl (cI, 25, .inl vTm))] s.heap := hP
  have hl := lv_entry ([.ref aT, .int p1]) (n := 2) (Nat.le_of_ble_eq_true rfl)
  rw [lg_entry_eq]
  generalize (lg_sl ([.ref aT, .int p1]) ++ List.replicate (2 - (lg_sl ([.ref aT, .int p1])).length) Slot.unset).toArray = ls at hl ⊢
  have hl : lv_has ls 2 [(0, .ref aT), (1, .int p1)] := hl
  obtain ⟨RES, hRES⟩ : ∃ y, y = fT_priceOf vTp p1 := ⟨_, rfl⟩
  have hE := hRES.symm
  rw [fT_priceOf] at hE
  refine lv_aload_n hx hb dX4_priceOf_0 rfl (lv_at hl 0 rfl) ?_
  refine va_get (D := (dC, dI)) (ci := 4) (v := .ref aTp) (C := RX4) (T := TX4) (N := 7) hx hb hts (fun _ h => List.mem_cons_of_mem _ (List.mem_append_right _ h)) hown hK hP 0 rfl rfl 1 (by decide) (hts _ (List.mem_cons_of_mem _ (List.mem_append_left _ (List.mem_of_getElem? (i := 0) rfl)))) (fun _ h9 => h9) rfl dX4_priceOf_1 ?_
  refine lv_iload_n hx hb dX4_priceOf_4 rfl (lv_at hl 1 rfl) ?_
  refine va_iald (D := (dC, dI)) (cl := vwCl) hx hb hK hP 2 0 rfl rfl (vp_in_iff.mpr hp0) dX4_priceOf_5 ?_
  exact W.iret (v := (vTp p1.toNatClampNeg)) hx hb hr (fun t ht hW => ⟨⟨(vTp p1.toNatClampNeg), (), rfl, hE.trans hRES, (by rw [ht]; exact hP), va_K.moved hW.alike hK, hD⟩, hS.F ht⟩) hS.2.2 dX4_priceOf_6
-- X4_demandTalk
def fT_demandTalk_b41  (p1 : Int32) (p2 : Int32) (p3 : Int32) (s0_41 : Int32) (T_talkers : Int32) : Int32 := s0_41
def fT_demandTalk (T_talkers : Int32) (p1 : Int32) (p2 : Int32) (p3 : Int32) : Int32 := (if p3 = 0 then fT_demandTalk_b41 p1 p2 p3 (T_talkers &&& (((1 : Int32) <<< ((fT_pairNumber (if p2 < p1 then p2 else p1) (if p1 < p2 then p2 else p1)) &&& 31)) ^^^ (-1 : Int32))) T_talkers else fT_demandTalk_b41 p1 p2 p3 (T_talkers ||| ((1 : Int32) <<< ((fT_pairNumber (if p2 < p1 then p2 else p1) (if p1 < p2 then p2 else p1)) &&& 31))) T_talkers)
set_option maxHeartbeats 4000000 in
set_option maxRecDepth 100000 in
theorem kT_demandTalk (l : Launch) (dC : Nat → ClassId) (dI : Nat → Nat → Nat) (cI cB : ClassId) (aT aTg aTp aTm : Nat) (sz : Nat) (T_brokenWays : Int32) (T_triesAllowed : Int32) (T_mends : Int32) (T_talkers : Int32) (vTg : Nat → Int32) (vTp : Nat → Int32) (vTm : Nat → Int32) (p1 : Int32) (p2 : Int32) (p3 : Int32) : Met l yX4_demandTalk wsX4_demandTalk ({ frames := 1, cells := 0, slots := 0, locals := 21 }) (va_Pc [.ref aT, .int p1, .int p2, .int p3] (PB (dC, dI) vwCl [(cI, .int), (cB, .byte)] [(aT, .inr (4, [.ref aTg, .ref aTp, .ref aTm, .int T_brokenWays, .int T_triesAllowed, .int T_mends, .int T_talkers])), (aTg, .inl (cI, 5, .inl vTg)), (aTp, .inl (cI, 7, .inl vTp)), (aTm, .inl (cI, 25, .inl vTm))] sz)) (va_Qv (fun (u : Int32) => u = fT_demandTalk T_talkers p1 p2 p3) (fun (u : Int32) t => va_P (dC, dI) vwCl [(aT, .inr (4, [.ref aTg, .ref aTp, .ref aTm, .int T_brokenWays, .int T_triesAllowed, .int T_mends, .int u])), (aTg, .inl (cI, 5, .inl vTg)), (aTp, .inl (cI, 7, .inl vTp)), (aTm, .inl (cI, 25, .inl vTm))] t.heap ∧ va_K (dC, dI) vwCl [(cI, .int), (cB, .byte)] t ∧ va_D (va_A [(aT, .inr (4, [.ref aTg, .ref aTp, .ref aTm, .int T_brokenWays, .int T_triesAllowed, .int T_mends, .int T_talkers])), (aTg, .inl (cI, 5, .inl vTg)), (aTp, .inl (cI, 7, .inl vTp)), (aTm, .inl (cI, 25, .inl vTm))] sz) [(aT, .inr (4, [.ref aTg, .ref aTp, .ref aTm, .int T_brokenWays, .int T_triesAllowed, .int T_mends, .int u])), (aTg, .inl (cI, 5, .inl vTg)), (aTp, .inl (cI, 7, .inl vTp)), (aTm, .inl (cI, 25, .inl vTm))]) (va_A [(aT, .inr (4, [.ref aTg, .ref aTp, .ref aTm, .int T_brokenWays, .int T_triesAllowed, .int T_mends, .int T_talkers])), (aTg, .inl (cI, 5, .inl vTg)), (aTp, .inl (cI, 7, .inl vTp)), (aTm, .inl (cI, 25, .inl vTm))] sz)) 0 0 (va_A [(aT, .inr (4, [.ref aTg, .ref aTp, .ref aTm, .int T_brokenWays, .int T_triesAllowed, .int T_mends, .int T_talkers])), (aTg, .inl (cI, 5, .inl vTg)), (aTp, .inl (cI, 7, .inl vTp)), (aTm, .inl (cI, 25, .inl vTm))] sz) := by
  refine Met.ofW (cc := cX4_demandTalk) (maxL := 5) (ret := none) (by decide) rfl ?_
  intro p e s m args below meth c s₁ B hml hv
  obtain ⟨rfl, hsz, hP, hK, hD0⟩ := hv
  have hx := B.exec
  have hb := B.bytes
  have hr := B.returns
  have hts := atoms_spec (ws := wsX4_demandTalk) B.pre
  have hown : s.vm.findClass RX4 = some m.cls := findClass_of_methodNamed B.named
  have hlocks := B.notSynchronized
  clear B
  subst hsz
  have hD := hD0.self (sz := s.heap.size)
  clear hD0
  generalize hAe : va_A [(aT, .inr (4, [.ref aTg, .ref aTp, .ref aTm, .int T_brokenWays, .int T_triesAllowed, .int T_mends, .int T_talkers])), (aTg, .inl (cI, 5, .inl vTg)), (aTp, .inl (cI, 7, .inl vTp)), (aTm, .inl (cI, 25, .inl vTm))] s.heap.size = A at hD ⊢
  have hA : ∀ q : Nat, s.heap.size ≤ q → A q := fun q h => by rw [← hAe]; exact Or.inr h
  clear hAe
  have hS : va_S A s.heap s.heap [] := va_S.rf
  have hP : va_P (dC, dI) vwCl [(aT, .inr (4, [.ref aTg, .ref aTp, .ref aTm, .int T_brokenWays, .int T_triesAllowed, .int T_mends, .int T_talkers])), (aTg, .inl (cI, 5, .inl vTg)), (aTp, .inl (cI, 7, .inl vTp)), (aTm, .inl (cI, 25, .inl vTm))] s.heap := hP
  have hl := lv_entry ([.ref aT, .int p1, .int p2, .int p3]) (n := 5) (Nat.le_of_ble_eq_true rfl)
  rw [lg_entry_eq]
  generalize (lg_sl ([.ref aT, .int p1, .int p2, .int p3]) ++ List.replicate (5 - (lg_sl ([.ref aT, .int p1, .int p2, .int p3])).length) Slot.unset).toArray = ls at hl ⊢
  have hl : lv_has ls 5 [(0, .ref aT), (1, .int p1), (2, .int p2), (3, .int p3)] := hl
  obtain ⟨RES, hRES⟩ : ∃ y, y = fT_demandTalk T_talkers p1 p2 p3 := ⟨_, rfl⟩
  have hE := hRES.symm
  rw [fT_demandTalk] at hE
  refine W.nameQ (fun Q9 hQ9 => ?_)
  refine lv_iconst (v := (1 : Int32)) hx hb dX4_demandTalk_0 (by decide) ?_
  refine lv_iload_n hx hb dX4_demandTalk_1 rfl (lv_at hl 1 rfl) ?_
  refine lv_iload_n hx hb dX4_demandTalk_2 rfl (lv_at hl 2 rfl) ?_
  refine va_mmin hx hb (by rw [hml]; exact hl.1.symm) hown (hts _ (List.mem_cons_of_mem _ (List.mem_append_left _ (List.mem_of_getElem? (i := 0) rfl)))) (hts _ (List.mem_cons_of_mem _ (List.mem_append_left _ (List.mem_of_getElem? (i := 1) rfl)))) (hts _ (List.mem_cons_of_mem _ (List.mem_append_left _ (List.mem_of_getElem? (i := 2) rfl)))) (hts _ (List.mem_cons_of_mem _ (List.mem_append_left _ (List.mem_of_getElem? (i := 3) rfl)))) (Nat.le_of_ble_eq_true rfl) (Nat.le_of_ble_eq_true rfl) (Nat.zero_le _) (Nat.zero_le _) dX4_demandTalk_3 ?_
  have hm_3 := mmmin_f p1 p2
  refine lv_iload_n hx hb dX4_demandTalk_6 rfl (lv_at hl 1 rfl) ?_
  refine lv_iload_n hx hb dX4_demandTalk_7 rfl (lv_at hl 2 rfl) ?_
  refine va_mmax hx hb (by rw [hml]; exact hl.1.symm) hown (hts _ (List.mem_cons_of_mem _ (List.mem_append_left _ (List.mem_of_getElem? (i := 4) rfl)))) (hts _ (List.mem_cons_of_mem _ (List.mem_append_left _ (List.mem_of_getElem? (i := 5) rfl)))) (hts _ (List.mem_cons_of_mem _ (List.mem_append_left _ (List.mem_of_getElem? (i := 2) rfl)))) (hts _ (List.mem_cons_of_mem _ (List.mem_append_left _ (List.mem_of_getElem? (i := 6) rfl)))) (Nat.le_of_ble_eq_true rfl) (Nat.le_of_ble_eq_true rfl) (Nat.zero_le _) (Nat.zero_le _) dX4_demandTalk_8 ?_
  have hm_8 := mmmax_f p1 p2
  have hPc := hP.sub (ws' := []) [] rfl
  have hDc := hD.sub (ws' := []) [] (by decide) rfl
  have hFc := va_free (wc := []) hD hS hA [] rfl
  refine va_calli (va_runS (As := [.int (if p2 < p1 then p2 else p1), .int (if p1 < p2 then p2 else p1)]) (rest := [.int (1 : Int32)]) ⟨hx, hb, hml, hown, hts⟩ (kT_pairNumber l dC dI cI cB s.heap.size (if p2 < p1 then p2 else p1) (if p1 < p2 then p2 else p1) ) (va_cwS 2 hts gX4_demandTalk_X4_pairNumber rfl rfl rfl (by decide +kernel) ⟨Nat.le_of_ble_eq_true rfl, Nat.le_of_ble_eq_true rfl⟩) (pre_S hK hPc hDc) rfl rfl hl.1 rfl (lv_room (Nat.le_of_ble_eq_true rfl)) dX4_demandTalk_11 ⟨(Nat.zero_le _), (Nat.zero_le _)⟩) hS (fun q _ h => hFc q h) hFc (fun r11 u t H1 locs ht hvm hw hB hz1 hk1 hS => ?_)
  obtain ⟨hP1, hK1, hD1⟩ := hB
  rw [ht] at hP1
  obtain ⟨hw, hq0_11⟩ := hw
  have hw := hw.symm
  subst hw
  obtain ⟨hP, hD⟩ := va_join (wr := [(aT, .inr (4, [.ref aTg, .ref aTp, .ref aTm, .int T_brokenWays, .int T_triesAllowed, .int T_mends, .int T_talkers])), (aTg, .inl (cI, 5, .inl vTg)), (aTp, .inl (cI, 7, .inl vTp)), (aTm, .inl (cI, 25, .inl vTm))]) (w1 := []) hP hD [] [0, 1, 2, 3] rfl rfl (by decide) (by decide) hk1 hFc hP1 hD1
  generalize H1 = H at hP hS ⊢
  have hP : va_P (dC, dI) vwCl [(aT, .inr (4, [.ref aTg, .ref aTp, .ref aTm, .int T_brokenWays, .int T_triesAllowed, .int T_mends, .int T_talkers])), (aTg, .inl (cI, 5, .inl vTg)), (aTp, .inl (cI, 7, .inl vTp)), (aTm, .inl (cI, 25, .inl vTm))] H := hP
  have hD : va_D A [(aT, .inr (4, [.ref aTg, .ref aTp, .ref aTm, .int T_brokenWays, .int T_triesAllowed, .int T_mends, .int T_talkers])), (aTg, .inl (cI, 5, .inl vTg)), (aTp, .inl (cI, 7, .inl vTp)), (aTm, .inl (cI, 25, .inl vTm))] := hD
  refine lv_ishl hx hb dX4_demandTalk_14 ?_
  refine lv_istore (lv' := [(4, .int ((1 : Int32) <<< ((fT_pairNumber (if p2 < p1 then p2 else p1) (if p1 < p2 then p2 else p1)) &&& 31))), (0, .ref aT), (1, .int p1), (2, .int p2), (3, .int p3)]) hx hb dX4_demandTalk_15 hl (by decide) rfl (fun ls hl => ?_)
  refine lv_aload_n hx hb dX4_demandTalk_17 rfl (lv_at hl 1 rfl) ?_
  refine lv_iload_n hx hb dX4_demandTalk_18 rfl (lv_at hl 4 rfl) ?_
  have b_41 : ∀ (s0_41 : Int32), fT_demandTalk_b41 p1 p2 p3 s0_41 T_talkers = RES → ∀ (H : Heap) (locs : List Loc) (ls : Array Slot), va_P (dC, dI) vwCl [(aT, .inr (4, [.ref aTg, .ref aTp, .ref aTm, .int T_brokenWays, .int T_triesAllowed, .int T_mends, .int T_talkers])), (aTg, .inl (cI, 5, .inl vTg)), (aTp, .inl (cI, 7, .inl vTp)), (aTm, .inl (cI, 25, .inl vTm))] H → va_D A [(aT, .inr (4, [.ref aTg, .ref aTp, .ref aTm, .int T_brokenWays, .int T_triesAllowed, .int T_mends, .int T_talkers])), (aTg, .inl (cI, 5, .inl vTg)), (aTp, .inl (cI, 7, .inl vTp)), (aTm, .inl (cI, 25, .inl vTm))] → va_S A s.heap H locs → lv_has ls 5 [] → W p l e (headSpec wsX4_demandTalk ({ frames := 1, cells := 0, slots := 0, locals := 21 })).room s m ([.ref aT, .int p1, .int p2, .int p3] : List Value).toArray below meth c H locs 0 0 Q9 (F0 m 41 ls [.int s0_41, .ref aT]) := by
    intro s0_41 hE H locs ls hP hD hS hl
    rw [fT_demandTalk_b41] at hE
    refine va_put (D := (dC, dI)) (ci := 4) (v := .int s0_41) (ty := .int) (C := RX4) (T := TX4) (N := 7) hx hb hts (fun _ h => List.mem_cons_of_mem _ (List.mem_append_right _ h)) tyX4 tyX4_ok nmX4 hown hK hP hD hS 0 rfl rfl 6 (by decide) (hts _ (List.mem_cons_of_mem _ (List.mem_append_left _ (List.mem_of_getElem? (i := 7) rfl)))) (fun _ h9 => h9) rfl (by decide +kernel) rfl rfl (Nat.le_of_ble_eq_true rfl) dX4_demandTalk_41 (fun H locs hP hD hS => ?_)
    have hP : va_P (dC, dI) vwCl [(aT, .inr (4, [.ref aTg, .ref aTp, .ref aTm, .int T_brokenWays, .int T_triesAllowed, .int T_mends, .int s0_41])), (aTg, .inl (cI, 5, .inl vTg)), (aTp, .inl (cI, 7, .inl vTp)), (aTm, .inl (cI, 25, .inl vTm))] H := hP
    have hD : va_D A [(aT, .inr (4, [.ref aTg, .ref aTp, .ref aTm, .int T_brokenWays, .int T_triesAllowed, .int T_mends, .int s0_41])), (aTg, .inl (cI, 5, .inl vTg)), (aTp, .inl (cI, 7, .inl vTp)), (aTm, .inl (cI, 25, .inl vTm))] := hD
    subst hQ9
    exact W.vret hx hb hr (fun t ht hW => ⟨⟨(s0_41), rfl, hE.trans hRES, (by rw [ht]; exact hP), va_K.moved hW.alike hK, hD⟩, hS.F ht⟩) hS.2.2 dX4_demandTalk_44
  refine lv_if_eq (tgt := 32) hx hb dX4_demandTalk_19 (by decide) (fun c_19 => ?_) (fun c_19 => ?_)
  · have hE := ipos c_19 hE
    refine lv_aload_n hx hb dX4_demandTalk_32 rfl (lv_at hl 1 rfl) ?_
    refine va_get (D := (dC, dI)) (ci := 4) (v := .int T_talkers) (C := RX4) (T := TX4) (N := 7) hx hb hts (fun _ h => List.mem_cons_of_mem _ (List.mem_append_right _ h)) hown hK hP 0 rfl rfl 6 (by decide) (hts _ (List.mem_cons_of_mem _ (List.mem_append_left _ (List.mem_of_getElem? (i := 7) rfl)))) (fun _ h9 => h9) rfl dX4_demandTalk_33 ?_
    refine lv_iload hx hb dX4_demandTalk_36 (lv_at hl 0 rfl) ?_
    refine lv_iconst (v := (-1 : Int32)) hx hb dX4_demandTalk_38 (by decide) ?_
    refine lv_ixor hx hb dX4_demandTalk_39 ?_
    refine lv_iand hx hb dX4_demandTalk_40 ?_
    exact b_41 (T_talkers &&& (((1 : Int32) <<< ((fT_pairNumber (if p2 < p1 then p2 else p1) (if p1 < p2 then p2 else p1)) &&& 31)) ^^^ (-1 : Int32)))  hE _ _ _ hP hD hS (lv_sub hl [] rfl)
  · have hE := ineg c_19 hE
    refine lv_aload_n hx hb dX4_demandTalk_22 rfl (lv_at hl 1 rfl) ?_
    refine va_get (D := (dC, dI)) (ci := 4) (v := .int T_talkers) (C := RX4) (T := TX4) (N := 7) hx hb hts (fun _ h => List.mem_cons_of_mem _ (List.mem_append_right _ h)) hown hK hP 0 rfl rfl 6 (by decide) (hts _ (List.mem_cons_of_mem _ (List.mem_append_left _ (List.mem_of_getElem? (i := 7) rfl)))) (fun _ h9 => h9) rfl dX4_demandTalk_23 ?_
    refine lv_iload hx hb dX4_demandTalk_26 (lv_at hl 0 rfl) ?_
    refine lv_ior hx hb dX4_demandTalk_28 ?_
    refine lv_goto (tgt := 41) hx hb dX4_demandTalk_29 (by decide) ?_
    exact b_41 (T_talkers ||| ((1 : Int32) <<< ((fT_pairNumber (if p2 < p1 then p2 else p1) (if p1 < p2 then p2 else p1)) &&& 31)))  hE _ _ _ hP hD hS (lv_sub hl [] rfl)
-- X4_mustTalk
def fT_mustTalk (T_talkers : Int32) (p1 : Int32) (p2 : Int32) : Int32 := (fX_holds T_talkers (fT_pairNumber (if p2 < p1 then p2 else p1) (if p1 < p2 then p2 else p1)))
set_option maxHeartbeats 4000000 in
set_option maxRecDepth 100000 in
theorem kT_mustTalk (l : Launch) (dC : Nat → ClassId) (dI : Nat → Nat → Nat) (cI cB : ClassId) (adK adV : Nat → Nat) (aT aTg aTp aTm : Nat) (sz : Nat) (T_brokenWays : Int32) (T_triesAllowed : Int32) (T_mends : Int32) (T_talkers : Int32) (vTg : Nat → Int32) (vTp : Nat → Int32) (vTm : Nat → Int32) (p1 : Int32) (p2 : Int32) : Met l yX4_mustTalk wsX4_mustTalk ({ frames := 1, cells := 0, slots := 0, locals := 21 }) (va_Pc [.ref aT, .int p1, .int p2] (PE (dC, dI) vwCl [(cI, .int), (cB, .byte)] [(aT, .inr (4, [.ref aTg, .ref aTp, .ref aTm, .int T_brokenWays, .int T_triesAllowed, .int T_mends, .int T_talkers])), (aTg, .inl (cI, 5, .inl vTg)), (aTp, .inl (cI, 7, .inl vTp)), (aTm, .inl (cI, 25, .inl vTm))] sz adK adV)) (va_Qi (fun (r : Int32) (u : Unit) => r = fT_mustTalk T_talkers p1 p2 ∧ (r = 0 ∨ r = 1)) (fun (_ : Unit) t => va_P (dC, dI) vwCl [(aT, .inr (4, [.ref aTg, .ref aTp, .ref aTm, .int T_brokenWays, .int T_triesAllowed, .int T_mends, .int T_talkers])), (aTg, .inl (cI, 5, .inl vTg)), (aTp, .inl (cI, 7, .inl vTp)), (aTm, .inl (cI, 25, .inl vTm))] t.heap ∧ va_K (dC, dI) vwCl [(cI, .int), (cB, .byte)] t ∧ va_D (va_A [(aT, .inr (4, [.ref aTg, .ref aTp, .ref aTm, .int T_brokenWays, .int T_triesAllowed, .int T_mends, .int T_talkers])), (aTg, .inl (cI, 5, .inl vTg)), (aTp, .inl (cI, 7, .inl vTp)), (aTm, .inl (cI, 25, .inl vTm))] sz) [(aT, .inr (4, [.ref aTg, .ref aTp, .ref aTm, .int T_brokenWays, .int T_triesAllowed, .int T_mends, .int T_talkers])), (aTg, .inl (cI, 5, .inl vTg)), (aTp, .inl (cI, 7, .inl vTp)), (aTm, .inl (cI, 25, .inl vTm))]) (va_A [(aT, .inr (4, [.ref aTg, .ref aTp, .ref aTm, .int T_brokenWays, .int T_triesAllowed, .int T_mends, .int T_talkers])), (aTg, .inl (cI, 5, .inl vTg)), (aTp, .inl (cI, 7, .inl vTp)), (aTm, .inl (cI, 25, .inl vTm))] sz)) 0 0 (va_A [(aT, .inr (4, [.ref aTg, .ref aTp, .ref aTm, .int T_brokenWays, .int T_triesAllowed, .int T_mends, .int T_talkers])), (aTg, .inl (cI, 5, .inl vTg)), (aTp, .inl (cI, 7, .inl vTp)), (aTm, .inl (cI, 25, .inl vTm))] sz) := by
  refine Met.ofW (cc := cX4_mustTalk) (maxL := 3) (ret := (some .boolean)) (by decide) rfl ?_
  intro p e s m args below meth c s₁ B hml hv
  obtain ⟨rfl, ⟨hsz, hP, hK, hD0⟩, hEv⟩ := hv
  have hx := B.exec
  have hb := B.bytes
  have hr := B.returns
  have hts := atoms_spec (ws := wsX4_mustTalk) B.pre
  have hown : s.vm.findClass RX4 = some m.cls := findClass_of_methodNamed B.named
  have hlocks := B.notSynchronized
  clear B
  subst hsz
  have hD := hD0.self (sz := s.heap.size)
  clear hD0
  generalize hAe : va_A [(aT, .inr (4, [.ref aTg, .ref aTp, .ref aTm, .int T_brokenWays, .int T_triesAllowed, .int T_mends, .int T_talkers])), (aTg, .inl (cI, 5, .inl vTg)), (aTp, .inl (cI, 7, .inl vTp)), (aTm, .inl (cI, 25, .inl vTm))] s.heap.size = A at hD hEv ⊢
  have hA : ∀ q : Nat, s.heap.size ≤ q → A q := fun q h => by rw [← hAe]; exact Or.inr h
  clear hAe
  have hS : va_S A s.heap s.heap [] := va_S.rf
  have hP : va_P (dC, dI) vwCl [(aT, .inr (4, [.ref aTg, .ref aTp, .ref aTm, .int T_brokenWays, .int T_triesAllowed, .int T_mends, .int T_talkers])), (aTg, .inl (cI, 5, .inl vTg)), (aTp, .inl (cI, 7, .inl vTp)), (aTm, .inl (cI, 25, .inl vTm))] s.heap := hP
  have hl := lv_entry ([.ref aT, .int p1, .int p2]) (n := 3) (Nat.le_of_ble_eq_true rfl)
  rw [lg_entry_eq]
  generalize (lg_sl ([.ref aT, .int p1, .int p2]) ++ List.replicate (3 - (lg_sl ([.ref aT, .int p1, .int p2])).length) Slot.unset).toArray = ls at hl ⊢
  have hl : lv_has ls 3 [(0, .ref aT), (1, .int p1), (2, .int p2)] := hl
  obtain ⟨RES, hRES⟩ : ∃ y, y = fT_mustTalk T_talkers p1 p2 := ⟨_, rfl⟩
  have hE := hRES.symm
  rw [fT_mustTalk] at hE
  refine lv_aload_n hx hb dX4_mustTalk_0 rfl (lv_at hl 0 rfl) ?_
  refine va_get (D := (dC, dI)) (ci := 4) (v := .int T_talkers) (C := RX4) (T := TX4) (N := 7) hx hb hts (fun _ h => List.mem_cons_of_mem _ (List.mem_append_right _ h)) hown hK hP 0 rfl rfl 6 (by decide) (hts _ (List.mem_cons_of_mem _ (List.mem_append_left _ (List.mem_of_getElem? (i := 0) rfl)))) (fun _ h9 => h9) rfl dX4_mustTalk_1 ?_
  refine lv_iload_n hx hb dX4_mustTalk_4 rfl (lv_at hl 1 rfl) ?_
  refine lv_iload_n hx hb dX4_mustTalk_5 rfl (lv_at hl 2 rfl) ?_
  refine va_mmin hx hb (by rw [hml]; exact hl.1.symm) hown (hts _ (List.mem_cons_of_mem _ (List.mem_append_left _ (List.mem_of_getElem? (i := 1) rfl)))) (hts _ (List.mem_cons_of_mem _ (List.mem_append_left _ (List.mem_of_getElem? (i := 2) rfl)))) (hts _ (List.mem_cons_of_mem _ (List.mem_append_left _ (List.mem_of_getElem? (i := 3) rfl)))) (hts _ (List.mem_cons_of_mem _ (List.mem_append_left _ (List.mem_of_getElem? (i := 4) rfl)))) (Nat.le_of_ble_eq_true rfl) (Nat.le_of_ble_eq_true rfl) (Nat.zero_le _) (Nat.zero_le _) dX4_mustTalk_6 ?_
  have hm_6 := mmmin_f p1 p2
  refine lv_iload_n hx hb dX4_mustTalk_9 rfl (lv_at hl 1 rfl) ?_
  refine lv_iload_n hx hb dX4_mustTalk_10 rfl (lv_at hl 2 rfl) ?_
  refine va_mmax hx hb (by rw [hml]; exact hl.1.symm) hown (hts _ (List.mem_cons_of_mem _ (List.mem_append_left _ (List.mem_of_getElem? (i := 5) rfl)))) (hts _ (List.mem_cons_of_mem _ (List.mem_append_left _ (List.mem_of_getElem? (i := 6) rfl)))) (hts _ (List.mem_cons_of_mem _ (List.mem_append_left _ (List.mem_of_getElem? (i := 3) rfl)))) (hts _ (List.mem_cons_of_mem _ (List.mem_append_left _ (List.mem_of_getElem? (i := 7) rfl)))) (Nat.le_of_ble_eq_true rfl) (Nat.le_of_ble_eq_true rfl) (Nat.zero_le _) (Nat.zero_le _) dX4_mustTalk_11 ?_
  have hm_11 := mmmax_f p1 p2
  have hPc := hP.sub (ws' := []) [] rfl
  have hDc := hD.sub (ws' := []) [] (by decide) rfl
  have hFc := va_free (wc := []) hD hS hA [] rfl
  refine va_calli (va_runS (As := [.int (if p2 < p1 then p2 else p1), .int (if p1 < p2 then p2 else p1)]) (rest := [.int T_talkers]) ⟨hx, hb, hml, hown, hts⟩ (kT_pairNumber l dC dI cI cB s.heap.size (if p2 < p1 then p2 else p1) (if p1 < p2 then p2 else p1) ) (va_cwS 2 hts gX4_mustTalk_X4_pairNumber rfl rfl rfl (by decide +kernel) ⟨Nat.le_of_ble_eq_true rfl, Nat.le_of_ble_eq_true rfl⟩) (pre_S hK hPc hDc) rfl rfl hl.1 rfl (lv_room (Nat.le_of_ble_eq_true rfl)) dX4_mustTalk_14 ⟨(Nat.zero_le _), (Nat.zero_le _)⟩) hS (fun q _ h => hFc q h) hFc (fun r14 u t H1 locs ht hvm hw hB hz1 hk1 hS => ?_)
  obtain ⟨hP1, hK1, hD1⟩ := hB
  rw [ht] at hP1
  obtain ⟨hw, hq0_14⟩ := hw
  have hw := hw.symm
  subst hw
  obtain ⟨hP, hD⟩ := va_join (wr := [(aT, .inr (4, [.ref aTg, .ref aTp, .ref aTm, .int T_brokenWays, .int T_triesAllowed, .int T_mends, .int T_talkers])), (aTg, .inl (cI, 5, .inl vTg)), (aTp, .inl (cI, 7, .inl vTp)), (aTm, .inl (cI, 25, .inl vTm))]) (w1 := []) hP hD [] [0, 1, 2, 3] rfl rfl (by decide) (by decide) hk1 hFc hP1 hD1
  generalize H1 = H at hP hS ⊢
  have hP : va_P (dC, dI) vwCl [(aT, .inr (4, [.ref aTg, .ref aTp, .ref aTm, .int T_brokenWays, .int T_triesAllowed, .int T_mends, .int T_talkers])), (aTg, .inl (cI, 5, .inl vTg)), (aTp, .inl (cI, 7, .inl vTp)), (aTm, .inl (cI, 25, .inl vTm))] H := hP
  have hD : va_D A [(aT, .inr (4, [.ref aTg, .ref aTp, .ref aTm, .int T_brokenWays, .int T_triesAllowed, .int T_mends, .int T_talkers])), (aTg, .inl (cI, 5, .inl vTg)), (aTp, .inl (cI, 7, .inl vTp)), (aTm, .inl (cI, 25, .inl vTm))] := hD
  have hPc := hP.sub (ws' := []) [] rfl
  have hDc := hD.sub (ws' := []) [] (by decide) rfl
  have hFc := va_free (wc := []) hD hS hA [] rfl
  refine va_calli (va_runSN (As := [.int T_talkers, .int (fT_pairNumber (if p2 < p1 then p2 else p1) (if p1 < p2 then p2 else p1))]) (rest := []) ⟨hx, hb, hml, hown, hts⟩ (kX_holds l dC dI cI cB H.size T_talkers (fT_pairNumber (if p2 < p1 then p2 else p1) (if p1 < p2 then p2 else p1)) ) ⟨va_cnB 2 hts gX4_mustTalk_X6_holds_n51 rfl rfl rfl (hEv.1 _ (List.mem_of_getElem? (i := 1) rfl)) (hts _ (List.mem_cons_of_mem _ (List.mem_append_left _ (List.mem_of_getElem? (i := 13) rfl)))) (by decide +kernel) ⟨Nat.le_of_ble_eq_true rfl, Nat.le_of_ble_eq_true rfl⟩, (hts _ (List.mem_cons_of_mem _ (List.mem_append_left _ (List.mem_of_getElem? (i := 12) rfl)))), trivial⟩ (pre_S hK hPc hDc) rfl rfl hl.1 rfl (lv_room (Nat.le_of_ble_eq_true rfl)) dX4_mustTalk_17 ⟨(Nat.zero_le _), (Nat.zero_le _)⟩) hS (fun q _ h => hFc q h) hFc (fun r17 u t H1 locs ht hvm hw hB hz1 hk1 hS => ?_)
  obtain ⟨hP1, hK1, hD1⟩ := hB
  rw [ht] at hP1
  obtain ⟨hw, hbz17⟩ := hw
  have hw := hw.symm
  subst hw
  obtain ⟨hP, hD⟩ := va_join (wr := [(aT, .inr (4, [.ref aTg, .ref aTp, .ref aTm, .int T_brokenWays, .int T_triesAllowed, .int T_mends, .int T_talkers])), (aTg, .inl (cI, 5, .inl vTg)), (aTp, .inl (cI, 7, .inl vTp)), (aTm, .inl (cI, 25, .inl vTm))]) (w1 := []) hP hD [] [0, 1, 2, 3] rfl rfl (by decide) (by decide) hk1 hFc hP1 hD1
  generalize H1 = H at hP hS ⊢
  have hP : va_P (dC, dI) vwCl [(aT, .inr (4, [.ref aTg, .ref aTp, .ref aTm, .int T_brokenWays, .int T_triesAllowed, .int T_mends, .int T_talkers])), (aTg, .inl (cI, 5, .inl vTg)), (aTp, .inl (cI, 7, .inl vTp)), (aTm, .inl (cI, 25, .inl vTm))] H := hP
  have hD : va_D A [(aT, .inr (4, [.ref aTg, .ref aTp, .ref aTm, .int T_brokenWays, .int T_triesAllowed, .int T_mends, .int T_talkers])), (aTg, .inl (cI, 5, .inl vTg)), (aTp, .inl (cI, 7, .inl vTp)), (aTm, .inl (cI, 25, .inl vTm))] := hD
  exact W.zret (v := (fX_holds T_talkers (fT_pairNumber (if p2 < p1 then p2 else p1) (if p1 < p2 then p2 else p1)))) (ty := .boolean) hx hb hr (bool_nar hbz17) (fun t ht hW => ⟨⟨(fX_holds T_talkers (fT_pairNumber (if p2 < p1 then p2 else p1) (if p1 < p2 then p2 else p1))), (), rfl, ⟨hE.trans hRES, hbz17⟩, (by rw [ht]; exact hP), va_K.moved hW.alike hK, hD⟩, hS.F ht⟩) hS.2.2 dX4_mustTalk_20
-- X4_keepMeeting
def fT_keepMeeting (vTm : Nat → Int32) (p1 : Int32) (p2 : Int32) (p3 : Int32) : (Nat → Int32) := (upd vTm (fT_pairNumber p1 p2).toNatClampNeg (if (vTm (fT_pairNumber p1 p2).toNatClampNeg) < p3 then p3 else (vTm (fT_pairNumber p1 p2).toNatClampNeg)))
set_option maxHeartbeats 4000000 in
set_option maxRecDepth 100000 in
theorem kT_keepMeeting (l : Launch) (dC : Nat → ClassId) (dI : Nat → Nat → Nat) (cI cB : ClassId) (aT aTg aTp aTm : Nat) (sz : Nat) (T_brokenWays : Int32) (T_triesAllowed : Int32) (T_mends : Int32) (T_talkers : Int32) (vTg : Nat → Int32) (vTp : Nat → Int32) (vTm : Nat → Int32) (p1 : Int32) (p2 : Int32) (p3 : Int32) (hp0 : 0 ≤ p1.toInt ∧ p1.toInt < 5) (hp1 : 0 ≤ p2.toInt ∧ p2.toInt < 5) : Met l yX4_keepMeeting wsX4_keepMeeting ({ frames := 1, cells := 0, slots := 0, locals := 21 }) (va_Pc [.ref aT, .int p1, .int p2, .int p3] (PB (dC, dI) vwCl [(cI, .int), (cB, .byte)] [(aT, .inr (4, [.ref aTg, .ref aTp, .ref aTm, .int T_brokenWays, .int T_triesAllowed, .int T_mends, .int T_talkers])), (aTg, .inl (cI, 5, .inl vTg)), (aTp, .inl (cI, 7, .inl vTp)), (aTm, .inl (cI, 25, .inl vTm))] sz)) (va_Qv (fun (u : (Nat → Int32)) => u = fT_keepMeeting vTm p1 p2 p3) (fun (u : (Nat → Int32)) t => va_P (dC, dI) vwCl [(aT, .inr (4, [.ref aTg, .ref aTp, .ref aTm, .int T_brokenWays, .int T_triesAllowed, .int T_mends, .int T_talkers])), (aTg, .inl (cI, 5, .inl vTg)), (aTp, .inl (cI, 7, .inl vTp)), (aTm, .inl (cI, 25, .inl u))] t.heap ∧ va_K (dC, dI) vwCl [(cI, .int), (cB, .byte)] t ∧ va_D (va_A [(aT, .inr (4, [.ref aTg, .ref aTp, .ref aTm, .int T_brokenWays, .int T_triesAllowed, .int T_mends, .int T_talkers])), (aTg, .inl (cI, 5, .inl vTg)), (aTp, .inl (cI, 7, .inl vTp)), (aTm, .inl (cI, 25, .inl vTm))] sz) [(aT, .inr (4, [.ref aTg, .ref aTp, .ref aTm, .int T_brokenWays, .int T_triesAllowed, .int T_mends, .int T_talkers])), (aTg, .inl (cI, 5, .inl vTg)), (aTp, .inl (cI, 7, .inl vTp)), (aTm, .inl (cI, 25, .inl u))]) (va_A [(aT, .inr (4, [.ref aTg, .ref aTp, .ref aTm, .int T_brokenWays, .int T_triesAllowed, .int T_mends, .int T_talkers])), (aTg, .inl (cI, 5, .inl vTg)), (aTp, .inl (cI, 7, .inl vTp)), (aTm, .inl (cI, 25, .inl vTm))] sz)) 0 0 (va_A [(aT, .inr (4, [.ref aTg, .ref aTp, .ref aTm, .int T_brokenWays, .int T_triesAllowed, .int T_mends, .int T_talkers])), (aTg, .inl (cI, 5, .inl vTg)), (aTp, .inl (cI, 7, .inl vTp)), (aTm, .inl (cI, 25, .inl vTm))] sz) := by
  refine Met.ofW (cc := cX4_keepMeeting) (maxL := 5) (ret := none) (by decide) rfl ?_
  intro p e s m args below meth c s₁ B hml hv
  obtain ⟨rfl, hsz, hP, hK, hD0⟩ := hv
  have hx := B.exec
  have hb := B.bytes
  have hr := B.returns
  have hts := atoms_spec (ws := wsX4_keepMeeting) B.pre
  have hown : s.vm.findClass RX4 = some m.cls := findClass_of_methodNamed B.named
  have hlocks := B.notSynchronized
  clear B
  subst hsz
  have hD := hD0.self (sz := s.heap.size)
  clear hD0
  generalize hAe : va_A [(aT, .inr (4, [.ref aTg, .ref aTp, .ref aTm, .int T_brokenWays, .int T_triesAllowed, .int T_mends, .int T_talkers])), (aTg, .inl (cI, 5, .inl vTg)), (aTp, .inl (cI, 7, .inl vTp)), (aTm, .inl (cI, 25, .inl vTm))] s.heap.size = A at hD ⊢
  have hA : ∀ q : Nat, s.heap.size ≤ q → A q := fun q h => by rw [← hAe]; exact Or.inr h
  clear hAe
  have hS : va_S A s.heap s.heap [] := va_S.rf
  have hP : va_P (dC, dI) vwCl [(aT, .inr (4, [.ref aTg, .ref aTp, .ref aTm, .int T_brokenWays, .int T_triesAllowed, .int T_mends, .int T_talkers])), (aTg, .inl (cI, 5, .inl vTg)), (aTp, .inl (cI, 7, .inl vTp)), (aTm, .inl (cI, 25, .inl vTm))] s.heap := hP
  have hl := lv_entry ([.ref aT, .int p1, .int p2, .int p3]) (n := 5) (Nat.le_of_ble_eq_true rfl)
  rw [lg_entry_eq]
  generalize (lg_sl ([.ref aT, .int p1, .int p2, .int p3]) ++ List.replicate (5 - (lg_sl ([.ref aT, .int p1, .int p2, .int p3])).length) Slot.unset).toArray = ls at hl ⊢
  have hl : lv_has ls 5 [(0, .ref aT), (1, .int p1), (2, .int p2), (3, .int p3)] := hl
  obtain ⟨RES, hRES⟩ : ∃ y, y = fT_keepMeeting vTm p1 p2 p3 := ⟨_, rfl⟩
  have hE := hRES.symm
  rw [fT_keepMeeting] at hE
  refine lv_iload_n hx hb dX4_keepMeeting_0 rfl (lv_at hl 1 rfl) ?_
  refine lv_iload_n hx hb dX4_keepMeeting_1 rfl (lv_at hl 2 rfl) ?_
  have hPc := hP.sub (ws' := []) [] rfl
  have hDc := hD.sub (ws' := []) [] (by decide) rfl
  have hFc := va_free (wc := []) hD hS hA [] rfl
  refine va_calli (va_runS (As := [.int p1, .int p2]) (rest := []) ⟨hx, hb, hml, hown, hts⟩ (kT_pairNumber l dC dI cI cB s.heap.size p1 p2 ) (va_cwS 2 hts gX4_keepMeeting_X4_pairNumber rfl rfl rfl (by decide +kernel) ⟨Nat.le_of_ble_eq_true rfl, Nat.le_of_ble_eq_true rfl⟩) (pre_S hK hPc hDc) rfl rfl hl.1 rfl (lv_room (Nat.le_of_ble_eq_true rfl)) dX4_keepMeeting_2 ⟨(Nat.zero_le _), (Nat.zero_le _)⟩) hS (fun q _ h => hFc q h) hFc (fun r2 u t H1 locs ht hvm hw hB hz1 hk1 hS => ?_)
  obtain ⟨hP1, hK1, hD1⟩ := hB
  rw [ht] at hP1
  obtain ⟨hw, hq0_2⟩ := hw
  have hw := hw.symm
  subst hw
  obtain ⟨hP, hD⟩ := va_join (wr := [(aT, .inr (4, [.ref aTg, .ref aTp, .ref aTm, .int T_brokenWays, .int T_triesAllowed, .int T_mends, .int T_talkers])), (aTg, .inl (cI, 5, .inl vTg)), (aTp, .inl (cI, 7, .inl vTp)), (aTm, .inl (cI, 25, .inl vTm))]) (w1 := []) hP hD [] [0, 1, 2, 3] rfl rfl (by decide) (by decide) hk1 hFc hP1 hD1
  generalize H1 = H at hP hS ⊢
  have hP : va_P (dC, dI) vwCl [(aT, .inr (4, [.ref aTg, .ref aTp, .ref aTm, .int T_brokenWays, .int T_triesAllowed, .int T_mends, .int T_talkers])), (aTg, .inl (cI, 5, .inl vTg)), (aTp, .inl (cI, 7, .inl vTp)), (aTm, .inl (cI, 25, .inl vTm))] H := hP
  have hD : va_D A [(aT, .inr (4, [.ref aTg, .ref aTp, .ref aTm, .int T_brokenWays, .int T_triesAllowed, .int T_mends, .int T_talkers])), (aTg, .inl (cI, 5, .inl vTg)), (aTp, .inl (cI, 7, .inl vTp)), (aTm, .inl (cI, 25, .inl vTm))] := hD
  refine lv_istore (lv' := [(4, .int (fT_pairNumber p1 p2)), (0, .ref aT), (1, .int p1), (2, .int p2), (3, .int p3)]) hx hb dX4_keepMeeting_5 hl (by decide) rfl (fun ls hl => ?_)
  refine lv_aload_n hx hb dX4_keepMeeting_7 rfl (lv_at hl 1 rfl) ?_
  refine va_get (D := (dC, dI)) (ci := 4) (v := .ref aTm) (C := RX4) (T := TX4) (N := 7) hx hb hts (fun _ h => List.mem_cons_of_mem _ (List.mem_append_right _ h)) hown hK hP 0 rfl rfl 2 (by decide) (hts _ (List.mem_cons_of_mem _ (List.mem_append_left _ (List.mem_of_getElem? (i := 0) rfl)))) (fun _ h9 => h9) rfl dX4_keepMeeting_8 ?_
  refine lv_iload hx hb dX4_keepMeeting_11 (lv_at hl 0 rfl) ?_
  refine lv_aload_n hx hb dX4_keepMeeting_13 rfl (lv_at hl 1 rfl) ?_
  refine va_get (D := (dC, dI)) (ci := 4) (v := .ref aTm) (C := RX4) (T := TX4) (N := 7) hx hb hts (fun _ h => List.mem_cons_of_mem _ (List.mem_append_right _ h)) hown hK hP 0 rfl rfl 2 (by decide) (hts _ (List.mem_cons_of_mem _ (List.mem_append_left _ (List.mem_of_getElem? (i := 0) rfl)))) (fun _ h9 => h9) rfl dX4_keepMeeting_14 ?_
  refine lv_iload hx hb dX4_keepMeeting_17 (lv_at hl 0 rfl) ?_
  refine va_iald (D := (dC, dI)) (cl := vwCl) hx hb hK hP 3 0 rfl rfl (by first | ((try generalize (fT_pairNumber p1 p2) = g0 at hp0 hp1 hq0_2 ⊢); (try simp only [not_true_eq_false, not_false_eq_true, false_implies, true_implies, implies_true, vp_in_iff, i32_lt, i32_le, i32_eq, i32_add, i32_sub, i32_mul, t32_m1, t32_0, t32_1] at hp0 hp1 hq0_2 ⊢) <;> intros <;> omega)) dX4_keepMeeting_19 ?_
  refine lv_iload_n hx hb dX4_keepMeeting_20 rfl (lv_at hl 4 rfl) ?_
  refine va_mmax hx hb (by rw [hml]; exact hl.1.symm) hown (hts _ (List.mem_cons_of_mem _ (List.mem_append_left _ (List.mem_of_getElem? (i := 1) rfl)))) (hts _ (List.mem_cons_of_mem _ (List.mem_append_left _ (List.mem_of_getElem? (i := 2) rfl)))) (hts _ (List.mem_cons_of_mem _ (List.mem_append_left _ (List.mem_of_getElem? (i := 3) rfl)))) (hts _ (List.mem_cons_of_mem _ (List.mem_append_left _ (List.mem_of_getElem? (i := 4) rfl)))) (Nat.le_of_ble_eq_true rfl) (Nat.le_of_ble_eq_true rfl) (Nat.zero_le _) (Nat.zero_le _) dX4_keepMeeting_21 ?_
  have hm_21 := mmmax_f (vTm (fT_pairNumber p1 p2).toNatClampNeg) p3
  refine va_iast (D := (dC, dI)) (cl := vwCl) hx hb hK hP hD hS 3 0 rfl rfl (by first | ((try generalize (fT_pairNumber p1 p2) = g0 at hp0 hp1 hq0_2 hm_21 ⊢); (try simp only [not_true_eq_false, not_false_eq_true, false_implies, true_implies, implies_true, vp_in_iff, i32_lt, i32_le, i32_eq, i32_add, i32_sub, i32_mul, t32_m1, t32_0, t32_1] at hp0 hp1 hq0_2 hm_21 ⊢) <;> intros <;> omega)) dX4_keepMeeting_24 (fun H locs hP hD hS => ?_)
  have hP : va_P (dC, dI) vwCl [(aT, .inr (4, [.ref aTg, .ref aTp, .ref aTm, .int T_brokenWays, .int T_triesAllowed, .int T_mends, .int T_talkers])), (aTg, .inl (cI, 5, .inl vTg)), (aTp, .inl (cI, 7, .inl vTp)), (aTm, .inl (cI, 25, .inl (upd vTm (fT_pairNumber p1 p2).toNatClampNeg (if (vTm (fT_pairNumber p1 p2).toNatClampNeg) < p3 then p3 else (vTm (fT_pairNumber p1 p2).toNatClampNeg)))))] H := hP
  have hD : va_D A [(aT, .inr (4, [.ref aTg, .ref aTp, .ref aTm, .int T_brokenWays, .int T_triesAllowed, .int T_mends, .int T_talkers])), (aTg, .inl (cI, 5, .inl vTg)), (aTp, .inl (cI, 7, .inl vTp)), (aTm, .inl (cI, 25, .inl (upd vTm (fT_pairNumber p1 p2).toNatClampNeg (if (vTm (fT_pairNumber p1 p2).toNatClampNeg) < p3 then p3 else (vTm (fT_pairNumber p1 p2).toNatClampNeg)))))] := hD
  exact W.vret hx hb hr (fun t ht hW => ⟨⟨((upd vTm (fT_pairNumber p1 p2).toNatClampNeg (if (vTm (fT_pairNumber p1 p2).toNatClampNeg) < p3 then p3 else (vTm (fT_pairNumber p1 p2).toNatClampNeg)))), rfl, hE.trans hRES, (by rw [ht]; exact hP), va_K.moved hW.alike hK, hD⟩, hS.F ht⟩) hS.2.2 dX4_keepMeeting_25
-- X4_memory
def fT_memory (vTm : Nat → Int32) (p1 : Int32) (p2 : Int32) : Int32 := (vTm (fT_pairNumber p1 p2).toNatClampNeg)
set_option maxHeartbeats 4000000 in
set_option maxRecDepth 100000 in
theorem kT_memory (l : Launch) (dC : Nat → ClassId) (dI : Nat → Nat → Nat) (cI cB : ClassId) (aT aTg aTp aTm : Nat) (sz : Nat) (T_brokenWays : Int32) (T_triesAllowed : Int32) (T_mends : Int32) (T_talkers : Int32) (vTg : Nat → Int32) (vTp : Nat → Int32) (vTm : Nat → Int32) (p1 : Int32) (p2 : Int32) (hp0 : 0 ≤ p1.toInt ∧ p1.toInt < 5) (hp1 : 0 ≤ p2.toInt ∧ p2.toInt < 5) : Met l yX4_memory wsX4_memory ({ frames := 1, cells := 0, slots := 0, locals := 21 }) (va_Pc [.ref aT, .int p1, .int p2] (PB (dC, dI) vwCl [(cI, .int), (cB, .byte)] [(aT, .inr (4, [.ref aTg, .ref aTp, .ref aTm, .int T_brokenWays, .int T_triesAllowed, .int T_mends, .int T_talkers])), (aTg, .inl (cI, 5, .inl vTg)), (aTp, .inl (cI, 7, .inl vTp)), (aTm, .inl (cI, 25, .inl vTm))] sz)) (va_Qi (fun (r : Int32) (u : Unit) => r = fT_memory vTm p1 p2) (fun (_ : Unit) t => va_P (dC, dI) vwCl [(aT, .inr (4, [.ref aTg, .ref aTp, .ref aTm, .int T_brokenWays, .int T_triesAllowed, .int T_mends, .int T_talkers])), (aTg, .inl (cI, 5, .inl vTg)), (aTp, .inl (cI, 7, .inl vTp)), (aTm, .inl (cI, 25, .inl vTm))] t.heap ∧ va_K (dC, dI) vwCl [(cI, .int), (cB, .byte)] t ∧ va_D (va_A [(aT, .inr (4, [.ref aTg, .ref aTp, .ref aTm, .int T_brokenWays, .int T_triesAllowed, .int T_mends, .int T_talkers])), (aTg, .inl (cI, 5, .inl vTg)), (aTp, .inl (cI, 7, .inl vTp)), (aTm, .inl (cI, 25, .inl vTm))] sz) [(aT, .inr (4, [.ref aTg, .ref aTp, .ref aTm, .int T_brokenWays, .int T_triesAllowed, .int T_mends, .int T_talkers])), (aTg, .inl (cI, 5, .inl vTg)), (aTp, .inl (cI, 7, .inl vTp)), (aTm, .inl (cI, 25, .inl vTm))]) (va_A [(aT, .inr (4, [.ref aTg, .ref aTp, .ref aTm, .int T_brokenWays, .int T_triesAllowed, .int T_mends, .int T_talkers])), (aTg, .inl (cI, 5, .inl vTg)), (aTp, .inl (cI, 7, .inl vTp)), (aTm, .inl (cI, 25, .inl vTm))] sz)) 0 0 (va_A [(aT, .inr (4, [.ref aTg, .ref aTp, .ref aTm, .int T_brokenWays, .int T_triesAllowed, .int T_mends, .int T_talkers])), (aTg, .inl (cI, 5, .inl vTg)), (aTp, .inl (cI, 7, .inl vTp)), (aTm, .inl (cI, 25, .inl vTm))] sz) := by
  refine Met.ofW (cc := cX4_memory) (maxL := 3) (ret := (some .int)) (by decide) rfl ?_
  intro p e s m args below meth c s₁ B hml hv
  obtain ⟨rfl, hsz, hP, hK, hD0⟩ := hv
  have hx := B.exec
  have hb := B.bytes
  have hr := B.returns
  have hts := atoms_spec (ws := wsX4_memory) B.pre
  have hown : s.vm.findClass RX4 = some m.cls := findClass_of_methodNamed B.named
  have hlocks := B.notSynchronized
  clear B
  subst hsz
  have hD := hD0.self (sz := s.heap.size)
  clear hD0
  generalize hAe : va_A [(aT, .inr (4, [.ref aTg, .ref aTp, .ref aTm, .int T_brokenWays, .int T_triesAllowed, .int T_mends, .int T_talkers])), (aTg, .inl (cI, 5, .inl vTg)), (aTp, .inl (cI, 7, .inl vTp)), (aTm, .inl (cI, 25, .inl vTm))] s.heap.size = A at hD ⊢
  have hA : ∀ q : Nat, s.heap.size ≤ q → A q := fun q h => by rw [← hAe]; exact Or.inr h
  clear hAe
  have hS : va_S A s.heap s.heap [] := va_S.rf
  have hP : va_P (dC, dI) vwCl [(aT, .inr (4, [.ref aTg, .ref aTp, .ref aTm, .int T_brokenWays, .int T_triesAllowed, .int T_mends, .int T_talkers])), (aTg, .inl (cI, 5, .inl vTg)), (aTp, .inl (cI, 7, .inl vTp)), (aTm, .inl (cI, 25, .inl vTm))] s.heap := hP
  have hl := lv_entry ([.ref aT, .int p1, .int p2]) (n := 3) (Nat.le_of_ble_eq_true rfl)
  rw [lg_entry_eq]
  generalize (lg_sl ([.ref aT, .int p1, .int p2]) ++ List.replicate (3 - (lg_sl ([.ref aT, .int p1, .int p2])).length) Slot.unset).toArray = ls at hl ⊢
  have hl : lv_has ls 3 [(0, .ref aT), (1, .int p1), (2, .int p2)] := hl
  obtain ⟨RES, hRES⟩ : ∃ y, y = fT_memory vTm p1 p2 := ⟨_, rfl⟩
  have hE := hRES.symm
  rw [fT_memory] at hE
  refine lv_aload_n hx hb dX4_memory_0 rfl (lv_at hl 0 rfl) ?_
  refine va_get (D := (dC, dI)) (ci := 4) (v := .ref aTm) (C := RX4) (T := TX4) (N := 7) hx hb hts (fun _ h => List.mem_cons_of_mem _ (List.mem_append_right _ h)) hown hK hP 0 rfl rfl 2 (by decide) (hts _ (List.mem_cons_of_mem _ (List.mem_append_left _ (List.mem_of_getElem? (i := 0) rfl)))) (fun _ h9 => h9) rfl dX4_memory_1 ?_
  refine lv_iload_n hx hb dX4_memory_4 rfl (lv_at hl 1 rfl) ?_
  refine lv_iload_n hx hb dX4_memory_5 rfl (lv_at hl 2 rfl) ?_
  have hPc := hP.sub (ws' := []) [] rfl
  have hDc := hD.sub (ws' := []) [] (by decide) rfl
  have hFc := va_free (wc := []) hD hS hA [] rfl
  refine va_calli (va_runS (As := [.int p1, .int p2]) (rest := [.ref aTm]) ⟨hx, hb, hml, hown, hts⟩ (kT_pairNumber l dC dI cI cB s.heap.size p1 p2 ) (va_cwS 2 hts gX4_memory_X4_pairNumber rfl rfl rfl (by decide +kernel) ⟨Nat.le_of_ble_eq_true rfl, Nat.le_of_ble_eq_true rfl⟩) (pre_S hK hPc hDc) rfl rfl hl.1 rfl (lv_room (Nat.le_of_ble_eq_true rfl)) dX4_memory_6 ⟨(Nat.zero_le _), (Nat.zero_le _)⟩) hS (fun q _ h => hFc q h) hFc (fun r6 u t H1 locs ht hvm hw hB hz1 hk1 hS => ?_)
  obtain ⟨hP1, hK1, hD1⟩ := hB
  rw [ht] at hP1
  obtain ⟨hw, hq0_6⟩ := hw
  have hw := hw.symm
  subst hw
  obtain ⟨hP, hD⟩ := va_join (wr := [(aT, .inr (4, [.ref aTg, .ref aTp, .ref aTm, .int T_brokenWays, .int T_triesAllowed, .int T_mends, .int T_talkers])), (aTg, .inl (cI, 5, .inl vTg)), (aTp, .inl (cI, 7, .inl vTp)), (aTm, .inl (cI, 25, .inl vTm))]) (w1 := []) hP hD [] [0, 1, 2, 3] rfl rfl (by decide) (by decide) hk1 hFc hP1 hD1
  generalize H1 = H at hP hS ⊢
  have hP : va_P (dC, dI) vwCl [(aT, .inr (4, [.ref aTg, .ref aTp, .ref aTm, .int T_brokenWays, .int T_triesAllowed, .int T_mends, .int T_talkers])), (aTg, .inl (cI, 5, .inl vTg)), (aTp, .inl (cI, 7, .inl vTp)), (aTm, .inl (cI, 25, .inl vTm))] H := hP
  have hD : va_D A [(aT, .inr (4, [.ref aTg, .ref aTp, .ref aTm, .int T_brokenWays, .int T_triesAllowed, .int T_mends, .int T_talkers])), (aTg, .inl (cI, 5, .inl vTg)), (aTp, .inl (cI, 7, .inl vTp)), (aTm, .inl (cI, 25, .inl vTm))] := hD
  refine va_iald (D := (dC, dI)) (cl := vwCl) hx hb hK hP 3 0 rfl rfl (by first | ((try generalize (fT_pairNumber p1 p2) = g0 at hp0 hp1 hq0_6 ⊢); (try simp only [not_true_eq_false, not_false_eq_true, false_implies, true_implies, implies_true, vp_in_iff, i32_lt, i32_le, i32_eq, i32_add, i32_sub, i32_mul, t32_m1, t32_0, t32_1] at hp0 hp1 hq0_6 ⊢) <;> intros <;> omega)) dX4_memory_9 ?_
  exact W.iret (v := (vTm (fT_pairNumber p1 p2).toNatClampNeg)) hx hb hr (fun t ht hW => ⟨⟨(vTm (fT_pairNumber p1 p2).toNatClampNeg), (), rfl, hE.trans hRES, (by rw [ht]; exact hP), va_K.moved hW.alike hK, hD⟩, hS.F ht⟩) hS.2.2 dX4_memory_10
