-- X5_letterFound
def fW_letterFound (W_letterKept : Int32) : Int32 := W_letterKept
set_option maxHeartbeats 4000000 in
set_option maxRecDepth 100000 in
theorem kW_letterFound (l : Launch) (dC : Nat → ClassId) (dI : Nat → Nat → Nat) (cI cB : ClassId) (aW aT aTg aTp aTm : Nat) (sz : Nat) (W_count : Int32) (W_placeWanted : Int32) (W_letterKept : Int32) (T_brokenWays : Int32) (T_triesAllowed : Int32) (T_mends : Int32) (T_talkers : Int32) (vTg : Nat → Int32) (vTp : Nat → Int32) (vTm : Nat → Int32) : Met l yX5_letterFound wsX5_letterFound ({ frames := 0, cells := 0, slots := 0, locals := 0 }) (va_Pc [.ref aW] (PB (dC, dI) vwCl [(cI, .int), (cB, .byte)] [(aW, .inr (5, [.ref aT, .int W_count, .int W_placeWanted, .int W_letterKept])), (aT, .inr (4, [.ref aTg, .ref aTp, .ref aTm, .int T_brokenWays, .int T_triesAllowed, .int T_mends, .int T_talkers])), (aTg, .inl (cI, 5, .inl vTg)), (aTp, .inl (cI, 7, .inl vTp)), (aTm, .inl (cI, 25, .inl vTm))] sz)) (va_Qi (fun (r : Int32) (u : Unit) => r = fW_letterFound W_letterKept) (fun (_ : Unit) t => va_P (dC, dI) vwCl [(aW, .inr (5, [.ref aT, .int W_count, .int W_placeWanted, .int W_letterKept])), (aT, .inr (4, [.ref aTg, .ref aTp, .ref aTm, .int T_brokenWays, .int T_triesAllowed, .int T_mends, .int T_talkers])), (aTg, .inl (cI, 5, .inl vTg)), (aTp, .inl (cI, 7, .inl vTp)), (aTm, .inl (cI, 25, .inl vTm))] t.heap ∧ va_K (dC, dI) vwCl [(cI, .int), (cB, .byte)] t ∧ va_D (va_A [(aW, .inr (5, [.ref aT, .int W_count, .int W_placeWanted, .int W_letterKept])), (aT, .inr (4, [.ref aTg, .ref aTp, .ref aTm, .int T_brokenWays, .int T_triesAllowed, .int T_mends, .int T_talkers])), (aTg, .inl (cI, 5, .inl vTg)), (aTp, .inl (cI, 7, .inl vTp)), (aTm, .inl (cI, 25, .inl vTm))] sz) [(aW, .inr (5, [.ref aT, .int W_count, .int W_placeWanted, .int W_letterKept])), (aT, .inr (4, [.ref aTg, .ref aTp, .ref aTm, .int T_brokenWays, .int T_triesAllowed, .int T_mends, .int T_talkers])), (aTg, .inl (cI, 5, .inl vTg)), (aTp, .inl (cI, 7, .inl vTp)), (aTm, .inl (cI, 25, .inl vTm))]) (va_A [(aW, .inr (5, [.ref aT, .int W_count, .int W_placeWanted, .int W_letterKept])), (aT, .inr (4, [.ref aTg, .ref aTp, .ref aTm, .int T_brokenWays, .int T_triesAllowed, .int T_mends, .int T_talkers])), (aTg, .inl (cI, 5, .inl vTg)), (aTp, .inl (cI, 7, .inl vTp)), (aTm, .inl (cI, 25, .inl vTm))] sz)) 0 0 (va_A [(aW, .inr (5, [.ref aT, .int W_count, .int W_placeWanted, .int W_letterKept])), (aT, .inr (4, [.ref aTg, .ref aTp, .ref aTm, .int T_brokenWays, .int T_triesAllowed, .int T_mends, .int T_talkers])), (aTg, .inl (cI, 5, .inl vTg)), (aTp, .inl (cI, 7, .inl vTp)), (aTm, .inl (cI, 25, .inl vTm))] sz) := by
  refine Met.ofW (cc := cX5_letterFound) (maxL := 1) (ret := (some .int)) (by decide) rfl ?_
  intro p e s m args below meth c s₁ B hml hv
  obtain ⟨rfl, hsz, hP, hK, hD0⟩ := hv
  have hx := B.exec
  have hb := B.bytes
  have hr := B.returns
  have hts := atoms_spec (ws := wsX5_letterFound) B.pre
  have hown : s.vm.findClass RX5 = some m.cls := findClass_of_methodNamed B.named
  have hlocks := B.notSynchronized
  clear B
  subst hsz
  have hD := hD0.self (sz := s.heap.size)
  clear hD0
  generalize hAe : va_A [(aW, .inr (5, [.ref aT, .int W_count, .int W_placeWanted, .int W_letterKept])), (aT, .inr (4, [.ref aTg, .ref aTp, .ref aTm, .int T_brokenWays, .int T_triesAllowed, .int T_mends, .int T_talkers])), (aTg, .inl (cI, 5, .inl vTg)), (aTp, .inl (cI, 7, .inl vTp)), (aTm, .inl (cI, 25, .inl vTm))] s.heap.size = A at hD ⊢
  have hA : ∀ q : Nat, s.heap.size ≤ q → A q := fun q h => by rw [← hAe]; exact Or.inr h
  clear hAe
  have hS : va_S A s.heap s.heap [] := va_S.rf
  have hP : va_P (dC, dI) vwCl [(aW, .inr (5, [.ref aT, .int W_count, .int W_placeWanted, .int W_letterKept])), (aT, .inr (4, [.ref aTg, .ref aTp, .ref aTm, .int T_brokenWays, .int T_triesAllowed, .int T_mends, .int T_talkers])), (aTg, .inl (cI, 5, .inl vTg)), (aTp, .inl (cI, 7, .inl vTp)), (aTm, .inl (cI, 25, .inl vTm))] s.heap := hP
  have hl := lv_entry ([.ref aW]) (n := 1) (Nat.le_of_ble_eq_true rfl)
  rw [lg_entry_eq]
  generalize (lg_sl ([.ref aW]) ++ List.replicate (1 - (lg_sl ([.ref aW])).length) Slot.unset).toArray = ls at hl ⊢
  have hl : lv_has ls 1 [(0, .ref aW)] := hl
  obtain ⟨RES, hRES⟩ : ∃ y, y = fW_letterFound W_letterKept := ⟨_, rfl⟩
  have hE := hRES.symm
  rw [fW_letterFound] at hE
  refine lv_aload_n hx hb dX5_letterFound_0 rfl (lv_at hl 0 rfl) ?_
  refine va_get (D := (dC, dI)) (ci := 5) (v := .int W_letterKept) (C := RX5) (T := TX5) (N := 4) hx hb hts (fun _ h => List.mem_cons_of_mem _ (List.mem_append_right _ h)) hown hK hP 0 rfl rfl 3 (by decide) (hts _ (List.mem_cons_of_mem _ (List.mem_append_left _ (List.mem_of_getElem? (i := 0) rfl)))) (fun _ h9 => h9) rfl dX5_letterFound_1 ?_
  exact W.iret (v := W_letterKept) hx hb hr (fun t ht hW => ⟨⟨W_letterKept, (), rfl, hE.trans hRES, (by rw [ht]; exact hP), va_K.moved hW.alike hK, hD⟩, hS.F ht⟩) hS.2.2 dX5_letterFound_4
-- X5_putByte
def fW_putByte_b16  (W_placeWanted : Int32) (p1 : Int32) (W_count : Int32) (W_letterKept_16 : Int32) : Int32 × Int32 := ((W_count + (1 : Int32)), W_letterKept_16)
def fW_putByte (W_count : Int32) (W_placeWanted : Int32) (W_letterKept : Int32) (p1 : Int32) : Int32 × Int32 := (if W_count = W_placeWanted then fW_putByte_b16 W_placeWanted p1 W_count p1 else fW_putByte_b16 W_placeWanted p1 W_count W_letterKept)
set_option maxHeartbeats 4000000 in
set_option maxRecDepth 100000 in
theorem kW_putByte (l : Launch) (dC : Nat → ClassId) (dI : Nat → Nat → Nat) (cI cB : ClassId) (aW aT aTg aTp aTm : Nat) (sz : Nat) (W_count : Int32) (W_placeWanted : Int32) (W_letterKept : Int32) (T_brokenWays : Int32) (T_triesAllowed : Int32) (T_mends : Int32) (T_talkers : Int32) (vTg : Nat → Int32) (vTp : Nat → Int32) (vTm : Nat → Int32) (p1 : Int32) : Met l yX5_putByte wsX5_putByte ({ frames := 0, cells := 0, slots := 0, locals := 0 }) (va_Pc [.ref aW, .int p1] (PB (dC, dI) vwCl [(cI, .int), (cB, .byte)] [(aW, .inr (5, [.ref aT, .int W_count, .int W_placeWanted, .int W_letterKept])), (aT, .inr (4, [.ref aTg, .ref aTp, .ref aTm, .int T_brokenWays, .int T_triesAllowed, .int T_mends, .int T_talkers])), (aTg, .inl (cI, 5, .inl vTg)), (aTp, .inl (cI, 7, .inl vTp)), (aTm, .inl (cI, 25, .inl vTm))] sz)) (va_Qv (fun (u : Int32 × Int32) => u = fW_putByte W_count W_placeWanted W_letterKept p1) (fun (u : Int32 × Int32) t => va_P (dC, dI) vwCl [(aW, .inr (5, [.ref aT, .int u.1, .int W_placeWanted, .int u.2])), (aT, .inr (4, [.ref aTg, .ref aTp, .ref aTm, .int T_brokenWays, .int T_triesAllowed, .int T_mends, .int T_talkers])), (aTg, .inl (cI, 5, .inl vTg)), (aTp, .inl (cI, 7, .inl vTp)), (aTm, .inl (cI, 25, .inl vTm))] t.heap ∧ va_K (dC, dI) vwCl [(cI, .int), (cB, .byte)] t ∧ va_D (va_A [(aW, .inr (5, [.ref aT, .int W_count, .int W_placeWanted, .int W_letterKept])), (aT, .inr (4, [.ref aTg, .ref aTp, .ref aTm, .int T_brokenWays, .int T_triesAllowed, .int T_mends, .int T_talkers])), (aTg, .inl (cI, 5, .inl vTg)), (aTp, .inl (cI, 7, .inl vTp)), (aTm, .inl (cI, 25, .inl vTm))] sz) [(aW, .inr (5, [.ref aT, .int u.1, .int W_placeWanted, .int u.2])), (aT, .inr (4, [.ref aTg, .ref aTp, .ref aTm, .int T_brokenWays, .int T_triesAllowed, .int T_mends, .int T_talkers])), (aTg, .inl (cI, 5, .inl vTg)), (aTp, .inl (cI, 7, .inl vTp)), (aTm, .inl (cI, 25, .inl vTm))]) (va_A [(aW, .inr (5, [.ref aT, .int W_count, .int W_placeWanted, .int W_letterKept])), (aT, .inr (4, [.ref aTg, .ref aTp, .ref aTm, .int T_brokenWays, .int T_triesAllowed, .int T_mends, .int T_talkers])), (aTg, .inl (cI, 5, .inl vTg)), (aTp, .inl (cI, 7, .inl vTp)), (aTm, .inl (cI, 25, .inl vTm))] sz)) 0 0 (va_A [(aW, .inr (5, [.ref aT, .int W_count, .int W_placeWanted, .int W_letterKept])), (aT, .inr (4, [.ref aTg, .ref aTp, .ref aTm, .int T_brokenWays, .int T_triesAllowed, .int T_mends, .int T_talkers])), (aTg, .inl (cI, 5, .inl vTg)), (aTp, .inl (cI, 7, .inl vTp)), (aTm, .inl (cI, 25, .inl vTm))] sz) := by
  refine Met.ofW (cc := cX5_putByte) (maxL := 2) (ret := none) (by decide) rfl ?_
  intro p e s m args below meth c s₁ B hml hv
  obtain ⟨rfl, hsz, hP, hK, hD0⟩ := hv
  have hx := B.exec
  have hb := B.bytes
  have hr := B.returns
  have hts := atoms_spec (ws := wsX5_putByte) B.pre
  have hown : s.vm.findClass RX5 = some m.cls := findClass_of_methodNamed B.named
  have hlocks := B.notSynchronized
  clear B
  subst hsz
  have hD := hD0.self (sz := s.heap.size)
  clear hD0
  generalize hAe : va_A [(aW, .inr (5, [.ref aT, .int W_count, .int W_placeWanted, .int W_letterKept])), (aT, .inr (4, [.ref aTg, .ref aTp, .ref aTm, .int T_brokenWays, .int T_triesAllowed, .int T_mends, .int T_talkers])), (aTg, .inl (cI, 5, .inl vTg)), (aTp, .inl (cI, 7, .inl vTp)), (aTm, .inl (cI, 25, .inl vTm))] s.heap.size = A at hD ⊢
  have hA : ∀ q : Nat, s.heap.size ≤ q → A q := fun q h => by rw [← hAe]; exact Or.inr h
  clear hAe
  have hS : va_S A s.heap s.heap [] := va_S.rf
  have hP : va_P (dC, dI) vwCl [(aW, .inr (5, [.ref aT, .int W_count, .int W_placeWanted, .int W_letterKept])), (aT, .inr (4, [.ref aTg, .ref aTp, .ref aTm, .int T_brokenWays, .int T_triesAllowed, .int T_mends, .int T_talkers])), (aTg, .inl (cI, 5, .inl vTg)), (aTp, .inl (cI, 7, .inl vTp)), (aTm, .inl (cI, 25, .inl vTm))] s.heap := hP
  have hl := lv_entry ([.ref aW, .int p1]) (n := 2) (Nat.le_of_ble_eq_true rfl)
  rw [lg_entry_eq]
  generalize (lg_sl ([.ref aW, .int p1]) ++ List.replicate (2 - (lg_sl ([.ref aW, .int p1])).length) Slot.unset).toArray = ls at hl ⊢
  have hl : lv_has ls 2 [(0, .ref aW), (1, .int p1)] := hl
  obtain ⟨RES, hRES⟩ : ∃ y, y = fW_putByte W_count W_placeWanted W_letterKept p1 := ⟨_, rfl⟩
  have hE := hRES.symm
  rw [fW_putByte] at hE
  refine W.nameQ (fun Q9 hQ9 => ?_)
  refine lv_aload_n hx hb dX5_putByte_0 rfl (lv_at hl 0 rfl) ?_
  refine va_get (D := (dC, dI)) (ci := 5) (v := .int W_count) (C := RX5) (T := TX5) (N := 4) hx hb hts (fun _ h => List.mem_cons_of_mem _ (List.mem_append_right _ h)) hown hK hP 0 rfl rfl 1 (by decide) (hts _ (List.mem_cons_of_mem _ (List.mem_append_left _ (List.mem_of_getElem? (i := 0) rfl)))) (fun _ h9 => h9) rfl dX5_putByte_1 ?_
  refine lv_aload_n hx hb dX5_putByte_4 rfl (lv_at hl 0 rfl) ?_
  refine va_get (D := (dC, dI)) (ci := 5) (v := .int W_placeWanted) (C := RX5) (T := TX5) (N := 4) hx hb hts (fun _ h => List.mem_cons_of_mem _ (List.mem_append_right _ h)) hown hK hP 0 rfl rfl 2 (by decide) (hts _ (List.mem_cons_of_mem _ (List.mem_append_left _ (List.mem_of_getElem? (i := 1) rfl)))) (fun _ h9 => h9) rfl dX5_putByte_5 ?_
  have b_16 : ∀ (W_letterKept_16 : Int32), fW_putByte_b16 W_placeWanted p1 W_count W_letterKept_16 = RES → ∀ (H : Heap) (locs : List Loc) (ls : Array Slot), va_P (dC, dI) vwCl [(aW, .inr (5, [.ref aT, .int W_count, .int W_placeWanted, .int W_letterKept_16])), (aT, .inr (4, [.ref aTg, .ref aTp, .ref aTm, .int T_brokenWays, .int T_triesAllowed, .int T_mends, .int T_talkers])), (aTg, .inl (cI, 5, .inl vTg)), (aTp, .inl (cI, 7, .inl vTp)), (aTm, .inl (cI, 25, .inl vTm))] H → va_D A [(aW, .inr (5, [.ref aT, .int W_count, .int W_placeWanted, .int W_letterKept_16])), (aT, .inr (4, [.ref aTg, .ref aTp, .ref aTm, .int T_brokenWays, .int T_triesAllowed, .int T_mends, .int T_talkers])), (aTg, .inl (cI, 5, .inl vTg)), (aTp, .inl (cI, 7, .inl vTp)), (aTm, .inl (cI, 25, .inl vTm))] → va_S A s.heap H locs → lv_has ls 2 [(0, .ref aW)] → W p l e (headSpec wsX5_putByte ({ frames := 0, cells := 0, slots := 0, locals := 0 })).room s m ([.ref aW, .int p1] : List Value).toArray below meth c H locs 0 0 Q9 (F0 m 16 ls []) := by
    intro W_letterKept_16 hE H locs ls hP hD hS hl
    rw [fW_putByte_b16] at hE
    refine lv_aload_n hx hb dX5_putByte_16 rfl (lv_at hl 0 rfl) ?_
    refine lv_dup hx hb dX5_putByte_17 rfl ?_
    refine va_get (D := (dC, dI)) (ci := 5) (v := .int W_count) (C := RX5) (T := TX5) (N := 4) hx hb hts (fun _ h => List.mem_cons_of_mem _ (List.mem_append_right _ h)) hown hK hP 0 rfl rfl 1 (by decide) (hts _ (List.mem_cons_of_mem _ (List.mem_append_left _ (List.mem_of_getElem? (i := 0) rfl)))) (fun _ h9 => h9) rfl dX5_putByte_18 ?_
    refine lv_iconst (v := (1 : Int32)) hx hb dX5_putByte_21 (by decide) ?_
    refine lv_iadd hx hb dX5_putByte_22 ?_
    refine va_put (D := (dC, dI)) (ci := 5) (v := .int (W_count + (1 : Int32))) (ty := .int) (C := RX5) (T := TX5) (N := 4) hx hb hts (fun _ h => List.mem_cons_of_mem _ (List.mem_append_right _ h)) tyX5 tyX5_ok nmX5 hown hK hP hD hS 0 rfl rfl 1 (by decide) (hts _ (List.mem_cons_of_mem _ (List.mem_append_left _ (List.mem_of_getElem? (i := 0) rfl)))) (fun _ h9 => h9) rfl (by decide +kernel) rfl rfl (Nat.le_of_ble_eq_true rfl) dX5_putByte_23 (fun H locs hP hD hS => ?_)
    have hP : va_P (dC, dI) vwCl [(aW, .inr (5, [.ref aT, .int (W_count + (1 : Int32)), .int W_placeWanted, .int W_letterKept_16])), (aT, .inr (4, [.ref aTg, .ref aTp, .ref aTm, .int T_brokenWays, .int T_triesAllowed, .int T_mends, .int T_talkers])), (aTg, .inl (cI, 5, .inl vTg)), (aTp, .inl (cI, 7, .inl vTp)), (aTm, .inl (cI, 25, .inl vTm))] H := hP
    have hD : va_D A [(aW, .inr (5, [.ref aT, .int (W_count + (1 : Int32)), .int W_placeWanted, .int W_letterKept_16])), (aT, .inr (4, [.ref aTg, .ref aTp, .ref aTm, .int T_brokenWays, .int T_triesAllowed, .int T_mends, .int T_talkers])), (aTg, .inl (cI, 5, .inl vTg)), (aTp, .inl (cI, 7, .inl vTp)), (aTm, .inl (cI, 25, .inl vTm))] := hD
    subst hQ9
    exact W.vret hx hb hr (fun t ht hW => ⟨⟨((W_count + (1 : Int32)), W_letterKept_16), rfl, hE.trans hRES, (by rw [ht]; exact hP), va_K.moved hW.alike hK, hD⟩, hS.F ht⟩) hS.2.2 dX5_putByte_26
  refine lv_icmp_ne (tgt := 16) hx hb dX5_putByte_8 (by decide) (fun c_8 => ?_) (fun c_8 => ?_)
  · have hE := ineg c_8 hE
    exact b_16 W_letterKept  hE _ _ _ hP hD hS (lv_sub hl [0] rfl)
  · have hE := ipos c_8 hE
    refine lv_aload_n hx hb dX5_putByte_11 rfl (lv_at hl 0 rfl) ?_
    refine lv_iload_n hx hb dX5_putByte_12 rfl (lv_at hl 1 rfl) ?_
    refine va_put (D := (dC, dI)) (ci := 5) (v := .int p1) (ty := .int) (C := RX5) (T := TX5) (N := 4) hx hb hts (fun _ h => List.mem_cons_of_mem _ (List.mem_append_right _ h)) tyX5 tyX5_ok nmX5 hown hK hP hD hS 0 rfl rfl 3 (by decide) (hts _ (List.mem_cons_of_mem _ (List.mem_append_left _ (List.mem_of_getElem? (i := 2) rfl)))) (fun _ h9 => h9) rfl (by decide +kernel) rfl rfl (Nat.le_of_ble_eq_true rfl) dX5_putByte_13 (fun H locs hP hD hS => ?_)
    have hP : va_P (dC, dI) vwCl [(aW, .inr (5, [.ref aT, .int W_count, .int W_placeWanted, .int p1])), (aT, .inr (4, [.ref aTg, .ref aTp, .ref aTm, .int T_brokenWays, .int T_triesAllowed, .int T_mends, .int T_talkers])), (aTg, .inl (cI, 5, .inl vTg)), (aTp, .inl (cI, 7, .inl vTp)), (aTm, .inl (cI, 25, .inl vTm))] H := hP
    have hD : va_D A [(aW, .inr (5, [.ref aT, .int W_count, .int W_placeWanted, .int p1])), (aT, .inr (4, [.ref aTg, .ref aTp, .ref aTm, .int T_brokenWays, .int T_triesAllowed, .int T_mends, .int T_talkers])), (aTg, .inl (cI, 5, .inl vTg)), (aTp, .inl (cI, 7, .inl vTp)), (aTm, .inl (cI, 25, .inl vTm))] := hD
    exact b_16 p1  hE _ _ _ hP hD hS (lv_sub hl [0] rfl)
-- X5_put
def fW_put_l2  (W_placeWanted : Int32) (si : Nat) : Nat → Int32 → Int32 → Int32 → (Int32 × Int32)
  | 0, x2_2, W_count_2, W_letterKept_2 => (W_count_2, W_letterKept_2)
  | n_2 + 1, x2_2, W_count_2, W_letterKept_2 => (if (fS_length si) ≤ x2_2 then (W_count_2, W_letterKept_2) else (bnd2 (fW_putByte W_count_2 W_placeWanted W_letterKept_2 (fS_charAt si x2_2)) (fun W_count_c16 W_letterKept_c16 => (fW_put_l2 W_placeWanted si n_2) (x2_2 + (1 : Int32)) W_count_c16 W_letterKept_c16)))
def fW_put (W_count : Int32) (W_placeWanted : Int32) (W_letterKept : Int32) (si : Nat) : Int32 × Int32 := fW_put_l2 W_placeWanted si (((fS_length si).toInt - (0 : Int32).toInt).toNat + 1) (0 : Int32) W_count W_letterKept
set_option maxHeartbeats 4000000 in
set_option maxRecDepth 100000 in
theorem kW_put (l : Launch) (dC : Nat → ClassId) (dI : Nat → Nat → Nat) (cI cB : ClassId) (adK adV : Nat → Nat) (aW aT aTg aTp aTm : Nat) (sz : Nat) (W_count : Int32) (W_placeWanted : Int32) (W_letterKept : Int32) (T_brokenWays : Int32) (T_triesAllowed : Int32) (T_mends : Int32) (T_talkers : Int32) (vTg : Nat → Int32) (vTp : Nat → Int32) (vTm : Nat → Int32) (si : Nat) (hp0 : si < 15) : Met l yX5_put wsX5_put ({ frames := 4, cells := 0, slots := 0, locals := 85 }) (va_Pc [.ref aW, .ref (adK si)] (PE (dC, dI) vwCl [(cI, .int), (cB, .byte)] [(aW, .inr (5, [.ref aT, .int W_count, .int W_placeWanted, .int W_letterKept])), (aT, .inr (4, [.ref aTg, .ref aTp, .ref aTm, .int T_brokenWays, .int T_triesAllowed, .int T_mends, .int T_talkers])), (aTg, .inl (cI, 5, .inl vTg)), (aTp, .inl (cI, 7, .inl vTp)), (aTm, .inl (cI, 25, .inl vTm))] sz adK adV)) (va_Qv (fun (u : Int32 × Int32) => u = fW_put W_count W_placeWanted W_letterKept si) (fun (u : Int32 × Int32) t => va_P (dC, dI) vwCl [(aW, .inr (5, [.ref aT, .int u.1, .int W_placeWanted, .int u.2])), (aT, .inr (4, [.ref aTg, .ref aTp, .ref aTm, .int T_brokenWays, .int T_triesAllowed, .int T_mends, .int T_talkers])), (aTg, .inl (cI, 5, .inl vTg)), (aTp, .inl (cI, 7, .inl vTp)), (aTm, .inl (cI, 25, .inl vTm))] t.heap ∧ va_K (dC, dI) vwCl [(cI, .int), (cB, .byte)] t ∧ va_D (va_A [(aW, .inr (5, [.ref aT, .int W_count, .int W_placeWanted, .int W_letterKept])), (aT, .inr (4, [.ref aTg, .ref aTp, .ref aTm, .int T_brokenWays, .int T_triesAllowed, .int T_mends, .int T_talkers])), (aTg, .inl (cI, 5, .inl vTg)), (aTp, .inl (cI, 7, .inl vTp)), (aTm, .inl (cI, 25, .inl vTm))] sz) [(aW, .inr (5, [.ref aT, .int u.1, .int W_placeWanted, .int u.2])), (aT, .inr (4, [.ref aTg, .ref aTp, .ref aTm, .int T_brokenWays, .int T_triesAllowed, .int T_mends, .int T_talkers])), (aTg, .inl (cI, 5, .inl vTg)), (aTp, .inl (cI, 7, .inl vTp)), (aTm, .inl (cI, 25, .inl vTm))]) (va_A [(aW, .inr (5, [.ref aT, .int W_count, .int W_placeWanted, .int W_letterKept])), (aT, .inr (4, [.ref aTg, .ref aTp, .ref aTm, .int T_brokenWays, .int T_triesAllowed, .int T_mends, .int T_talkers])), (aTg, .inl (cI, 5, .inl vTg)), (aTp, .inl (cI, 7, .inl vTp)), (aTm, .inl (cI, 25, .inl vTm))] sz)) 0 0 (va_A [(aW, .inr (5, [.ref aT, .int W_count, .int W_placeWanted, .int W_letterKept])), (aT, .inr (4, [.ref aTg, .ref aTp, .ref aTm, .int T_brokenWays, .int T_triesAllowed, .int T_mends, .int T_talkers])), (aTg, .inl (cI, 5, .inl vTg)), (aTp, .inl (cI, 7, .inl vTp)), (aTm, .inl (cI, 25, .inl vTm))] sz) := by
  refine Met.ofW (cc := cX5_put) (maxL := 3) (ret := none) (by decide) rfl ?_
  intro p e s m args below meth c s₁ B hml hv
  obtain ⟨rfl, ⟨hsz, hP, hK, hD0⟩, hEv⟩ := hv
  have hx := B.exec
  have hb := B.bytes
  have hr := B.returns
  have hts := atoms_spec (ws := wsX5_put) B.pre
  have hown : s.vm.findClass RX5 = some m.cls := findClass_of_methodNamed B.named
  have hlocks := B.notSynchronized
  clear B
  subst hsz
  have hD := hD0.self (sz := s.heap.size)
  clear hD0
  generalize hAe : va_A [(aW, .inr (5, [.ref aT, .int W_count, .int W_placeWanted, .int W_letterKept])), (aT, .inr (4, [.ref aTg, .ref aTp, .ref aTm, .int T_brokenWays, .int T_triesAllowed, .int T_mends, .int T_talkers])), (aTg, .inl (cI, 5, .inl vTg)), (aTp, .inl (cI, 7, .inl vTp)), (aTm, .inl (cI, 25, .inl vTm))] s.heap.size = A at hD hEv ⊢
  have hA : ∀ q : Nat, s.heap.size ≤ q → A q := fun q h => by rw [← hAe]; exact Or.inr h
  clear hAe
  have hS : va_S A s.heap s.heap [] := va_S.rf
  have hP : va_P (dC, dI) vwCl [(aW, .inr (5, [.ref aT, .int W_count, .int W_placeWanted, .int W_letterKept])), (aT, .inr (4, [.ref aTg, .ref aTp, .ref aTm, .int T_brokenWays, .int T_triesAllowed, .int T_mends, .int T_talkers])), (aTg, .inl (cI, 5, .inl vTg)), (aTp, .inl (cI, 7, .inl vTp)), (aTm, .inl (cI, 25, .inl vTm))] s.heap := hP
  have hl := lv_entry ([.ref aW, .ref (adK si)]) (n := 3) (Nat.le_of_ble_eq_true rfl)
  rw [lg_entry_eq]
  generalize (lg_sl ([.ref aW, .ref (adK si)]) ++ List.replicate (3 - (lg_sl ([.ref aW, .ref (adK si)])).length) Slot.unset).toArray = ls at hl ⊢
  have hl : lv_has ls 3 [(0, .ref aW), (1, .ref (adK si))] := hl
  obtain ⟨RES, hRES⟩ : ∃ y, y = fW_put W_count W_placeWanted W_letterKept si := ⟨_, rfl⟩
  have hE := hRES.symm
  rw [fW_put] at hE
  refine W.nameQ (fun Q9 hQ9 => ?_)
  refine lv_iconst (v := (0 : Int32)) hx hb dX5_put_0 (by decide) ?_
  refine lv_istore_n (lv' := [(2, .int (0 : Int32)), (0, .ref aW), (1, .ref (adK si))]) hx hb dX5_put_1 rfl hl (by decide) rfl (fun ls hl => ?_)
  have b_2 : ∀ (n_2 : Nat) (x2_2 : Int32) (W_count_2 : Int32) (W_letterKept_2 : Int32), (0 ≤ x2_2.toInt ∧ x2_2.toInt ≤ 100) → (((fS_length si).toInt - x2_2.toInt).toNat : Nat) < n_2 → fW_put_l2 W_placeWanted si n_2 x2_2 W_count_2 W_letterKept_2 = RES → ∀ (H : Heap) (locs : List Loc) (ls : Array Slot), va_P (dC, dI) vwCl [(aW, .inr (5, [.ref aT, .int W_count_2, .int W_placeWanted, .int W_letterKept_2])), (aT, .inr (4, [.ref aTg, .ref aTp, .ref aTm, .int T_brokenWays, .int T_triesAllowed, .int T_mends, .int T_talkers])), (aTg, .inl (cI, 5, .inl vTg)), (aTp, .inl (cI, 7, .inl vTp)), (aTm, .inl (cI, 25, .inl vTm))] H → va_D A [(aW, .inr (5, [.ref aT, .int W_count_2, .int W_placeWanted, .int W_letterKept_2])), (aT, .inr (4, [.ref aTg, .ref aTp, .ref aTm, .int T_brokenWays, .int T_triesAllowed, .int T_mends, .int T_talkers])), (aTg, .inl (cI, 5, .inl vTg)), (aTp, .inl (cI, 7, .inl vTp)), (aTm, .inl (cI, 25, .inl vTm))] → va_S A s.heap H locs → lv_has ls 3 [(0, .ref aW), (1, .ref (adK si)), (2, .int x2_2)] → W p l e (headSpec wsX5_put ({ frames := 4, cells := 0, slots := 0, locals := 85 })).room s m ([.ref aW, .ref (adK si)] : List Value).toArray below meth c H locs 0 0 Q9 (F0 m 2 ls []) := by
    intro n_2
    induction n_2 with
    | zero => intro x2_2 W_count_2 W_letterKept_2 hi0_2 hm_2 hE; exact absurd hm_2 (Nat.not_lt_zero _)
    | succ n_2 ih_2 =>
      intro x2_2 W_count_2 W_letterKept_2 hi0_2 hm_2 hE H locs ls hP hD hS hl
      rw [fW_put_l2] at hE
      refine lv_iload_n hx hb dX5_put_2 rfl (lv_at hl 2 rfl) ?_
      refine lv_aload_n hx hb dX5_put_3 rfl (lv_at hl 1 rfl) ?_
      have hPc := hP.sub (ws' := []) [] rfl
      have hDc := hD.sub (ws' := []) [] (by decide) rfl
      have hFc := va_free (wc := []) hD hS hA [] rfl
      refine va_calli (va_runV (As := []) (rest := [.int x2_2]) ⟨hx, hb, hml, hown, hts⟩ (kS_length l dC dI cI cB adK adV H.size si hp0) (cwV 0 hts gX5_put_J0_length_8abf5 rfl rfl rfl (by decide +kernel) ⟨Nat.le_of_ble_eq_true rfl, Nat.le_of_ble_eq_true rfl⟩) (pre_VS hK hPc hDc hEv hS hFc hp0) rfl rfl hl.1 rfl (lv_room (Nat.le_of_ble_eq_true rfl)) dX5_put_4 ⟨(Nat.zero_le _), (Nat.zero_le _)⟩) hS (fun q _ h => hFc q h) hFc (fun r4 u t H1 locs ht hvm hw hB hz1 hk1 hS => ?_)
      obtain ⟨hP1, hK1, hD1⟩ := hB
      rw [ht] at hP1
      obtain ⟨hw, hq0_4⟩ := hw
      have hw := hw.symm
      subst hw
      obtain ⟨hP, hD⟩ := va_join (wr := [(aW, .inr (5, [.ref aT, .int W_count_2, .int W_placeWanted, .int W_letterKept_2])), (aT, .inr (4, [.ref aTg, .ref aTp, .ref aTm, .int T_brokenWays, .int T_triesAllowed, .int T_mends, .int T_talkers])), (aTg, .inl (cI, 5, .inl vTg)), (aTp, .inl (cI, 7, .inl vTp)), (aTm, .inl (cI, 25, .inl vTm))]) (w1 := []) hP hD [] [0, 1, 2, 3, 4] rfl rfl (by decide) (by decide) hk1 hFc hP1 hD1
      generalize H1 = H at hP hS ⊢
      have hP : va_P (dC, dI) vwCl [(aW, .inr (5, [.ref aT, .int W_count_2, .int W_placeWanted, .int W_letterKept_2])), (aT, .inr (4, [.ref aTg, .ref aTp, .ref aTm, .int T_brokenWays, .int T_triesAllowed, .int T_mends, .int T_talkers])), (aTg, .inl (cI, 5, .inl vTg)), (aTp, .inl (cI, 7, .inl vTp)), (aTm, .inl (cI, 25, .inl vTm))] H := hP
      have hD : va_D A [(aW, .inr (5, [.ref aT, .int W_count_2, .int W_placeWanted, .int W_letterKept_2])), (aT, .inr (4, [.ref aTg, .ref aTp, .ref aTm, .int T_brokenWays, .int T_triesAllowed, .int T_mends, .int T_talkers])), (aTg, .inl (cI, 5, .inl vTg)), (aTp, .inl (cI, 7, .inl vTp)), (aTm, .inl (cI, 25, .inl vTm))] := hD
      refine lv_icmp_ge (tgt := 25) hx hb dX5_put_7 (by decide) (fun c_7 => ?_) (fun c_7 => ?_)
      · have hE := ipos c_7 hE
        subst hQ9
        exact W.vret hx hb hr (fun t ht hW => ⟨⟨(W_count_2, W_letterKept_2), rfl, hE.trans hRES, (by rw [ht]; exact hP), va_K.moved hW.alike hK, hD⟩, hS.F ht⟩) hS.2.2 dX5_put_25
      · have hE := ineg c_7 hE
        refine lv_aload_n hx hb dX5_put_10 rfl (lv_at hl 0 rfl) ?_
        refine lv_aload_n hx hb dX5_put_11 rfl (lv_at hl 1 rfl) ?_
        refine lv_iload_n hx hb dX5_put_12 rfl (lv_at hl 2 rfl) ?_
        have hPc := hP.sub (ws' := []) [] rfl
        have hDc := hD.sub (ws' := []) [] (by decide) rfl
        have hFc := va_free (wc := []) hD hS hA [] rfl
        refine va_calli (va_runV (As := [.int x2_2]) (rest := [.ref aW]) ⟨hx, hb, hml, hown, hts⟩ (kS_charAt l dC dI cI cB adK adV H.size si x2_2 hp0 (by first | ((try generalize (fS_length si) = g0 at hp0 hi0_2 hm_2 hq0_4 c_7 ⊢); (try simp only [not_true_eq_false, not_false_eq_true, false_implies, true_implies, implies_true, vp_in_iff, i32_lt, i32_le, i32_eq, i32_add, i32_sub, i32_mul, t32_m1, t32_0, t32_1] at hp0 hi0_2 hm_2 hq0_4 c_7 ⊢) <;> intros <;> omega)) (by first | ((try generalize (fS_length si) = g0 at hp0 hi0_2 hm_2 hq0_4 c_7 ⊢); (try simp only [not_true_eq_false, not_false_eq_true, false_implies, true_implies, implies_true, vp_in_iff, i32_lt, i32_le, i32_eq, i32_add, i32_sub, i32_mul, t32_m1, t32_0, t32_1] at hp0 hi0_2 hm_2 hq0_4 c_7 ⊢) <;> intros <;> omega))) (cwV 1 hts gX5_put_J0_charAt_5068e rfl rfl rfl (by decide +kernel) ⟨Nat.le_of_ble_eq_true rfl, Nat.le_of_ble_eq_true rfl⟩) (pre_VS hK hPc hDc hEv hS hFc hp0) rfl rfl hl.1 rfl (lv_room (Nat.le_of_ble_eq_true rfl)) dX5_put_13 ⟨(Nat.zero_le _), (Nat.zero_le _)⟩) hS (fun q _ h => hFc q h) hFc (fun r13 u t H1 locs ht hvm hw hB hz1 hk1 hS => ?_)
        obtain ⟨hP1, hK1, hD1⟩ := hB
        rw [ht] at hP1
        have hw := hw.symm
        subst hw
        obtain ⟨hP, hD⟩ := va_join (wr := [(aW, .inr (5, [.ref aT, .int W_count_2, .int W_placeWanted, .int W_letterKept_2])), (aT, .inr (4, [.ref aTg, .ref aTp, .ref aTm, .int T_brokenWays, .int T_triesAllowed, .int T_mends, .int T_talkers])), (aTg, .inl (cI, 5, .inl vTg)), (aTp, .inl (cI, 7, .inl vTp)), (aTm, .inl (cI, 25, .inl vTm))]) (w1 := []) hP hD [] [0, 1, 2, 3, 4] rfl rfl (by decide) (by decide) hk1 hFc hP1 hD1
        generalize H1 = H at hP hS ⊢
        have hP : va_P (dC, dI) vwCl [(aW, .inr (5, [.ref aT, .int W_count_2, .int W_placeWanted, .int W_letterKept_2])), (aT, .inr (4, [.ref aTg, .ref aTp, .ref aTm, .int T_brokenWays, .int T_triesAllowed, .int T_mends, .int T_talkers])), (aTg, .inl (cI, 5, .inl vTg)), (aTp, .inl (cI, 7, .inl vTp)), (aTm, .inl (cI, 25, .inl vTm))] H := hP
        have hD : va_D A [(aW, .inr (5, [.ref aT, .int W_count_2, .int W_placeWanted, .int W_letterKept_2])), (aT, .inr (4, [.ref aTg, .ref aTp, .ref aTm, .int T_brokenWays, .int T_triesAllowed, .int T_mends, .int T_talkers])), (aTg, .inl (cI, 5, .inl vTg)), (aTp, .inl (cI, 7, .inl vTp)), (aTm, .inl (cI, 25, .inl vTm))] := hD
        have hPc := hP.sub (ws' := [(aW, .inr (5, [.ref aT, .int W_count_2, .int W_placeWanted, .int W_letterKept_2])), (aT, .inr (4, [.ref aTg, .ref aTp, .ref aTm, .int T_brokenWays, .int T_triesAllowed, .int T_mends, .int T_talkers])), (aTg, .inl (cI, 5, .inl vTg)), (aTp, .inl (cI, 7, .inl vTp)), (aTm, .inl (cI, 25, .inl vTm))]) [0, 1, 2, 3, 4] rfl
        have hDc := hD.sub (ws' := [(aW, .inr (5, [.ref aT, .int W_count_2, .int W_placeWanted, .int W_letterKept_2])), (aT, .inr (4, [.ref aTg, .ref aTp, .ref aTm, .int T_brokenWays, .int T_triesAllowed, .int T_mends, .int T_talkers])), (aTg, .inl (cI, 5, .inl vTg)), (aTp, .inl (cI, 7, .inl vTp)), (aTm, .inl (cI, 25, .inl vTm))]) [0, 1, 2, 3, 4] (by decide) rfl
        have hFc := va_free (wc := [(aW, .inr (5, [.ref aT, .int W_count_2, .int W_placeWanted, .int W_letterKept_2])), (aT, .inr (4, [.ref aTg, .ref aTp, .ref aTm, .int T_brokenWays, .int T_triesAllowed, .int T_mends, .int T_talkers])), (aTg, .inl (cI, 5, .inl vTg)), (aTp, .inl (cI, 7, .inl vTp)), (aTm, .inl (cI, 25, .inl vTm))]) hD hS hA [0, 1, 2, 3, 4] rfl
        refine va_callv (va_runV (As := [.int (fS_charAt si x2_2)]) (rest := []) ⟨hx, hb, hml, hown, hts⟩ (kW_putByte l dC dI cI cB aW aT aTg aTp aTm H.size W_count_2 W_placeWanted W_letterKept_2 T_brokenWays T_triesAllowed T_mends T_talkers vTg vTp vTm (fS_charAt si x2_2) ) (cwV 1 hts gX5_put_X5_putByte rfl rfl rfl (by decide +kernel) ⟨Nat.le_of_ble_eq_true rfl, Nat.le_of_ble_eq_true rfl⟩) (pre_V (q := (RX5, TX5, 4)) hK hPc hDc rfl rfl) rfl rfl hl.1 rfl (lv_room (Nat.le_of_ble_eq_true rfl)) dX5_put_16 ⟨(Nat.zero_le _), (Nat.zero_le _)⟩) hS (fun q _ h => hFc q h) hFc (fun u t H1 locs ht hvm hw hB hz1 hk1 hS => ?_)
        obtain ⟨W_count_c16, W_letterKept_c16⟩ := u
        obtain ⟨hP1, hK1, hD1⟩ := hB
        rw [ht] at hP1
        have hE := bnd2s hw hE
        obtain ⟨hP, hD⟩ := va_join (wr := []) (w1 := [(aW, .inr (5, [.ref aT, .int W_count_c16, .int W_placeWanted, .int W_letterKept_c16])), (aT, .inr (4, [.ref aTg, .ref aTp, .ref aTm, .int T_brokenWays, .int T_triesAllowed, .int T_mends, .int T_talkers])), (aTg, .inl (cI, 5, .inl vTg)), (aTp, .inl (cI, 7, .inl vTp)), (aTm, .inl (cI, 25, .inl vTm))]) hP hD [0, 1, 2, 3, 4] [] rfl rfl (by decide) (by decide) hk1 hFc hP1 hD1
        generalize H1 = H at hP hS ⊢
        have hP : va_P (dC, dI) vwCl [(aW, .inr (5, [.ref aT, .int W_count_c16, .int W_placeWanted, .int W_letterKept_c16])), (aT, .inr (4, [.ref aTg, .ref aTp, .ref aTm, .int T_brokenWays, .int T_triesAllowed, .int T_mends, .int T_talkers])), (aTg, .inl (cI, 5, .inl vTg)), (aTp, .inl (cI, 7, .inl vTp)), (aTm, .inl (cI, 25, .inl vTm))] H := hP
        have hD : va_D A [(aW, .inr (5, [.ref aT, .int W_count_c16, .int W_placeWanted, .int W_letterKept_c16])), (aT, .inr (4, [.ref aTg, .ref aTp, .ref aTm, .int T_brokenWays, .int T_triesAllowed, .int T_mends, .int T_talkers])), (aTg, .inl (cI, 5, .inl vTg)), (aTp, .inl (cI, 7, .inl vTp)), (aTm, .inl (cI, 25, .inl vTm))] := hD
        refine lv_iinc (v := (x2_2 + (1 : Int32))) (lv' := [(2, .int (x2_2 + (1 : Int32))), (0, .ref aW), (1, .ref (adK si))]) hx hb dX5_put_19 hl (k := 2) rfl rfl (by decide) rfl (fun ls hl => ?_)
        refine lv_goto (tgt := 2) hx hb dX5_put_22 (by decide) ?_
        exact ih_2 (x2_2 + (1 : Int32)) W_count_c16 W_letterKept_c16 (by first | ((try generalize (fS_charAt si x2_2) = g1 at hp0 hi0_2 hm_2 hq0_4 c_7 ⊢); (try generalize (fS_length si) = g0 at hp0 hi0_2 hm_2 hq0_4 c_7 ⊢); (try simp only [not_true_eq_false, not_false_eq_true, false_implies, true_implies, implies_true, vp_in_iff, i32_lt, i32_le, i32_eq, i32_add, i32_sub, i32_mul, t32_m1, t32_0, t32_1] at hp0 hi0_2 hm_2 hq0_4 c_7 ⊢) <;> intros <;> omega) | ((try (have hs0 : (x2_2 + (1 : Int32)).toInt = x2_2.toInt + 1 := by (have h := i32_addS (x := x2_2) (y := (1 : Int32)) (by (try simp only [not_true_eq_false, not_false_eq_true, false_implies, true_implies, implies_true, vp_in_iff, i32_lt, i32_le, i32_eq, t32_m1, t32_0, t32_1] at hp0 hi0_2 hm_2 hq0_4 c_7 ⊢) <;> omega) (by (try simp only [not_true_eq_false, not_false_eq_true, false_implies, true_implies, implies_true, vp_in_iff, i32_lt, i32_le, i32_eq, t32_m1, t32_0, t32_1] at hp0 hi0_2 hm_2 hq0_4 c_7 ⊢) <;> omega); (try simp only [t32_m1, t32_0, t32_1] at h); exact h))); (try simp only [not_true_eq_false, not_false_eq_true, false_implies, true_implies, implies_true, vp_in_iff, i32_lt, i32_le, i32_eq, t32_m1, t32_0, t32_1] at hp0 hi0_2 hm_2 hq0_4 c_7 ⊢) <;> intros <;> omega)) (by first | ((try generalize (fS_charAt si x2_2) = g1 at hp0 hi0_2 hm_2 hq0_4 c_7 ⊢); (try generalize (fS_length si) = g0 at hp0 hi0_2 hm_2 hq0_4 c_7 ⊢); (try simp only [not_true_eq_false, not_false_eq_true, false_implies, true_implies, implies_true, vp_in_iff, i32_lt, i32_le, i32_eq, i32_add, i32_sub, i32_mul, t32_m1, t32_0, t32_1] at hp0 hi0_2 hm_2 hq0_4 c_7 ⊢) <;> intros <;> omega)) hE _ _ _ hP hD hS (lv_sub hl [1, 2, 0] rfl)
  exact b_2 (((fS_length si).toInt - (0 : Int32).toInt).toNat + 1) (0 : Int32) W_count W_letterKept (by first | ((try simp only [not_true_eq_false, not_false_eq_true, false_implies, true_implies, implies_true, vp_in_iff, i32_lt, i32_le, i32_eq, i32_add, i32_sub, i32_mul, t32_m1, t32_0, t32_1] at hp0 ⊢) <;> intros <;> omega)) (Nat.lt_succ_self _) hE _ _ _ hP hD hS (lv_sub hl [1, 2, 0] rfl)
