-- X5_putNumber
def fW_putNumber_b46  (W_placeWanted : Int32) (p1 : Int32) (W_count_46 : Int32) (W_letterKept_46 : Int32) : Int32 × Int32 := (bnd2 (fW_putByte W_count_46 W_placeWanted W_letterKept_46 ((48 : Int32) + (p1 - p1 / (10 : Int32) * (10 : Int32)))) (fun W_count_c54 W_letterKept_c54 => (W_count_c54, W_letterKept_c54)))
def fW_putNumber_b26  (W_placeWanted : Int32) (p1 : Int32) (W_count_26 : Int32) (W_letterKept_26 : Int32) : Int32 × Int32 := (if p1 < (10 : Int32) then fW_putNumber_b46 W_placeWanted p1 W_count_26 W_letterKept_26 else (bnd2 (fW_putByte W_count_26 W_placeWanted W_letterKept_26 ((48 : Int32) + ((p1 / (10 : Int32)) - (p1 / (10 : Int32)) / (10 : Int32) * (10 : Int32)))) (fun W_count_c43 W_letterKept_c43 => fW_putNumber_b46 W_placeWanted p1 W_count_c43 W_letterKept_c43)))
def fW_putNumber (W_count : Int32) (W_placeWanted : Int32) (W_letterKept : Int32) (p1 : Int32) : Int32 × Int32 := (bnd2 (fW_putByte W_count W_placeWanted W_letterKept (32 : Int32)) (fun W_count_c3 W_letterKept_c3 => (if p1 < (100 : Int32) then fW_putNumber_b26 W_placeWanted p1 W_count_c3 W_letterKept_c3 else (bnd2 (fW_putByte W_count_c3 W_placeWanted W_letterKept_c3 ((48 : Int32) + ((p1 / (100 : Int32)) - (p1 / (100 : Int32)) / (10 : Int32) * (10 : Int32)))) (fun W_count_c23 W_letterKept_c23 => fW_putNumber_b26 W_placeWanted p1 W_count_c23 W_letterKept_c23)))))
set_option maxHeartbeats 4000000 in
set_option maxRecDepth 100000 in
theorem kW_putNumber (l : Launch) (dC : Nat → ClassId) (dI : Nat → Nat → Nat) (cI cB : ClassId) (aW aT aTg aTp aTm : Nat) (sz : Nat) (W_count : Int32) (W_placeWanted : Int32) (W_letterKept : Int32) (T_brokenWays : Int32) (T_triesAllowed : Int32) (T_mends : Int32) (T_talkers : Int32) (vTg : Nat → Int32) (vTp : Nat → Int32) (vTm : Nat → Int32) (p1 : Int32) : Met l yX5_putNumber wsX5_putNumber ({ frames := 1, cells := 0, slots := 0, locals := 21 }) (va_Pc [.ref aW, .int p1] (PB (dC, dI) vwCl [(cI, .int), (cB, .byte)] [(aW, .inr (5, [.ref aT, .int W_count, .int W_placeWanted, .int W_letterKept])), (aT, .inr (4, [.ref aTg, .ref aTp, .ref aTm, .int T_brokenWays, .int T_triesAllowed, .int T_mends, .int T_talkers])), (aTg, .inl (cI, 5, .inl vTg)), (aTp, .inl (cI, 7, .inl vTp)), (aTm, .inl (cI, 25, .inl vTm))] sz)) (va_Qv (fun (u : Int32 × Int32) => u = fW_putNumber W_count W_placeWanted W_letterKept p1) (fun (u : Int32 × Int32) t => va_P (dC, dI) vwCl [(aW, .inr (5, [.ref aT, .int u.1, .int W_placeWanted, .int u.2])), (aT, .inr (4, [.ref aTg, .ref aTp, .ref aTm, .int T_brokenWays, .int T_triesAllowed, .int T_mends, .int T_talkers])), (aTg, .inl (cI, 5, .inl vTg)), (aTp, .inl (cI, 7, .inl vTp)), (aTm, .inl (cI, 25, .inl vTm))] t.heap ∧ va_K (dC, dI) vwCl [(cI, .int), (cB, .byte)] t ∧ va_D (va_A [(aW, .inr (5, [.ref aT, .int W_count, .int W_placeWanted, .int W_letterKept])), (aT, .inr (4, [.ref aTg, .ref aTp, .ref aTm, .int T_brokenWays, .int T_triesAllowed, .int T_mends, .int T_talkers])), (aTg, .inl (cI, 5, .inl vTg)), (aTp, .inl (cI, 7, .inl vTp)), (aTm, .inl (cI, 25, .inl vTm))] sz) [(aW, .inr (5, [.ref aT, .int u.1, .int W_placeWanted, .int u.2])), (aT, .inr (4, [.ref aTg, .ref aTp, .ref aTm, .int T_brokenWays, .int T_triesAllowed, .int T_mends, .int T_talkers])), (aTg, .inl (cI, 5, .inl vTg)), (aTp, .inl (cI, 7, .inl vTp)), (aTm, .inl (cI, 25, .inl vTm))]) (va_A [(aW, .inr (5, [.ref aT, .int W_count, .int W_placeWanted, .int W_letterKept])), (aT, .inr (4, [.ref aTg, .ref aTp, .ref aTm, .int T_brokenWays, .int T_triesAllowed, .int T_mends, .int T_talkers])), (aTg, .inl (cI, 5, .inl vTg)), (aTp, .inl (cI, 7, .inl vTp)), (aTm, .inl (cI, 25, .inl vTm))] sz)) 0 0 (va_A [(aW, .inr (5, [.ref aT, .int W_count, .int W_placeWanted, .int W_letterKept])), (aT, .inr (4, [.ref aTg, .ref aTp, .ref aTm, .int T_brokenWays, .int T_triesAllowed, .int T_mends, .int T_talkers])), (aTg, .inl (cI, 5, .inl vTg)), (aTp, .inl (cI, 7, .inl vTp)), (aTm, .inl (cI, 25, .inl vTm))] sz) := by
  refine Met.ofW (cc := cX5_putNumber) (maxL := 2) (ret := none) (by decide) rfl ?_
  intro p e s m args below meth c s₁ B hml hv
  obtain ⟨rfl, hsz, hP, hK, hD0⟩ := hv
  have hx := B.exec
  have hb := B.bytes
  have hr := B.returns
  have hts := atoms_spec (ws := wsX5_putNumber) B.pre
  have hown : s.vm.findClass RX5 = some m.cls := findClass_of_methodNamed B.named
  have hlocks := B.notSynchronized
  clear B
  subst hsz
  have hD := hD0.self (sz := s.heap.size)
  clear hD0
  generalize hAe : va_A [(aW, .inr (5, [.ref aT, .int W_count, .int W_placeWanted, .int W_letterKept])), (aT, .inr (4, [.ref aTg, .ref aTp, .ref aTm, .int T_brokenWays, .int T_triesAllowed, .int T_mends, .int T_talkers])), (aTg, .inl (cI, 5, .inl vTg)), (aTp, .inl (cI, 7, .inl vTp)), (aTm, .inl (cI, 25, .inl vTm))] s.heap.size = A at hD ⊢
  have hA : ∀ q : Nat, s.heap.size ≤ q → A q := fun q h => by rw [← hAe]; exact Or.inr h
  clear hAe
  have hS : va_S A s.heap s.heap [] := va_S.rf
  have hP : va_P (dC, dI) vwCl [(aW, .inr (5, [.ref aT, .int W_count, .int W_placeWanted, .int W_letterKept])), (aT, .inr (4, [.ref aTg, .ref aTp, .ref aTm, .int T_brokenWays, .int T_triesAllowed, .int T_mends, .int T_talkers])), (aTg, .inl (cI, 5, .inl vTg)), (aTp, .inl (cI, 7, .inl vTp)), (aTm, .inl (cI, 25, .inl vTm))] s.heap := hP
  have hl := lv_entry ([.ref aW, .int p1]) (n := 2) (Nat.le_of_ble_eq_true rfl)
  rw [lg_entry_eq]
  generalize (lg_sl ([.ref aW, .int p1]) ++ List.replicate (2 - (lg_sl ([.ref aW, .int p1])).length) Slot.unset).toArray = ls at hl ⊢
  have hl : lv_has ls 2 [(0, .ref aW), (1, .int p1)] := hl
  obtain ⟨RES, hRES⟩ : ∃ y, y = fW_putNumber W_count W_placeWanted W_letterKept p1 := ⟨_, rfl⟩
  have hE := hRES.symm
  rw [fW_putNumber] at hE
  refine W.nameQ (fun Q9 hQ9 => ?_)
  refine lv_aload_n hx hb dX5_putNumber_0 rfl (lv_at hl 0 rfl) ?_
  refine lv_bipush (v := (32 : Int32)) hx hb dX5_putNumber_1 (by decide) ?_
  have hPc := hP.sub (ws' := [(aW, .inr (5, [.ref aT, .int W_count, .int W_placeWanted, .int W_letterKept])), (aT, .inr (4, [.ref aTg, .ref aTp, .ref aTm, .int T_brokenWays, .int T_triesAllowed, .int T_mends, .int T_talkers])), (aTg, .inl (cI, 5, .inl vTg)), (aTp, .inl (cI, 7, .inl vTp)), (aTm, .inl (cI, 25, .inl vTm))]) [0, 1, 2, 3, 4] rfl
  have hDc := hD.sub (ws' := [(aW, .inr (5, [.ref aT, .int W_count, .int W_placeWanted, .int W_letterKept])), (aT, .inr (4, [.ref aTg, .ref aTp, .ref aTm, .int T_brokenWays, .int T_triesAllowed, .int T_mends, .int T_talkers])), (aTg, .inl (cI, 5, .inl vTg)), (aTp, .inl (cI, 7, .inl vTp)), (aTm, .inl (cI, 25, .inl vTm))]) [0, 1, 2, 3, 4] (by decide) rfl
  have hFc := va_free (wc := [(aW, .inr (5, [.ref aT, .int W_count, .int W_placeWanted, .int W_letterKept])), (aT, .inr (4, [.ref aTg, .ref aTp, .ref aTm, .int T_brokenWays, .int T_triesAllowed, .int T_mends, .int T_talkers])), (aTg, .inl (cI, 5, .inl vTg)), (aTp, .inl (cI, 7, .inl vTp)), (aTm, .inl (cI, 25, .inl vTm))]) hD hS hA [0, 1, 2, 3, 4] rfl
  refine va_callv (va_runV (As := [.int (32 : Int32)]) (rest := []) ⟨hx, hb, hml, hown, hts⟩ (kW_putByte l dC dI cI cB aW aT aTg aTp aTm s.heap.size W_count W_placeWanted W_letterKept T_brokenWays T_triesAllowed T_mends T_talkers vTg vTp vTm (32 : Int32) ) (cwV 1 hts gX5_putNumber_X5_putByte rfl rfl rfl (by decide +kernel) ⟨Nat.le_of_ble_eq_true rfl, Nat.le_of_ble_eq_true rfl⟩) (pre_V (q := (RX5, TX5, 4)) hK hPc hDc rfl rfl) rfl rfl hl.1 rfl (lv_room (Nat.le_of_ble_eq_true rfl)) dX5_putNumber_3 ⟨(Nat.zero_le _), (Nat.zero_le _)⟩) hS (fun q _ h => hFc q h) hFc (fun u t H1 locs ht hvm hw hB hz1 hk1 hS => ?_)
  obtain ⟨W_count_c3, W_letterKept_c3⟩ := u
  obtain ⟨hP1, hK1, hD1⟩ := hB
  rw [ht] at hP1
  have hE := bnd2s hw hE
  obtain ⟨hP, hD⟩ := va_join (wr := []) (w1 := [(aW, .inr (5, [.ref aT, .int W_count_c3, .int W_placeWanted, .int W_letterKept_c3])), (aT, .inr (4, [.ref aTg, .ref aTp, .ref aTm, .int T_brokenWays, .int T_triesAllowed, .int T_mends, .int T_talkers])), (aTg, .inl (cI, 5, .inl vTg)), (aTp, .inl (cI, 7, .inl vTp)), (aTm, .inl (cI, 25, .inl vTm))]) hP hD [0, 1, 2, 3, 4] [] rfl rfl (by decide) (by decide) hk1 hFc hP1 hD1
  generalize H1 = H at hP hS ⊢
  have hP : va_P (dC, dI) vwCl [(aW, .inr (5, [.ref aT, .int W_count_c3, .int W_placeWanted, .int W_letterKept_c3])), (aT, .inr (4, [.ref aTg, .ref aTp, .ref aTm, .int T_brokenWays, .int T_triesAllowed, .int T_mends, .int T_talkers])), (aTg, .inl (cI, 5, .inl vTg)), (aTp, .inl (cI, 7, .inl vTp)), (aTm, .inl (cI, 25, .inl vTm))] H := hP
  have hD : va_D A [(aW, .inr (5, [.ref aT, .int W_count_c3, .int W_placeWanted, .int W_letterKept_c3])), (aT, .inr (4, [.ref aTg, .ref aTp, .ref aTm, .int T_brokenWays, .int T_triesAllowed, .int T_mends, .int T_talkers])), (aTg, .inl (cI, 5, .inl vTg)), (aTp, .inl (cI, 7, .inl vTp)), (aTm, .inl (cI, 25, .inl vTm))] := hD
  refine lv_iload_n hx hb dX5_putNumber_6 rfl (lv_at hl 1 rfl) ?_
  refine lv_bipush (v := (100 : Int32)) hx hb dX5_putNumber_7 (by decide) ?_
  have b_26 : ∀ (W_count_26 : Int32) (W_letterKept_26 : Int32), fW_putNumber_b26 W_placeWanted p1 W_count_26 W_letterKept_26 = RES → ∀ (H : Heap) (locs : List Loc) (ls : Array Slot), va_P (dC, dI) vwCl [(aW, .inr (5, [.ref aT, .int W_count_26, .int W_placeWanted, .int W_letterKept_26])), (aT, .inr (4, [.ref aTg, .ref aTp, .ref aTm, .int T_brokenWays, .int T_triesAllowed, .int T_mends, .int T_talkers])), (aTg, .inl (cI, 5, .inl vTg)), (aTp, .inl (cI, 7, .inl vTp)), (aTm, .inl (cI, 25, .inl vTm))] H → va_D A [(aW, .inr (5, [.ref aT, .int W_count_26, .int W_placeWanted, .int W_letterKept_26])), (aT, .inr (4, [.ref aTg, .ref aTp, .ref aTm, .int T_brokenWays, .int T_triesAllowed, .int T_mends, .int T_talkers])), (aTg, .inl (cI, 5, .inl vTg)), (aTp, .inl (cI, 7, .inl vTp)), (aTm, .inl (cI, 25, .inl vTm))] → va_S A s.heap H locs → lv_has ls 2 [(0, .ref aW), (1, .int p1)] → W p l e (headSpec wsX5_putNumber ({ frames := 1, cells := 0, slots := 0, locals := 21 })).room s m ([.ref aW, .int p1] : List Value).toArray below meth c H locs 0 0 Q9 (F0 m 26 ls []) := by
    intro W_count_26 W_letterKept_26 hE H locs ls hP hD hS hl
    rw [fW_putNumber_b26] at hE
    refine lv_iload_n hx hb dX5_putNumber_26 rfl (lv_at hl 1 rfl) ?_
    refine lv_bipush (v := (10 : Int32)) hx hb dX5_putNumber_27 (by decide) ?_
    have b_46 : ∀ (W_count_46 : Int32) (W_letterKept_46 : Int32), fW_putNumber_b46 W_placeWanted p1 W_count_46 W_letterKept_46 = RES → ∀ (H : Heap) (locs : List Loc) (ls : Array Slot), va_P (dC, dI) vwCl [(aW, .inr (5, [.ref aT, .int W_count_46, .int W_placeWanted, .int W_letterKept_46])), (aT, .inr (4, [.ref aTg, .ref aTp, .ref aTm, .int T_brokenWays, .int T_triesAllowed, .int T_mends, .int T_talkers])), (aTg, .inl (cI, 5, .inl vTg)), (aTp, .inl (cI, 7, .inl vTp)), (aTm, .inl (cI, 25, .inl vTm))] H → va_D A [(aW, .inr (5, [.ref aT, .int W_count_46, .int W_placeWanted, .int W_letterKept_46])), (aT, .inr (4, [.ref aTg, .ref aTp, .ref aTm, .int T_brokenWays, .int T_triesAllowed, .int T_mends, .int T_talkers])), (aTg, .inl (cI, 5, .inl vTg)), (aTp, .inl (cI, 7, .inl vTp)), (aTm, .inl (cI, 25, .inl vTm))] → va_S A s.heap H locs → lv_has ls 2 [(0, .ref aW), (1, .int p1)] → W p l e (headSpec wsX5_putNumber ({ frames := 1, cells := 0, slots := 0, locals := 21 })).room s m ([.ref aW, .int p1] : List Value).toArray below meth c H locs 0 0 Q9 (F0 m 46 ls []) := by
      intro W_count_46 W_letterKept_46 hE H locs ls hP hD hS hl
      rw [fW_putNumber_b46] at hE
      refine lv_aload_n hx hb dX5_putNumber_46 rfl (lv_at hl 0 rfl) ?_
      refine lv_bipush (v := (48 : Int32)) hx hb dX5_putNumber_47 (by decide) ?_
      refine lv_iload_n hx hb dX5_putNumber_49 rfl (lv_at hl 1 rfl) ?_
      refine lv_bipush (v := (10 : Int32)) hx hb dX5_putNumber_50 (by decide) ?_
      refine lv_irem hx hb dX5_putNumber_52 (by decide) ?_
      refine lv_iadd hx hb dX5_putNumber_53 ?_
      have hPc := hP.sub (ws' := [(aW, .inr (5, [.ref aT, .int W_count_46, .int W_placeWanted, .int W_letterKept_46])), (aT, .inr (4, [.ref aTg, .ref aTp, .ref aTm, .int T_brokenWays, .int T_triesAllowed, .int T_mends, .int T_talkers])), (aTg, .inl (cI, 5, .inl vTg)), (aTp, .inl (cI, 7, .inl vTp)), (aTm, .inl (cI, 25, .inl vTm))]) [0, 1, 2, 3, 4] rfl
      have hDc := hD.sub (ws' := [(aW, .inr (5, [.ref aT, .int W_count_46, .int W_placeWanted, .int W_letterKept_46])), (aT, .inr (4, [.ref aTg, .ref aTp, .ref aTm, .int T_brokenWays, .int T_triesAllowed, .int T_mends, .int T_talkers])), (aTg, .inl (cI, 5, .inl vTg)), (aTp, .inl (cI, 7, .inl vTp)), (aTm, .inl (cI, 25, .inl vTm))]) [0, 1, 2, 3, 4] (by decide) rfl
      have hFc := va_free (wc := [(aW, .inr (5, [.ref aT, .int W_count_46, .int W_placeWanted, .int W_letterKept_46])), (aT, .inr (4, [.ref aTg, .ref aTp, .ref aTm, .int T_brokenWays, .int T_triesAllowed, .int T_mends, .int T_talkers])), (aTg, .inl (cI, 5, .inl vTg)), (aTp, .inl (cI, 7, .inl vTp)), (aTm, .inl (cI, 25, .inl vTm))]) hD hS hA [0, 1, 2, 3, 4] rfl
      refine va_callv (va_runV (As := [.int ((48 : Int32) + (p1 - p1 / (10 : Int32) * (10 : Int32)))]) (rest := []) ⟨hx, hb, hml, hown, hts⟩ (kW_putByte l dC dI cI cB aW aT aTg aTp aTm H.size W_count_46 W_placeWanted W_letterKept_46 T_brokenWays T_triesAllowed T_mends T_talkers vTg vTp vTm ((48 : Int32) + (p1 - p1 / (10 : Int32) * (10 : Int32))) ) (cwV 1 hts gX5_putNumber_X5_putByte rfl rfl rfl (by decide +kernel) ⟨Nat.le_of_ble_eq_true rfl, Nat.le_of_ble_eq_true rfl⟩) (pre_V (q := (RX5, TX5, 4)) hK hPc hDc rfl rfl) rfl rfl hl.1 rfl (lv_room (Nat.le_of_ble_eq_true rfl)) dX5_putNumber_54 ⟨(Nat.zero_le _), (Nat.zero_le _)⟩) hS (fun q _ h => hFc q h) hFc (fun u t H1 locs ht hvm hw hB hz1 hk1 hS => ?_)
      obtain ⟨W_count_c54, W_letterKept_c54⟩ := u
      obtain ⟨hP1, hK1, hD1⟩ := hB
      rw [ht] at hP1
      have hE := bnd2s hw hE
      obtain ⟨hP, hD⟩ := va_join (wr := []) (w1 := [(aW, .inr (5, [.ref aT, .int W_count_c54, .int W_placeWanted, .int W_letterKept_c54])), (aT, .inr (4, [.ref aTg, .ref aTp, .ref aTm, .int T_brokenWays, .int T_triesAllowed, .int T_mends, .int T_talkers])), (aTg, .inl (cI, 5, .inl vTg)), (aTp, .inl (cI, 7, .inl vTp)), (aTm, .inl (cI, 25, .inl vTm))]) hP hD [0, 1, 2, 3, 4] [] rfl rfl (by decide) (by decide) hk1 hFc hP1 hD1
      generalize H1 = H at hP hS ⊢
      have hP : va_P (dC, dI) vwCl [(aW, .inr (5, [.ref aT, .int W_count_c54, .int W_placeWanted, .int W_letterKept_c54])), (aT, .inr (4, [.ref aTg, .ref aTp, .ref aTm, .int T_brokenWays, .int T_triesAllowed, .int T_mends, .int T_talkers])), (aTg, .inl (cI, 5, .inl vTg)), (aTp, .inl (cI, 7, .inl vTp)), (aTm, .inl (cI, 25, .inl vTm))] H := hP
      have hD : va_D A [(aW, .inr (5, [.ref aT, .int W_count_c54, .int W_placeWanted, .int W_letterKept_c54])), (aT, .inr (4, [.ref aTg, .ref aTp, .ref aTm, .int T_brokenWays, .int T_triesAllowed, .int T_mends, .int T_talkers])), (aTg, .inl (cI, 5, .inl vTg)), (aTp, .inl (cI, 7, .inl vTp)), (aTm, .inl (cI, 25, .inl vTm))] := hD
      subst hQ9
      exact W.vret hx hb hr (fun t ht hW => ⟨⟨(W_count_c54, W_letterKept_c54), rfl, hE.trans hRES, (by rw [ht]; exact hP), va_K.moved hW.alike hK, hD⟩, hS.F ht⟩) hS.2.2 dX5_putNumber_57
    refine lv_icmp_lt (tgt := 46) hx hb dX5_putNumber_29 (by decide) (fun c_29 => ?_) (fun c_29 => ?_)
    · have hE := ipos c_29 hE
      exact b_46 W_count_26 W_letterKept_26  hE _ _ _ hP hD hS (lv_sub hl [0, 1] rfl)
    · have hE := ineg c_29 hE
      refine lv_aload_n hx hb dX5_putNumber_32 rfl (lv_at hl 0 rfl) ?_
      refine lv_bipush (v := (48 : Int32)) hx hb dX5_putNumber_33 (by decide) ?_
      refine lv_iload_n hx hb dX5_putNumber_35 rfl (lv_at hl 1 rfl) ?_
      refine lv_bipush (v := (10 : Int32)) hx hb dX5_putNumber_36 (by decide) ?_
      refine lv_idiv hx hb dX5_putNumber_38 (by decide) ?_
      refine lv_bipush (v := (10 : Int32)) hx hb dX5_putNumber_39 (by decide) ?_
      refine lv_irem hx hb dX5_putNumber_41 (by decide) ?_
      refine lv_iadd hx hb dX5_putNumber_42 ?_
      have hPc := hP.sub (ws' := [(aW, .inr (5, [.ref aT, .int W_count_26, .int W_placeWanted, .int W_letterKept_26])), (aT, .inr (4, [.ref aTg, .ref aTp, .ref aTm, .int T_brokenWays, .int T_triesAllowed, .int T_mends, .int T_talkers])), (aTg, .inl (cI, 5, .inl vTg)), (aTp, .inl (cI, 7, .inl vTp)), (aTm, .inl (cI, 25, .inl vTm))]) [0, 1, 2, 3, 4] rfl
      have hDc := hD.sub (ws' := [(aW, .inr (5, [.ref aT, .int W_count_26, .int W_placeWanted, .int W_letterKept_26])), (aT, .inr (4, [.ref aTg, .ref aTp, .ref aTm, .int T_brokenWays, .int T_triesAllowed, .int T_mends, .int T_talkers])), (aTg, .inl (cI, 5, .inl vTg)), (aTp, .inl (cI, 7, .inl vTp)), (aTm, .inl (cI, 25, .inl vTm))]) [0, 1, 2, 3, 4] (by decide) rfl
      have hFc := va_free (wc := [(aW, .inr (5, [.ref aT, .int W_count_26, .int W_placeWanted, .int W_letterKept_26])), (aT, .inr (4, [.ref aTg, .ref aTp, .ref aTm, .int T_brokenWays, .int T_triesAllowed, .int T_mends, .int T_talkers])), (aTg, .inl (cI, 5, .inl vTg)), (aTp, .inl (cI, 7, .inl vTp)), (aTm, .inl (cI, 25, .inl vTm))]) hD hS hA [0, 1, 2, 3, 4] rfl
      refine va_callv (va_runV (As := [.int ((48 : Int32) + ((p1 / (10 : Int32)) - (p1 / (10 : Int32)) / (10 : Int32) * (10 : Int32)))]) (rest := []) ⟨hx, hb, hml, hown, hts⟩ (kW_putByte l dC dI cI cB aW aT aTg aTp aTm H.size W_count_26 W_placeWanted W_letterKept_26 T_brokenWays T_triesAllowed T_mends T_talkers vTg vTp vTm ((48 : Int32) + ((p1 / (10 : Int32)) - (p1 / (10 : Int32)) / (10 : Int32) * (10 : Int32))) ) (cwV 1 hts gX5_putNumber_X5_putByte rfl rfl rfl (by decide +kernel) ⟨Nat.le_of_ble_eq_true rfl, Nat.le_of_ble_eq_true rfl⟩) (pre_V (q := (RX5, TX5, 4)) hK hPc hDc rfl rfl) rfl rfl hl.1 rfl (lv_room (Nat.le_of_ble_eq_true rfl)) dX5_putNumber_43 ⟨(Nat.zero_le _), (Nat.zero_le _)⟩) hS (fun q _ h => hFc q h) hFc (fun u t H1 locs ht hvm hw hB hz1 hk1 hS => ?_)
      obtain ⟨W_count_c43, W_letterKept_c43⟩ := u
      obtain ⟨hP1, hK1, hD1⟩ := hB
      rw [ht] at hP1
      have hE := bnd2s hw hE
      obtain ⟨hP, hD⟩ := va_join (wr := []) (w1 := [(aW, .inr (5, [.ref aT, .int W_count_c43, .int W_placeWanted, .int W_letterKept_c43])), (aT, .inr (4, [.ref aTg, .ref aTp, .ref aTm, .int T_brokenWays, .int T_triesAllowed, .int T_mends, .int T_talkers])), (aTg, .inl (cI, 5, .inl vTg)), (aTp, .inl (cI, 7, .inl vTp)), (aTm, .inl (cI, 25, .inl vTm))]) hP hD [0, 1, 2, 3, 4] [] rfl rfl (by decide) (by decide) hk1 hFc hP1 hD1
      generalize H1 = H at hP hS ⊢
      have hP : va_P (dC, dI) vwCl [(aW, .inr (5, [.ref aT, .int W_count_c43, .int W_placeWanted, .int W_letterKept_c43])), (aT, .inr (4, [.ref aTg, .ref aTp, .ref aTm, .int T_brokenWays, .int T_triesAllowed, .int T_mends, .int T_talkers])), (aTg, .inl (cI, 5, .inl vTg)), (aTp, .inl (cI, 7, .inl vTp)), (aTm, .inl (cI, 25, .inl vTm))] H := hP
      have hD : va_D A [(aW, .inr (5, [.ref aT, .int W_count_c43, .int W_placeWanted, .int W_letterKept_c43])), (aT, .inr (4, [.ref aTg, .ref aTp, .ref aTm, .int T_brokenWays, .int T_triesAllowed, .int T_mends, .int T_talkers])), (aTg, .inl (cI, 5, .inl vTg)), (aTp, .inl (cI, 7, .inl vTp)), (aTm, .inl (cI, 25, .inl vTm))] := hD
      exact b_46 W_count_c43 W_letterKept_c43  hE _ _ _ hP hD hS (lv_sub hl [0, 1] rfl)
  refine lv_icmp_lt (tgt := 26) hx hb dX5_putNumber_9 (by decide) (fun c_9 => ?_) (fun c_9 => ?_)
  · have hE := ipos c_9 hE
    exact b_26 W_count_c3 W_letterKept_c3  hE _ _ _ hP hD hS (lv_sub hl [0, 1] rfl)
  · have hE := ineg c_9 hE
    refine lv_aload_n hx hb dX5_putNumber_12 rfl (lv_at hl 0 rfl) ?_
    refine lv_bipush (v := (48 : Int32)) hx hb dX5_putNumber_13 (by decide) ?_
    refine lv_iload_n hx hb dX5_putNumber_15 rfl (lv_at hl 1 rfl) ?_
    refine lv_bipush (v := (100 : Int32)) hx hb dX5_putNumber_16 (by decide) ?_
    refine lv_idiv hx hb dX5_putNumber_18 (by decide) ?_
    refine lv_bipush (v := (10 : Int32)) hx hb dX5_putNumber_19 (by decide) ?_
    refine lv_irem hx hb dX5_putNumber_21 (by decide) ?_
    refine lv_iadd hx hb dX5_putNumber_22 ?_
    have hPc := hP.sub (ws' := [(aW, .inr (5, [.ref aT, .int W_count_c3, .int W_placeWanted, .int W_letterKept_c3])), (aT, .inr (4, [.ref aTg, .ref aTp, .ref aTm, .int T_brokenWays, .int T_triesAllowed, .int T_mends, .int T_talkers])), (aTg, .inl (cI, 5, .inl vTg)), (aTp, .inl (cI, 7, .inl vTp)), (aTm, .inl (cI, 25, .inl vTm))]) [0, 1, 2, 3, 4] rfl
    have hDc := hD.sub (ws' := [(aW, .inr (5, [.ref aT, .int W_count_c3, .int W_placeWanted, .int W_letterKept_c3])), (aT, .inr (4, [.ref aTg, .ref aTp, .ref aTm, .int T_brokenWays, .int T_triesAllowed, .int T_mends, .int T_talkers])), (aTg, .inl (cI, 5, .inl vTg)), (aTp, .inl (cI, 7, .inl vTp)), (aTm, .inl (cI, 25, .inl vTm))]) [0, 1, 2, 3, 4] (by decide) rfl
    have hFc := va_free (wc := [(aW, .inr (5, [.ref aT, .int W_count_c3, .int W_placeWanted, .int W_letterKept_c3])), (aT, .inr (4, [.ref aTg, .ref aTp, .ref aTm, .int T_brokenWays, .int T_triesAllowed, .int T_mends, .int T_talkers])), (aTg, .inl (cI, 5, .inl vTg)), (aTp, .inl (cI, 7, .inl vTp)), (aTm, .inl (cI, 25, .inl vTm))]) hD hS hA [0, 1, 2, 3, 4] rfl
    refine va_callv (va_runV (As := [.int ((48 : Int32) + ((p1 / (100 : Int32)) - (p1 / (100 : Int32)) / (10 : Int32) * (10 : Int32)))]) (rest := []) ⟨hx, hb, hml, hown, hts⟩ (kW_putByte l dC dI cI cB aW aT aTg aTp aTm H.size W_count_c3 W_placeWanted W_letterKept_c3 T_brokenWays T_triesAllowed T_mends T_talkers vTg vTp vTm ((48 : Int32) + ((p1 / (100 : Int32)) - (p1 / (100 : Int32)) / (10 : Int32) * (10 : Int32))) ) (cwV 1 hts gX5_putNumber_X5_putByte rfl rfl rfl (by decide +kernel) ⟨Nat.le_of_ble_eq_true rfl, Nat.le_of_ble_eq_true rfl⟩) (pre_V (q := (RX5, TX5, 4)) hK hPc hDc rfl rfl) rfl rfl hl.1 rfl (lv_room (Nat.le_of_ble_eq_true rfl)) dX5_putNumber_23 ⟨(Nat.zero_le _), (Nat.zero_le _)⟩) hS (fun q _ h => hFc q h) hFc (fun u t H1 locs ht hvm hw hB hz1 hk1 hS => ?_)
    obtain ⟨W_count_c23, W_letterKept_c23⟩ := u
    obtain ⟨hP1, hK1, hD1⟩ := hB
    rw [ht] at hP1
    have hE := bnd2s hw hE
    obtain ⟨hP, hD⟩ := va_join (wr := []) (w1 := [(aW, .inr (5, [.ref aT, .int W_count_c23, .int W_placeWanted, .int W_letterKept_c23])), (aT, .inr (4, [.ref aTg, .ref aTp, .ref aTm, .int T_brokenWays, .int T_triesAllowed, .int T_mends, .int T_talkers])), (aTg, .inl (cI, 5, .inl vTg)), (aTp, .inl (cI, 7, .inl vTp)), (aTm, .inl (cI, 25, .inl vTm))]) hP hD [0, 1, 2, 3, 4] [] rfl rfl (by decide) (by decide) hk1 hFc hP1 hD1
    generalize H1 = H at hP hS ⊢
    have hP : va_P (dC, dI) vwCl [(aW, .inr (5, [.ref aT, .int W_count_c23, .int W_placeWanted, .int W_letterKept_c23])), (aT, .inr (4, [.ref aTg, .ref aTp, .ref aTm, .int T_brokenWays, .int T_triesAllowed, .int T_mends, .int T_talkers])), (aTg, .inl (cI, 5, .inl vTg)), (aTp, .inl (cI, 7, .inl vTp)), (aTm, .inl (cI, 25, .inl vTm))] H := hP
    have hD : va_D A [(aW, .inr (5, [.ref aT, .int W_count_c23, .int W_placeWanted, .int W_letterKept_c23])), (aT, .inr (4, [.ref aTg, .ref aTp, .ref aTm, .int T_brokenWays, .int T_triesAllowed, .int T_mends, .int T_talkers])), (aTg, .inl (cI, 5, .inl vTg)), (aTp, .inl (cI, 7, .inl vTp)), (aTm, .inl (cI, 25, .inl vTm))] := hD
    exact b_26 W_count_c23 W_letterKept_c23  hE _ _ _ hP hD hS (lv_sub hl [0, 1] rfl)
-- X5_putWays
def fW_putWays_l2  (W_placeWanted : Int32) (p1 : Int32) : Nat → Int32 → Int32 → Int32 → (Int32 × Int32)
  | 0, x2_2, W_count_2, W_letterKept_2 => (W_count_2, W_letterKept_2)
  | n_2 + 1, x2_2, W_count_2, W_letterKept_2 => (if (4 : Int32) ≤ x2_2 then (W_count_2, W_letterKept_2) else (if (fX_holds p1 x2_2) = 0 then (fW_putWays_l2 W_placeWanted p1 n_2) (x2_2 + (1 : Int32)) W_count_2 W_letterKept_2 else (bnd2 (fW_putNumber W_count_2 W_placeWanted W_letterKept_2 x2_2) (fun W_count_c17 W_letterKept_c17 => (fW_putWays_l2 W_placeWanted p1 n_2) (x2_2 + (1 : Int32)) W_count_c17 W_letterKept_c17))))
def fW_putWays (W_count : Int32) (W_placeWanted : Int32) (W_letterKept : Int32) (p1 : Int32) : Int32 × Int32 := fW_putWays_l2 W_placeWanted p1 (5) (0 : Int32) W_count W_letterKept
set_option maxHeartbeats 4000000 in
set_option maxRecDepth 100000 in
theorem kW_putWays (l : Launch) (dC : Nat → ClassId) (dI : Nat → Nat → Nat) (cI cB : ClassId) (adK adV : Nat → Nat) (aW aT aTg aTp aTm : Nat) (sz : Nat) (W_count : Int32) (W_placeWanted : Int32) (W_letterKept : Int32) (T_brokenWays : Int32) (T_triesAllowed : Int32) (T_mends : Int32) (T_talkers : Int32) (vTg : Nat → Int32) (vTp : Nat → Int32) (vTm : Nat → Int32) (p1 : Int32) : Met l yX5_putWays wsX5_putWays ({ frames := 2, cells := 0, slots := 0, locals := 42 }) (va_Pc [.ref aW, .int p1] (PE (dC, dI) vwCl [(cI, .int), (cB, .byte)] [(aW, .inr (5, [.ref aT, .int W_count, .int W_placeWanted, .int W_letterKept])), (aT, .inr (4, [.ref aTg, .ref aTp, .ref aTm, .int T_brokenWays, .int T_triesAllowed, .int T_mends, .int T_talkers])), (aTg, .inl (cI, 5, .inl vTg)), (aTp, .inl (cI, 7, .inl vTp)), (aTm, .inl (cI, 25, .inl vTm))] sz adK adV)) (va_Qv (fun (u : Int32 × Int32) => u = fW_putWays W_count W_placeWanted W_letterKept p1) (fun (u : Int32 × Int32) t => va_P (dC, dI) vwCl [(aW, .inr (5, [.ref aT, .int u.1, .int W_placeWanted, .int u.2])), (aT, .inr (4, [.ref aTg, .ref aTp, .ref aTm, .int T_brokenWays, .int T_triesAllowed, .int T_mends, .int T_talkers])), (aTg, .inl (cI, 5, .inl vTg)), (aTp, .inl (cI, 7, .inl vTp)), (aTm, .inl (cI, 25, .inl vTm))] t.heap ∧ va_K (dC, dI) vwCl [(cI, .int), (cB, .byte)] t ∧ va_D (va_A [(aW, .inr (5, [.ref aT, .int W_count, .int W_placeWanted, .int W_letterKept])), (aT, .inr (4, [.ref aTg, .ref aTp, .ref aTm, .int T_brokenWays, .int T_triesAllowed, .int T_mends, .int T_talkers])), (aTg, .inl (cI, 5, .inl vTg)), (aTp, .inl (cI, 7, .inl vTp)), (aTm, .inl (cI, 25, .inl vTm))] sz) [(aW, .inr (5, [.ref aT, .int u.1, .int W_placeWanted, .int u.2])), (aT, .inr (4, [.ref aTg, .ref aTp, .ref aTm, .int T_brokenWays, .int T_triesAllowed, .int T_mends, .int T_talkers])), (aTg, .inl (cI, 5, .inl vTg)), (aTp, .inl (cI, 7, .inl vTp)), (aTm, .inl (cI, 25, .inl vTm))]) (va_A [(aW, .inr (5, [.ref aT, .int W_count, .int W_placeWanted, .int W_letterKept])), (aT, .inr (4, [.ref aTg, .ref aTp, .ref aTm, .int T_brokenWays, .int T_triesAllowed, .int T_mends, .int T_talkers])), (aTg, .inl (cI, 5, .inl vTg)), (aTp, .inl (cI, 7, .inl vTp)), (aTm, .inl (cI, 25, .inl vTm))] sz)) 0 0 (va_A [(aW, .inr (5, [.ref aT, .int W_count, .int W_placeWanted, .int W_letterKept])), (aT, .inr (4, [.ref aTg, .ref aTp, .ref aTm, .int T_brokenWays, .int T_triesAllowed, .int T_mends, .int T_talkers])), (aTg, .inl (cI, 5, .inl vTg)), (aTp, .inl (cI, 7, .inl vTp)), (aTm, .inl (cI, 25, .inl vTm))] sz) := by
  refine Met.ofW (cc := cX5_putWays) (maxL := 3) (ret := none) (by decide) rfl ?_
  intro p e s m args below meth c s₁ B hml hv
  obtain ⟨rfl, ⟨hsz, hP, hK, hD0⟩, hEv⟩ := hv
  have hx := B.exec
  have hb := B.bytes
  have hr := B.returns
  have hts := atoms_spec (ws := wsX5_putWays) B.pre
  have hown : s.vm.findClass RX5 = some m.cls := findClass_of_methodNamed B.named
  have hlocks := B.notSynchronized
  clear B
  subst hsz
  have hD := hD0.self (sz := s.heap.size)
  clear hD0
  generalize hAe : va_A [(aW, .inr (5, [.ref aT, .int W_count, .int W_placeWanted, .int W_letterKept])), (aT, .inr (4, [.ref aTg, .ref aTp, .ref aTm, .int T_brokenWays, .int T_triesAllowed, .int T_mends, .int T_talkers])), (aTg, .inl (cI, 5, .inl vTg)), (aTp, .inl (cI, 7, .inl vTp)), (aTm, .inl (cI, 25, .inl vTm))] s.heap.size = A at hD hEv ⊢
  have hA : ∀ q : Nat, s.heap.size ≤ q → A q := fun q h => by rw [← hAe]; exact Or.inr h
  clear hAe
  have hS : va_S A s.heap s.heap [] := va_S.rf
  have hP : va_P (dC, dI) vwCl [(aW, .inr (5, [.ref aT, .int W_count, .int W_placeWanted, .int W_letterKept])), (aT, .inr (4, [.ref aTg, .ref aTp, .ref aTm, .int T_brokenWays, .int T_triesAllowed, .int T_mends, .int T_talkers])), (aTg, .inl (cI, 5, .inl vTg)), (aTp, .inl (cI, 7, .inl vTp)), (aTm, .inl (cI, 25, .inl vTm))] s.heap := hP
  have hl := lv_entry ([.ref aW, .int p1]) (n := 3) (Nat.le_of_ble_eq_true rfl)
  rw [lg_entry_eq]
  generalize (lg_sl ([.ref aW, .int p1]) ++ List.replicate (3 - (lg_sl ([.ref aW, .int p1])).length) Slot.unset).toArray = ls at hl ⊢
  have hl : lv_has ls 3 [(0, .ref aW), (1, .int p1)] := hl
  obtain ⟨RES, hRES⟩ : ∃ y, y = fW_putWays W_count W_placeWanted W_letterKept p1 := ⟨_, rfl⟩
  have hE := hRES.symm
  rw [fW_putWays] at hE
  refine W.nameQ (fun Q9 hQ9 => ?_)
  refine lv_iconst (v := (0 : Int32)) hx hb dX5_putWays_0 (by decide) ?_
  refine lv_istore_n (lv' := [(2, .int (0 : Int32)), (0, .ref aW), (1, .int p1)]) hx hb dX5_putWays_1 rfl hl (by decide) rfl (fun ls hl => ?_)
  have b_2 : ∀ (n_2 : Nat) (x2_2 : Int32) (W_count_2 : Int32) (W_letterKept_2 : Int32), (0 ≤ x2_2.toInt ∧ x2_2.toInt ≤ 4) → ((4 - x2_2.toInt).toNat : Nat) < n_2 → fW_putWays_l2 W_placeWanted p1 n_2 x2_2 W_count_2 W_letterKept_2 = RES → ∀ (H : Heap) (locs : List Loc) (ls : Array Slot), va_P (dC, dI) vwCl [(aW, .inr (5, [.ref aT, .int W_count_2, .int W_placeWanted, .int W_letterKept_2])), (aT, .inr (4, [.ref aTg, .ref aTp, .ref aTm, .int T_brokenWays, .int T_triesAllowed, .int T_mends, .int T_talkers])), (aTg, .inl (cI, 5, .inl vTg)), (aTp, .inl (cI, 7, .inl vTp)), (aTm, .inl (cI, 25, .inl vTm))] H → va_D A [(aW, .inr (5, [.ref aT, .int W_count_2, .int W_placeWanted, .int W_letterKept_2])), (aT, .inr (4, [.ref aTg, .ref aTp, .ref aTm, .int T_brokenWays, .int T_triesAllowed, .int T_mends, .int T_talkers])), (aTg, .inl (cI, 5, .inl vTg)), (aTp, .inl (cI, 7, .inl vTp)), (aTm, .inl (cI, 25, .inl vTm))] → va_S A s.heap H locs → lv_has ls 3 [(0, .ref aW), (1, .int p1), (2, .int x2_2)] → W p l e (headSpec wsX5_putWays ({ frames := 2, cells := 0, slots := 0, locals := 42 })).room s m ([.ref aW, .int p1] : List Value).toArray below meth c H locs 0 0 Q9 (F0 m 2 ls []) := by
    intro n_2
    induction n_2 with
    | zero => intro x2_2 W_count_2 W_letterKept_2 hi0_2 hm_2 hE; exact absurd hm_2 (Nat.not_lt_zero _)
    | succ n_2 ih_2 =>
      intro x2_2 W_count_2 W_letterKept_2 hi0_2 hm_2 hE H locs ls hP hD hS hl
      rw [fW_putWays_l2] at hE
      refine lv_iload_n hx hb dX5_putWays_2 rfl (lv_at hl 2 rfl) ?_
      refine lv_iconst (v := (4 : Int32)) hx hb dX5_putWays_3 (by decide) ?_
      refine lv_icmp_ge (tgt := 26) hx hb dX5_putWays_4 (by decide) (fun c_4 => ?_) (fun c_4 => ?_)
      · have hE := ipos c_4 hE
        subst hQ9
        exact W.vret hx hb hr (fun t ht hW => ⟨⟨(W_count_2, W_letterKept_2), rfl, hE.trans hRES, (by rw [ht]; exact hP), va_K.moved hW.alike hK, hD⟩, hS.F ht⟩) hS.2.2 dX5_putWays_26
      · have hE := ineg c_4 hE
        refine lv_iload_n hx hb dX5_putWays_7 rfl (lv_at hl 1 rfl) ?_
        refine lv_iload_n hx hb dX5_putWays_8 rfl (lv_at hl 2 rfl) ?_
        have hPc := hP.sub (ws' := []) [] rfl
        have hDc := hD.sub (ws' := []) [] (by decide) rfl
        have hFc := va_free (wc := []) hD hS hA [] rfl
        refine va_calli (va_runSN (As := [.int p1, .int x2_2]) (rest := []) ⟨hx, hb, hml, hown, hts⟩ (kX_holds l dC dI cI cB H.size p1 x2_2 ) ⟨va_cnB 2 hts gX5_putWays_X6_holds_n102 rfl rfl rfl (hEv.1 _ (List.mem_of_getElem? (i := 0) rfl)) (hts _ (List.mem_cons_of_mem _ (List.mem_append_left _ (List.mem_of_getElem? (i := 1) rfl)))) (by decide +kernel) ⟨Nat.le_of_ble_eq_true rfl, Nat.le_of_ble_eq_true rfl⟩, (hts _ (List.mem_cons_of_mem _ (List.mem_append_left _ (List.mem_of_getElem? (i := 0) rfl)))), trivial⟩ (pre_S hK hPc hDc) rfl rfl hl.1 rfl (lv_room (Nat.le_of_ble_eq_true rfl)) dX5_putWays_9 ⟨(Nat.zero_le _), (Nat.zero_le _)⟩) hS (fun q _ h => hFc q h) hFc (fun r9 u t H1 locs ht hvm hw hB hz1 hk1 hS => ?_)
        obtain ⟨hP1, hK1, hD1⟩ := hB
        rw [ht] at hP1
        obtain ⟨hw, hbz9⟩ := hw
        have hw := hw.symm
        subst hw
        obtain ⟨hP, hD⟩ := va_join (wr := [(aW, .inr (5, [.ref aT, .int W_count_2, .int W_placeWanted, .int W_letterKept_2])), (aT, .inr (4, [.ref aTg, .ref aTp, .ref aTm, .int T_brokenWays, .int T_triesAllowed, .int T_mends, .int T_talkers])), (aTg, .inl (cI, 5, .inl vTg)), (aTp, .inl (cI, 7, .inl vTp)), (aTm, .inl (cI, 25, .inl vTm))]) (w1 := []) hP hD [] [0, 1, 2, 3, 4] rfl rfl (by decide) (by decide) hk1 hFc hP1 hD1
        generalize H1 = H at hP hS ⊢
        have hP : va_P (dC, dI) vwCl [(aW, .inr (5, [.ref aT, .int W_count_2, .int W_placeWanted, .int W_letterKept_2])), (aT, .inr (4, [.ref aTg, .ref aTp, .ref aTm, .int T_brokenWays, .int T_triesAllowed, .int T_mends, .int T_talkers])), (aTg, .inl (cI, 5, .inl vTg)), (aTp, .inl (cI, 7, .inl vTp)), (aTm, .inl (cI, 25, .inl vTm))] H := hP
        have hD : va_D A [(aW, .inr (5, [.ref aT, .int W_count_2, .int W_placeWanted, .int W_letterKept_2])), (aT, .inr (4, [.ref aTg, .ref aTp, .ref aTm, .int T_brokenWays, .int T_triesAllowed, .int T_mends, .int T_talkers])), (aTg, .inl (cI, 5, .inl vTg)), (aTp, .inl (cI, 7, .inl vTp)), (aTm, .inl (cI, 25, .inl vTm))] := hD
        refine lv_if_eq (tgt := 20) hx hb dX5_putWays_12 (by decide) (fun c_12 => ?_) (fun c_12 => ?_)
        · have hE := ipos c_12 hE
          refine lv_iinc (v := (x2_2 + (1 : Int32))) (lv' := [(2, .int (x2_2 + (1 : Int32))), (0, .ref aW), (1, .int p1)]) hx hb dX5_putWays_20 hl (k := 2) rfl rfl (by decide) rfl (fun ls hl => ?_)
          refine lv_goto (tgt := 2) hx hb dX5_putWays_23 (by decide) ?_
          exact ih_2 (x2_2 + (1 : Int32)) W_count_2 W_letterKept_2 (by first | ((try generalize (fX_holds p1 x2_2) = g0 at hi0_2 hm_2 c_4 hbz9 c_12 ⊢); (try simp only [not_true_eq_false, not_false_eq_true, false_implies, true_implies, implies_true, vp_in_iff, i32_lt, i32_le, i32_eq, i32_add, i32_sub, i32_mul, t32_m1, t32_0, t32_1, t32_4] at hi0_2 hm_2 c_4 hbz9 c_12 ⊢) <;> intros <;> omega) | ((try (have hs0 : (x2_2 + (1 : Int32)).toInt = x2_2.toInt + 1 := by (have h := i32_addS (x := x2_2) (y := (1 : Int32)) (by (try simp only [not_true_eq_false, not_false_eq_true, false_implies, true_implies, implies_true, vp_in_iff, i32_lt, i32_le, i32_eq, t32_m1, t32_0, t32_1, t32_4] at hi0_2 hm_2 c_4 hbz9 c_12 ⊢) <;> omega) (by (try simp only [not_true_eq_false, not_false_eq_true, false_implies, true_implies, implies_true, vp_in_iff, i32_lt, i32_le, i32_eq, t32_m1, t32_0, t32_1, t32_4] at hi0_2 hm_2 c_4 hbz9 c_12 ⊢) <;> omega); (try simp only [t32_m1, t32_0, t32_1, t32_4] at h); exact h))); (try simp only [not_true_eq_false, not_false_eq_true, false_implies, true_implies, implies_true, vp_in_iff, i32_lt, i32_le, i32_eq, t32_m1, t32_0, t32_1, t32_4] at hi0_2 hm_2 c_4 hbz9 c_12 ⊢) <;> intros <;> omega)) (by first | ((try generalize (fX_holds p1 x2_2) = g0 at hi0_2 hm_2 c_4 hbz9 c_12 ⊢); (try simp only [not_true_eq_false, not_false_eq_true, false_implies, true_implies, implies_true, vp_in_iff, i32_lt, i32_le, i32_eq, i32_add, i32_sub, i32_mul, t32_m1, t32_0, t32_1, t32_4] at hi0_2 hm_2 c_4 hbz9 c_12 ⊢) <;> intros <;> omega)) hE _ _ _ hP hD hS (lv_sub hl [1, 2, 0] rfl)
        · have hE := ineg c_12 hE
          refine lv_aload_n hx hb dX5_putWays_15 rfl (lv_at hl 0 rfl) ?_
          refine lv_iload_n hx hb dX5_putWays_16 rfl (lv_at hl 2 rfl) ?_
          have hPc := hP.sub (ws' := [(aW, .inr (5, [.ref aT, .int W_count_2, .int W_placeWanted, .int W_letterKept_2])), (aT, .inr (4, [.ref aTg, .ref aTp, .ref aTm, .int T_brokenWays, .int T_triesAllowed, .int T_mends, .int T_talkers])), (aTg, .inl (cI, 5, .inl vTg)), (aTp, .inl (cI, 7, .inl vTp)), (aTm, .inl (cI, 25, .inl vTm))]) [0, 1, 2, 3, 4] rfl
          have hDc := hD.sub (ws' := [(aW, .inr (5, [.ref aT, .int W_count_2, .int W_placeWanted, .int W_letterKept_2])), (aT, .inr (4, [.ref aTg, .ref aTp, .ref aTm, .int T_brokenWays, .int T_triesAllowed, .int T_mends, .int T_talkers])), (aTg, .inl (cI, 5, .inl vTg)), (aTp, .inl (cI, 7, .inl vTp)), (aTm, .inl (cI, 25, .inl vTm))]) [0, 1, 2, 3, 4] (by decide) rfl
          have hFc := va_free (wc := [(aW, .inr (5, [.ref aT, .int W_count_2, .int W_placeWanted, .int W_letterKept_2])), (aT, .inr (4, [.ref aTg, .ref aTp, .ref aTm, .int T_brokenWays, .int T_triesAllowed, .int T_mends, .int T_talkers])), (aTg, .inl (cI, 5, .inl vTg)), (aTp, .inl (cI, 7, .inl vTp)), (aTm, .inl (cI, 25, .inl vTm))]) hD hS hA [0, 1, 2, 3, 4] rfl
          refine va_callv (va_runV (As := [.int x2_2]) (rest := []) ⟨hx, hb, hml, hown, hts⟩ (kW_putNumber l dC dI cI cB aW aT aTg aTp aTm H.size W_count_2 W_placeWanted W_letterKept_2 T_brokenWays T_triesAllowed T_mends T_talkers vTg vTp vTm x2_2 ) (cwV 1 hts gX5_putWays_X5_putNumber rfl rfl rfl (by decide +kernel) ⟨Nat.le_of_ble_eq_true rfl, Nat.le_of_ble_eq_true rfl⟩) (pre_V (q := (RX5, TX5, 4)) hK hPc hDc rfl rfl) rfl rfl hl.1 rfl (lv_room (Nat.le_of_ble_eq_true rfl)) dX5_putWays_17 ⟨(Nat.zero_le _), (Nat.zero_le _)⟩) hS (fun q _ h => hFc q h) hFc (fun u t H1 locs ht hvm hw hB hz1 hk1 hS => ?_)
          obtain ⟨W_count_c17, W_letterKept_c17⟩ := u
          obtain ⟨hP1, hK1, hD1⟩ := hB
          rw [ht] at hP1
          have hE := bnd2s hw hE
          obtain ⟨hP, hD⟩ := va_join (wr := []) (w1 := [(aW, .inr (5, [.ref aT, .int W_count_c17, .int W_placeWanted, .int W_letterKept_c17])), (aT, .inr (4, [.ref aTg, .ref aTp, .ref aTm, .int T_brokenWays, .int T_triesAllowed, .int T_mends, .int T_talkers])), (aTg, .inl (cI, 5, .inl vTg)), (aTp, .inl (cI, 7, .inl vTp)), (aTm, .inl (cI, 25, .inl vTm))]) hP hD [0, 1, 2, 3, 4] [] rfl rfl (by decide) (by decide) hk1 hFc hP1 hD1
          generalize H1 = H at hP hS ⊢
          have hP : va_P (dC, dI) vwCl [(aW, .inr (5, [.ref aT, .int W_count_c17, .int W_placeWanted, .int W_letterKept_c17])), (aT, .inr (4, [.ref aTg, .ref aTp, .ref aTm, .int T_brokenWays, .int T_triesAllowed, .int T_mends, .int T_talkers])), (aTg, .inl (cI, 5, .inl vTg)), (aTp, .inl (cI, 7, .inl vTp)), (aTm, .inl (cI, 25, .inl vTm))] H := hP
          have hD : va_D A [(aW, .inr (5, [.ref aT, .int W_count_c17, .int W_placeWanted, .int W_letterKept_c17])), (aT, .inr (4, [.ref aTg, .ref aTp, .ref aTm, .int T_brokenWays, .int T_triesAllowed, .int T_mends, .int T_talkers])), (aTg, .inl (cI, 5, .inl vTg)), (aTp, .inl (cI, 7, .inl vTp)), (aTm, .inl (cI, 25, .inl vTm))] := hD
          refine lv_iinc (v := (x2_2 + (1 : Int32))) (lv' := [(2, .int (x2_2 + (1 : Int32))), (0, .ref aW), (1, .int p1)]) hx hb dX5_putWays_20 hl (k := 2) rfl rfl (by decide) rfl (fun ls hl => ?_)
          refine lv_goto (tgt := 2) hx hb dX5_putWays_23 (by decide) ?_
          exact ih_2 (x2_2 + (1 : Int32)) W_count_c17 W_letterKept_c17 (by first | ((try generalize (fX_holds p1 x2_2) = g0 at hi0_2 hm_2 c_4 hbz9 c_12 ⊢); (try simp only [not_true_eq_false, not_false_eq_true, false_implies, true_implies, implies_true, vp_in_iff, i32_lt, i32_le, i32_eq, i32_add, i32_sub, i32_mul, t32_m1, t32_0, t32_1, t32_4] at hi0_2 hm_2 c_4 hbz9 c_12 ⊢) <;> intros <;> omega) | ((try (have hs0 : (x2_2 + (1 : Int32)).toInt = x2_2.toInt + 1 := by (have h := i32_addS (x := x2_2) (y := (1 : Int32)) (by (try simp only [not_true_eq_false, not_false_eq_true, false_implies, true_implies, implies_true, vp_in_iff, i32_lt, i32_le, i32_eq, t32_m1, t32_0, t32_1, t32_4] at hi0_2 hm_2 c_4 hbz9 c_12 ⊢) <;> omega) (by (try simp only [not_true_eq_false, not_false_eq_true, false_implies, true_implies, implies_true, vp_in_iff, i32_lt, i32_le, i32_eq, t32_m1, t32_0, t32_1, t32_4] at hi0_2 hm_2 c_4 hbz9 c_12 ⊢) <;> omega); (try simp only [t32_m1, t32_0, t32_1, t32_4] at h); exact h))); (try simp only [not_true_eq_false, not_false_eq_true, false_implies, true_implies, implies_true, vp_in_iff, i32_lt, i32_le, i32_eq, t32_m1, t32_0, t32_1, t32_4] at hi0_2 hm_2 c_4 hbz9 c_12 ⊢) <;> intros <;> omega)) (by first | ((try generalize (fX_holds p1 x2_2) = g0 at hi0_2 hm_2 c_4 hbz9 c_12 ⊢); (try simp only [not_true_eq_false, not_false_eq_true, false_implies, true_implies, implies_true, vp_in_iff, i32_lt, i32_le, i32_eq, i32_add, i32_sub, i32_mul, t32_m1, t32_0, t32_1, t32_4] at hi0_2 hm_2 c_4 hbz9 c_12 ⊢) <;> intros <;> omega)) hE _ _ _ hP hD hS (lv_sub hl [1, 2, 0] rfl)
  exact b_2 (5) (0 : Int32) W_count W_letterKept (by first | decide | (simp only [not_true_eq_false, not_false_eq_true, false_implies, true_implies, implies_true, vp_in_iff, i32_lt, i32_le, i32_eq, i32_add, i32_sub, i32_mul, t32_m1, t32_0, t32_1, t32_4] <;> intros <;> omega)) (by first | decide | (simp only [not_true_eq_false, not_false_eq_true, false_implies, true_implies, implies_true, vp_in_iff, i32_lt, i32_le, i32_eq, i32_add, i32_sub, i32_mul, t32_m1, t32_0, t32_1, t32_4] <;> intros <;> omega) | decide) hE _ _ _ hP hD hS (lv_sub hl [1, 2, 0] rfl)
-- X5_putMendName
def fW_putMendName (W_count : Int32) (W_placeWanted : Int32) (W_letterKept : Int32) (p1 : Int32) : Int32 × Int32 := (if p1 = (0 : Int32) then (bnd2 (fW_put W_count W_placeWanted W_letterKept 5) (fun W_count_c31 W_letterKept_c31 => (W_count_c31, W_letterKept_c31))) else (if p1 = (1 : Int32) then (bnd2 (fW_put W_count W_placeWanted W_letterKept 6) (fun W_count_c40 W_letterKept_c40 => (W_count_c40, W_letterKept_c40))) else (if p1 = (2 : Int32) then (bnd2 (fW_put W_count W_placeWanted W_letterKept 7) (fun W_count_c49 W_letterKept_c49 => (W_count_c49, W_letterKept_c49))) else (bnd2 (fW_put W_count W_placeWanted W_letterKept 8) (fun W_count_c58 W_letterKept_c58 => (bnd2 (fW_putNumber W_count_c58 W_placeWanted W_letterKept_c58 (p1 - (3 : Int32))) (fun W_count_c65 W_letterKept_c65 => (W_count_c65, W_letterKept_c65))))))))
set_option maxHeartbeats 4000000 in
set_option maxRecDepth 100000 in
theorem kW_putMendName (l : Launch) (dC : Nat → ClassId) (dI : Nat → Nat → Nat) (cI cB : ClassId) (adK adV : Nat → Nat) (aW aT aTg aTp aTm : Nat) (sz : Nat) (W_count : Int32) (W_placeWanted : Int32) (W_letterKept : Int32) (T_brokenWays : Int32) (T_triesAllowed : Int32) (T_mends : Int32) (T_talkers : Int32) (vTg : Nat → Int32) (vTp : Nat → Int32) (vTm : Nat → Int32) (p1 : Int32) : Met l yX5_putMendName wsX5_putMendName ({ frames := 5, cells := 0, slots := 0, locals := 107 }) (va_Pc [.ref aW, .int p1] (PE (dC, dI) vwCl [(cI, .int), (cB, .byte)] [(aW, .inr (5, [.ref aT, .int W_count, .int W_placeWanted, .int W_letterKept])), (aT, .inr (4, [.ref aTg, .ref aTp, .ref aTm, .int T_brokenWays, .int T_triesAllowed, .int T_mends, .int T_talkers])), (aTg, .inl (cI, 5, .inl vTg)), (aTp, .inl (cI, 7, .inl vTp)), (aTm, .inl (cI, 25, .inl vTm))] sz adK adV)) (va_Qv (fun (u : Int32 × Int32) => u = fW_putMendName W_count W_placeWanted W_letterKept p1) (fun (u : Int32 × Int32) t => va_P (dC, dI) vwCl [(aW, .inr (5, [.ref aT, .int u.1, .int W_placeWanted, .int u.2])), (aT, .inr (4, [.ref aTg, .ref aTp, .ref aTm, .int T_brokenWays, .int T_triesAllowed, .int T_mends, .int T_talkers])), (aTg, .inl (cI, 5, .inl vTg)), (aTp, .inl (cI, 7, .inl vTp)), (aTm, .inl (cI, 25, .inl vTm))] t.heap ∧ va_K (dC, dI) vwCl [(cI, .int), (cB, .byte)] t ∧ va_D (va_A [(aW, .inr (5, [.ref aT, .int W_count, .int W_placeWanted, .int W_letterKept])), (aT, .inr (4, [.ref aTg, .ref aTp, .ref aTm, .int T_brokenWays, .int T_triesAllowed, .int T_mends, .int T_talkers])), (aTg, .inl (cI, 5, .inl vTg)), (aTp, .inl (cI, 7, .inl vTp)), (aTm, .inl (cI, 25, .inl vTm))] sz) [(aW, .inr (5, [.ref aT, .int u.1, .int W_placeWanted, .int u.2])), (aT, .inr (4, [.ref aTg, .ref aTp, .ref aTm, .int T_brokenWays, .int T_triesAllowed, .int T_mends, .int T_talkers])), (aTg, .inl (cI, 5, .inl vTg)), (aTp, .inl (cI, 7, .inl vTp)), (aTm, .inl (cI, 25, .inl vTm))]) (va_A [(aW, .inr (5, [.ref aT, .int W_count, .int W_placeWanted, .int W_letterKept])), (aT, .inr (4, [.ref aTg, .ref aTp, .ref aTm, .int T_brokenWays, .int T_triesAllowed, .int T_mends, .int T_talkers])), (aTg, .inl (cI, 5, .inl vTg)), (aTp, .inl (cI, 7, .inl vTp)), (aTm, .inl (cI, 25, .inl vTm))] sz)) 0 0 (va_A [(aW, .inr (5, [.ref aT, .int W_count, .int W_placeWanted, .int W_letterKept])), (aT, .inr (4, [.ref aTg, .ref aTp, .ref aTm, .int T_brokenWays, .int T_triesAllowed, .int T_mends, .int T_talkers])), (aTg, .inl (cI, 5, .inl vTg)), (aTp, .inl (cI, 7, .inl vTp)), (aTm, .inl (cI, 25, .inl vTm))] sz) := by
  refine Met.ofW (cc := cX5_putMendName) (maxL := 2) (ret := none) (by decide) rfl ?_
  intro p e s m args below meth c s₁ B hml hv
  obtain ⟨rfl, ⟨hsz, hP, hK, hD0⟩, hEv⟩ := hv
  have hx := B.exec
  have hb := B.bytes
  have hr := B.returns
  have hts := atoms_spec (ws := wsX5_putMendName) B.pre
  have hown : s.vm.findClass RX5 = some m.cls := findClass_of_methodNamed B.named
  have hlocks := B.notSynchronized
  clear B
  subst hsz
  have hD := hD0.self (sz := s.heap.size)
  clear hD0
  generalize hAe : va_A [(aW, .inr (5, [.ref aT, .int W_count, .int W_placeWanted, .int W_letterKept])), (aT, .inr (4, [.ref aTg, .ref aTp, .ref aTm, .int T_brokenWays, .int T_triesAllowed, .int T_mends, .int T_talkers])), (aTg, .inl (cI, 5, .inl vTg)), (aTp, .inl (cI, 7, .inl vTp)), (aTm, .inl (cI, 25, .inl vTm))] s.heap.size = A at hD hEv ⊢
  have hA : ∀ q : Nat, s.heap.size ≤ q → A q := fun q h => by rw [← hAe]; exact Or.inr h
  clear hAe
  have hS : va_S A s.heap s.heap [] := va_S.rf
  have hP : va_P (dC, dI) vwCl [(aW, .inr (5, [.ref aT, .int W_count, .int W_placeWanted, .int W_letterKept])), (aT, .inr (4, [.ref aTg, .ref aTp, .ref aTm, .int T_brokenWays, .int T_triesAllowed, .int T_mends, .int T_talkers])), (aTg, .inl (cI, 5, .inl vTg)), (aTp, .inl (cI, 7, .inl vTp)), (aTm, .inl (cI, 25, .inl vTm))] s.heap := hP
  have hl := lv_entry ([.ref aW, .int p1]) (n := 2) (Nat.le_of_ble_eq_true rfl)
  rw [lg_entry_eq]
  generalize (lg_sl ([.ref aW, .int p1]) ++ List.replicate (2 - (lg_sl ([.ref aW, .int p1])).length) Slot.unset).toArray = ls at hl ⊢
  have hl : lv_has ls 2 [(0, .ref aW), (1, .int p1)] := hl
  obtain ⟨RES, hRES⟩ : ∃ y, y = fW_putMendName W_count W_placeWanted W_letterKept p1 := ⟨_, rfl⟩
  have hE := hRES.symm
  rw [fW_putMendName] at hE
  refine lv_iload_n hx hb dX5_putMendName_0 rfl (lv_at hl 1 rfl) ?_
  by_cases c_1_0 : p1 = (0 : Int32)
  · have hE := ipos c_1_0 hE
    refine lv_tableIn (tgt := 28) (off := 27) hx hb dX5_putMendName_1 (by rw [c_1_0]; decide) (by rw [c_1_0]; decide) (by rw [c_1_0]; decide) (by decide) ?_
    refine lv_aload_n hx hb dX5_putMendName_28 rfl (lv_at hl 0 rfl) ?_
    refine va_ldcS hx hb hown (ldcR_17 hEv) dX5_putMendName_29 ?_
    have hPc := hP.sub (ws' := [(aW, .inr (5, [.ref aT, .int W_count, .int W_placeWanted, .int W_letterKept])), (aT, .inr (4, [.ref aTg, .ref aTp, .ref aTm, .int T_brokenWays, .int T_triesAllowed, .int T_mends, .int T_talkers])), (aTg, .inl (cI, 5, .inl vTg)), (aTp, .inl (cI, 7, .inl vTp)), (aTm, .inl (cI, 25, .inl vTm))]) [0, 1, 2, 3, 4] rfl
    have hDc := hD.sub (ws' := [(aW, .inr (5, [.ref aT, .int W_count, .int W_placeWanted, .int W_letterKept])), (aT, .inr (4, [.ref aTg, .ref aTp, .ref aTm, .int T_brokenWays, .int T_triesAllowed, .int T_mends, .int T_talkers])), (aTg, .inl (cI, 5, .inl vTg)), (aTp, .inl (cI, 7, .inl vTp)), (aTm, .inl (cI, 25, .inl vTm))]) [0, 1, 2, 3, 4] (by decide) rfl
    have hFc := va_free (wc := [(aW, .inr (5, [.ref aT, .int W_count, .int W_placeWanted, .int W_letterKept])), (aT, .inr (4, [.ref aTg, .ref aTp, .ref aTm, .int T_brokenWays, .int T_triesAllowed, .int T_mends, .int T_talkers])), (aTg, .inl (cI, 5, .inl vTg)), (aTp, .inl (cI, 7, .inl vTp)), (aTm, .inl (cI, 25, .inl vTm))]) hD hS hA [0, 1, 2, 3, 4] rfl
    refine va_callv (va_runV (As := [.ref (adK 5)]) (rest := []) ⟨hx, hb, hml, hown, hts⟩ (kW_put l dC dI cI cB adK adV aW aT aTg aTp aTm s.heap.size W_count W_placeWanted W_letterKept T_brokenWays T_triesAllowed T_mends T_talkers vTg vTp vTm 5 (by decide)) (cwV 1 hts gX5_putMendName_X5_put rfl rfl rfl (by decide +kernel) ⟨Nat.le_of_ble_eq_true rfl, Nat.le_of_ble_eq_true rfl⟩) (pre_VE (q := (RX5, TX5, 4)) hK hPc hDc rfl rfl (hEv.at_ hS hFc)) rfl rfl hl.1 rfl (lv_room (Nat.le_of_ble_eq_true rfl)) dX5_putMendName_31 ⟨(Nat.zero_le _), (Nat.zero_le _)⟩) hS (fun q _ h => hFc q h) hFc (fun u t H1 locs ht hvm hw hB hz1 hk1 hS => ?_)
    obtain ⟨W_count_c31, W_letterKept_c31⟩ := u
    obtain ⟨hP1, hK1, hD1⟩ := hB
    rw [ht] at hP1
    have hE := bnd2s hw hE
    obtain ⟨hP, hD⟩ := va_join (wr := []) (w1 := [(aW, .inr (5, [.ref aT, .int W_count_c31, .int W_placeWanted, .int W_letterKept_c31])), (aT, .inr (4, [.ref aTg, .ref aTp, .ref aTm, .int T_brokenWays, .int T_triesAllowed, .int T_mends, .int T_talkers])), (aTg, .inl (cI, 5, .inl vTg)), (aTp, .inl (cI, 7, .inl vTp)), (aTm, .inl (cI, 25, .inl vTm))]) hP hD [0, 1, 2, 3, 4] [] rfl rfl (by decide) (by decide) hk1 hFc hP1 hD1
    generalize H1 = H at hP hS ⊢
    have hP : va_P (dC, dI) vwCl [(aW, .inr (5, [.ref aT, .int W_count_c31, .int W_placeWanted, .int W_letterKept_c31])), (aT, .inr (4, [.ref aTg, .ref aTp, .ref aTm, .int T_brokenWays, .int T_triesAllowed, .int T_mends, .int T_talkers])), (aTg, .inl (cI, 5, .inl vTg)), (aTp, .inl (cI, 7, .inl vTp)), (aTm, .inl (cI, 25, .inl vTm))] H := hP
    have hD : va_D A [(aW, .inr (5, [.ref aT, .int W_count_c31, .int W_placeWanted, .int W_letterKept_c31])), (aT, .inr (4, [.ref aTg, .ref aTp, .ref aTm, .int T_brokenWays, .int T_triesAllowed, .int T_mends, .int T_talkers])), (aTg, .inl (cI, 5, .inl vTg)), (aTp, .inl (cI, 7, .inl vTp)), (aTm, .inl (cI, 25, .inl vTm))] := hD
    refine lv_goto (tgt := 68) hx hb dX5_putMendName_34 (by decide) ?_
    exact W.vret hx hb hr (fun t ht hW => ⟨⟨(W_count_c31, W_letterKept_c31), rfl, hE.trans hRES, (by rw [ht]; exact hP), va_K.moved hW.alike hK, hD⟩, hS.F ht⟩) hS.2.2 dX5_putMendName_68
  · have hE := ineg c_1_0 hE
    by_cases c_1_1 : p1 = (1 : Int32)
    · have hE := ipos c_1_1 hE
      refine lv_tableIn (tgt := 37) (off := 36) hx hb dX5_putMendName_1 (by rw [c_1_1]; decide) (by rw [c_1_1]; decide) (by rw [c_1_1]; decide) (by decide) ?_
      refine lv_aload_n hx hb dX5_putMendName_37 rfl (lv_at hl 0 rfl) ?_
      refine va_ldcS hx hb hown (ldcR_18 hEv) dX5_putMendName_38 ?_
      have hPc := hP.sub (ws' := [(aW, .inr (5, [.ref aT, .int W_count, .int W_placeWanted, .int W_letterKept])), (aT, .inr (4, [.ref aTg, .ref aTp, .ref aTm, .int T_brokenWays, .int T_triesAllowed, .int T_mends, .int T_talkers])), (aTg, .inl (cI, 5, .inl vTg)), (aTp, .inl (cI, 7, .inl vTp)), (aTm, .inl (cI, 25, .inl vTm))]) [0, 1, 2, 3, 4] rfl
      have hDc := hD.sub (ws' := [(aW, .inr (5, [.ref aT, .int W_count, .int W_placeWanted, .int W_letterKept])), (aT, .inr (4, [.ref aTg, .ref aTp, .ref aTm, .int T_brokenWays, .int T_triesAllowed, .int T_mends, .int T_talkers])), (aTg, .inl (cI, 5, .inl vTg)), (aTp, .inl (cI, 7, .inl vTp)), (aTm, .inl (cI, 25, .inl vTm))]) [0, 1, 2, 3, 4] (by decide) rfl
      have hFc := va_free (wc := [(aW, .inr (5, [.ref aT, .int W_count, .int W_placeWanted, .int W_letterKept])), (aT, .inr (4, [.ref aTg, .ref aTp, .ref aTm, .int T_brokenWays, .int T_triesAllowed, .int T_mends, .int T_talkers])), (aTg, .inl (cI, 5, .inl vTg)), (aTp, .inl (cI, 7, .inl vTp)), (aTm, .inl (cI, 25, .inl vTm))]) hD hS hA [0, 1, 2, 3, 4] rfl
      refine va_callv (va_runV (As := [.ref (adK 6)]) (rest := []) ⟨hx, hb, hml, hown, hts⟩ (kW_put l dC dI cI cB adK adV aW aT aTg aTp aTm s.heap.size W_count W_placeWanted W_letterKept T_brokenWays T_triesAllowed T_mends T_talkers vTg vTp vTm 6 (by decide)) (cwV 1 hts gX5_putMendName_X5_put rfl rfl rfl (by decide +kernel) ⟨Nat.le_of_ble_eq_true rfl, Nat.le_of_ble_eq_true rfl⟩) (pre_VE (q := (RX5, TX5, 4)) hK hPc hDc rfl rfl (hEv.at_ hS hFc)) rfl rfl hl.1 rfl (lv_room (Nat.le_of_ble_eq_true rfl)) dX5_putMendName_40 ⟨(Nat.zero_le _), (Nat.zero_le _)⟩) hS (fun q _ h => hFc q h) hFc (fun u t H1 locs ht hvm hw hB hz1 hk1 hS => ?_)
      obtain ⟨W_count_c40, W_letterKept_c40⟩ := u
      obtain ⟨hP1, hK1, hD1⟩ := hB
      rw [ht] at hP1
      have hE := bnd2s hw hE
      obtain ⟨hP, hD⟩ := va_join (wr := []) (w1 := [(aW, .inr (5, [.ref aT, .int W_count_c40, .int W_placeWanted, .int W_letterKept_c40])), (aT, .inr (4, [.ref aTg, .ref aTp, .ref aTm, .int T_brokenWays, .int T_triesAllowed, .int T_mends, .int T_talkers])), (aTg, .inl (cI, 5, .inl vTg)), (aTp, .inl (cI, 7, .inl vTp)), (aTm, .inl (cI, 25, .inl vTm))]) hP hD [0, 1, 2, 3, 4] [] rfl rfl (by decide) (by decide) hk1 hFc hP1 hD1
      generalize H1 = H at hP hS ⊢
      have hP : va_P (dC, dI) vwCl [(aW, .inr (5, [.ref aT, .int W_count_c40, .int W_placeWanted, .int W_letterKept_c40])), (aT, .inr (4, [.ref aTg, .ref aTp, .ref aTm, .int T_brokenWays, .int T_triesAllowed, .int T_mends, .int T_talkers])), (aTg, .inl (cI, 5, .inl vTg)), (aTp, .inl (cI, 7, .inl vTp)), (aTm, .inl (cI, 25, .inl vTm))] H := hP
      have hD : va_D A [(aW, .inr (5, [.ref aT, .int W_count_c40, .int W_placeWanted, .int W_letterKept_c40])), (aT, .inr (4, [.ref aTg, .ref aTp, .ref aTm, .int T_brokenWays, .int T_triesAllowed, .int T_mends, .int T_talkers])), (aTg, .inl (cI, 5, .inl vTg)), (aTp, .inl (cI, 7, .inl vTp)), (aTm, .inl (cI, 25, .inl vTm))] := hD
      refine lv_goto (tgt := 68) hx hb dX5_putMendName_43 (by decide) ?_
      exact W.vret hx hb hr (fun t ht hW => ⟨⟨(W_count_c40, W_letterKept_c40), rfl, hE.trans hRES, (by rw [ht]; exact hP), va_K.moved hW.alike hK, hD⟩, hS.F ht⟩) hS.2.2 dX5_putMendName_68
    · have hE := ineg c_1_1 hE
      by_cases c_1_2 : p1 = (2 : Int32)
      · have hE := ipos c_1_2 hE
        refine lv_tableIn (tgt := 46) (off := 45) hx hb dX5_putMendName_1 (by rw [c_1_2]; decide) (by rw [c_1_2]; decide) (by rw [c_1_2]; decide) (by decide) ?_
        refine lv_aload_n hx hb dX5_putMendName_46 rfl (lv_at hl 0 rfl) ?_
        refine va_ldcS hx hb hown (ldcR_19 hEv) dX5_putMendName_47 ?_
        have hPc := hP.sub (ws' := [(aW, .inr (5, [.ref aT, .int W_count, .int W_placeWanted, .int W_letterKept])), (aT, .inr (4, [.ref aTg, .ref aTp, .ref aTm, .int T_brokenWays, .int T_triesAllowed, .int T_mends, .int T_talkers])), (aTg, .inl (cI, 5, .inl vTg)), (aTp, .inl (cI, 7, .inl vTp)), (aTm, .inl (cI, 25, .inl vTm))]) [0, 1, 2, 3, 4] rfl
        have hDc := hD.sub (ws' := [(aW, .inr (5, [.ref aT, .int W_count, .int W_placeWanted, .int W_letterKept])), (aT, .inr (4, [.ref aTg, .ref aTp, .ref aTm, .int T_brokenWays, .int T_triesAllowed, .int T_mends, .int T_talkers])), (aTg, .inl (cI, 5, .inl vTg)), (aTp, .inl (cI, 7, .inl vTp)), (aTm, .inl (cI, 25, .inl vTm))]) [0, 1, 2, 3, 4] (by decide) rfl
        have hFc := va_free (wc := [(aW, .inr (5, [.ref aT, .int W_count, .int W_placeWanted, .int W_letterKept])), (aT, .inr (4, [.ref aTg, .ref aTp, .ref aTm, .int T_brokenWays, .int T_triesAllowed, .int T_mends, .int T_talkers])), (aTg, .inl (cI, 5, .inl vTg)), (aTp, .inl (cI, 7, .inl vTp)), (aTm, .inl (cI, 25, .inl vTm))]) hD hS hA [0, 1, 2, 3, 4] rfl
        refine va_callv (va_runV (As := [.ref (adK 7)]) (rest := []) ⟨hx, hb, hml, hown, hts⟩ (kW_put l dC dI cI cB adK adV aW aT aTg aTp aTm s.heap.size W_count W_placeWanted W_letterKept T_brokenWays T_triesAllowed T_mends T_talkers vTg vTp vTm 7 (by decide)) (cwV 1 hts gX5_putMendName_X5_put rfl rfl rfl (by decide +kernel) ⟨Nat.le_of_ble_eq_true rfl, Nat.le_of_ble_eq_true rfl⟩) (pre_VE (q := (RX5, TX5, 4)) hK hPc hDc rfl rfl (hEv.at_ hS hFc)) rfl rfl hl.1 rfl (lv_room (Nat.le_of_ble_eq_true rfl)) dX5_putMendName_49 ⟨(Nat.zero_le _), (Nat.zero_le _)⟩) hS (fun q _ h => hFc q h) hFc (fun u t H1 locs ht hvm hw hB hz1 hk1 hS => ?_)
        obtain ⟨W_count_c49, W_letterKept_c49⟩ := u
        obtain ⟨hP1, hK1, hD1⟩ := hB
        rw [ht] at hP1
        have hE := bnd2s hw hE
        obtain ⟨hP, hD⟩ := va_join (wr := []) (w1 := [(aW, .inr (5, [.ref aT, .int W_count_c49, .int W_placeWanted, .int W_letterKept_c49])), (aT, .inr (4, [.ref aTg, .ref aTp, .ref aTm, .int T_brokenWays, .int T_triesAllowed, .int T_mends, .int T_talkers])), (aTg, .inl (cI, 5, .inl vTg)), (aTp, .inl (cI, 7, .inl vTp)), (aTm, .inl (cI, 25, .inl vTm))]) hP hD [0, 1, 2, 3, 4] [] rfl rfl (by decide) (by decide) hk1 hFc hP1 hD1
        generalize H1 = H at hP hS ⊢
        have hP : va_P (dC, dI) vwCl [(aW, .inr (5, [.ref aT, .int W_count_c49, .int W_placeWanted, .int W_letterKept_c49])), (aT, .inr (4, [.ref aTg, .ref aTp, .ref aTm, .int T_brokenWays, .int T_triesAllowed, .int T_mends, .int T_talkers])), (aTg, .inl (cI, 5, .inl vTg)), (aTp, .inl (cI, 7, .inl vTp)), (aTm, .inl (cI, 25, .inl vTm))] H := hP
        have hD : va_D A [(aW, .inr (5, [.ref aT, .int W_count_c49, .int W_placeWanted, .int W_letterKept_c49])), (aT, .inr (4, [.ref aTg, .ref aTp, .ref aTm, .int T_brokenWays, .int T_triesAllowed, .int T_mends, .int T_talkers])), (aTg, .inl (cI, 5, .inl vTg)), (aTp, .inl (cI, 7, .inl vTp)), (aTm, .inl (cI, 25, .inl vTm))] := hD
        refine lv_goto (tgt := 68) hx hb dX5_putMendName_52 (by decide) ?_
        exact W.vret hx hb hr (fun t ht hW => ⟨⟨(W_count_c49, W_letterKept_c49), rfl, hE.trans hRES, (by rw [ht]; exact hP), va_K.moved hW.alike hK, hD⟩, hS.F ht⟩) hS.2.2 dX5_putMendName_68
      · have hE := ineg c_1_2 hE
        refine lv_tableOut (tgt := 55) hx hb dX5_putMendName_1 (by simp only [not_true_eq_false, not_false_eq_true, false_implies, true_implies, implies_true, vp_in_iff, i32_lt, i32_le, i32_eq, i32_add, i32_sub, i32_mul, t32_m1, t32_0, t32_1, t32_2, t32_3] at c_1_0 c_1_1 c_1_2 ⊢ <;> omega) (by decide) ?_
        refine lv_aload_n hx hb dX5_putMendName_55 rfl (lv_at hl 0 rfl) ?_
        refine va_ldcS hx hb hown (ldcR_20 hEv) dX5_putMendName_56 ?_
        have hPc := hP.sub (ws' := [(aW, .inr (5, [.ref aT, .int W_count, .int W_placeWanted, .int W_letterKept])), (aT, .inr (4, [.ref aTg, .ref aTp, .ref aTm, .int T_brokenWays, .int T_triesAllowed, .int T_mends, .int T_talkers])), (aTg, .inl (cI, 5, .inl vTg)), (aTp, .inl (cI, 7, .inl vTp)), (aTm, .inl (cI, 25, .inl vTm))]) [0, 1, 2, 3, 4] rfl
        have hDc := hD.sub (ws' := [(aW, .inr (5, [.ref aT, .int W_count, .int W_placeWanted, .int W_letterKept])), (aT, .inr (4, [.ref aTg, .ref aTp, .ref aTm, .int T_brokenWays, .int T_triesAllowed, .int T_mends, .int T_talkers])), (aTg, .inl (cI, 5, .inl vTg)), (aTp, .inl (cI, 7, .inl vTp)), (aTm, .inl (cI, 25, .inl vTm))]) [0, 1, 2, 3, 4] (by decide) rfl
        have hFc := va_free (wc := [(aW, .inr (5, [.ref aT, .int W_count, .int W_placeWanted, .int W_letterKept])), (aT, .inr (4, [.ref aTg, .ref aTp, .ref aTm, .int T_brokenWays, .int T_triesAllowed, .int T_mends, .int T_talkers])), (aTg, .inl (cI, 5, .inl vTg)), (aTp, .inl (cI, 7, .inl vTp)), (aTm, .inl (cI, 25, .inl vTm))]) hD hS hA [0, 1, 2, 3, 4] rfl
        refine va_callv (va_runV (As := [.ref (adK 8)]) (rest := []) ⟨hx, hb, hml, hown, hts⟩ (kW_put l dC dI cI cB adK adV aW aT aTg aTp aTm s.heap.size W_count W_placeWanted W_letterKept T_brokenWays T_triesAllowed T_mends T_talkers vTg vTp vTm 8 (by decide)) (cwV 1 hts gX5_putMendName_X5_put rfl rfl rfl (by decide +kernel) ⟨Nat.le_of_ble_eq_true rfl, Nat.le_of_ble_eq_true rfl⟩) (pre_VE (q := (RX5, TX5, 4)) hK hPc hDc rfl rfl (hEv.at_ hS hFc)) rfl rfl hl.1 rfl (lv_room (Nat.le_of_ble_eq_true rfl)) dX5_putMendName_58 ⟨(Nat.zero_le _), (Nat.zero_le _)⟩) hS (fun q _ h => hFc q h) hFc (fun u t H1 locs ht hvm hw hB hz1 hk1 hS => ?_)
        obtain ⟨W_count_c58, W_letterKept_c58⟩ := u
        obtain ⟨hP1, hK1, hD1⟩ := hB
        rw [ht] at hP1
        have hE := bnd2s hw hE
        obtain ⟨hP, hD⟩ := va_join (wr := []) (w1 := [(aW, .inr (5, [.ref aT, .int W_count_c58, .int W_placeWanted, .int W_letterKept_c58])), (aT, .inr (4, [.ref aTg, .ref aTp, .ref aTm, .int T_brokenWays, .int T_triesAllowed, .int T_mends, .int T_talkers])), (aTg, .inl (cI, 5, .inl vTg)), (aTp, .inl (cI, 7, .inl vTp)), (aTm, .inl (cI, 25, .inl vTm))]) hP hD [0, 1, 2, 3, 4] [] rfl rfl (by decide) (by decide) hk1 hFc hP1 hD1
        generalize H1 = H at hP hS ⊢
        have hP : va_P (dC, dI) vwCl [(aW, .inr (5, [.ref aT, .int W_count_c58, .int W_placeWanted, .int W_letterKept_c58])), (aT, .inr (4, [.ref aTg, .ref aTp, .ref aTm, .int T_brokenWays, .int T_triesAllowed, .int T_mends, .int T_talkers])), (aTg, .inl (cI, 5, .inl vTg)), (aTp, .inl (cI, 7, .inl vTp)), (aTm, .inl (cI, 25, .inl vTm))] H := hP
        have hD : va_D A [(aW, .inr (5, [.ref aT, .int W_count_c58, .int W_placeWanted, .int W_letterKept_c58])), (aT, .inr (4, [.ref aTg, .ref aTp, .ref aTm, .int T_brokenWays, .int T_triesAllowed, .int T_mends, .int T_talkers])), (aTg, .inl (cI, 5, .inl vTg)), (aTp, .inl (cI, 7, .inl vTp)), (aTm, .inl (cI, 25, .inl vTm))] := hD
        refine lv_aload_n hx hb dX5_putMendName_61 rfl (lv_at hl 0 rfl) ?_
        refine lv_iload_n hx hb dX5_putMendName_62 rfl (lv_at hl 1 rfl) ?_
        refine lv_iconst (v := (3 : Int32)) hx hb dX5_putMendName_63 (by decide) ?_
        refine lv_isub hx hb dX5_putMendName_64 ?_
        have hPc := hP.sub (ws' := [(aW, .inr (5, [.ref aT, .int W_count_c58, .int W_placeWanted, .int W_letterKept_c58])), (aT, .inr (4, [.ref aTg, .ref aTp, .ref aTm, .int T_brokenWays, .int T_triesAllowed, .int T_mends, .int T_talkers])), (aTg, .inl (cI, 5, .inl vTg)), (aTp, .inl (cI, 7, .inl vTp)), (aTm, .inl (cI, 25, .inl vTm))]) [0, 1, 2, 3, 4] rfl
        have hDc := hD.sub (ws' := [(aW, .inr (5, [.ref aT, .int W_count_c58, .int W_placeWanted, .int W_letterKept_c58])), (aT, .inr (4, [.ref aTg, .ref aTp, .ref aTm, .int T_brokenWays, .int T_triesAllowed, .int T_mends, .int T_talkers])), (aTg, .inl (cI, 5, .inl vTg)), (aTp, .inl (cI, 7, .inl vTp)), (aTm, .inl (cI, 25, .inl vTm))]) [0, 1, 2, 3, 4] (by decide) rfl
        have hFc := va_free (wc := [(aW, .inr (5, [.ref aT, .int W_count_c58, .int W_placeWanted, .int W_letterKept_c58])), (aT, .inr (4, [.ref aTg, .ref aTp, .ref aTm, .int T_brokenWays, .int T_triesAllowed, .int T_mends, .int T_talkers])), (aTg, .inl (cI, 5, .inl vTg)), (aTp, .inl (cI, 7, .inl vTp)), (aTm, .inl (cI, 25, .inl vTm))]) hD hS hA [0, 1, 2, 3, 4] rfl
        refine va_callv (va_runV (As := [.int (p1 - (3 : Int32))]) (rest := []) ⟨hx, hb, hml, hown, hts⟩ (kW_putNumber l dC dI cI cB aW aT aTg aTp aTm H.size W_count_c58 W_placeWanted W_letterKept_c58 T_brokenWays T_triesAllowed T_mends T_talkers vTg vTp vTm (p1 - (3 : Int32)) ) (cwV 1 hts gX5_putMendName_X5_putNumber rfl rfl rfl (by decide +kernel) ⟨Nat.le_of_ble_eq_true rfl, Nat.le_of_ble_eq_true rfl⟩) (pre_V (q := (RX5, TX5, 4)) hK hPc hDc rfl rfl) rfl rfl hl.1 rfl (lv_room (Nat.le_of_ble_eq_true rfl)) dX5_putMendName_65 ⟨(Nat.zero_le _), (Nat.zero_le _)⟩) hS (fun q _ h => hFc q h) hFc (fun u t H1 locs ht hvm hw hB hz1 hk1 hS => ?_)
        obtain ⟨W_count_c65, W_letterKept_c65⟩ := u
        obtain ⟨hP1, hK1, hD1⟩ := hB
        rw [ht] at hP1
        have hE := bnd2s hw hE
        obtain ⟨hP, hD⟩ := va_join (wr := []) (w1 := [(aW, .inr (5, [.ref aT, .int W_count_c65, .int W_placeWanted, .int W_letterKept_c65])), (aT, .inr (4, [.ref aTg, .ref aTp, .ref aTm, .int T_brokenWays, .int T_triesAllowed, .int T_mends, .int T_talkers])), (aTg, .inl (cI, 5, .inl vTg)), (aTp, .inl (cI, 7, .inl vTp)), (aTm, .inl (cI, 25, .inl vTm))]) hP hD [0, 1, 2, 3, 4] [] rfl rfl (by decide) (by decide) hk1 hFc hP1 hD1
        generalize H1 = H at hP hS ⊢
        have hP : va_P (dC, dI) vwCl [(aW, .inr (5, [.ref aT, .int W_count_c65, .int W_placeWanted, .int W_letterKept_c65])), (aT, .inr (4, [.ref aTg, .ref aTp, .ref aTm, .int T_brokenWays, .int T_triesAllowed, .int T_mends, .int T_talkers])), (aTg, .inl (cI, 5, .inl vTg)), (aTp, .inl (cI, 7, .inl vTp)), (aTm, .inl (cI, 25, .inl vTm))] H := hP
        have hD : va_D A [(aW, .inr (5, [.ref aT, .int W_count_c65, .int W_placeWanted, .int W_letterKept_c65])), (aT, .inr (4, [.ref aTg, .ref aTp, .ref aTm, .int T_brokenWays, .int T_triesAllowed, .int T_mends, .int T_talkers])), (aTg, .inl (cI, 5, .inl vTg)), (aTp, .inl (cI, 7, .inl vTp)), (aTm, .inl (cI, 25, .inl vTm))] := hD
        exact W.vret hx hb hr (fun t ht hW => ⟨⟨(W_count_c65, W_letterKept_c65), rfl, hE.trans hRES, (by rw [ht]; exact hP), va_K.moved hW.alike hK, hD⟩, hS.F ht⟩) hS.2.2 dX5_putMendName_68
