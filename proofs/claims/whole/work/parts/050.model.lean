-- X7_begins
def fO_begins_b33 (K2 : Int32 → (Nat → Int32) → ((Nat → Int32))) (p1 : Int32) (x2_2 : Int32) (s0_33 : Int32) (s1_33 : Int32) (vOt_2 : Nat → Int32) : (Nat → Int32) := K2 (x2_2 + (1 : Int32)) (upd vOt_2 s1_33.toNatClampNeg s0_33)
def fO_begins_l2  (p1 : Int32) : Nat → Int32 → (Nat → Int32) → ((Nat → Int32))
  | 0, x2_2, vOt_2 => vOt_2
  | n_2 + 1, x2_2, vOt_2 => (if (25 : Int32) ≤ x2_2 then vOt_2 else (if x2_2 < (8 : Int32) then fO_begins_b33 (fO_begins_l2 p1 n_2) p1 x2_2 (0 : Int32) (p1 + x2_2) vOt_2 else (if (15 : Int32) ≤ x2_2 then fO_begins_b33 (fO_begins_l2 p1 n_2) p1 x2_2 (0 : Int32) (p1 + x2_2) vOt_2 else fO_begins_b33 (fO_begins_l2 p1 n_2) p1 x2_2 (10 : Int32) (p1 + x2_2) vOt_2)))
def fO_begins (vOt : Nat → Int32) (p1 : Int32) : (Nat → Int32) := fO_begins_l2 p1 (26) (0 : Int32) vOt
set_option maxHeartbeats 4000000 in
set_option maxRecDepth 100000 in
theorem kO_begins (l : Launch) (dC : Nat → ClassId) (dI : Nat → Nat → Nat) (cI cB : ClassId) (aO aOt aOr aOp aOx aOw : Nat) (sz : Nat) (O_drops : Int32) (O_changed : Int32) (O_picked : Int32) (O_taken : Int32) (O_acts : Int32) (O_isForged : Int32) (O_taped : Int32) (O_size : Int32) (O_at : Int32) (O_fault : Int32) (O_wordEnd : Int32) (O_number : Int32) (O_writtenMany : Int32) (vOt : Nat → Int32) (vOr : Nat → Int32) (vOp : Nat → Int32) (vOx : Nat → Int32) (vOw : Nat → Int32) (p1 : Int32) (hp0 : 0 ≤ p1.toInt ∧ p1.toInt ≤ 25) : Met l yX7_begins wsX7_begins ({ frames := 0, cells := 0, slots := 0, locals := 0 }) (va_Pc [.ref aO, .int p1] (PB (dC, dI) vwCl [(cI, .int), (cB, .byte)] [(aO, .inr (7, [.ref aOt, .ref aOr, .int O_drops, .int O_changed, .int O_picked, .int O_taken, .int O_acts, .int O_isForged, .ref aOp, .ref aOx, .int O_taped, .int O_size, .int O_at, .int O_fault, .int O_wordEnd, .int O_number, .ref aOw, .int O_writtenMany])), (aOt, .inl (cI, 50, .inl vOt)), (aOr, .inl (cI, 25, .inl vOr)), (aOp, .inl (cB, 600, .inl vOp)), (aOx, .inl (cB, 600, .inl vOx)), (aOw, .inl (cB, 600, .inl vOw))] sz)) (va_Qv (fun (u : (Nat → Int32)) => u = fO_begins vOt p1) (fun (u : (Nat → Int32)) t => va_P (dC, dI) vwCl [(aO, .inr (7, [.ref aOt, .ref aOr, .int O_drops, .int O_changed, .int O_picked, .int O_taken, .int O_acts, .int O_isForged, .ref aOp, .ref aOx, .int O_taped, .int O_size, .int O_at, .int O_fault, .int O_wordEnd, .int O_number, .ref aOw, .int O_writtenMany])), (aOt, .inl (cI, 50, .inl u)), (aOr, .inl (cI, 25, .inl vOr)), (aOp, .inl (cB, 600, .inl vOp)), (aOx, .inl (cB, 600, .inl vOx)), (aOw, .inl (cB, 600, .inl vOw))] t.heap ∧ va_K (dC, dI) vwCl [(cI, .int), (cB, .byte)] t ∧ va_D (va_A [(aO, .inr (7, [.ref aOt, .ref aOr, .int O_drops, .int O_changed, .int O_picked, .int O_taken, .int O_acts, .int O_isForged, .ref aOp, .ref aOx, .int O_taped, .int O_size, .int O_at, .int O_fault, .int O_wordEnd, .int O_number, .ref aOw, .int O_writtenMany])), (aOt, .inl (cI, 50, .inl vOt)), (aOr, .inl (cI, 25, .inl vOr)), (aOp, .inl (cB, 600, .inl vOp)), (aOx, .inl (cB, 600, .inl vOx)), (aOw, .inl (cB, 600, .inl vOw))] sz) [(aO, .inr (7, [.ref aOt, .ref aOr, .int O_drops, .int O_changed, .int O_picked, .int O_taken, .int O_acts, .int O_isForged, .ref aOp, .ref aOx, .int O_taped, .int O_size, .int O_at, .int O_fault, .int O_wordEnd, .int O_number, .ref aOw, .int O_writtenMany])), (aOt, .inl (cI, 50, .inl u)), (aOr, .inl (cI, 25, .inl vOr)), (aOp, .inl (cB, 600, .inl vOp)), (aOx, .inl (cB, 600, .inl vOx)), (aOw, .inl (cB, 600, .inl vOw))]) (va_A [(aO, .inr (7, [.ref aOt, .ref aOr, .int O_drops, .int O_changed, .int O_picked, .int O_taken, .int O_acts, .int O_isForged, .ref aOp, .ref aOx, .int O_taped, .int O_size, .int O_at, .int O_fault, .int O_wordEnd, .int O_number, .ref aOw, .int O_writtenMany])), (aOt, .inl (cI, 50, .inl vOt)), (aOr, .inl (cI, 25, .inl vOr)), (aOp, .inl (cB, 600, .inl vOp)), (aOx, .inl (cB, 600, .inl vOx)), (aOw, .inl (cB, 600, .inl vOw))] sz)) 0 0 (va_A [(aO, .inr (7, [.ref aOt, .ref aOr, .int O_drops, .int O_changed, .int O_picked, .int O_taken, .int O_acts, .int O_isForged, .ref aOp, .ref aOx, .int O_taped, .int O_size, .int O_at, .int O_fault, .int O_wordEnd, .int O_number, .ref aOw, .int O_writtenMany])), (aOt, .inl (cI, 50, .inl vOt)), (aOr, .inl (cI, 25, .inl vOr)), (aOp, .inl (cB, 600, .inl vOp)), (aOx, .inl (cB, 600, .inl vOx)), (aOw, .inl (cB, 600, .inl vOw))] sz) := by
  refine Met.ofW (cc := cX7_begins) (maxL := 3) (ret := none) (by decide) rfl ?_
  intro p e s m args below meth c s₁ B hml hv
  obtain ⟨rfl, hsz, hP, hK, hD0⟩ := hv
  have hx := B.exec
  have hb := B.bytes
  have hr := B.returns
  have hts := atoms_spec (ws := wsX7_begins) B.pre
  have hown : s.vm.findClass RX7 = some m.cls := findClass_of_methodNamed B.named
  have hlocks := B.notSynchronized
  clear B
  subst hsz
  have hD := hD0.self (sz := s.heap.size)
  clear hD0
  generalize hAe : va_A [(aO, .inr (7, [.ref aOt, .ref aOr, .int O_drops, .int O_changed, .int O_picked, .int O_taken, .int O_acts, .int O_isForged, .ref aOp, .ref aOx, .int O_taped, .int O_size, .int O_at, .int O_fault, .int O_wordEnd, .int O_number, .ref aOw, .int O_writtenMany])), (aOt, .inl (cI, 50, .inl vOt)), (aOr, .inl (cI, 25, .inl vOr)), (aOp, .inl (cB, 600, .inl vOp)), (aOx, .inl (cB, 600, .inl vOx)), (aOw, .inl (cB, 600, .inl vOw))] s.heap.size = A at hD ⊢
  have hA : ∀ q : Nat, s.heap.size ≤ q → A q := fun q h => by rw [← hAe]; exact Or.inr h
  clear hAe
  have hS : va_S A s.heap s.heap [] := va_S.rf
  have hP : va_P (dC, dI) vwCl [(aO, .inr (7, [.ref aOt, .ref aOr, .int O_drops, .int O_changed, .int O_picked, .int O_taken, .int O_acts, .int O_isForged, .ref aOp, .ref aOx, .int O_taped, .int O_size, .int O_at, .int O_fault, .int O_wordEnd, .int O_number, .ref aOw, .int O_writtenMany])), (aOt, .inl (cI, 50, .inl vOt)), (aOr, .inl (cI, 25, .inl vOr)), (aOp, .inl (cB, 600, .inl vOp)), (aOx, .inl (cB, 600, .inl vOx)), (aOw, .inl (cB, 600, .inl vOw))] s.heap := hP
  have hl := lv_entry ([.ref aO, .int p1]) (n := 3) (Nat.le_of_ble_eq_true rfl)
  rw [lg_entry_eq]
  generalize (lg_sl ([.ref aO, .int p1]) ++ List.replicate (3 - (lg_sl ([.ref aO, .int p1])).length) Slot.unset).toArray = ls at hl ⊢
  have hl : lv_has ls 3 [(0, .ref aO), (1, .int p1)] := hl
  obtain ⟨RES, hRES⟩ : ∃ y, y = fO_begins vOt p1 := ⟨_, rfl⟩
  have hE := hRES.symm
  rw [fO_begins] at hE
  refine W.nameQ (fun Q9 hQ9 => ?_)
  refine lv_iconst (v := (0 : Int32)) hx hb dX7_begins_0 (by decide) ?_
  refine lv_istore_n (lv' := [(2, .int (0 : Int32)), (0, .ref aO), (1, .int p1)]) hx hb dX7_begins_1 rfl hl (by decide) rfl (fun ls hl => ?_)
  have b_2 : ∀ (n_2 : Nat) (x2_2 : Int32) (vOt_2 : Nat → Int32), (0 ≤ x2_2.toInt ∧ x2_2.toInt ≤ 25) → ((25 - x2_2.toInt).toNat : Nat) < n_2 → fO_begins_l2 p1 n_2 x2_2 vOt_2 = RES → ∀ (H : Heap) (locs : List Loc) (ls : Array Slot), va_P (dC, dI) vwCl [(aO, .inr (7, [.ref aOt, .ref aOr, .int O_drops, .int O_changed, .int O_picked, .int O_taken, .int O_acts, .int O_isForged, .ref aOp, .ref aOx, .int O_taped, .int O_size, .int O_at, .int O_fault, .int O_wordEnd, .int O_number, .ref aOw, .int O_writtenMany])), (aOt, .inl (cI, 50, .inl vOt_2)), (aOr, .inl (cI, 25, .inl vOr)), (aOp, .inl (cB, 600, .inl vOp)), (aOx, .inl (cB, 600, .inl vOx)), (aOw, .inl (cB, 600, .inl vOw))] H → va_D A [(aO, .inr (7, [.ref aOt, .ref aOr, .int O_drops, .int O_changed, .int O_picked, .int O_taken, .int O_acts, .int O_isForged, .ref aOp, .ref aOx, .int O_taped, .int O_size, .int O_at, .int O_fault, .int O_wordEnd, .int O_number, .ref aOw, .int O_writtenMany])), (aOt, .inl (cI, 50, .inl vOt_2)), (aOr, .inl (cI, 25, .inl vOr)), (aOp, .inl (cB, 600, .inl vOp)), (aOx, .inl (cB, 600, .inl vOx)), (aOw, .inl (cB, 600, .inl vOw))] → va_S A s.heap H locs → lv_has ls 3 [(0, .ref aO), (1, .int p1), (2, .int x2_2)] → W p l e (headSpec wsX7_begins ({ frames := 0, cells := 0, slots := 0, locals := 0 })).room s m ([.ref aO, .int p1] : List Value).toArray below meth c H locs 0 0 Q9 (F0 m 2 ls []) := by
    intro n_2
    induction n_2 with
    | zero => intro x2_2 vOt_2 hi0_2 hm_2 hE; exact absurd hm_2 (Nat.not_lt_zero _)
    | succ n_2 ih_2 =>
      intro x2_2 vOt_2 hi0_2 hm_2 hE H locs ls hP hD hS hl
      rw [fO_begins_l2] at hE
      refine lv_iload_n hx hb dX7_begins_2 rfl (lv_at hl 2 rfl) ?_
      refine lv_bipush (v := (25 : Int32)) hx hb dX7_begins_3 (by decide) ?_
      refine lv_icmp_ge (tgt := 40) hx hb dX7_begins_5 (by decide) (fun c_5 => ?_) (fun c_5 => ?_)
      · have hE := ipos c_5 hE
        subst hQ9
        exact W.vret hx hb hr (fun t ht hW => ⟨⟨(vOt_2), rfl, hE.trans hRES, (by rw [ht]; exact hP), va_K.moved hW.alike hK, hD⟩, hS.F ht⟩) hS.2.2 dX7_begins_40
      · have hE := ineg c_5 hE
        refine lv_aload_n hx hb dX7_begins_8 rfl (lv_at hl 0 rfl) ?_
        refine va_get (D := (dC, dI)) (ci := 7) (v := .ref aOt) (C := RX7) (T := TX7) (N := 18) hx hb hts (fun _ h => List.mem_cons_of_mem _ (List.mem_append_right _ h)) hown hK hP 0 rfl rfl 0 (by decide) (hts _ (List.mem_cons_of_mem _ (List.mem_append_left _ (List.mem_of_getElem? (i := 0) rfl)))) (fun _ h9 => h9) rfl dX7_begins_9 ?_
        refine lv_iload_n hx hb dX7_begins_12 rfl (lv_at hl 1 rfl) ?_
        refine lv_iload_n hx hb dX7_begins_13 rfl (lv_at hl 2 rfl) ?_
        refine lv_iadd hx hb dX7_begins_14 ?_
        refine lv_iload_n hx hb dX7_begins_15 rfl (lv_at hl 2 rfl) ?_
        refine lv_bipush (v := (8 : Int32)) hx hb dX7_begins_16 (by decide) ?_
        have b_33 : ∀ (s0_33 : Int32) (s1_33 : Int32), (s1_33 = (p1 + x2_2)) → fO_begins_b33 (fO_begins_l2 p1 n_2) p1 x2_2 s0_33 s1_33 vOt_2 = RES → ∀ (H : Heap) (locs : List Loc) (ls : Array Slot), va_P (dC, dI) vwCl [(aO, .inr (7, [.ref aOt, .ref aOr, .int O_drops, .int O_changed, .int O_picked, .int O_taken, .int O_acts, .int O_isForged, .ref aOp, .ref aOx, .int O_taped, .int O_size, .int O_at, .int O_fault, .int O_wordEnd, .int O_number, .ref aOw, .int O_writtenMany])), (aOt, .inl (cI, 50, .inl vOt_2)), (aOr, .inl (cI, 25, .inl vOr)), (aOp, .inl (cB, 600, .inl vOp)), (aOx, .inl (cB, 600, .inl vOx)), (aOw, .inl (cB, 600, .inl vOw))] H → va_D A [(aO, .inr (7, [.ref aOt, .ref aOr, .int O_drops, .int O_changed, .int O_picked, .int O_taken, .int O_acts, .int O_isForged, .ref aOp, .ref aOx, .int O_taped, .int O_size, .int O_at, .int O_fault, .int O_wordEnd, .int O_number, .ref aOw, .int O_writtenMany])), (aOt, .inl (cI, 50, .inl vOt_2)), (aOr, .inl (cI, 25, .inl vOr)), (aOp, .inl (cB, 600, .inl vOp)), (aOx, .inl (cB, 600, .inl vOx)), (aOw, .inl (cB, 600, .inl vOw))] → va_S A s.heap H locs → lv_has ls 3 [(0, .ref aO), (1, .int p1), (2, .int x2_2)] → W p l e (headSpec wsX7_begins ({ frames := 0, cells := 0, slots := 0, locals := 0 })).room s m ([.ref aO, .int p1] : List Value).toArray below meth c H locs 0 0 Q9 (F0 m 33 ls [.int s0_33, .int s1_33, .ref aOt]) := by
          intro s0_33 s1_33 hi0_33 hE H locs ls hP hD hS hl
          rw [fO_begins_b33] at hE
          refine va_iast (D := (dC, dI)) (cl := vwCl) hx hb hK hP hD hS 1 0 rfl rfl (by first | ((try simp only [not_true_eq_false, not_false_eq_true, false_implies, true_implies, implies_true, vp_in_iff, i32_lt, i32_le, i32_eq, i32_add, i32_sub, i32_mul, t32_m1, t32_0, t32_1, t32_8, t32_10, t32_15, t32_25] at hp0 hi0_2 hm_2 c_5 hi0_33 ⊢) <;> intros <;> omega) | ((try (have hs0 : (p1 + x2_2).toInt = p1.toInt + x2_2.toInt := by (have h := i32_addS (x := p1) (y := x2_2) (by (try simp only [not_true_eq_false, not_false_eq_true, false_implies, true_implies, implies_true, vp_in_iff, i32_lt, i32_le, i32_eq, t32_m1, t32_0, t32_1, t32_8, t32_10, t32_15, t32_25] at hp0 hi0_2 hm_2 c_5 hi0_33 ⊢) <;> omega) (by (try simp only [not_true_eq_false, not_false_eq_true, false_implies, true_implies, implies_true, vp_in_iff, i32_lt, i32_le, i32_eq, t32_m1, t32_0, t32_1, t32_8, t32_10, t32_15, t32_25] at hp0 hi0_2 hm_2 c_5 hi0_33 ⊢) <;> omega); (try simp only [t32_m1, t32_0, t32_1, t32_8, t32_10, t32_15, t32_25] at h); exact h))); (try simp only [not_true_eq_false, not_false_eq_true, false_implies, true_implies, implies_true, vp_in_iff, i32_lt, i32_le, i32_eq, t32_m1, t32_0, t32_1, t32_8, t32_10, t32_15, t32_25] at hp0 hi0_2 hm_2 c_5 hi0_33 ⊢) <;> intros <;> omega)) dX7_begins_33 (fun H locs hP hD hS => ?_)
          have hP : va_P (dC, dI) vwCl [(aO, .inr (7, [.ref aOt, .ref aOr, .int O_drops, .int O_changed, .int O_picked, .int O_taken, .int O_acts, .int O_isForged, .ref aOp, .ref aOx, .int O_taped, .int O_size, .int O_at, .int O_fault, .int O_wordEnd, .int O_number, .ref aOw, .int O_writtenMany])), (aOt, .inl (cI, 50, .inl (upd vOt_2 s1_33.toNatClampNeg s0_33))), (aOr, .inl (cI, 25, .inl vOr)), (aOp, .inl (cB, 600, .inl vOp)), (aOx, .inl (cB, 600, .inl vOx)), (aOw, .inl (cB, 600, .inl vOw))] H := hP
          have hD : va_D A [(aO, .inr (7, [.ref aOt, .ref aOr, .int O_drops, .int O_changed, .int O_picked, .int O_taken, .int O_acts, .int O_isForged, .ref aOp, .ref aOx, .int O_taped, .int O_size, .int O_at, .int O_fault, .int O_wordEnd, .int O_number, .ref aOw, .int O_writtenMany])), (aOt, .inl (cI, 50, .inl (upd vOt_2 s1_33.toNatClampNeg s0_33))), (aOr, .inl (cI, 25, .inl vOr)), (aOp, .inl (cB, 600, .inl vOp)), (aOx, .inl (cB, 600, .inl vOx)), (aOw, .inl (cB, 600, .inl vOw))] := hD
          refine lv_iinc (v := (x2_2 + (1 : Int32))) (lv' := [(2, .int (x2_2 + (1 : Int32))), (0, .ref aO), (1, .int p1)]) hx hb dX7_begins_34 hl (k := 2) rfl rfl (by decide) rfl (fun ls hl => ?_)
          refine lv_goto (tgt := 2) hx hb dX7_begins_37 (by decide) ?_
          exact ih_2 (x2_2 + (1 : Int32)) (upd vOt_2 s1_33.toNatClampNeg s0_33) (by first | ((try simp only [not_true_eq_false, not_false_eq_true, false_implies, true_implies, implies_true, vp_in_iff, i32_lt, i32_le, i32_eq, i32_add, i32_sub, i32_mul, t32_m1, t32_0, t32_1, t32_8, t32_10, t32_15, t32_25] at hp0 hi0_2 hm_2 c_5 hi0_33 ⊢) <;> intros <;> omega) | ((try (have hs0 : (p1 + x2_2).toInt = p1.toInt + x2_2.toInt := by (have h := i32_addS (x := p1) (y := x2_2) (by (try simp only [not_true_eq_false, not_false_eq_true, false_implies, true_implies, implies_true, vp_in_iff, i32_lt, i32_le, i32_eq, t32_m1, t32_0, t32_1, t32_8, t32_10, t32_15, t32_25] at hp0 hi0_2 hm_2 c_5 hi0_33 ⊢) <;> omega) (by (try simp only [not_true_eq_false, not_false_eq_true, false_implies, true_implies, implies_true, vp_in_iff, i32_lt, i32_le, i32_eq, t32_m1, t32_0, t32_1, t32_8, t32_10, t32_15, t32_25] at hp0 hi0_2 hm_2 c_5 hi0_33 ⊢) <;> omega); (try simp only [t32_m1, t32_0, t32_1, t32_8, t32_10, t32_15, t32_25] at h); exact h))); (try (have hs1 : (x2_2 + (1 : Int32)).toInt = x2_2.toInt + 1 := by (have h := i32_addS (x := x2_2) (y := (1 : Int32)) (by (try simp only [not_true_eq_false, not_false_eq_true, false_implies, true_implies, implies_true, vp_in_iff, i32_lt, i32_le, i32_eq, t32_m1, t32_0, t32_1, t32_8, t32_10, t32_15, t32_25] at hp0 hi0_2 hm_2 c_5 hi0_33 ⊢) <;> omega) (by (try simp only [not_true_eq_false, not_false_eq_true, false_implies, true_implies, implies_true, vp_in_iff, i32_lt, i32_le, i32_eq, t32_m1, t32_0, t32_1, t32_8, t32_10, t32_15, t32_25] at hp0 hi0_2 hm_2 c_5 hi0_33 ⊢) <;> omega); (try simp only [t32_m1, t32_0, t32_1, t32_8, t32_10, t32_15, t32_25] at h); exact h))); (try simp only [not_true_eq_false, not_false_eq_true, false_implies, true_implies, implies_true, vp_in_iff, i32_lt, i32_le, i32_eq, t32_m1, t32_0, t32_1, t32_8, t32_10, t32_15, t32_25] at hp0 hi0_2 hm_2 c_5 hi0_33 ⊢) <;> intros <;> omega)) (by first | ((try simp only [not_true_eq_false, not_false_eq_true, false_implies, true_implies, implies_true, vp_in_iff, i32_lt, i32_le, i32_eq, i32_add, i32_sub, i32_mul, t32_m1, t32_0, t32_1, t32_8, t32_10, t32_15, t32_25] at hp0 hi0_2 hm_2 c_5 hi0_33 ⊢) <;> intros <;> omega) | ((try (have hs0 : (p1 + x2_2).toInt = p1.toInt + x2_2.toInt := by (have h := i32_addS (x := p1) (y := x2_2) (by (try simp only [not_true_eq_false, not_false_eq_true, false_implies, true_implies, implies_true, vp_in_iff, i32_lt, i32_le, i32_eq, t32_m1, t32_0, t32_1, t32_8, t32_10, t32_15, t32_25] at hp0 hi0_2 hm_2 c_5 hi0_33 ⊢) <;> omega) (by (try simp only [not_true_eq_false, not_false_eq_true, false_implies, true_implies, implies_true, vp_in_iff, i32_lt, i32_le, i32_eq, t32_m1, t32_0, t32_1, t32_8, t32_10, t32_15, t32_25] at hp0 hi0_2 hm_2 c_5 hi0_33 ⊢) <;> omega); (try simp only [t32_m1, t32_0, t32_1, t32_8, t32_10, t32_15, t32_25] at h); exact h))); (try simp only [not_true_eq_false, not_false_eq_true, false_implies, true_implies, implies_true, vp_in_iff, i32_lt, i32_le, i32_eq, t32_m1, t32_0, t32_1, t32_8, t32_10, t32_15, t32_25] at hp0 hi0_2 hm_2 c_5 hi0_33 ⊢) <;> intros <;> omega)) hE _ _ _ hP hD hS (lv_sub hl [1, 2, 0] rfl)
        refine lv_icmp_lt (tgt := 32) hx hb dX7_begins_18 (by decide) (fun c_18 => ?_) (fun c_18 => ?_)
        · have hE := ipos c_18 hE
          refine lv_iconst (v := (0 : Int32)) hx hb dX7_begins_32 (by decide) ?_
          exact b_33 (0 : Int32) (p1 + x2_2) rfl hE _ _ _ hP hD hS (lv_sub hl [0, 1, 2] rfl)
        · have hE := ineg c_18 hE
          refine lv_iload_n hx hb dX7_begins_21 rfl (lv_at hl 2 rfl) ?_
          refine lv_bipush (v := (15 : Int32)) hx hb dX7_begins_22 (by decide) ?_
          refine lv_icmp_ge (tgt := 32) hx hb dX7_begins_24 (by decide) (fun c_24 => ?_) (fun c_24 => ?_)
          · have hE := ipos c_24 hE
            refine lv_iconst (v := (0 : Int32)) hx hb dX7_begins_32 (by decide) ?_
            exact b_33 (0 : Int32) (p1 + x2_2) rfl hE _ _ _ hP hD hS (lv_sub hl [0, 1, 2] rfl)
          · have hE := ineg c_24 hE
            refine lv_bipush (v := (10 : Int32)) hx hb dX7_begins_27 (by decide) ?_
            refine lv_goto (tgt := 33) hx hb dX7_begins_29 (by decide) ?_
            exact b_33 (10 : Int32) (p1 + x2_2) rfl hE _ _ _ hP hD hS (lv_sub hl [0, 1, 2] rfl)
  exact b_2 (26) (0 : Int32) vOt (by first | ((try simp only [not_true_eq_false, not_false_eq_true, false_implies, true_implies, implies_true, vp_in_iff, i32_lt, i32_le, i32_eq, i32_add, i32_sub, i32_mul, t32_m1, t32_0, t32_1, t32_8, t32_10, t32_15, t32_25] at hp0 ⊢) <;> intros <;> omega)) (by first | ((try simp only [not_true_eq_false, not_false_eq_true, false_implies, true_implies, implies_true, vp_in_iff, i32_lt, i32_le, i32_eq, i32_add, i32_sub, i32_mul, t32_m1, t32_0, t32_1, t32_8, t32_10, t32_15, t32_25] at hp0 ⊢) <;> intros <;> omega) | decide) hE _ _ _ hP hD hS (lv_sub hl [1, 2, 0] rfl)
-- X7_forgets
def fO_forgets_l2   : Nat → Int32 → (Nat → Int32) → ((Nat → Int32))
  | 0, x1_2, vOr_2 => vOr_2
  | n_2 + 1, x1_2, vOr_2 => (if (25 : Int32) ≤ x1_2 then vOr_2 else (fO_forgets_l2 n_2) (x1_2 + (1 : Int32)) (upd vOr_2 x1_2.toNatClampNeg (-1 : Int32)))
def fO_forgets (vOr : Nat → Int32) : (Nat → Int32) := fO_forgets_l2 (26) (0 : Int32) vOr
set_option maxHeartbeats 4000000 in
set_option maxRecDepth 100000 in
theorem kO_forgets (l : Launch) (dC : Nat → ClassId) (dI : Nat → Nat → Nat) (cI cB : ClassId) (aO aOt aOr aOp aOx aOw : Nat) (sz : Nat) (O_drops : Int32) (O_changed : Int32) (O_picked : Int32) (O_taken : Int32) (O_acts : Int32) (O_isForged : Int32) (O_taped : Int32) (O_size : Int32) (O_at : Int32) (O_fault : Int32) (O_wordEnd : Int32) (O_number : Int32) (O_writtenMany : Int32) (vOt : Nat → Int32) (vOr : Nat → Int32) (vOp : Nat → Int32) (vOx : Nat → Int32) (vOw : Nat → Int32) : Met l yX7_forgets wsX7_forgets ({ frames := 0, cells := 0, slots := 0, locals := 0 }) (va_Pc [.ref aO] (PB (dC, dI) vwCl [(cI, .int), (cB, .byte)] [(aO, .inr (7, [.ref aOt, .ref aOr, .int O_drops, .int O_changed, .int O_picked, .int O_taken, .int O_acts, .int O_isForged, .ref aOp, .ref aOx, .int O_taped, .int O_size, .int O_at, .int O_fault, .int O_wordEnd, .int O_number, .ref aOw, .int O_writtenMany])), (aOt, .inl (cI, 50, .inl vOt)), (aOr, .inl (cI, 25, .inl vOr)), (aOp, .inl (cB, 600, .inl vOp)), (aOx, .inl (cB, 600, .inl vOx)), (aOw, .inl (cB, 600, .inl vOw))] sz)) (va_Qv (fun (u : (Nat → Int32)) => u = fO_forgets vOr) (fun (u : (Nat → Int32)) t => va_P (dC, dI) vwCl [(aO, .inr (7, [.ref aOt, .ref aOr, .int O_drops, .int O_changed, .int O_picked, .int O_taken, .int O_acts, .int O_isForged, .ref aOp, .ref aOx, .int O_taped, .int O_size, .int O_at, .int O_fault, .int O_wordEnd, .int O_number, .ref aOw, .int O_writtenMany])), (aOt, .inl (cI, 50, .inl vOt)), (aOr, .inl (cI, 25, .inl u)), (aOp, .inl (cB, 600, .inl vOp)), (aOx, .inl (cB, 600, .inl vOx)), (aOw, .inl (cB, 600, .inl vOw))] t.heap ∧ va_K (dC, dI) vwCl [(cI, .int), (cB, .byte)] t ∧ va_D (va_A [(aO, .inr (7, [.ref aOt, .ref aOr, .int O_drops, .int O_changed, .int O_picked, .int O_taken, .int O_acts, .int O_isForged, .ref aOp, .ref aOx, .int O_taped, .int O_size, .int O_at, .int O_fault, .int O_wordEnd, .int O_number, .ref aOw, .int O_writtenMany])), (aOt, .inl (cI, 50, .inl vOt)), (aOr, .inl (cI, 25, .inl vOr)), (aOp, .inl (cB, 600, .inl vOp)), (aOx, .inl (cB, 600, .inl vOx)), (aOw, .inl (cB, 600, .inl vOw))] sz) [(aO, .inr (7, [.ref aOt, .ref aOr, .int O_drops, .int O_changed, .int O_picked, .int O_taken, .int O_acts, .int O_isForged, .ref aOp, .ref aOx, .int O_taped, .int O_size, .int O_at, .int O_fault, .int O_wordEnd, .int O_number, .ref aOw, .int O_writtenMany])), (aOt, .inl (cI, 50, .inl vOt)), (aOr, .inl (cI, 25, .inl u)), (aOp, .inl (cB, 600, .inl vOp)), (aOx, .inl (cB, 600, .inl vOx)), (aOw, .inl (cB, 600, .inl vOw))]) (va_A [(aO, .inr (7, [.ref aOt, .ref aOr, .int O_drops, .int O_changed, .int O_picked, .int O_taken, .int O_acts, .int O_isForged, .ref aOp, .ref aOx, .int O_taped, .int O_size, .int O_at, .int O_fault, .int O_wordEnd, .int O_number, .ref aOw, .int O_writtenMany])), (aOt, .inl (cI, 50, .inl vOt)), (aOr, .inl (cI, 25, .inl vOr)), (aOp, .inl (cB, 600, .inl vOp)), (aOx, .inl (cB, 600, .inl vOx)), (aOw, .inl (cB, 600, .inl vOw))] sz)) 0 0 (va_A [(aO, .inr (7, [.ref aOt, .ref aOr, .int O_drops, .int O_changed, .int O_picked, .int O_taken, .int O_acts, .int O_isForged, .ref aOp, .ref aOx, .int O_taped, .int O_size, .int O_at, .int O_fault, .int O_wordEnd, .int O_number, .ref aOw, .int O_writtenMany])), (aOt, .inl (cI, 50, .inl vOt)), (aOr, .inl (cI, 25, .inl vOr)), (aOp, .inl (cB, 600, .inl vOp)), (aOx, .inl (cB, 600, .inl vOx)), (aOw, .inl (cB, 600, .inl vOw))] sz) := by
  refine Met.ofW (cc := cX7_forgets) (maxL := 2) (ret := none) (by decide) rfl ?_
  intro p e s m args below meth c s₁ B hml hv
  obtain ⟨rfl, hsz, hP, hK, hD0⟩ := hv
  have hx := B.exec
  have hb := B.bytes
  have hr := B.returns
  have hts := atoms_spec (ws := wsX7_forgets) B.pre
  have hown : s.vm.findClass RX7 = some m.cls := findClass_of_methodNamed B.named
  have hlocks := B.notSynchronized
  clear B
  subst hsz
  have hD := hD0.self (sz := s.heap.size)
  clear hD0
  generalize hAe : va_A [(aO, .inr (7, [.ref aOt, .ref aOr, .int O_drops, .int O_changed, .int O_picked, .int O_taken, .int O_acts, .int O_isForged, .ref aOp, .ref aOx, .int O_taped, .int O_size, .int O_at, .int O_fault, .int O_wordEnd, .int O_number, .ref aOw, .int O_writtenMany])), (aOt, .inl (cI, 50, .inl vOt)), (aOr, .inl (cI, 25, .inl vOr)), (aOp, .inl (cB, 600, .inl vOp)), (aOx, .inl (cB, 600, .inl vOx)), (aOw, .inl (cB, 600, .inl vOw))] s.heap.size = A at hD ⊢
  have hA : ∀ q : Nat, s.heap.size ≤ q → A q := fun q h => by rw [← hAe]; exact Or.inr h
  clear hAe
  have hS : va_S A s.heap s.heap [] := va_S.rf
  have hP : va_P (dC, dI) vwCl [(aO, .inr (7, [.ref aOt, .ref aOr, .int O_drops, .int O_changed, .int O_picked, .int O_taken, .int O_acts, .int O_isForged, .ref aOp, .ref aOx, .int O_taped, .int O_size, .int O_at, .int O_fault, .int O_wordEnd, .int O_number, .ref aOw, .int O_writtenMany])), (aOt, .inl (cI, 50, .inl vOt)), (aOr, .inl (cI, 25, .inl vOr)), (aOp, .inl (cB, 600, .inl vOp)), (aOx, .inl (cB, 600, .inl vOx)), (aOw, .inl (cB, 600, .inl vOw))] s.heap := hP
  have hl := lv_entry ([.ref aO]) (n := 2) (Nat.le_of_ble_eq_true rfl)
  rw [lg_entry_eq]
  generalize (lg_sl ([.ref aO]) ++ List.replicate (2 - (lg_sl ([.ref aO])).length) Slot.unset).toArray = ls at hl ⊢
  have hl : lv_has ls 2 [(0, .ref aO)] := hl
  obtain ⟨RES, hRES⟩ : ∃ y, y = fO_forgets vOr := ⟨_, rfl⟩
  have hE := hRES.symm
  rw [fO_forgets] at hE
  refine W.nameQ (fun Q9 hQ9 => ?_)
  refine lv_iconst (v := (0 : Int32)) hx hb dX7_forgets_0 (by decide) ?_
  refine lv_istore_n (lv' := [(1, .int (0 : Int32)), (0, .ref aO)]) hx hb dX7_forgets_1 rfl hl (by decide) rfl (fun ls hl => ?_)
  have b_2 : ∀ (n_2 : Nat) (x1_2 : Int32) (vOr_2 : Nat → Int32), (0 ≤ x1_2.toInt ∧ x1_2.toInt ≤ 25) → ((25 - x1_2.toInt).toNat : Nat) < n_2 → fO_forgets_l2 n_2 x1_2 vOr_2 = RES → ∀ (H : Heap) (locs : List Loc) (ls : Array Slot), va_P (dC, dI) vwCl [(aO, .inr (7, [.ref aOt, .ref aOr, .int O_drops, .int O_changed, .int O_picked, .int O_taken, .int O_acts, .int O_isForged, .ref aOp, .ref aOx, .int O_taped, .int O_size, .int O_at, .int O_fault, .int O_wordEnd, .int O_number, .ref aOw, .int O_writtenMany])), (aOt, .inl (cI, 50, .inl vOt)), (aOr, .inl (cI, 25, .inl vOr_2)), (aOp, .inl (cB, 600, .inl vOp)), (aOx, .inl (cB, 600, .inl vOx)), (aOw, .inl (cB, 600, .inl vOw))] H → va_D A [(aO, .inr (7, [.ref aOt, .ref aOr, .int O_drops, .int O_changed, .int O_picked, .int O_taken, .int O_acts, .int O_isForged, .ref aOp, .ref aOx, .int O_taped, .int O_size, .int O_at, .int O_fault, .int O_wordEnd, .int O_number, .ref aOw, .int O_writtenMany])), (aOt, .inl (cI, 50, .inl vOt)), (aOr, .inl (cI, 25, .inl vOr_2)), (aOp, .inl (cB, 600, .inl vOp)), (aOx, .inl (cB, 600, .inl vOx)), (aOw, .inl (cB, 600, .inl vOw))] → va_S A s.heap H locs → lv_has ls 2 [(0, .ref aO), (1, .int x1_2)] → W p l e (headSpec wsX7_forgets ({ frames := 0, cells := 0, slots := 0, locals := 0 })).room s m ([.ref aO] : List Value).toArray below meth c H locs 0 0 Q9 (F0 m 2 ls []) := by
    intro n_2
    induction n_2 with
    | zero => intro x1_2 vOr_2 hi0_2 hm_2 hE; exact absurd hm_2 (Nat.not_lt_zero _)
    | succ n_2 ih_2 =>
      intro x1_2 vOr_2 hi0_2 hm_2 hE H locs ls hP hD hS hl
      rw [fO_forgets_l2] at hE
      refine lv_iload_n hx hb dX7_forgets_2 rfl (lv_at hl 1 rfl) ?_
      refine lv_bipush (v := (25 : Int32)) hx hb dX7_forgets_3 (by decide) ?_
      refine lv_icmp_ge (tgt := 21) hx hb dX7_forgets_5 (by decide) (fun c_5 => ?_) (fun c_5 => ?_)
      · have hE := ipos c_5 hE
        subst hQ9
        exact W.vret hx hb hr (fun t ht hW => ⟨⟨(vOr_2), rfl, hE.trans hRES, (by rw [ht]; exact hP), va_K.moved hW.alike hK, hD⟩, hS.F ht⟩) hS.2.2 dX7_forgets_21
      · have hE := ineg c_5 hE
        refine lv_aload_n hx hb dX7_forgets_8 rfl (lv_at hl 0 rfl) ?_
        refine va_get (D := (dC, dI)) (ci := 7) (v := .ref aOr) (C := RX7) (T := TX7) (N := 18) hx hb hts (fun _ h => List.mem_cons_of_mem _ (List.mem_append_right _ h)) hown hK hP 0 rfl rfl 1 (by decide) (hts _ (List.mem_cons_of_mem _ (List.mem_append_left _ (List.mem_of_getElem? (i := 0) rfl)))) (fun _ h9 => h9) rfl dX7_forgets_9 ?_
        refine lv_iload_n hx hb dX7_forgets_12 rfl (lv_at hl 1 rfl) ?_
        refine lv_iconst (v := (-1 : Int32)) hx hb dX7_forgets_13 (by decide) ?_
        refine va_iast (D := (dC, dI)) (cl := vwCl) hx hb hK hP hD hS 2 0 rfl rfl (by first | ((try simp only [not_true_eq_false, not_false_eq_true, false_implies, true_implies, implies_true, vp_in_iff, i32_lt, i32_le, i32_eq, i32_add, i32_sub, i32_mul, t32_m1, t32_0, t32_1, t32_25] at hi0_2 hm_2 c_5 ⊢) <;> intros <;> omega)) dX7_forgets_14 (fun H locs hP hD hS => ?_)
        have hP : va_P (dC, dI) vwCl [(aO, .inr (7, [.ref aOt, .ref aOr, .int O_drops, .int O_changed, .int O_picked, .int O_taken, .int O_acts, .int O_isForged, .ref aOp, .ref aOx, .int O_taped, .int O_size, .int O_at, .int O_fault, .int O_wordEnd, .int O_number, .ref aOw, .int O_writtenMany])), (aOt, .inl (cI, 50, .inl vOt)), (aOr, .inl (cI, 25, .inl (upd vOr_2 x1_2.toNatClampNeg (-1 : Int32)))), (aOp, .inl (cB, 600, .inl vOp)), (aOx, .inl (cB, 600, .inl vOx)), (aOw, .inl (cB, 600, .inl vOw))] H := hP
        have hD : va_D A [(aO, .inr (7, [.ref aOt, .ref aOr, .int O_drops, .int O_changed, .int O_picked, .int O_taken, .int O_acts, .int O_isForged, .ref aOp, .ref aOx, .int O_taped, .int O_size, .int O_at, .int O_fault, .int O_wordEnd, .int O_number, .ref aOw, .int O_writtenMany])), (aOt, .inl (cI, 50, .inl vOt)), (aOr, .inl (cI, 25, .inl (upd vOr_2 x1_2.toNatClampNeg (-1 : Int32)))), (aOp, .inl (cB, 600, .inl vOp)), (aOx, .inl (cB, 600, .inl vOx)), (aOw, .inl (cB, 600, .inl vOw))] := hD
        refine lv_iinc (v := (x1_2 + (1 : Int32))) (lv' := [(1, .int (x1_2 + (1 : Int32))), (0, .ref aO)]) hx hb dX7_forgets_15 hl (k := 1) rfl rfl (by decide) rfl (fun ls hl => ?_)
        refine lv_goto (tgt := 2) hx hb dX7_forgets_18 (by decide) ?_
        exact ih_2 (x1_2 + (1 : Int32)) (upd vOr_2 x1_2.toNatClampNeg (-1 : Int32)) (by first | ((try simp only [not_true_eq_false, not_false_eq_true, false_implies, true_implies, implies_true, vp_in_iff, i32_lt, i32_le, i32_eq, i32_add, i32_sub, i32_mul, t32_m1, t32_0, t32_1, t32_25] at hi0_2 hm_2 c_5 ⊢) <;> intros <;> omega) | ((try (have hs0 : (x1_2 + (1 : Int32)).toInt = x1_2.toInt + 1 := by (have h := i32_addS (x := x1_2) (y := (1 : Int32)) (by (try simp only [not_true_eq_false, not_false_eq_true, false_implies, true_implies, implies_true, vp_in_iff, i32_lt, i32_le, i32_eq, t32_m1, t32_0, t32_1, t32_25] at hi0_2 hm_2 c_5 ⊢) <;> omega) (by (try simp only [not_true_eq_false, not_false_eq_true, false_implies, true_implies, implies_true, vp_in_iff, i32_lt, i32_le, i32_eq, t32_m1, t32_0, t32_1, t32_25] at hi0_2 hm_2 c_5 ⊢) <;> omega); (try simp only [t32_m1, t32_0, t32_1, t32_25] at h); exact h))); (try simp only [not_true_eq_false, not_false_eq_true, false_implies, true_implies, implies_true, vp_in_iff, i32_lt, i32_le, i32_eq, t32_m1, t32_0, t32_1, t32_25] at hi0_2 hm_2 c_5 ⊢) <;> intros <;> omega)) (by first | ((try simp only [not_true_eq_false, not_false_eq_true, false_implies, true_implies, implies_true, vp_in_iff, i32_lt, i32_le, i32_eq, i32_add, i32_sub, i32_mul, t32_m1, t32_0, t32_1, t32_25] at hi0_2 hm_2 c_5 ⊢) <;> intros <;> omega)) hE _ _ _ hP hD hS (lv_sub hl [1, 0] rfl)
  exact b_2 (26) (0 : Int32) vOr (by first | decide | (simp only [not_true_eq_false, not_false_eq_true, false_implies, true_implies, implies_true, vp_in_iff, i32_lt, i32_le, i32_eq, i32_add, i32_sub, i32_mul, t32_m1, t32_0, t32_1, t32_25] <;> intros <;> omega)) (by first | decide | (simp only [not_true_eq_false, not_false_eq_true, false_implies, true_implies, implies_true, vp_in_iff, i32_lt, i32_le, i32_eq, i32_add, i32_sub, i32_mul, t32_m1, t32_0, t32_1, t32_25] <;> intros <;> omega) | decide) hE _ _ _ hP hD hS (lv_sub hl [1, 0] rfl)
-- X7_isIn
def fO_isIn (p0 : Int32) (p1 : Int32) (p2 : Int32) : Int32 := (if p0 < p1 then (0 : Int32) else (if p2 < p0 then (0 : Int32) else (1 : Int32)))
set_option maxHeartbeats 4000000 in
set_option maxRecDepth 100000 in
theorem kO_isIn (l : Launch) (dC : Nat → ClassId) (dI : Nat → Nat → Nat) (cI cB : ClassId) (sz : Nat) (p0 : Int32) (p1 : Int32) (p2 : Int32) : Met l yX7_isIn wsX7_isIn ({ frames := 0, cells := 0, slots := 0, locals := 0 }) (va_Pc [.int p0, .int p1, .int p2] (PB (dC, dI) vwCl [(cI, .int), (cB, .byte)] [] sz)) (va_Qi (fun (r : Int32) (u : Unit) => r = fO_isIn p0 p1 p2 ∧ (r = 0 ∨ r = 1) ∧ (r = 1 → p1.toInt ≤ p0.toInt ∧ p0.toInt ≤ p2.toInt)) (fun (_ : Unit) t => va_P (dC, dI) vwCl [] t.heap ∧ va_K (dC, dI) vwCl [(cI, .int), (cB, .byte)] t ∧ va_D (va_A [] sz) []) (va_A [] sz)) 0 0 (va_A [] sz) := by
  refine Met.ofW (cc := cX7_isIn) (maxL := 3) (ret := (some .boolean)) (by decide) rfl ?_
  intro p e s m args below meth c s₁ B hml hv
  obtain ⟨rfl, hsz, hP, hK, hD0⟩ := hv
  have hx := B.exec
  have hb := B.bytes
  have hr := B.returns
  have hts := atoms_spec (ws := wsX7_isIn) B.pre
  have hown : s.vm.findClass RX7 = some m.cls := findClass_of_methodNamed B.named
  have hlocks := B.notSynchronized
  clear B
  subst hsz
  have hD := hD0.self (sz := s.heap.size)
  clear hD0
  generalize hAe : va_A [] s.heap.size = A at hD ⊢
  have hA : ∀ q : Nat, s.heap.size ≤ q → A q := fun q h => by rw [← hAe]; exact Or.inr h
  clear hAe
  have hS : va_S A s.heap s.heap [] := va_S.rf
  have hP : va_P (dC, dI) vwCl [] s.heap := hP
  have hl := lv_entry ([.int p0, .int p1, .int p2]) (n := 3) (Nat.le_of_ble_eq_true rfl)
  rw [lg_entry_eq]
  generalize (lg_sl ([.int p0, .int p1, .int p2]) ++ List.replicate (3 - (lg_sl ([.int p0, .int p1, .int p2])).length) Slot.unset).toArray = ls at hl ⊢
  have hl : lv_has ls 3 [(0, .int p0), (1, .int p1), (2, .int p2)] := hl
  obtain ⟨RES, hRES⟩ : ∃ y, y = fO_isIn p0 p1 p2 := ⟨_, rfl⟩
  have hE := hRES.symm
  rw [fO_isIn] at hE
  refine lv_iload_n hx hb dX7_isIn_0 rfl (lv_at hl 0 rfl) ?_
  refine lv_iload_n hx hb dX7_isIn_1 rfl (lv_at hl 1 rfl) ?_
  refine lv_icmp_lt (tgt := 14) hx hb dX7_isIn_2 (by decide) (fun c_2 => ?_) (fun c_2 => ?_)
  · have hE := ipos c_2 hE
    refine lv_iconst (v := (0 : Int32)) hx hb dX7_isIn_14 (by decide) ?_
    exact W.zret (v := (0 : Int32)) (ty := .boolean) hx hb hr rfl (fun t ht hW => ⟨⟨(0 : Int32), (), rfl, ⟨hE.trans hRES, Or.inl rfl, (by first | ((try simp only [not_true_eq_false, not_false_eq_true, false_implies, true_implies, implies_true, vp_in_iff, i32_lt, i32_le, i32_eq, i32_add, i32_sub, i32_mul, t32_m1, t32_0, t32_1] at c_2 ⊢) <;> intros <;> omega))⟩, (by rw [ht]; exact hP), va_K.moved hW.alike hK, hD⟩, hS.F ht⟩) hS.2.2 dX7_isIn_15
  · have hE := ineg c_2 hE
    refine lv_iload_n hx hb dX7_isIn_5 rfl (lv_at hl 0 rfl) ?_
    refine lv_iload_n hx hb dX7_isIn_6 rfl (lv_at hl 2 rfl) ?_
    refine lv_icmp_gt (tgt := 14) hx hb dX7_isIn_7 (by decide) (fun c_7 => ?_) (fun c_7 => ?_)
    · have hE := ipos c_7 hE
      refine lv_iconst (v := (0 : Int32)) hx hb dX7_isIn_14 (by decide) ?_
      exact W.zret (v := (0 : Int32)) (ty := .boolean) hx hb hr rfl (fun t ht hW => ⟨⟨(0 : Int32), (), rfl, ⟨hE.trans hRES, Or.inl rfl, (by first | ((try simp only [not_true_eq_false, not_false_eq_true, false_implies, true_implies, implies_true, vp_in_iff, i32_lt, i32_le, i32_eq, i32_add, i32_sub, i32_mul, t32_m1, t32_0, t32_1] at c_2 c_7 ⊢) <;> intros <;> omega))⟩, (by rw [ht]; exact hP), va_K.moved hW.alike hK, hD⟩, hS.F ht⟩) hS.2.2 dX7_isIn_15
    · have hE := ineg c_7 hE
      refine lv_iconst (v := (1 : Int32)) hx hb dX7_isIn_10 (by decide) ?_
      refine lv_goto (tgt := 15) hx hb dX7_isIn_11 (by decide) ?_
      exact W.zret (v := (1 : Int32)) (ty := .boolean) hx hb hr rfl (fun t ht hW => ⟨⟨(1 : Int32), (), rfl, ⟨hE.trans hRES, Or.inr rfl, (by first | ((try simp only [not_true_eq_false, not_false_eq_true, false_implies, true_implies, implies_true, vp_in_iff, i32_lt, i32_le, i32_eq, i32_add, i32_sub, i32_mul, t32_m1, t32_0, t32_1] at c_2 c_7 ⊢) <;> intros <;> omega))⟩, (by rw [ht]; exact hP), va_K.moved hW.alike hK, hD⟩, hS.F ht⟩) hS.2.2 dX7_isIn_15
-- X7_isFriend
def fO_isFriend (p0 : Int32) : Int32 := (fO_isIn p0 (0 : Int32) (4 : Int32))
set_option maxHeartbeats 4000000 in
set_option maxRecDepth 100000 in
theorem kO_isFriend (l : Launch) (dC : Nat → ClassId) (dI : Nat → Nat → Nat) (cI cB : ClassId) (sz : Nat) (p0 : Int32) : Met l yX7_isFriend wsX7_isFriend ({ frames := 1, cells := 0, slots := 0, locals := 22 }) (va_Pc [.int p0] (PB (dC, dI) vwCl [(cI, .int), (cB, .byte)] [] sz)) (va_Qi (fun (r : Int32) (u : Unit) => r = fO_isFriend p0 ∧ (r = 0 ∨ r = 1) ∧ (r = 1 → 0 ≤ p0.toInt ∧ p0.toInt < 5)) (fun (_ : Unit) t => va_P (dC, dI) vwCl [] t.heap ∧ va_K (dC, dI) vwCl [(cI, .int), (cB, .byte)] t ∧ va_D (va_A [] sz) []) (va_A [] sz)) 0 0 (va_A [] sz) := by
  refine Met.ofW (cc := cX7_isFriend) (maxL := 1) (ret := (some .boolean)) (by decide) rfl ?_
  intro p e s m args below meth c s₁ B hml hv
  obtain ⟨rfl, hsz, hP, hK, hD0⟩ := hv
  have hx := B.exec
  have hb := B.bytes
  have hr := B.returns
  have hts := atoms_spec (ws := wsX7_isFriend) B.pre
  have hown : s.vm.findClass RX7 = some m.cls := findClass_of_methodNamed B.named
  have hlocks := B.notSynchronized
  clear B
  subst hsz
  have hD := hD0.self (sz := s.heap.size)
  clear hD0
  generalize hAe : va_A [] s.heap.size = A at hD ⊢
  have hA : ∀ q : Nat, s.heap.size ≤ q → A q := fun q h => by rw [← hAe]; exact Or.inr h
  clear hAe
  have hS : va_S A s.heap s.heap [] := va_S.rf
  have hP : va_P (dC, dI) vwCl [] s.heap := hP
  have hl := lv_entry ([.int p0]) (n := 1) (Nat.le_of_ble_eq_true rfl)
  rw [lg_entry_eq]
  generalize (lg_sl ([.int p0]) ++ List.replicate (1 - (lg_sl ([.int p0])).length) Slot.unset).toArray = ls at hl ⊢
  have hl : lv_has ls 1 [(0, .int p0)] := hl
  obtain ⟨RES, hRES⟩ : ∃ y, y = fO_isFriend p0 := ⟨_, rfl⟩
  have hE := hRES.symm
  rw [fO_isFriend] at hE
  refine lv_iload_n hx hb dX7_isFriend_0 rfl (lv_at hl 0 rfl) ?_
  refine lv_iconst (v := (0 : Int32)) hx hb dX7_isFriend_1 (by decide) ?_
  refine lv_iconst (v := (4 : Int32)) hx hb dX7_isFriend_2 (by decide) ?_
  have hPc := hP.sub (ws' := []) [] rfl
  have hDc := hD.sub (ws' := []) [] (by decide) rfl
  have hFc := va_free (wc := []) hD hS hA [] rfl
  refine va_calli (va_runS (As := [.int p0, .int (0 : Int32), .int (4 : Int32)]) (rest := []) ⟨hx, hb, hml, hown, hts⟩ (kO_isIn l dC dI cI cB s.heap.size p0 (0 : Int32) (4 : Int32) ) (va_cwS 3 hts gX7_isFriend_X7_isIn rfl rfl rfl (by decide +kernel) ⟨Nat.le_of_ble_eq_true rfl, Nat.le_of_ble_eq_true rfl⟩) (pre_S hK hPc hDc) rfl rfl hl.1 rfl (lv_room (Nat.le_of_ble_eq_true rfl)) dX7_isFriend_3 ⟨(Nat.zero_le _), (Nat.zero_le _)⟩) hS (fun q _ h => hFc q h) hFc (fun r3 u t H1 locs ht hvm hw hB hz1 hk1 hS => ?_)
  obtain ⟨hP1, hK1, hD1⟩ := hB
  rw [ht] at hP1
  obtain ⟨hw, hbz3, hq0_3⟩ := hw
  have hw := hw.symm
  subst hw
  obtain ⟨hP, hD⟩ := va_join (wr := []) (w1 := []) hP hD [] [] rfl rfl (by decide) (by decide) hk1 hFc hP1 hD1
  generalize H1 = H at hP hS ⊢
  have hP : va_P (dC, dI) vwCl [] H := hP
  have hD : va_D A [] := hD
  exact W.zret (v := (fO_isIn p0 (0 : Int32) (4 : Int32))) (ty := .boolean) hx hb hr (bool_nar hbz3) (fun t ht hW => ⟨⟨(fO_isIn p0 (0 : Int32) (4 : Int32)), (), rfl, ⟨hE.trans hRES, hbz3, (by first | ((try generalize (fO_isIn p0 (0 : Int32) (4 : Int32)) = g0 at hbz3 hq0_3 ⊢); (try simp only [not_true_eq_false, not_false_eq_true, false_implies, true_implies, implies_true, vp_in_iff, i32_lt, i32_le, i32_eq, i32_add, i32_sub, i32_mul, t32_m1, t32_0, t32_1, t32_4] at hbz3 hq0_3 ⊢) <;> intros <;> omega))⟩, (by rw [ht]; exact hP), va_K.moved hW.alike hK, hD⟩, hS.F ht⟩) hS.2.2 dX7_isFriend_6
-- X7_areFriends
def fO_areFriends (p0 : Int32) (p1 : Int32) : Int32 := (if (fO_isFriend p0) = 0 then (0 : Int32) else (if (fO_isFriend p1) = 0 then (0 : Int32) else (if p0 = p1 then (0 : Int32) else (1 : Int32))))
set_option maxHeartbeats 4000000 in
set_option maxRecDepth 100000 in
theorem kO_areFriends (l : Launch) (dC : Nat → ClassId) (dI : Nat → Nat → Nat) (cI cB : ClassId) (sz : Nat) (p0 : Int32) (p1 : Int32) : Met l yX7_areFriends wsX7_areFriends ({ frames := 2, cells := 0, slots := 0, locals := 42 }) (va_Pc [.int p0, .int p1] (PB (dC, dI) vwCl [(cI, .int), (cB, .byte)] [] sz)) (va_Qi (fun (r : Int32) (u : Unit) => r = fO_areFriends p0 p1 ∧ (r = 0 ∨ r = 1) ∧ (r = 1 → (0 ≤ p0.toInt ∧ p0.toInt < 5) ∧ (0 ≤ p1.toInt ∧ p1.toInt < 5) ∧ ¬ p0 = p1)) (fun (_ : Unit) t => va_P (dC, dI) vwCl [] t.heap ∧ va_K (dC, dI) vwCl [(cI, .int), (cB, .byte)] t ∧ va_D (va_A [] sz) []) (va_A [] sz)) 0 0 (va_A [] sz) := by
  refine Met.ofW (cc := cX7_areFriends) (maxL := 2) (ret := (some .boolean)) (by decide) rfl ?_
  intro p e s m args below meth c s₁ B hml hv
  obtain ⟨rfl, hsz, hP, hK, hD0⟩ := hv
  have hx := B.exec
  have hb := B.bytes
  have hr := B.returns
  have hts := atoms_spec (ws := wsX7_areFriends) B.pre
  have hown : s.vm.findClass RX7 = some m.cls := findClass_of_methodNamed B.named
  have hlocks := B.notSynchronized
  clear B
  subst hsz
  have hD := hD0.self (sz := s.heap.size)
  clear hD0
  generalize hAe : va_A [] s.heap.size = A at hD ⊢
  have hA : ∀ q : Nat, s.heap.size ≤ q → A q := fun q h => by rw [← hAe]; exact Or.inr h
  clear hAe
  have hS : va_S A s.heap s.heap [] := va_S.rf
  have hP : va_P (dC, dI) vwCl [] s.heap := hP
  have hl := lv_entry ([.int p0, .int p1]) (n := 2) (Nat.le_of_ble_eq_true rfl)
  rw [lg_entry_eq]
  generalize (lg_sl ([.int p0, .int p1]) ++ List.replicate (2 - (lg_sl ([.int p0, .int p1])).length) Slot.unset).toArray = ls at hl ⊢
  have hl : lv_has ls 2 [(0, .int p0), (1, .int p1)] := hl
  obtain ⟨RES, hRES⟩ : ∃ y, y = fO_areFriends p0 p1 := ⟨_, rfl⟩
  have hE := hRES.symm
  rw [fO_areFriends] at hE
  refine lv_iload_n hx hb dX7_areFriends_0 rfl (lv_at hl 0 rfl) ?_
  have hPc := hP.sub (ws' := []) [] rfl
  have hDc := hD.sub (ws' := []) [] (by decide) rfl
  have hFc := va_free (wc := []) hD hS hA [] rfl
  refine va_calli (va_runS (As := [.int p0]) (rest := []) ⟨hx, hb, hml, hown, hts⟩ (kO_isFriend l dC dI cI cB s.heap.size p0 ) (va_cwS 1 hts gX7_areFriends_X7_isFriend rfl rfl rfl (by decide +kernel) ⟨Nat.le_of_ble_eq_true rfl, Nat.le_of_ble_eq_true rfl⟩) (pre_S hK hPc hDc) rfl rfl hl.1 rfl (lv_room (Nat.le_of_ble_eq_true rfl)) dX7_areFriends_1 ⟨(Nat.zero_le _), (Nat.zero_le _)⟩) hS (fun q _ h => hFc q h) hFc (fun r1 u t H1 locs ht hvm hw hB hz1 hk1 hS => ?_)
  obtain ⟨hP1, hK1, hD1⟩ := hB
  rw [ht] at hP1
  obtain ⟨hw, hbz1, hq0_1⟩ := hw
  have hw := hw.symm
  subst hw
  obtain ⟨hP, hD⟩ := va_join (wr := []) (w1 := []) hP hD [] [] rfl rfl (by decide) (by decide) hk1 hFc hP1 hD1
  generalize H1 = H at hP hS ⊢
  have hP : va_P (dC, dI) vwCl [] H := hP
  have hD : va_D A [] := hD
  refine lv_if_eq (tgt := 23) hx hb dX7_areFriends_4 (by decide) (fun c_4 => ?_) (fun c_4 => ?_)
  · have hE := ipos c_4 hE
    refine lv_iconst (v := (0 : Int32)) hx hb dX7_areFriends_23 (by decide) ?_
    exact W.zret (v := (0 : Int32)) (ty := .boolean) hx hb hr rfl (fun t ht hW => ⟨⟨(0 : Int32), (), rfl, ⟨hE.trans hRES, Or.inl rfl, (by first | ((try generalize (fO_isFriend p0) = g0 at hbz1 hq0_1 c_4 ⊢); (try simp only [not_true_eq_false, not_false_eq_true, false_implies, true_implies, implies_true, vp_in_iff, i32_lt, i32_le, i32_eq, i32_add, i32_sub, i32_mul, t32_m1, t32_0, t32_1] at hbz1 hq0_1 c_4 ⊢) <;> intros <;> omega))⟩, (by rw [ht]; exact hP), va_K.moved hW.alike hK, hD⟩, hS.F ht⟩) hS.2.2 dX7_areFriends_24
  · have hE := ineg c_4 hE
    refine lv_iload_n hx hb dX7_areFriends_7 rfl (lv_at hl 1 rfl) ?_
    have hPc := hP.sub (ws' := []) [] rfl
    have hDc := hD.sub (ws' := []) [] (by decide) rfl
    have hFc := va_free (wc := []) hD hS hA [] rfl
    refine va_calli (va_runS (As := [.int p1]) (rest := []) ⟨hx, hb, hml, hown, hts⟩ (kO_isFriend l dC dI cI cB H.size p1 ) (va_cwS 1 hts gX7_areFriends_X7_isFriend rfl rfl rfl (by decide +kernel) ⟨Nat.le_of_ble_eq_true rfl, Nat.le_of_ble_eq_true rfl⟩) (pre_S hK hPc hDc) rfl rfl hl.1 rfl (lv_room (Nat.le_of_ble_eq_true rfl)) dX7_areFriends_8 ⟨(Nat.zero_le _), (Nat.zero_le _)⟩) hS (fun q _ h => hFc q h) hFc (fun r8 u t H1 locs ht hvm hw hB hz1 hk1 hS => ?_)
    obtain ⟨hP1, hK1, hD1⟩ := hB
    rw [ht] at hP1
    obtain ⟨hw, hbz8, hq0_8⟩ := hw
    have hw := hw.symm
    subst hw
    obtain ⟨hP, hD⟩ := va_join (wr := []) (w1 := []) hP hD [] [] rfl rfl (by decide) (by decide) hk1 hFc hP1 hD1
    generalize H1 = H at hP hS ⊢
    have hP : va_P (dC, dI) vwCl [] H := hP
    have hD : va_D A [] := hD
    refine lv_if_eq (tgt := 23) hx hb dX7_areFriends_11 (by decide) (fun c_11 => ?_) (fun c_11 => ?_)
    · have hE := ipos c_11 hE
      refine lv_iconst (v := (0 : Int32)) hx hb dX7_areFriends_23 (by decide) ?_
      exact W.zret (v := (0 : Int32)) (ty := .boolean) hx hb hr rfl (fun t ht hW => ⟨⟨(0 : Int32), (), rfl, ⟨hE.trans hRES, Or.inl rfl, (by first | ((try generalize (fO_isFriend p1) = g1 at hbz1 hq0_1 c_4 hbz8 hq0_8 c_11 ⊢); (try generalize (fO_isFriend p0) = g0 at hbz1 hq0_1 c_4 hbz8 hq0_8 c_11 ⊢); (try simp only [not_true_eq_false, not_false_eq_true, false_implies, true_implies, implies_true, vp_in_iff, i32_lt, i32_le, i32_eq, i32_add, i32_sub, i32_mul, t32_m1, t32_0, t32_1] at hbz1 hq0_1 c_4 hbz8 hq0_8 c_11 ⊢) <;> intros <;> omega))⟩, (by rw [ht]; exact hP), va_K.moved hW.alike hK, hD⟩, hS.F ht⟩) hS.2.2 dX7_areFriends_24
    · have hE := ineg c_11 hE
      refine lv_iload_n hx hb dX7_areFriends_14 rfl (lv_at hl 0 rfl) ?_
      refine lv_iload_n hx hb dX7_areFriends_15 rfl (lv_at hl 1 rfl) ?_
      refine lv_icmp_eq (tgt := 23) hx hb dX7_areFriends_16 (by decide) (fun c_16 => ?_) (fun c_16 => ?_)
      · have hE := ipos c_16 hE
        refine lv_iconst (v := (0 : Int32)) hx hb dX7_areFriends_23 (by decide) ?_
        exact W.zret (v := (0 : Int32)) (ty := .boolean) hx hb hr rfl (fun t ht hW => ⟨⟨(0 : Int32), (), rfl, ⟨hE.trans hRES, Or.inl rfl, (by first | ((try generalize (fO_isFriend p1) = g1 at hbz1 hq0_1 c_4 hbz8 hq0_8 c_11 c_16 ⊢); (try generalize (fO_isFriend p0) = g0 at hbz1 hq0_1 c_4 hbz8 hq0_8 c_11 c_16 ⊢); (try simp only [not_true_eq_false, not_false_eq_true, false_implies, true_implies, implies_true, vp_in_iff, i32_lt, i32_le, i32_eq, i32_add, i32_sub, i32_mul, t32_m1, t32_0, t32_1] at hbz1 hq0_1 c_4 hbz8 hq0_8 c_11 c_16 ⊢) <;> intros <;> omega))⟩, (by rw [ht]; exact hP), va_K.moved hW.alike hK, hD⟩, hS.F ht⟩) hS.2.2 dX7_areFriends_24
      · have hE := ineg c_16 hE
        refine lv_iconst (v := (1 : Int32)) hx hb dX7_areFriends_19 (by decide) ?_
        refine lv_goto (tgt := 24) hx hb dX7_areFriends_20 (by decide) ?_
        exact W.zret (v := (1 : Int32)) (ty := .boolean) hx hb hr rfl (fun t ht hW => ⟨⟨(1 : Int32), (), rfl, ⟨hE.trans hRES, Or.inr rfl, (by first | ((try generalize (fO_isFriend p1) = g1 at hbz1 hq0_1 c_4 hbz8 hq0_8 c_11 c_16 ⊢); (try generalize (fO_isFriend p0) = g0 at hbz1 hq0_1 c_4 hbz8 hq0_8 c_11 c_16 ⊢); (try simp only [not_true_eq_false, not_false_eq_true, false_implies, true_implies, implies_true, vp_in_iff, i32_lt, i32_le, i32_eq, i32_add, i32_sub, i32_mul, t32_m1, t32_0, t32_1] at hbz1 hq0_1 c_4 hbz8 hq0_8 c_11 c_16 ⊢) <;> intros <;> omega))⟩, (by rw [ht]; exact hP), va_K.moved hW.alike hK, hD⟩, hS.F ht⟩) hS.2.2 dX7_areFriends_24
-- X7_one
def fO_one (p0 : Int32) : Int32 := (if p0 = 0 then (0 : Int32) else (1 : Int32))
set_option maxHeartbeats 4000000 in
set_option maxRecDepth 100000 in
theorem kO_one (l : Launch) (dC : Nat → ClassId) (dI : Nat → Nat → Nat) (cI cB : ClassId) (sz : Nat) (p0 : Int32) : Met l yX7_one wsX7_one ({ frames := 0, cells := 0, slots := 0, locals := 0 }) (va_Pc [.int p0] (PB (dC, dI) vwCl [(cI, .int), (cB, .byte)] [] sz)) (va_Qi (fun (r : Int32) (u : Unit) => r = fO_one p0) (fun (_ : Unit) t => va_P (dC, dI) vwCl [] t.heap ∧ va_K (dC, dI) vwCl [(cI, .int), (cB, .byte)] t ∧ va_D (va_A [] sz) []) (va_A [] sz)) 0 0 (va_A [] sz) := by
  refine Met.ofW (cc := cX7_one) (maxL := 1) (ret := (some .int)) (by decide) rfl ?_
  intro p e s m args below meth c s₁ B hml hv
  obtain ⟨rfl, hsz, hP, hK, hD0⟩ := hv
  have hx := B.exec
  have hb := B.bytes
  have hr := B.returns
  have hts := atoms_spec (ws := wsX7_one) B.pre
  have hown : s.vm.findClass RX7 = some m.cls := findClass_of_methodNamed B.named
  have hlocks := B.notSynchronized
  clear B
  subst hsz
  have hD := hD0.self (sz := s.heap.size)
  clear hD0
  generalize hAe : va_A [] s.heap.size = A at hD ⊢
  have hA : ∀ q : Nat, s.heap.size ≤ q → A q := fun q h => by rw [← hAe]; exact Or.inr h
  clear hAe
  have hS : va_S A s.heap s.heap [] := va_S.rf
  have hP : va_P (dC, dI) vwCl [] s.heap := hP
  have hl := lv_entry ([.int p0]) (n := 1) (Nat.le_of_ble_eq_true rfl)
  rw [lg_entry_eq]
  generalize (lg_sl ([.int p0]) ++ List.replicate (1 - (lg_sl ([.int p0])).length) Slot.unset).toArray = ls at hl ⊢
  have hl : lv_has ls 1 [(0, .int p0)] := hl
  obtain ⟨RES, hRES⟩ : ∃ y, y = fO_one p0 := ⟨_, rfl⟩
  have hE := hRES.symm
  rw [fO_one] at hE
  refine lv_iload_n hx hb dX7_one_0 rfl (lv_at hl 0 rfl) ?_
  refine lv_if_eq (tgt := 8) hx hb dX7_one_1 (by decide) (fun c_1 => ?_) (fun c_1 => ?_)
  · have hE := ipos c_1 hE
    refine lv_iconst (v := (0 : Int32)) hx hb dX7_one_8 (by decide) ?_
    exact W.iret (v := (0 : Int32)) hx hb hr (fun t ht hW => ⟨⟨(0 : Int32), (), rfl, hE.trans hRES, (by rw [ht]; exact hP), va_K.moved hW.alike hK, hD⟩, hS.F ht⟩) hS.2.2 dX7_one_9
  · have hE := ineg c_1 hE
    refine lv_iconst (v := (1 : Int32)) hx hb dX7_one_4 (by decide) ?_
    refine lv_goto (tgt := 9) hx hb dX7_one_5 (by decide) ?_
    exact W.iret (v := (1 : Int32)) hx hb hr (fun t ht hW => ⟨⟨(1 : Int32), (), rfl, hE.trans hRES, (by rw [ht]; exact hP), va_K.moved hW.alike hK, hD⟩, hS.F ht⟩) hS.2.2 dX7_one_9
-- X7_ways
def fO_ways (vOt : Nat → Int32) (p1 : Int32) (p2 : Int32) : Int32 × (Nat → Int32) := (if (fO_isFriend p1) = 0 then ((0 : Int32), vOt) else (if (fO_isIn p2 (0 : Int32) (15 : Int32)) = 0 then ((0 : Int32), vOt) else ((1 : Int32), (upd vOt p1.toNatClampNeg p2))))
set_option maxHeartbeats 4000000 in
set_option maxRecDepth 100000 in
theorem kO_ways (l : Launch) (dC : Nat → ClassId) (dI : Nat → Nat → Nat) (cI cB : ClassId) (aO aOt aOr aOp aOx aOw : Nat) (sz : Nat) (O_drops : Int32) (O_changed : Int32) (O_picked : Int32) (O_taken : Int32) (O_acts : Int32) (O_isForged : Int32) (O_taped : Int32) (O_size : Int32) (O_at : Int32) (O_fault : Int32) (O_wordEnd : Int32) (O_number : Int32) (O_writtenMany : Int32) (vOt : Nat → Int32) (vOr : Nat → Int32) (vOp : Nat → Int32) (vOx : Nat → Int32) (vOw : Nat → Int32) (p1 : Int32) (p2 : Int32) : Met l yX7_ways wsX7_ways ({ frames := 2, cells := 0, slots := 0, locals := 42 }) (va_Pc [.ref aO, .int p1, .int p2] (PB (dC, dI) vwCl [(cI, .int), (cB, .byte)] [(aO, .inr (7, [.ref aOt, .ref aOr, .int O_drops, .int O_changed, .int O_picked, .int O_taken, .int O_acts, .int O_isForged, .ref aOp, .ref aOx, .int O_taped, .int O_size, .int O_at, .int O_fault, .int O_wordEnd, .int O_number, .ref aOw, .int O_writtenMany])), (aOt, .inl (cI, 50, .inl vOt)), (aOr, .inl (cI, 25, .inl vOr)), (aOp, .inl (cB, 600, .inl vOp)), (aOx, .inl (cB, 600, .inl vOx)), (aOw, .inl (cB, 600, .inl vOw))] sz)) (va_Qi (fun (r : Int32) (u : (Nat → Int32)) => (r, u) = fO_ways vOt p1 p2 ∧ (r = 0 ∨ r = 1)) (fun (u : (Nat → Int32)) t => va_P (dC, dI) vwCl [(aO, .inr (7, [.ref aOt, .ref aOr, .int O_drops, .int O_changed, .int O_picked, .int O_taken, .int O_acts, .int O_isForged, .ref aOp, .ref aOx, .int O_taped, .int O_size, .int O_at, .int O_fault, .int O_wordEnd, .int O_number, .ref aOw, .int O_writtenMany])), (aOt, .inl (cI, 50, .inl u)), (aOr, .inl (cI, 25, .inl vOr)), (aOp, .inl (cB, 600, .inl vOp)), (aOx, .inl (cB, 600, .inl vOx)), (aOw, .inl (cB, 600, .inl vOw))] t.heap ∧ va_K (dC, dI) vwCl [(cI, .int), (cB, .byte)] t ∧ va_D (va_A [(aO, .inr (7, [.ref aOt, .ref aOr, .int O_drops, .int O_changed, .int O_picked, .int O_taken, .int O_acts, .int O_isForged, .ref aOp, .ref aOx, .int O_taped, .int O_size, .int O_at, .int O_fault, .int O_wordEnd, .int O_number, .ref aOw, .int O_writtenMany])), (aOt, .inl (cI, 50, .inl vOt)), (aOr, .inl (cI, 25, .inl vOr)), (aOp, .inl (cB, 600, .inl vOp)), (aOx, .inl (cB, 600, .inl vOx)), (aOw, .inl (cB, 600, .inl vOw))] sz) [(aO, .inr (7, [.ref aOt, .ref aOr, .int O_drops, .int O_changed, .int O_picked, .int O_taken, .int O_acts, .int O_isForged, .ref aOp, .ref aOx, .int O_taped, .int O_size, .int O_at, .int O_fault, .int O_wordEnd, .int O_number, .ref aOw, .int O_writtenMany])), (aOt, .inl (cI, 50, .inl u)), (aOr, .inl (cI, 25, .inl vOr)), (aOp, .inl (cB, 600, .inl vOp)), (aOx, .inl (cB, 600, .inl vOx)), (aOw, .inl (cB, 600, .inl vOw))]) (va_A [(aO, .inr (7, [.ref aOt, .ref aOr, .int O_drops, .int O_changed, .int O_picked, .int O_taken, .int O_acts, .int O_isForged, .ref aOp, .ref aOx, .int O_taped, .int O_size, .int O_at, .int O_fault, .int O_wordEnd, .int O_number, .ref aOw, .int O_writtenMany])), (aOt, .inl (cI, 50, .inl vOt)), (aOr, .inl (cI, 25, .inl vOr)), (aOp, .inl (cB, 600, .inl vOp)), (aOx, .inl (cB, 600, .inl vOx)), (aOw, .inl (cB, 600, .inl vOw))] sz)) 0 0 (va_A [(aO, .inr (7, [.ref aOt, .ref aOr, .int O_drops, .int O_changed, .int O_picked, .int O_taken, .int O_acts, .int O_isForged, .ref aOp, .ref aOx, .int O_taped, .int O_size, .int O_at, .int O_fault, .int O_wordEnd, .int O_number, .ref aOw, .int O_writtenMany])), (aOt, .inl (cI, 50, .inl vOt)), (aOr, .inl (cI, 25, .inl vOr)), (aOp, .inl (cB, 600, .inl vOp)), (aOx, .inl (cB, 600, .inl vOx)), (aOw, .inl (cB, 600, .inl vOw))] sz) := by
  refine Met.ofW (cc := cX7_ways) (maxL := 3) (ret := (some .boolean)) (by decide) rfl ?_
  intro p e s m args below meth c s₁ B hml hv
  obtain ⟨rfl, hsz, hP, hK, hD0⟩ := hv
  have hx := B.exec
  have hb := B.bytes
  have hr := B.returns
  have hts := atoms_spec (ws := wsX7_ways) B.pre
  have hown : s.vm.findClass RX7 = some m.cls := findClass_of_methodNamed B.named
  have hlocks := B.notSynchronized
  clear B
  subst hsz
  have hD := hD0.self (sz := s.heap.size)
  clear hD0
  generalize hAe : va_A [(aO, .inr (7, [.ref aOt, .ref aOr, .int O_drops, .int O_changed, .int O_picked, .int O_taken, .int O_acts, .int O_isForged, .ref aOp, .ref aOx, .int O_taped, .int O_size, .int O_at, .int O_fault, .int O_wordEnd, .int O_number, .ref aOw, .int O_writtenMany])), (aOt, .inl (cI, 50, .inl vOt)), (aOr, .inl (cI, 25, .inl vOr)), (aOp, .inl (cB, 600, .inl vOp)), (aOx, .inl (cB, 600, .inl vOx)), (aOw, .inl (cB, 600, .inl vOw))] s.heap.size = A at hD ⊢
  have hA : ∀ q : Nat, s.heap.size ≤ q → A q := fun q h => by rw [← hAe]; exact Or.inr h
  clear hAe
  have hS : va_S A s.heap s.heap [] := va_S.rf
  have hP : va_P (dC, dI) vwCl [(aO, .inr (7, [.ref aOt, .ref aOr, .int O_drops, .int O_changed, .int O_picked, .int O_taken, .int O_acts, .int O_isForged, .ref aOp, .ref aOx, .int O_taped, .int O_size, .int O_at, .int O_fault, .int O_wordEnd, .int O_number, .ref aOw, .int O_writtenMany])), (aOt, .inl (cI, 50, .inl vOt)), (aOr, .inl (cI, 25, .inl vOr)), (aOp, .inl (cB, 600, .inl vOp)), (aOx, .inl (cB, 600, .inl vOx)), (aOw, .inl (cB, 600, .inl vOw))] s.heap := hP
  have hl := lv_entry ([.ref aO, .int p1, .int p2]) (n := 3) (Nat.le_of_ble_eq_true rfl)
  rw [lg_entry_eq]
  generalize (lg_sl ([.ref aO, .int p1, .int p2]) ++ List.replicate (3 - (lg_sl ([.ref aO, .int p1, .int p2])).length) Slot.unset).toArray = ls at hl ⊢
  have hl : lv_has ls 3 [(0, .ref aO), (1, .int p1), (2, .int p2)] := hl
  obtain ⟨RES, hRES⟩ : ∃ y, y = fO_ways vOt p1 p2 := ⟨_, rfl⟩
  have hE := hRES.symm
  rw [fO_ways] at hE
  refine lv_iload_n hx hb dX7_ways_0 rfl (lv_at hl 1 rfl) ?_
  have hPc := hP.sub (ws' := []) [] rfl
  have hDc := hD.sub (ws' := []) [] (by decide) rfl
  have hFc := va_free (wc := []) hD hS hA [] rfl
  refine va_calli (va_runS (As := [.int p1]) (rest := []) ⟨hx, hb, hml, hown, hts⟩ (kO_isFriend l dC dI cI cB s.heap.size p1 ) (va_cwS 1 hts gX7_ways_X7_isFriend rfl rfl rfl (by decide +kernel) ⟨Nat.le_of_ble_eq_true rfl, Nat.le_of_ble_eq_true rfl⟩) (pre_S hK hPc hDc) rfl rfl hl.1 rfl (lv_room (Nat.le_of_ble_eq_true rfl)) dX7_ways_1 ⟨(Nat.zero_le _), (Nat.zero_le _)⟩) hS (fun q _ h => hFc q h) hFc (fun r1 u t H1 locs ht hvm hw hB hz1 hk1 hS => ?_)
  obtain ⟨hP1, hK1, hD1⟩ := hB
  rw [ht] at hP1
  obtain ⟨hw, hbz1, hq0_1⟩ := hw
  have hw := hw.symm
  subst hw
  obtain ⟨hP, hD⟩ := va_join (wr := [(aO, .inr (7, [.ref aOt, .ref aOr, .int O_drops, .int O_changed, .int O_picked, .int O_taken, .int O_acts, .int O_isForged, .ref aOp, .ref aOx, .int O_taped, .int O_size, .int O_at, .int O_fault, .int O_wordEnd, .int O_number, .ref aOw, .int O_writtenMany])), (aOt, .inl (cI, 50, .inl vOt)), (aOr, .inl (cI, 25, .inl vOr)), (aOp, .inl (cB, 600, .inl vOp)), (aOx, .inl (cB, 600, .inl vOx)), (aOw, .inl (cB, 600, .inl vOw))]) (w1 := []) hP hD [] [0, 1, 2, 3, 4, 5] rfl rfl (by decide) (by decide) hk1 hFc hP1 hD1
  generalize H1 = H at hP hS ⊢
  have hP : va_P (dC, dI) vwCl [(aO, .inr (7, [.ref aOt, .ref aOr, .int O_drops, .int O_changed, .int O_picked, .int O_taken, .int O_acts, .int O_isForged, .ref aOp, .ref aOx, .int O_taped, .int O_size, .int O_at, .int O_fault, .int O_wordEnd, .int O_number, .ref aOw, .int O_writtenMany])), (aOt, .inl (cI, 50, .inl vOt)), (aOr, .inl (cI, 25, .inl vOr)), (aOp, .inl (cB, 600, .inl vOp)), (aOx, .inl (cB, 600, .inl vOx)), (aOw, .inl (cB, 600, .inl vOw))] H := hP
  have hD : va_D A [(aO, .inr (7, [.ref aOt, .ref aOr, .int O_drops, .int O_changed, .int O_picked, .int O_taken, .int O_acts, .int O_isForged, .ref aOp, .ref aOx, .int O_taped, .int O_size, .int O_at, .int O_fault, .int O_wordEnd, .int O_number, .ref aOw, .int O_writtenMany])), (aOt, .inl (cI, 50, .inl vOt)), (aOr, .inl (cI, 25, .inl vOr)), (aOp, .inl (cB, 600, .inl vOp)), (aOx, .inl (cB, 600, .inl vOx)), (aOw, .inl (cB, 600, .inl vOw))] := hD
  refine lv_if_eq (tgt := 17) hx hb dX7_ways_4 (by decide) (fun c_4 => ?_) (fun c_4 => ?_)
  · have hE := ipos c_4 hE
    refine lv_iconst (v := (0 : Int32)) hx hb dX7_ways_17 (by decide) ?_
    exact W.zret (v := (0 : Int32)) (ty := .boolean) hx hb hr rfl (fun t ht hW => ⟨⟨(0 : Int32), (vOt), rfl, ⟨hE.trans hRES, Or.inl rfl⟩, (by rw [ht]; exact hP), va_K.moved hW.alike hK, hD⟩, hS.F ht⟩) hS.2.2 dX7_ways_18
  · have hE := ineg c_4 hE
    refine lv_iload_n hx hb dX7_ways_7 rfl (lv_at hl 2 rfl) ?_
    refine lv_iconst (v := (0 : Int32)) hx hb dX7_ways_8 (by decide) ?_
    refine lv_bipush (v := (15 : Int32)) hx hb dX7_ways_9 (by decide) ?_
    have hPc := hP.sub (ws' := []) [] rfl
    have hDc := hD.sub (ws' := []) [] (by decide) rfl
    have hFc := va_free (wc := []) hD hS hA [] rfl
    refine va_calli (va_runS (As := [.int p2, .int (0 : Int32), .int (15 : Int32)]) (rest := []) ⟨hx, hb, hml, hown, hts⟩ (kO_isIn l dC dI cI cB H.size p2 (0 : Int32) (15 : Int32) ) (va_cwS 3 hts gX7_ways_X7_isIn rfl rfl rfl (by decide +kernel) ⟨Nat.le_of_ble_eq_true rfl, Nat.le_of_ble_eq_true rfl⟩) (pre_S hK hPc hDc) rfl rfl hl.1 rfl (lv_room (Nat.le_of_ble_eq_true rfl)) dX7_ways_11 ⟨(Nat.zero_le _), (Nat.zero_le _)⟩) hS (fun q _ h => hFc q h) hFc (fun r11 u t H1 locs ht hvm hw hB hz1 hk1 hS => ?_)
    obtain ⟨hP1, hK1, hD1⟩ := hB
    rw [ht] at hP1
    obtain ⟨hw, hbz11, hq0_11⟩ := hw
    have hw := hw.symm
    subst hw
    obtain ⟨hP, hD⟩ := va_join (wr := [(aO, .inr (7, [.ref aOt, .ref aOr, .int O_drops, .int O_changed, .int O_picked, .int O_taken, .int O_acts, .int O_isForged, .ref aOp, .ref aOx, .int O_taped, .int O_size, .int O_at, .int O_fault, .int O_wordEnd, .int O_number, .ref aOw, .int O_writtenMany])), (aOt, .inl (cI, 50, .inl vOt)), (aOr, .inl (cI, 25, .inl vOr)), (aOp, .inl (cB, 600, .inl vOp)), (aOx, .inl (cB, 600, .inl vOx)), (aOw, .inl (cB, 600, .inl vOw))]) (w1 := []) hP hD [] [0, 1, 2, 3, 4, 5] rfl rfl (by decide) (by decide) hk1 hFc hP1 hD1
    generalize H1 = H at hP hS ⊢
    have hP : va_P (dC, dI) vwCl [(aO, .inr (7, [.ref aOt, .ref aOr, .int O_drops, .int O_changed, .int O_picked, .int O_taken, .int O_acts, .int O_isForged, .ref aOp, .ref aOx, .int O_taped, .int O_size, .int O_at, .int O_fault, .int O_wordEnd, .int O_number, .ref aOw, .int O_writtenMany])), (aOt, .inl (cI, 50, .inl vOt)), (aOr, .inl (cI, 25, .inl vOr)), (aOp, .inl (cB, 600, .inl vOp)), (aOx, .inl (cB, 600, .inl vOx)), (aOw, .inl (cB, 600, .inl vOw))] H := hP
    have hD : va_D A [(aO, .inr (7, [.ref aOt, .ref aOr, .int O_drops, .int O_changed, .int O_picked, .int O_taken, .int O_acts, .int O_isForged, .ref aOp, .ref aOx, .int O_taped, .int O_size, .int O_at, .int O_fault, .int O_wordEnd, .int O_number, .ref aOw, .int O_writtenMany])), (aOt, .inl (cI, 50, .inl vOt)), (aOr, .inl (cI, 25, .inl vOr)), (aOp, .inl (cB, 600, .inl vOp)), (aOx, .inl (cB, 600, .inl vOx)), (aOw, .inl (cB, 600, .inl vOw))] := hD
    refine lv_if_ne (tgt := 19) hx hb dX7_ways_14 (by decide) (fun c_14 => ?_) (fun c_14 => ?_)
    · have hE := ineg c_14 hE
      refine lv_aload_n hx hb dX7_ways_19 rfl (lv_at hl 0 rfl) ?_
      refine va_get (D := (dC, dI)) (ci := 7) (v := .ref aOt) (C := RX7) (T := TX7) (N := 18) hx hb hts (fun _ h => List.mem_cons_of_mem _ (List.mem_append_right _ h)) hown hK hP 0 rfl rfl 0 (by decide) (hts _ (List.mem_cons_of_mem _ (List.mem_append_left _ (List.mem_of_getElem? (i := 0) rfl)))) (fun _ h9 => h9) rfl dX7_ways_20 ?_
      refine lv_iload_n hx hb dX7_ways_23 rfl (lv_at hl 1 rfl) ?_
      refine lv_iload_n hx hb dX7_ways_24 rfl (lv_at hl 2 rfl) ?_
      refine va_iast (D := (dC, dI)) (cl := vwCl) hx hb hK hP hD hS 1 0 rfl rfl (by first | ((try generalize (fO_isIn p2 (0 : Int32) (15 : Int32)) = g1 at hbz1 hq0_1 c_4 hbz11 hq0_11 c_14 ⊢); (try generalize (fO_isFriend p1) = g0 at hbz1 hq0_1 c_4 hbz11 hq0_11 c_14 ⊢); (try simp only [not_true_eq_false, not_false_eq_true, false_implies, true_implies, implies_true, vp_in_iff, i32_lt, i32_le, i32_eq, i32_add, i32_sub, i32_mul, t32_m1, t32_0, t32_1, t32_15] at hbz1 hq0_1 c_4 hbz11 hq0_11 c_14 ⊢) <;> intros <;> omega)) dX7_ways_25 (fun H locs hP hD hS => ?_)
      have hP : va_P (dC, dI) vwCl [(aO, .inr (7, [.ref aOt, .ref aOr, .int O_drops, .int O_changed, .int O_picked, .int O_taken, .int O_acts, .int O_isForged, .ref aOp, .ref aOx, .int O_taped, .int O_size, .int O_at, .int O_fault, .int O_wordEnd, .int O_number, .ref aOw, .int O_writtenMany])), (aOt, .inl (cI, 50, .inl (upd vOt p1.toNatClampNeg p2))), (aOr, .inl (cI, 25, .inl vOr)), (aOp, .inl (cB, 600, .inl vOp)), (aOx, .inl (cB, 600, .inl vOx)), (aOw, .inl (cB, 600, .inl vOw))] H := hP
      have hD : va_D A [(aO, .inr (7, [.ref aOt, .ref aOr, .int O_drops, .int O_changed, .int O_picked, .int O_taken, .int O_acts, .int O_isForged, .ref aOp, .ref aOx, .int O_taped, .int O_size, .int O_at, .int O_fault, .int O_wordEnd, .int O_number, .ref aOw, .int O_writtenMany])), (aOt, .inl (cI, 50, .inl (upd vOt p1.toNatClampNeg p2))), (aOr, .inl (cI, 25, .inl vOr)), (aOp, .inl (cB, 600, .inl vOp)), (aOx, .inl (cB, 600, .inl vOx)), (aOw, .inl (cB, 600, .inl vOw))] := hD
      refine lv_iconst (v := (1 : Int32)) hx hb dX7_ways_26 (by decide) ?_
      exact W.zret (v := (1 : Int32)) (ty := .boolean) hx hb hr rfl (fun t ht hW => ⟨⟨(1 : Int32), ((upd vOt p1.toNatClampNeg p2)), rfl, ⟨hE.trans hRES, Or.inr rfl⟩, (by rw [ht]; exact hP), va_K.moved hW.alike hK, hD⟩, hS.F ht⟩) hS.2.2 dX7_ways_27
    · have hE := ipos c_14 hE
      refine lv_iconst (v := (0 : Int32)) hx hb dX7_ways_17 (by decide) ?_
      exact W.zret (v := (0 : Int32)) (ty := .boolean) hx hb hr rfl (fun t ht hW => ⟨⟨(0 : Int32), (vOt), rfl, ⟨hE.trans hRES, Or.inl rfl⟩, (by rw [ht]; exact hP), va_K.moved hW.alike hK, hD⟩, hS.F ht⟩) hS.2.2 dX7_ways_18
-- X7_broken
def fO_broken (vOt : Nat → Int32) (p1 : Int32) : Int32 × (Nat → Int32) := (if (fO_isIn p1 (0 : Int32) (15 : Int32)) = 0 then ((0 : Int32), vOt) else ((1 : Int32), (upd vOt (5 : Int32).toNatClampNeg p1)))
set_option maxHeartbeats 4000000 in
set_option maxRecDepth 100000 in
theorem kO_broken (l : Launch) (dC : Nat → ClassId) (dI : Nat → Nat → Nat) (cI cB : ClassId) (aO aOt aOr aOp aOx aOw : Nat) (sz : Nat) (O_drops : Int32) (O_changed : Int32) (O_picked : Int32) (O_taken : Int32) (O_acts : Int32) (O_isForged : Int32) (O_taped : Int32) (O_size : Int32) (O_at : Int32) (O_fault : Int32) (O_wordEnd : Int32) (O_number : Int32) (O_writtenMany : Int32) (vOt : Nat → Int32) (vOr : Nat → Int32) (vOp : Nat → Int32) (vOx : Nat → Int32) (vOw : Nat → Int32) (p1 : Int32) : Met l yX7_broken wsX7_broken ({ frames := 1, cells := 0, slots := 0, locals := 22 }) (va_Pc [.ref aO, .int p1] (PB (dC, dI) vwCl [(cI, .int), (cB, .byte)] [(aO, .inr (7, [.ref aOt, .ref aOr, .int O_drops, .int O_changed, .int O_picked, .int O_taken, .int O_acts, .int O_isForged, .ref aOp, .ref aOx, .int O_taped, .int O_size, .int O_at, .int O_fault, .int O_wordEnd, .int O_number, .ref aOw, .int O_writtenMany])), (aOt, .inl (cI, 50, .inl vOt)), (aOr, .inl (cI, 25, .inl vOr)), (aOp, .inl (cB, 600, .inl vOp)), (aOx, .inl (cB, 600, .inl vOx)), (aOw, .inl (cB, 600, .inl vOw))] sz)) (va_Qi (fun (r : Int32) (u : (Nat → Int32)) => (r, u) = fO_broken vOt p1 ∧ (r = 0 ∨ r = 1)) (fun (u : (Nat → Int32)) t => va_P (dC, dI) vwCl [(aO, .inr (7, [.ref aOt, .ref aOr, .int O_drops, .int O_changed, .int O_picked, .int O_taken, .int O_acts, .int O_isForged, .ref aOp, .ref aOx, .int O_taped, .int O_size, .int O_at, .int O_fault, .int O_wordEnd, .int O_number, .ref aOw, .int O_writtenMany])), (aOt, .inl (cI, 50, .inl u)), (aOr, .inl (cI, 25, .inl vOr)), (aOp, .inl (cB, 600, .inl vOp)), (aOx, .inl (cB, 600, .inl vOx)), (aOw, .inl (cB, 600, .inl vOw))] t.heap ∧ va_K (dC, dI) vwCl [(cI, .int), (cB, .byte)] t ∧ va_D (va_A [(aO, .inr (7, [.ref aOt, .ref aOr, .int O_drops, .int O_changed, .int O_picked, .int O_taken, .int O_acts, .int O_isForged, .ref aOp, .ref aOx, .int O_taped, .int O_size, .int O_at, .int O_fault, .int O_wordEnd, .int O_number, .ref aOw, .int O_writtenMany])), (aOt, .inl (cI, 50, .inl vOt)), (aOr, .inl (cI, 25, .inl vOr)), (aOp, .inl (cB, 600, .inl vOp)), (aOx, .inl (cB, 600, .inl vOx)), (aOw, .inl (cB, 600, .inl vOw))] sz) [(aO, .inr (7, [.ref aOt, .ref aOr, .int O_drops, .int O_changed, .int O_picked, .int O_taken, .int O_acts, .int O_isForged, .ref aOp, .ref aOx, .int O_taped, .int O_size, .int O_at, .int O_fault, .int O_wordEnd, .int O_number, .ref aOw, .int O_writtenMany])), (aOt, .inl (cI, 50, .inl u)), (aOr, .inl (cI, 25, .inl vOr)), (aOp, .inl (cB, 600, .inl vOp)), (aOx, .inl (cB, 600, .inl vOx)), (aOw, .inl (cB, 600, .inl vOw))]) (va_A [(aO, .inr (7, [.ref aOt, .ref aOr, .int O_drops, .int O_changed, .int O_picked, .int O_taken, .int O_acts, .int O_isForged, .ref aOp, .ref aOx, .int O_taped, .int O_size, .int O_at, .int O_fault, .int O_wordEnd, .int O_number, .ref aOw, .int O_writtenMany])), (aOt, .inl (cI, 50, .inl vOt)), (aOr, .inl (cI, 25, .inl vOr)), (aOp, .inl (cB, 600, .inl vOp)), (aOx, .inl (cB, 600, .inl vOx)), (aOw, .inl (cB, 600, .inl vOw))] sz)) 0 0 (va_A [(aO, .inr (7, [.ref aOt, .ref aOr, .int O_drops, .int O_changed, .int O_picked, .int O_taken, .int O_acts, .int O_isForged, .ref aOp, .ref aOx, .int O_taped, .int O_size, .int O_at, .int O_fault, .int O_wordEnd, .int O_number, .ref aOw, .int O_writtenMany])), (aOt, .inl (cI, 50, .inl vOt)), (aOr, .inl (cI, 25, .inl vOr)), (aOp, .inl (cB, 600, .inl vOp)), (aOx, .inl (cB, 600, .inl vOx)), (aOw, .inl (cB, 600, .inl vOw))] sz) := by
  refine Met.ofW (cc := cX7_broken) (maxL := 2) (ret := (some .boolean)) (by decide) rfl ?_
  intro p e s m args below meth c s₁ B hml hv
  obtain ⟨rfl, hsz, hP, hK, hD0⟩ := hv
  have hx := B.exec
  have hb := B.bytes
  have hr := B.returns
  have hts := atoms_spec (ws := wsX7_broken) B.pre
  have hown : s.vm.findClass RX7 = some m.cls := findClass_of_methodNamed B.named
  have hlocks := B.notSynchronized
  clear B
  subst hsz
  have hD := hD0.self (sz := s.heap.size)
  clear hD0
  generalize hAe : va_A [(aO, .inr (7, [.ref aOt, .ref aOr, .int O_drops, .int O_changed, .int O_picked, .int O_taken, .int O_acts, .int O_isForged, .ref aOp, .ref aOx, .int O_taped, .int O_size, .int O_at, .int O_fault, .int O_wordEnd, .int O_number, .ref aOw, .int O_writtenMany])), (aOt, .inl (cI, 50, .inl vOt)), (aOr, .inl (cI, 25, .inl vOr)), (aOp, .inl (cB, 600, .inl vOp)), (aOx, .inl (cB, 600, .inl vOx)), (aOw, .inl (cB, 600, .inl vOw))] s.heap.size = A at hD ⊢
  have hA : ∀ q : Nat, s.heap.size ≤ q → A q := fun q h => by rw [← hAe]; exact Or.inr h
  clear hAe
  have hS : va_S A s.heap s.heap [] := va_S.rf
  have hP : va_P (dC, dI) vwCl [(aO, .inr (7, [.ref aOt, .ref aOr, .int O_drops, .int O_changed, .int O_picked, .int O_taken, .int O_acts, .int O_isForged, .ref aOp, .ref aOx, .int O_taped, .int O_size, .int O_at, .int O_fault, .int O_wordEnd, .int O_number, .ref aOw, .int O_writtenMany])), (aOt, .inl (cI, 50, .inl vOt)), (aOr, .inl (cI, 25, .inl vOr)), (aOp, .inl (cB, 600, .inl vOp)), (aOx, .inl (cB, 600, .inl vOx)), (aOw, .inl (cB, 600, .inl vOw))] s.heap := hP
  have hl := lv_entry ([.ref aO, .int p1]) (n := 2) (Nat.le_of_ble_eq_true rfl)
  rw [lg_entry_eq]
  generalize (lg_sl ([.ref aO, .int p1]) ++ List.replicate (2 - (lg_sl ([.ref aO, .int p1])).length) Slot.unset).toArray = ls at hl ⊢
  have hl : lv_has ls 2 [(0, .ref aO), (1, .int p1)] := hl
  obtain ⟨RES, hRES⟩ : ∃ y, y = fO_broken vOt p1 := ⟨_, rfl⟩
  have hE := hRES.symm
  rw [fO_broken] at hE
  refine lv_iload_n hx hb dX7_broken_0 rfl (lv_at hl 1 rfl) ?_
  refine lv_iconst (v := (0 : Int32)) hx hb dX7_broken_1 (by decide) ?_
  refine lv_bipush (v := (15 : Int32)) hx hb dX7_broken_2 (by decide) ?_
  have hPc := hP.sub (ws' := []) [] rfl
  have hDc := hD.sub (ws' := []) [] (by decide) rfl
  have hFc := va_free (wc := []) hD hS hA [] rfl
  refine va_calli (va_runS (As := [.int p1, .int (0 : Int32), .int (15 : Int32)]) (rest := []) ⟨hx, hb, hml, hown, hts⟩ (kO_isIn l dC dI cI cB s.heap.size p1 (0 : Int32) (15 : Int32) ) (va_cwS 3 hts gX7_broken_X7_isIn rfl rfl rfl (by decide +kernel) ⟨Nat.le_of_ble_eq_true rfl, Nat.le_of_ble_eq_true rfl⟩) (pre_S hK hPc hDc) rfl rfl hl.1 rfl (lv_room (Nat.le_of_ble_eq_true rfl)) dX7_broken_4 ⟨(Nat.zero_le _), (Nat.zero_le _)⟩) hS (fun q _ h => hFc q h) hFc (fun r4 u t H1 locs ht hvm hw hB hz1 hk1 hS => ?_)
  obtain ⟨hP1, hK1, hD1⟩ := hB
  rw [ht] at hP1
  obtain ⟨hw, hbz4, hq0_4⟩ := hw
  have hw := hw.symm
  subst hw
  obtain ⟨hP, hD⟩ := va_join (wr := [(aO, .inr (7, [.ref aOt, .ref aOr, .int O_drops, .int O_changed, .int O_picked, .int O_taken, .int O_acts, .int O_isForged, .ref aOp, .ref aOx, .int O_taped, .int O_size, .int O_at, .int O_fault, .int O_wordEnd, .int O_number, .ref aOw, .int O_writtenMany])), (aOt, .inl (cI, 50, .inl vOt)), (aOr, .inl (cI, 25, .inl vOr)), (aOp, .inl (cB, 600, .inl vOp)), (aOx, .inl (cB, 600, .inl vOx)), (aOw, .inl (cB, 600, .inl vOw))]) (w1 := []) hP hD [] [0, 1, 2, 3, 4, 5] rfl rfl (by decide) (by decide) hk1 hFc hP1 hD1
  generalize H1 = H at hP hS ⊢
  have hP : va_P (dC, dI) vwCl [(aO, .inr (7, [.ref aOt, .ref aOr, .int O_drops, .int O_changed, .int O_picked, .int O_taken, .int O_acts, .int O_isForged, .ref aOp, .ref aOx, .int O_taped, .int O_size, .int O_at, .int O_fault, .int O_wordEnd, .int O_number, .ref aOw, .int O_writtenMany])), (aOt, .inl (cI, 50, .inl vOt)), (aOr, .inl (cI, 25, .inl vOr)), (aOp, .inl (cB, 600, .inl vOp)), (aOx, .inl (cB, 600, .inl vOx)), (aOw, .inl (cB, 600, .inl vOw))] H := hP
  have hD : va_D A [(aO, .inr (7, [.ref aOt, .ref aOr, .int O_drops, .int O_changed, .int O_picked, .int O_taken, .int O_acts, .int O_isForged, .ref aOp, .ref aOx, .int O_taped, .int O_size, .int O_at, .int O_fault, .int O_wordEnd, .int O_number, .ref aOw, .int O_writtenMany])), (aOt, .inl (cI, 50, .inl vOt)), (aOr, .inl (cI, 25, .inl vOr)), (aOp, .inl (cB, 600, .inl vOp)), (aOx, .inl (cB, 600, .inl vOx)), (aOw, .inl (cB, 600, .inl vOw))] := hD
  refine lv_if_ne (tgt := 12) hx hb dX7_broken_7 (by decide) (fun c_7 => ?_) (fun c_7 => ?_)
  · have hE := ineg c_7 hE
    refine lv_aload_n hx hb dX7_broken_12 rfl (lv_at hl 0 rfl) ?_
    refine va_get (D := (dC, dI)) (ci := 7) (v := .ref aOt) (C := RX7) (T := TX7) (N := 18) hx hb hts (fun _ h => List.mem_cons_of_mem _ (List.mem_append_right _ h)) hown hK hP 0 rfl rfl 0 (by decide) (hts _ (List.mem_cons_of_mem _ (List.mem_append_left _ (List.mem_of_getElem? (i := 0) rfl)))) (fun _ h9 => h9) rfl dX7_broken_13 ?_
    refine lv_iconst (v := (5 : Int32)) hx hb dX7_broken_16 (by decide) ?_
    refine lv_iload_n hx hb dX7_broken_17 rfl (lv_at hl 1 rfl) ?_
    refine va_iast (D := (dC, dI)) (cl := vwCl) hx hb hK hP hD hS 1 0 rfl rfl (vp_in_iff.mpr (by decide)) dX7_broken_18 (fun H locs hP hD hS => ?_)
    have hP : va_P (dC, dI) vwCl [(aO, .inr (7, [.ref aOt, .ref aOr, .int O_drops, .int O_changed, .int O_picked, .int O_taken, .int O_acts, .int O_isForged, .ref aOp, .ref aOx, .int O_taped, .int O_size, .int O_at, .int O_fault, .int O_wordEnd, .int O_number, .ref aOw, .int O_writtenMany])), (aOt, .inl (cI, 50, .inl (upd vOt (5 : Int32).toNatClampNeg p1))), (aOr, .inl (cI, 25, .inl vOr)), (aOp, .inl (cB, 600, .inl vOp)), (aOx, .inl (cB, 600, .inl vOx)), (aOw, .inl (cB, 600, .inl vOw))] H := hP
    have hD : va_D A [(aO, .inr (7, [.ref aOt, .ref aOr, .int O_drops, .int O_changed, .int O_picked, .int O_taken, .int O_acts, .int O_isForged, .ref aOp, .ref aOx, .int O_taped, .int O_size, .int O_at, .int O_fault, .int O_wordEnd, .int O_number, .ref aOw, .int O_writtenMany])), (aOt, .inl (cI, 50, .inl (upd vOt (5 : Int32).toNatClampNeg p1))), (aOr, .inl (cI, 25, .inl vOr)), (aOp, .inl (cB, 600, .inl vOp)), (aOx, .inl (cB, 600, .inl vOx)), (aOw, .inl (cB, 600, .inl vOw))] := hD
    refine lv_iconst (v := (1 : Int32)) hx hb dX7_broken_19 (by decide) ?_
    exact W.zret (v := (1 : Int32)) (ty := .boolean) hx hb hr rfl (fun t ht hW => ⟨⟨(1 : Int32), ((upd vOt (5 : Int32).toNatClampNeg p1)), rfl, ⟨hE.trans hRES, Or.inr rfl⟩, (by rw [ht]; exact hP), va_K.moved hW.alike hK, hD⟩, hS.F ht⟩) hS.2.2 dX7_broken_20
  · have hE := ipos c_7 hE
    refine lv_iconst (v := (0 : Int32)) hx hb dX7_broken_10 (by decide) ?_
    exact W.zret (v := (0 : Int32)) (ty := .boolean) hx hb hr rfl (fun t ht hW => ⟨⟨(0 : Int32), (vOt), rfl, ⟨hE.trans hRES, Or.inl rfl⟩, (by rw [ht]; exact hP), va_K.moved hW.alike hK, hD⟩, hS.F ht⟩) hS.2.2 dX7_broken_11
-- X7_retries
def fO_retries (vOt : Nat → Int32) (p1 : Int32) : Int32 × (Nat → Int32) := (if (fO_isIn p1 (0 : Int32) (3 : Int32)) = 0 then ((0 : Int32), vOt) else ((1 : Int32), (upd vOt (6 : Int32).toNatClampNeg p1)))
set_option maxHeartbeats 4000000 in
set_option maxRecDepth 100000 in
theorem kO_retries (l : Launch) (dC : Nat → ClassId) (dI : Nat → Nat → Nat) (cI cB : ClassId) (aO aOt aOr aOp aOx aOw : Nat) (sz : Nat) (O_drops : Int32) (O_changed : Int32) (O_picked : Int32) (O_taken : Int32) (O_acts : Int32) (O_isForged : Int32) (O_taped : Int32) (O_size : Int32) (O_at : Int32) (O_fault : Int32) (O_wordEnd : Int32) (O_number : Int32) (O_writtenMany : Int32) (vOt : Nat → Int32) (vOr : Nat → Int32) (vOp : Nat → Int32) (vOx : Nat → Int32) (vOw : Nat → Int32) (p1 : Int32) : Met l yX7_retries wsX7_retries ({ frames := 1, cells := 0, slots := 0, locals := 22 }) (va_Pc [.ref aO, .int p1] (PB (dC, dI) vwCl [(cI, .int), (cB, .byte)] [(aO, .inr (7, [.ref aOt, .ref aOr, .int O_drops, .int O_changed, .int O_picked, .int O_taken, .int O_acts, .int O_isForged, .ref aOp, .ref aOx, .int O_taped, .int O_size, .int O_at, .int O_fault, .int O_wordEnd, .int O_number, .ref aOw, .int O_writtenMany])), (aOt, .inl (cI, 50, .inl vOt)), (aOr, .inl (cI, 25, .inl vOr)), (aOp, .inl (cB, 600, .inl vOp)), (aOx, .inl (cB, 600, .inl vOx)), (aOw, .inl (cB, 600, .inl vOw))] sz)) (va_Qi (fun (r : Int32) (u : (Nat → Int32)) => (r, u) = fO_retries vOt p1 ∧ (r = 0 ∨ r = 1)) (fun (u : (Nat → Int32)) t => va_P (dC, dI) vwCl [(aO, .inr (7, [.ref aOt, .ref aOr, .int O_drops, .int O_changed, .int O_picked, .int O_taken, .int O_acts, .int O_isForged, .ref aOp, .ref aOx, .int O_taped, .int O_size, .int O_at, .int O_fault, .int O_wordEnd, .int O_number, .ref aOw, .int O_writtenMany])), (aOt, .inl (cI, 50, .inl u)), (aOr, .inl (cI, 25, .inl vOr)), (aOp, .inl (cB, 600, .inl vOp)), (aOx, .inl (cB, 600, .inl vOx)), (aOw, .inl (cB, 600, .inl vOw))] t.heap ∧ va_K (dC, dI) vwCl [(cI, .int), (cB, .byte)] t ∧ va_D (va_A [(aO, .inr (7, [.ref aOt, .ref aOr, .int O_drops, .int O_changed, .int O_picked, .int O_taken, .int O_acts, .int O_isForged, .ref aOp, .ref aOx, .int O_taped, .int O_size, .int O_at, .int O_fault, .int O_wordEnd, .int O_number, .ref aOw, .int O_writtenMany])), (aOt, .inl (cI, 50, .inl vOt)), (aOr, .inl (cI, 25, .inl vOr)), (aOp, .inl (cB, 600, .inl vOp)), (aOx, .inl (cB, 600, .inl vOx)), (aOw, .inl (cB, 600, .inl vOw))] sz) [(aO, .inr (7, [.ref aOt, .ref aOr, .int O_drops, .int O_changed, .int O_picked, .int O_taken, .int O_acts, .int O_isForged, .ref aOp, .ref aOx, .int O_taped, .int O_size, .int O_at, .int O_fault, .int O_wordEnd, .int O_number, .ref aOw, .int O_writtenMany])), (aOt, .inl (cI, 50, .inl u)), (aOr, .inl (cI, 25, .inl vOr)), (aOp, .inl (cB, 600, .inl vOp)), (aOx, .inl (cB, 600, .inl vOx)), (aOw, .inl (cB, 600, .inl vOw))]) (va_A [(aO, .inr (7, [.ref aOt, .ref aOr, .int O_drops, .int O_changed, .int O_picked, .int O_taken, .int O_acts, .int O_isForged, .ref aOp, .ref aOx, .int O_taped, .int O_size, .int O_at, .int O_fault, .int O_wordEnd, .int O_number, .ref aOw, .int O_writtenMany])), (aOt, .inl (cI, 50, .inl vOt)), (aOr, .inl (cI, 25, .inl vOr)), (aOp, .inl (cB, 600, .inl vOp)), (aOx, .inl (cB, 600, .inl vOx)), (aOw, .inl (cB, 600, .inl vOw))] sz)) 0 0 (va_A [(aO, .inr (7, [.ref aOt, .ref aOr, .int O_drops, .int O_changed, .int O_picked, .int O_taken, .int O_acts, .int O_isForged, .ref aOp, .ref aOx, .int O_taped, .int O_size, .int O_at, .int O_fault, .int O_wordEnd, .int O_number, .ref aOw, .int O_writtenMany])), (aOt, .inl (cI, 50, .inl vOt)), (aOr, .inl (cI, 25, .inl vOr)), (aOp, .inl (cB, 600, .inl vOp)), (aOx, .inl (cB, 600, .inl vOx)), (aOw, .inl (cB, 600, .inl vOw))] sz) := by
  refine Met.ofW (cc := cX7_retries) (maxL := 2) (ret := (some .boolean)) (by decide) rfl ?_
  intro p e s m args below meth c s₁ B hml hv
  obtain ⟨rfl, hsz, hP, hK, hD0⟩ := hv
  have hx := B.exec
  have hb := B.bytes
  have hr := B.returns
  have hts := atoms_spec (ws := wsX7_retries) B.pre
  have hown : s.vm.findClass RX7 = some m.cls := findClass_of_methodNamed B.named
  have hlocks := B.notSynchronized
  clear B
  subst hsz
  have hD := hD0.self (sz := s.heap.size)
  clear hD0
  generalize hAe : va_A [(aO, .inr (7, [.ref aOt, .ref aOr, .int O_drops, .int O_changed, .int O_picked, .int O_taken, .int O_acts, .int O_isForged, .ref aOp, .ref aOx, .int O_taped, .int O_size, .int O_at, .int O_fault, .int O_wordEnd, .int O_number, .ref aOw, .int O_writtenMany])), (aOt, .inl (cI, 50, .inl vOt)), (aOr, .inl (cI, 25, .inl vOr)), (aOp, .inl (cB, 600, .inl vOp)), (aOx, .inl (cB, 600, .inl vOx)), (aOw, .inl (cB, 600, .inl vOw))] s.heap.size = A at hD ⊢
  have hA : ∀ q : Nat, s.heap.size ≤ q → A q := fun q h => by rw [← hAe]; exact Or.inr h
  clear hAe
  have hS : va_S A s.heap s.heap [] := va_S.rf
  have hP : va_P (dC, dI) vwCl [(aO, .inr (7, [.ref aOt, .ref aOr, .int O_drops, .int O_changed, .int O_picked, .int O_taken, .int O_acts, .int O_isForged, .ref aOp, .ref aOx, .int O_taped, .int O_size, .int O_at, .int O_fault, .int O_wordEnd, .int O_number, .ref aOw, .int O_writtenMany])), (aOt, .inl (cI, 50, .inl vOt)), (aOr, .inl (cI, 25, .inl vOr)), (aOp, .inl (cB, 600, .inl vOp)), (aOx, .inl (cB, 600, .inl vOx)), (aOw, .inl (cB, 600, .inl vOw))] s.heap := hP
  have hl := lv_entry ([.ref aO, .int p1]) (n := 2) (Nat.le_of_ble_eq_true rfl)
  rw [lg_entry_eq]
  generalize (lg_sl ([.ref aO, .int p1]) ++ List.replicate (2 - (lg_sl ([.ref aO, .int p1])).length) Slot.unset).toArray = ls at hl ⊢
  have hl : lv_has ls 2 [(0, .ref aO), (1, .int p1)] := hl
  obtain ⟨RES, hRES⟩ : ∃ y, y = fO_retries vOt p1 := ⟨_, rfl⟩
  have hE := hRES.symm
  rw [fO_retries] at hE
  refine lv_iload_n hx hb dX7_retries_0 rfl (lv_at hl 1 rfl) ?_
  refine lv_iconst (v := (0 : Int32)) hx hb dX7_retries_1 (by decide) ?_
  refine lv_iconst (v := (3 : Int32)) hx hb dX7_retries_2 (by decide) ?_
  have hPc := hP.sub (ws' := []) [] rfl
  have hDc := hD.sub (ws' := []) [] (by decide) rfl
  have hFc := va_free (wc := []) hD hS hA [] rfl
  refine va_calli (va_runS (As := [.int p1, .int (0 : Int32), .int (3 : Int32)]) (rest := []) ⟨hx, hb, hml, hown, hts⟩ (kO_isIn l dC dI cI cB s.heap.size p1 (0 : Int32) (3 : Int32) ) (va_cwS 3 hts gX7_retries_X7_isIn rfl rfl rfl (by decide +kernel) ⟨Nat.le_of_ble_eq_true rfl, Nat.le_of_ble_eq_true rfl⟩) (pre_S hK hPc hDc) rfl rfl hl.1 rfl (lv_room (Nat.le_of_ble_eq_true rfl)) dX7_retries_3 ⟨(Nat.zero_le _), (Nat.zero_le _)⟩) hS (fun q _ h => hFc q h) hFc (fun r3 u t H1 locs ht hvm hw hB hz1 hk1 hS => ?_)
  obtain ⟨hP1, hK1, hD1⟩ := hB
  rw [ht] at hP1
  obtain ⟨hw, hbz3, hq0_3⟩ := hw
  have hw := hw.symm
  subst hw
  obtain ⟨hP, hD⟩ := va_join (wr := [(aO, .inr (7, [.ref aOt, .ref aOr, .int O_drops, .int O_changed, .int O_picked, .int O_taken, .int O_acts, .int O_isForged, .ref aOp, .ref aOx, .int O_taped, .int O_size, .int O_at, .int O_fault, .int O_wordEnd, .int O_number, .ref aOw, .int O_writtenMany])), (aOt, .inl (cI, 50, .inl vOt)), (aOr, .inl (cI, 25, .inl vOr)), (aOp, .inl (cB, 600, .inl vOp)), (aOx, .inl (cB, 600, .inl vOx)), (aOw, .inl (cB, 600, .inl vOw))]) (w1 := []) hP hD [] [0, 1, 2, 3, 4, 5] rfl rfl (by decide) (by decide) hk1 hFc hP1 hD1
  generalize H1 = H at hP hS ⊢
  have hP : va_P (dC, dI) vwCl [(aO, .inr (7, [.ref aOt, .ref aOr, .int O_drops, .int O_changed, .int O_picked, .int O_taken, .int O_acts, .int O_isForged, .ref aOp, .ref aOx, .int O_taped, .int O_size, .int O_at, .int O_fault, .int O_wordEnd, .int O_number, .ref aOw, .int O_writtenMany])), (aOt, .inl (cI, 50, .inl vOt)), (aOr, .inl (cI, 25, .inl vOr)), (aOp, .inl (cB, 600, .inl vOp)), (aOx, .inl (cB, 600, .inl vOx)), (aOw, .inl (cB, 600, .inl vOw))] H := hP
  have hD : va_D A [(aO, .inr (7, [.ref aOt, .ref aOr, .int O_drops, .int O_changed, .int O_picked, .int O_taken, .int O_acts, .int O_isForged, .ref aOp, .ref aOx, .int O_taped, .int O_size, .int O_at, .int O_fault, .int O_wordEnd, .int O_number, .ref aOw, .int O_writtenMany])), (aOt, .inl (cI, 50, .inl vOt)), (aOr, .inl (cI, 25, .inl vOr)), (aOp, .inl (cB, 600, .inl vOp)), (aOx, .inl (cB, 600, .inl vOx)), (aOw, .inl (cB, 600, .inl vOw))] := hD
  refine lv_if_ne (tgt := 11) hx hb dX7_retries_6 (by decide) (fun c_6 => ?_) (fun c_6 => ?_)
  · have hE := ineg c_6 hE
    refine lv_aload_n hx hb dX7_retries_11 rfl (lv_at hl 0 rfl) ?_
    refine va_get (D := (dC, dI)) (ci := 7) (v := .ref aOt) (C := RX7) (T := TX7) (N := 18) hx hb hts (fun _ h => List.mem_cons_of_mem _ (List.mem_append_right _ h)) hown hK hP 0 rfl rfl 0 (by decide) (hts _ (List.mem_cons_of_mem _ (List.mem_append_left _ (List.mem_of_getElem? (i := 0) rfl)))) (fun _ h9 => h9) rfl dX7_retries_12 ?_
    refine lv_bipush (v := (6 : Int32)) hx hb dX7_retries_15 (by decide) ?_
    refine lv_iload_n hx hb dX7_retries_17 rfl (lv_at hl 1 rfl) ?_
    refine va_iast (D := (dC, dI)) (cl := vwCl) hx hb hK hP hD hS 1 0 rfl rfl (vp_in_iff.mpr (by decide)) dX7_retries_18 (fun H locs hP hD hS => ?_)
    have hP : va_P (dC, dI) vwCl [(aO, .inr (7, [.ref aOt, .ref aOr, .int O_drops, .int O_changed, .int O_picked, .int O_taken, .int O_acts, .int O_isForged, .ref aOp, .ref aOx, .int O_taped, .int O_size, .int O_at, .int O_fault, .int O_wordEnd, .int O_number, .ref aOw, .int O_writtenMany])), (aOt, .inl (cI, 50, .inl (upd vOt (6 : Int32).toNatClampNeg p1))), (aOr, .inl (cI, 25, .inl vOr)), (aOp, .inl (cB, 600, .inl vOp)), (aOx, .inl (cB, 600, .inl vOx)), (aOw, .inl (cB, 600, .inl vOw))] H := hP
    have hD : va_D A [(aO, .inr (7, [.ref aOt, .ref aOr, .int O_drops, .int O_changed, .int O_picked, .int O_taken, .int O_acts, .int O_isForged, .ref aOp, .ref aOx, .int O_taped, .int O_size, .int O_at, .int O_fault, .int O_wordEnd, .int O_number, .ref aOw, .int O_writtenMany])), (aOt, .inl (cI, 50, .inl (upd vOt (6 : Int32).toNatClampNeg p1))), (aOr, .inl (cI, 25, .inl vOr)), (aOp, .inl (cB, 600, .inl vOp)), (aOx, .inl (cB, 600, .inl vOx)), (aOw, .inl (cB, 600, .inl vOw))] := hD
    refine lv_iconst (v := (1 : Int32)) hx hb dX7_retries_19 (by decide) ?_
    exact W.zret (v := (1 : Int32)) (ty := .boolean) hx hb hr rfl (fun t ht hW => ⟨⟨(1 : Int32), ((upd vOt (6 : Int32).toNatClampNeg p1)), rfl, ⟨hE.trans hRES, Or.inr rfl⟩, (by rw [ht]; exact hP), va_K.moved hW.alike hK, hD⟩, hS.F ht⟩) hS.2.2 dX7_retries_20
  · have hE := ipos c_6 hE
    refine lv_iconst (v := (0 : Int32)) hx hb dX7_retries_9 (by decide) ?_
    exact W.zret (v := (0 : Int32)) (ty := .boolean) hx hb hr rfl (fun t ht hW => ⟨⟨(0 : Int32), (vOt), rfl, ⟨hE.trans hRES, Or.inl rfl⟩, (by rw [ht]; exact hP), va_K.moved hW.alike hK, hD⟩, hS.F ht⟩) hS.2.2 dX7_retries_10
-- X7_mend
def fO_mend (vOt : Nat → Int32) (p1 : Int32) (p2 : Int32) : Int32 × (Nat → Int32) := (if (fO_isIn p1 (0 : Int32) (6 : Int32)) = 0 then ((0 : Int32), vOt) else (if (((vOt (7 : Int32).toNatClampNeg) >>> (p1 &&& 31)) &&& (1 : Int32)) = (fO_one p2) then ((0 : Int32), vOt) else ((1 : Int32), (upd vOt (7 : Int32).toNatClampNeg ((vOt (7 : Int32).toNatClampNeg) ^^^ ((1 : Int32) <<< (p1 &&& 31)))))))
set_option maxHeartbeats 4000000 in
set_option maxRecDepth 100000 in
theorem kO_mend (l : Launch) (dC : Nat → ClassId) (dI : Nat → Nat → Nat) (cI cB : ClassId) (aO aOt aOr aOp aOx aOw : Nat) (sz : Nat) (O_drops : Int32) (O_changed : Int32) (O_picked : Int32) (O_taken : Int32) (O_acts : Int32) (O_isForged : Int32) (O_taped : Int32) (O_size : Int32) (O_at : Int32) (O_fault : Int32) (O_wordEnd : Int32) (O_number : Int32) (O_writtenMany : Int32) (vOt : Nat → Int32) (vOr : Nat → Int32) (vOp : Nat → Int32) (vOx : Nat → Int32) (vOw : Nat → Int32) (p1 : Int32) (p2 : Int32) : Met l yX7_mend wsX7_mend ({ frames := 1, cells := 0, slots := 0, locals := 22 }) (va_Pc [.ref aO, .int p1, .int p2] (PB (dC, dI) vwCl [(cI, .int), (cB, .byte)] [(aO, .inr (7, [.ref aOt, .ref aOr, .int O_drops, .int O_changed, .int O_picked, .int O_taken, .int O_acts, .int O_isForged, .ref aOp, .ref aOx, .int O_taped, .int O_size, .int O_at, .int O_fault, .int O_wordEnd, .int O_number, .ref aOw, .int O_writtenMany])), (aOt, .inl (cI, 50, .inl vOt)), (aOr, .inl (cI, 25, .inl vOr)), (aOp, .inl (cB, 600, .inl vOp)), (aOx, .inl (cB, 600, .inl vOx)), (aOw, .inl (cB, 600, .inl vOw))] sz)) (va_Qi (fun (r : Int32) (u : (Nat → Int32)) => (r, u) = fO_mend vOt p1 p2 ∧ (r = 0 ∨ r = 1)) (fun (u : (Nat → Int32)) t => va_P (dC, dI) vwCl [(aO, .inr (7, [.ref aOt, .ref aOr, .int O_drops, .int O_changed, .int O_picked, .int O_taken, .int O_acts, .int O_isForged, .ref aOp, .ref aOx, .int O_taped, .int O_size, .int O_at, .int O_fault, .int O_wordEnd, .int O_number, .ref aOw, .int O_writtenMany])), (aOt, .inl (cI, 50, .inl u)), (aOr, .inl (cI, 25, .inl vOr)), (aOp, .inl (cB, 600, .inl vOp)), (aOx, .inl (cB, 600, .inl vOx)), (aOw, .inl (cB, 600, .inl vOw))] t.heap ∧ va_K (dC, dI) vwCl [(cI, .int), (cB, .byte)] t ∧ va_D (va_A [(aO, .inr (7, [.ref aOt, .ref aOr, .int O_drops, .int O_changed, .int O_picked, .int O_taken, .int O_acts, .int O_isForged, .ref aOp, .ref aOx, .int O_taped, .int O_size, .int O_at, .int O_fault, .int O_wordEnd, .int O_number, .ref aOw, .int O_writtenMany])), (aOt, .inl (cI, 50, .inl vOt)), (aOr, .inl (cI, 25, .inl vOr)), (aOp, .inl (cB, 600, .inl vOp)), (aOx, .inl (cB, 600, .inl vOx)), (aOw, .inl (cB, 600, .inl vOw))] sz) [(aO, .inr (7, [.ref aOt, .ref aOr, .int O_drops, .int O_changed, .int O_picked, .int O_taken, .int O_acts, .int O_isForged, .ref aOp, .ref aOx, .int O_taped, .int O_size, .int O_at, .int O_fault, .int O_wordEnd, .int O_number, .ref aOw, .int O_writtenMany])), (aOt, .inl (cI, 50, .inl u)), (aOr, .inl (cI, 25, .inl vOr)), (aOp, .inl (cB, 600, .inl vOp)), (aOx, .inl (cB, 600, .inl vOx)), (aOw, .inl (cB, 600, .inl vOw))]) (va_A [(aO, .inr (7, [.ref aOt, .ref aOr, .int O_drops, .int O_changed, .int O_picked, .int O_taken, .int O_acts, .int O_isForged, .ref aOp, .ref aOx, .int O_taped, .int O_size, .int O_at, .int O_fault, .int O_wordEnd, .int O_number, .ref aOw, .int O_writtenMany])), (aOt, .inl (cI, 50, .inl vOt)), (aOr, .inl (cI, 25, .inl vOr)), (aOp, .inl (cB, 600, .inl vOp)), (aOx, .inl (cB, 600, .inl vOx)), (aOw, .inl (cB, 600, .inl vOw))] sz)) 0 0 (va_A [(aO, .inr (7, [.ref aOt, .ref aOr, .int O_drops, .int O_changed, .int O_picked, .int O_taken, .int O_acts, .int O_isForged, .ref aOp, .ref aOx, .int O_taped, .int O_size, .int O_at, .int O_fault, .int O_wordEnd, .int O_number, .ref aOw, .int O_writtenMany])), (aOt, .inl (cI, 50, .inl vOt)), (aOr, .inl (cI, 25, .inl vOr)), (aOp, .inl (cB, 600, .inl vOp)), (aOx, .inl (cB, 600, .inl vOx)), (aOw, .inl (cB, 600, .inl vOw))] sz) := by
  refine Met.ofW (cc := cX7_mend) (maxL := 3) (ret := (some .boolean)) (by decide) rfl ?_
  intro p e s m args below meth c s₁ B hml hv
  obtain ⟨rfl, hsz, hP, hK, hD0⟩ := hv
  have hx := B.exec
  have hb := B.bytes
  have hr := B.returns
  have hts := atoms_spec (ws := wsX7_mend) B.pre
  have hown : s.vm.findClass RX7 = some m.cls := findClass_of_methodNamed B.named
  have hlocks := B.notSynchronized
  clear B
  subst hsz
  have hD := hD0.self (sz := s.heap.size)
  clear hD0
  generalize hAe : va_A [(aO, .inr (7, [.ref aOt, .ref aOr, .int O_drops, .int O_changed, .int O_picked, .int O_taken, .int O_acts, .int O_isForged, .ref aOp, .ref aOx, .int O_taped, .int O_size, .int O_at, .int O_fault, .int O_wordEnd, .int O_number, .ref aOw, .int O_writtenMany])), (aOt, .inl (cI, 50, .inl vOt)), (aOr, .inl (cI, 25, .inl vOr)), (aOp, .inl (cB, 600, .inl vOp)), (aOx, .inl (cB, 600, .inl vOx)), (aOw, .inl (cB, 600, .inl vOw))] s.heap.size = A at hD ⊢
  have hA : ∀ q : Nat, s.heap.size ≤ q → A q := fun q h => by rw [← hAe]; exact Or.inr h
  clear hAe
  have hS : va_S A s.heap s.heap [] := va_S.rf
  have hP : va_P (dC, dI) vwCl [(aO, .inr (7, [.ref aOt, .ref aOr, .int O_drops, .int O_changed, .int O_picked, .int O_taken, .int O_acts, .int O_isForged, .ref aOp, .ref aOx, .int O_taped, .int O_size, .int O_at, .int O_fault, .int O_wordEnd, .int O_number, .ref aOw, .int O_writtenMany])), (aOt, .inl (cI, 50, .inl vOt)), (aOr, .inl (cI, 25, .inl vOr)), (aOp, .inl (cB, 600, .inl vOp)), (aOx, .inl (cB, 600, .inl vOx)), (aOw, .inl (cB, 600, .inl vOw))] s.heap := hP
  have hl := lv_entry ([.ref aO, .int p1, .int p2]) (n := 3) (Nat.le_of_ble_eq_true rfl)
  rw [lg_entry_eq]
  generalize (lg_sl ([.ref aO, .int p1, .int p2]) ++ List.replicate (3 - (lg_sl ([.ref aO, .int p1, .int p2])).length) Slot.unset).toArray = ls at hl ⊢
  have hl : lv_has ls 3 [(0, .ref aO), (1, .int p1), (2, .int p2)] := hl
  obtain ⟨RES, hRES⟩ : ∃ y, y = fO_mend vOt p1 p2 := ⟨_, rfl⟩
  have hE := hRES.symm
  rw [fO_mend] at hE
  refine lv_iload_n hx hb dX7_mend_0 rfl (lv_at hl 1 rfl) ?_
  refine lv_iconst (v := (0 : Int32)) hx hb dX7_mend_1 (by decide) ?_
  refine lv_bipush (v := (6 : Int32)) hx hb dX7_mend_2 (by decide) ?_
  have hPc := hP.sub (ws' := []) [] rfl
  have hDc := hD.sub (ws' := []) [] (by decide) rfl
  have hFc := va_free (wc := []) hD hS hA [] rfl
  refine va_calli (va_runS (As := [.int p1, .int (0 : Int32), .int (6 : Int32)]) (rest := []) ⟨hx, hb, hml, hown, hts⟩ (kO_isIn l dC dI cI cB s.heap.size p1 (0 : Int32) (6 : Int32) ) (va_cwS 3 hts gX7_mend_X7_isIn rfl rfl rfl (by decide +kernel) ⟨Nat.le_of_ble_eq_true rfl, Nat.le_of_ble_eq_true rfl⟩) (pre_S hK hPc hDc) rfl rfl hl.1 rfl (lv_room (Nat.le_of_ble_eq_true rfl)) dX7_mend_4 ⟨(Nat.zero_le _), (Nat.zero_le _)⟩) hS (fun q _ h => hFc q h) hFc (fun r4 u t H1 locs ht hvm hw hB hz1 hk1 hS => ?_)
  obtain ⟨hP1, hK1, hD1⟩ := hB
  rw [ht] at hP1
  obtain ⟨hw, hbz4, hq0_4⟩ := hw
  have hw := hw.symm
  subst hw
  obtain ⟨hP, hD⟩ := va_join (wr := [(aO, .inr (7, [.ref aOt, .ref aOr, .int O_drops, .int O_changed, .int O_picked, .int O_taken, .int O_acts, .int O_isForged, .ref aOp, .ref aOx, .int O_taped, .int O_size, .int O_at, .int O_fault, .int O_wordEnd, .int O_number, .ref aOw, .int O_writtenMany])), (aOt, .inl (cI, 50, .inl vOt)), (aOr, .inl (cI, 25, .inl vOr)), (aOp, .inl (cB, 600, .inl vOp)), (aOx, .inl (cB, 600, .inl vOx)), (aOw, .inl (cB, 600, .inl vOw))]) (w1 := []) hP hD [] [0, 1, 2, 3, 4, 5] rfl rfl (by decide) (by decide) hk1 hFc hP1 hD1
  generalize H1 = H at hP hS ⊢
  have hP : va_P (dC, dI) vwCl [(aO, .inr (7, [.ref aOt, .ref aOr, .int O_drops, .int O_changed, .int O_picked, .int O_taken, .int O_acts, .int O_isForged, .ref aOp, .ref aOx, .int O_taped, .int O_size, .int O_at, .int O_fault, .int O_wordEnd, .int O_number, .ref aOw, .int O_writtenMany])), (aOt, .inl (cI, 50, .inl vOt)), (aOr, .inl (cI, 25, .inl vOr)), (aOp, .inl (cB, 600, .inl vOp)), (aOx, .inl (cB, 600, .inl vOx)), (aOw, .inl (cB, 600, .inl vOw))] H := hP
  have hD : va_D A [(aO, .inr (7, [.ref aOt, .ref aOr, .int O_drops, .int O_changed, .int O_picked, .int O_taken, .int O_acts, .int O_isForged, .ref aOp, .ref aOx, .int O_taped, .int O_size, .int O_at, .int O_fault, .int O_wordEnd, .int O_number, .ref aOw, .int O_writtenMany])), (aOt, .inl (cI, 50, .inl vOt)), (aOr, .inl (cI, 25, .inl vOr)), (aOp, .inl (cB, 600, .inl vOp)), (aOx, .inl (cB, 600, .inl vOx)), (aOw, .inl (cB, 600, .inl vOw))] := hD
  refine lv_if_eq (tgt := 28) hx hb dX7_mend_7 (by decide) (fun c_7 => ?_) (fun c_7 => ?_)
  · have hE := ipos c_7 hE
    refine lv_iconst (v := (0 : Int32)) hx hb dX7_mend_28 (by decide) ?_
    exact W.zret (v := (0 : Int32)) (ty := .boolean) hx hb hr rfl (fun t ht hW => ⟨⟨(0 : Int32), (vOt), rfl, ⟨hE.trans hRES, Or.inl rfl⟩, (by rw [ht]; exact hP), va_K.moved hW.alike hK, hD⟩, hS.F ht⟩) hS.2.2 dX7_mend_29
  · have hE := ineg c_7 hE
    refine lv_aload_n hx hb dX7_mend_10 rfl (lv_at hl 0 rfl) ?_
    refine va_get (D := (dC, dI)) (ci := 7) (v := .ref aOt) (C := RX7) (T := TX7) (N := 18) hx hb hts (fun _ h => List.mem_cons_of_mem _ (List.mem_append_right _ h)) hown hK hP 0 rfl rfl 0 (by decide) (hts _ (List.mem_cons_of_mem _ (List.mem_append_left _ (List.mem_of_getElem? (i := 0) rfl)))) (fun _ h9 => h9) rfl dX7_mend_11 ?_
    refine lv_bipush (v := (7 : Int32)) hx hb dX7_mend_14 (by decide) ?_
    refine va_iald (D := (dC, dI)) (cl := vwCl) hx hb hK hP 1 0 rfl rfl (vp_in_iff.mpr (by decide)) dX7_mend_16 ?_
    refine lv_iload_n hx hb dX7_mend_17 rfl (lv_at hl 1 rfl) ?_
    refine lv_ishr hx hb dX7_mend_18 ?_
    refine lv_iconst (v := (1 : Int32)) hx hb dX7_mend_19 (by decide) ?_
    refine lv_iand hx hb dX7_mend_20 ?_
    refine lv_iload_n hx hb dX7_mend_21 rfl (lv_at hl 2 rfl) ?_
    have hPc := hP.sub (ws' := []) [] rfl
    have hDc := hD.sub (ws' := []) [] (by decide) rfl
    have hFc := va_free (wc := []) hD hS hA [] rfl
    refine va_calli (va_runS (As := [.int p2]) (rest := [.int (((vOt (7 : Int32).toNatClampNeg) >>> (p1 &&& 31)) &&& (1 : Int32))]) ⟨hx, hb, hml, hown, hts⟩ (kO_one l dC dI cI cB H.size p2 ) (va_cwS 1 hts gX7_mend_X7_one rfl rfl rfl (by decide +kernel) ⟨Nat.le_of_ble_eq_true rfl, Nat.le_of_ble_eq_true rfl⟩) (pre_S hK hPc hDc) rfl rfl hl.1 rfl (lv_room (Nat.le_of_ble_eq_true rfl)) dX7_mend_22 ⟨(Nat.zero_le _), (Nat.zero_le _)⟩) hS (fun q _ h => hFc q h) hFc (fun r22 u t H1 locs ht hvm hw hB hz1 hk1 hS => ?_)
    obtain ⟨hP1, hK1, hD1⟩ := hB
    rw [ht] at hP1
    have hw := hw.symm
    subst hw
    obtain ⟨hP, hD⟩ := va_join (wr := [(aO, .inr (7, [.ref aOt, .ref aOr, .int O_drops, .int O_changed, .int O_picked, .int O_taken, .int O_acts, .int O_isForged, .ref aOp, .ref aOx, .int O_taped, .int O_size, .int O_at, .int O_fault, .int O_wordEnd, .int O_number, .ref aOw, .int O_writtenMany])), (aOt, .inl (cI, 50, .inl vOt)), (aOr, .inl (cI, 25, .inl vOr)), (aOp, .inl (cB, 600, .inl vOp)), (aOx, .inl (cB, 600, .inl vOx)), (aOw, .inl (cB, 600, .inl vOw))]) (w1 := []) hP hD [] [0, 1, 2, 3, 4, 5] rfl rfl (by decide) (by decide) hk1 hFc hP1 hD1
    generalize H1 = H at hP hS ⊢
    have hP : va_P (dC, dI) vwCl [(aO, .inr (7, [.ref aOt, .ref aOr, .int O_drops, .int O_changed, .int O_picked, .int O_taken, .int O_acts, .int O_isForged, .ref aOp, .ref aOx, .int O_taped, .int O_size, .int O_at, .int O_fault, .int O_wordEnd, .int O_number, .ref aOw, .int O_writtenMany])), (aOt, .inl (cI, 50, .inl vOt)), (aOr, .inl (cI, 25, .inl vOr)), (aOp, .inl (cB, 600, .inl vOp)), (aOx, .inl (cB, 600, .inl vOx)), (aOw, .inl (cB, 600, .inl vOw))] H := hP
    have hD : va_D A [(aO, .inr (7, [.ref aOt, .ref aOr, .int O_drops, .int O_changed, .int O_picked, .int O_taken, .int O_acts, .int O_isForged, .ref aOp, .ref aOx, .int O_taped, .int O_size, .int O_at, .int O_fault, .int O_wordEnd, .int O_number, .ref aOw, .int O_writtenMany])), (aOt, .inl (cI, 50, .inl vOt)), (aOr, .inl (cI, 25, .inl vOr)), (aOp, .inl (cB, 600, .inl vOp)), (aOx, .inl (cB, 600, .inl vOx)), (aOw, .inl (cB, 600, .inl vOw))] := hD
    refine lv_icmp_ne (tgt := 30) hx hb dX7_mend_25 (by decide) (fun c_25 => ?_) (fun c_25 => ?_)
    · have hE := ineg c_25 hE
      refine lv_aload_n hx hb dX7_mend_30 rfl (lv_at hl 0 rfl) ?_
      refine va_get (D := (dC, dI)) (ci := 7) (v := .ref aOt) (C := RX7) (T := TX7) (N := 18) hx hb hts (fun _ h => List.mem_cons_of_mem _ (List.mem_append_right _ h)) hown hK hP 0 rfl rfl 0 (by decide) (hts _ (List.mem_cons_of_mem _ (List.mem_append_left _ (List.mem_of_getElem? (i := 0) rfl)))) (fun _ h9 => h9) rfl dX7_mend_31 ?_
      refine lv_bipush (v := (7 : Int32)) hx hb dX7_mend_34 (by decide) ?_
      refine lv_dup2_11 hx hb dX7_mend_36 rfl rfl ?_
      refine va_iald (D := (dC, dI)) (cl := vwCl) hx hb hK hP 1 0 rfl rfl (vp_in_iff.mpr (by decide)) dX7_mend_37 ?_
      refine lv_iconst (v := (1 : Int32)) hx hb dX7_mend_38 (by decide) ?_
      refine lv_iload_n hx hb dX7_mend_39 rfl (lv_at hl 1 rfl) ?_
      refine lv_ishl hx hb dX7_mend_40 ?_
      refine lv_ixor hx hb dX7_mend_41 ?_
      refine va_iast (D := (dC, dI)) (cl := vwCl) hx hb hK hP hD hS 1 0 rfl rfl (vp_in_iff.mpr (by decide)) dX7_mend_42 (fun H locs hP hD hS => ?_)
      have hP : va_P (dC, dI) vwCl [(aO, .inr (7, [.ref aOt, .ref aOr, .int O_drops, .int O_changed, .int O_picked, .int O_taken, .int O_acts, .int O_isForged, .ref aOp, .ref aOx, .int O_taped, .int O_size, .int O_at, .int O_fault, .int O_wordEnd, .int O_number, .ref aOw, .int O_writtenMany])), (aOt, .inl (cI, 50, .inl (upd vOt (7 : Int32).toNatClampNeg ((vOt (7 : Int32).toNatClampNeg) ^^^ ((1 : Int32) <<< (p1 &&& 31)))))), (aOr, .inl (cI, 25, .inl vOr)), (aOp, .inl (cB, 600, .inl vOp)), (aOx, .inl (cB, 600, .inl vOx)), (aOw, .inl (cB, 600, .inl vOw))] H := hP
      have hD : va_D A [(aO, .inr (7, [.ref aOt, .ref aOr, .int O_drops, .int O_changed, .int O_picked, .int O_taken, .int O_acts, .int O_isForged, .ref aOp, .ref aOx, .int O_taped, .int O_size, .int O_at, .int O_fault, .int O_wordEnd, .int O_number, .ref aOw, .int O_writtenMany])), (aOt, .inl (cI, 50, .inl (upd vOt (7 : Int32).toNatClampNeg ((vOt (7 : Int32).toNatClampNeg) ^^^ ((1 : Int32) <<< (p1 &&& 31)))))), (aOr, .inl (cI, 25, .inl vOr)), (aOp, .inl (cB, 600, .inl vOp)), (aOx, .inl (cB, 600, .inl vOx)), (aOw, .inl (cB, 600, .inl vOw))] := hD
      refine lv_iconst (v := (1 : Int32)) hx hb dX7_mend_43 (by decide) ?_
      exact W.zret (v := (1 : Int32)) (ty := .boolean) hx hb hr rfl (fun t ht hW => ⟨⟨(1 : Int32), ((upd vOt (7 : Int32).toNatClampNeg ((vOt (7 : Int32).toNatClampNeg) ^^^ ((1 : Int32) <<< (p1 &&& 31))))), rfl, ⟨hE.trans hRES, Or.inr rfl⟩, (by rw [ht]; exact hP), va_K.moved hW.alike hK, hD⟩, hS.F ht⟩) hS.2.2 dX7_mend_44
    · have hE := ipos c_25 hE
      refine lv_iconst (v := (0 : Int32)) hx hb dX7_mend_28 (by decide) ?_
      exact W.zret (v := (0 : Int32)) (ty := .boolean) hx hb hr rfl (fun t ht hW => ⟨⟨(0 : Int32), (vOt), rfl, ⟨hE.trans hRES, Or.inl rfl⟩, (by rw [ht]; exact hP), va_K.moved hW.alike hK, hD⟩, hS.F ht⟩) hS.2.2 dX7_mend_29
-- X7_cost
def fO_cost (vOt : Nat → Int32) (p1 : Int32) (p2 : Int32) : Int32 × (Nat → Int32) := (if (fO_isIn p1 (0 : Int32) (6 : Int32)) = 0 then ((0 : Int32), vOt) else (if (fO_isIn p2 (0 : Int32) (100 : Int32)) = 0 then ((0 : Int32), vOt) else ((1 : Int32), (upd vOt ((8 : Int32) + p1).toNatClampNeg p2))))
set_option maxHeartbeats 4000000 in
set_option maxRecDepth 100000 in
theorem kO_cost (l : Launch) (dC : Nat → ClassId) (dI : Nat → Nat → Nat) (cI cB : ClassId) (aO aOt aOr aOp aOx aOw : Nat) (sz : Nat) (O_drops : Int32) (O_changed : Int32) (O_picked : Int32) (O_taken : Int32) (O_acts : Int32) (O_isForged : Int32) (O_taped : Int32) (O_size : Int32) (O_at : Int32) (O_fault : Int32) (O_wordEnd : Int32) (O_number : Int32) (O_writtenMany : Int32) (vOt : Nat → Int32) (vOr : Nat → Int32) (vOp : Nat → Int32) (vOx : Nat → Int32) (vOw : Nat → Int32) (p1 : Int32) (p2 : Int32) : Met l yX7_cost wsX7_cost ({ frames := 1, cells := 0, slots := 0, locals := 22 }) (va_Pc [.ref aO, .int p1, .int p2] (PB (dC, dI) vwCl [(cI, .int), (cB, .byte)] [(aO, .inr (7, [.ref aOt, .ref aOr, .int O_drops, .int O_changed, .int O_picked, .int O_taken, .int O_acts, .int O_isForged, .ref aOp, .ref aOx, .int O_taped, .int O_size, .int O_at, .int O_fault, .int O_wordEnd, .int O_number, .ref aOw, .int O_writtenMany])), (aOt, .inl (cI, 50, .inl vOt)), (aOr, .inl (cI, 25, .inl vOr)), (aOp, .inl (cB, 600, .inl vOp)), (aOx, .inl (cB, 600, .inl vOx)), (aOw, .inl (cB, 600, .inl vOw))] sz)) (va_Qi (fun (r : Int32) (u : (Nat → Int32)) => (r, u) = fO_cost vOt p1 p2 ∧ (r = 0 ∨ r = 1)) (fun (u : (Nat → Int32)) t => va_P (dC, dI) vwCl [(aO, .inr (7, [.ref aOt, .ref aOr, .int O_drops, .int O_changed, .int O_picked, .int O_taken, .int O_acts, .int O_isForged, .ref aOp, .ref aOx, .int O_taped, .int O_size, .int O_at, .int O_fault, .int O_wordEnd, .int O_number, .ref aOw, .int O_writtenMany])), (aOt, .inl (cI, 50, .inl u)), (aOr, .inl (cI, 25, .inl vOr)), (aOp, .inl (cB, 600, .inl vOp)), (aOx, .inl (cB, 600, .inl vOx)), (aOw, .inl (cB, 600, .inl vOw))] t.heap ∧ va_K (dC, dI) vwCl [(cI, .int), (cB, .byte)] t ∧ va_D (va_A [(aO, .inr (7, [.ref aOt, .ref aOr, .int O_drops, .int O_changed, .int O_picked, .int O_taken, .int O_acts, .int O_isForged, .ref aOp, .ref aOx, .int O_taped, .int O_size, .int O_at, .int O_fault, .int O_wordEnd, .int O_number, .ref aOw, .int O_writtenMany])), (aOt, .inl (cI, 50, .inl vOt)), (aOr, .inl (cI, 25, .inl vOr)), (aOp, .inl (cB, 600, .inl vOp)), (aOx, .inl (cB, 600, .inl vOx)), (aOw, .inl (cB, 600, .inl vOw))] sz) [(aO, .inr (7, [.ref aOt, .ref aOr, .int O_drops, .int O_changed, .int O_picked, .int O_taken, .int O_acts, .int O_isForged, .ref aOp, .ref aOx, .int O_taped, .int O_size, .int O_at, .int O_fault, .int O_wordEnd, .int O_number, .ref aOw, .int O_writtenMany])), (aOt, .inl (cI, 50, .inl u)), (aOr, .inl (cI, 25, .inl vOr)), (aOp, .inl (cB, 600, .inl vOp)), (aOx, .inl (cB, 600, .inl vOx)), (aOw, .inl (cB, 600, .inl vOw))]) (va_A [(aO, .inr (7, [.ref aOt, .ref aOr, .int O_drops, .int O_changed, .int O_picked, .int O_taken, .int O_acts, .int O_isForged, .ref aOp, .ref aOx, .int O_taped, .int O_size, .int O_at, .int O_fault, .int O_wordEnd, .int O_number, .ref aOw, .int O_writtenMany])), (aOt, .inl (cI, 50, .inl vOt)), (aOr, .inl (cI, 25, .inl vOr)), (aOp, .inl (cB, 600, .inl vOp)), (aOx, .inl (cB, 600, .inl vOx)), (aOw, .inl (cB, 600, .inl vOw))] sz)) 0 0 (va_A [(aO, .inr (7, [.ref aOt, .ref aOr, .int O_drops, .int O_changed, .int O_picked, .int O_taken, .int O_acts, .int O_isForged, .ref aOp, .ref aOx, .int O_taped, .int O_size, .int O_at, .int O_fault, .int O_wordEnd, .int O_number, .ref aOw, .int O_writtenMany])), (aOt, .inl (cI, 50, .inl vOt)), (aOr, .inl (cI, 25, .inl vOr)), (aOp, .inl (cB, 600, .inl vOp)), (aOx, .inl (cB, 600, .inl vOx)), (aOw, .inl (cB, 600, .inl vOw))] sz) := by
  refine Met.ofW (cc := cX7_cost) (maxL := 3) (ret := (some .boolean)) (by decide) rfl ?_
  intro p e s m args below meth c s₁ B hml hv
  obtain ⟨rfl, hsz, hP, hK, hD0⟩ := hv
  have hx := B.exec
  have hb := B.bytes
  have hr := B.returns
  have hts := atoms_spec (ws := wsX7_cost) B.pre
  have hown : s.vm.findClass RX7 = some m.cls := findClass_of_methodNamed B.named
  have hlocks := B.notSynchronized
  clear B
  subst hsz
  have hD := hD0.self (sz := s.heap.size)
  clear hD0
  generalize hAe : va_A [(aO, .inr (7, [.ref aOt, .ref aOr, .int O_drops, .int O_changed, .int O_picked, .int O_taken, .int O_acts, .int O_isForged, .ref aOp, .ref aOx, .int O_taped, .int O_size, .int O_at, .int O_fault, .int O_wordEnd, .int O_number, .ref aOw, .int O_writtenMany])), (aOt, .inl (cI, 50, .inl vOt)), (aOr, .inl (cI, 25, .inl vOr)), (aOp, .inl (cB, 600, .inl vOp)), (aOx, .inl (cB, 600, .inl vOx)), (aOw, .inl (cB, 600, .inl vOw))] s.heap.size = A at hD ⊢
  have hA : ∀ q : Nat, s.heap.size ≤ q → A q := fun q h => by rw [← hAe]; exact Or.inr h
  clear hAe
  have hS : va_S A s.heap s.heap [] := va_S.rf
  have hP : va_P (dC, dI) vwCl [(aO, .inr (7, [.ref aOt, .ref aOr, .int O_drops, .int O_changed, .int O_picked, .int O_taken, .int O_acts, .int O_isForged, .ref aOp, .ref aOx, .int O_taped, .int O_size, .int O_at, .int O_fault, .int O_wordEnd, .int O_number, .ref aOw, .int O_writtenMany])), (aOt, .inl (cI, 50, .inl vOt)), (aOr, .inl (cI, 25, .inl vOr)), (aOp, .inl (cB, 600, .inl vOp)), (aOx, .inl (cB, 600, .inl vOx)), (aOw, .inl (cB, 600, .inl vOw))] s.heap := hP
  have hl := lv_entry ([.ref aO, .int p1, .int p2]) (n := 3) (Nat.le_of_ble_eq_true rfl)
  rw [lg_entry_eq]
  generalize (lg_sl ([.ref aO, .int p1, .int p2]) ++ List.replicate (3 - (lg_sl ([.ref aO, .int p1, .int p2])).length) Slot.unset).toArray = ls at hl ⊢
  have hl : lv_has ls 3 [(0, .ref aO), (1, .int p1), (2, .int p2)] := hl
  obtain ⟨RES, hRES⟩ : ∃ y, y = fO_cost vOt p1 p2 := ⟨_, rfl⟩
  have hE := hRES.symm
  rw [fO_cost] at hE
  refine lv_iload_n hx hb dX7_cost_0 rfl (lv_at hl 1 rfl) ?_
  refine lv_iconst (v := (0 : Int32)) hx hb dX7_cost_1 (by decide) ?_
  refine lv_bipush (v := (6 : Int32)) hx hb dX7_cost_2 (by decide) ?_
  have hPc := hP.sub (ws' := []) [] rfl
  have hDc := hD.sub (ws' := []) [] (by decide) rfl
  have hFc := va_free (wc := []) hD hS hA [] rfl
  refine va_calli (va_runS (As := [.int p1, .int (0 : Int32), .int (6 : Int32)]) (rest := []) ⟨hx, hb, hml, hown, hts⟩ (kO_isIn l dC dI cI cB s.heap.size p1 (0 : Int32) (6 : Int32) ) (va_cwS 3 hts gX7_cost_X7_isIn rfl rfl rfl (by decide +kernel) ⟨Nat.le_of_ble_eq_true rfl, Nat.le_of_ble_eq_true rfl⟩) (pre_S hK hPc hDc) rfl rfl hl.1 rfl (lv_room (Nat.le_of_ble_eq_true rfl)) dX7_cost_4 ⟨(Nat.zero_le _), (Nat.zero_le _)⟩) hS (fun q _ h => hFc q h) hFc (fun r4 u t H1 locs ht hvm hw hB hz1 hk1 hS => ?_)
  obtain ⟨hP1, hK1, hD1⟩ := hB
  rw [ht] at hP1
  obtain ⟨hw, hbz4, hq0_4⟩ := hw
  have hw := hw.symm
  subst hw
  obtain ⟨hP, hD⟩ := va_join (wr := [(aO, .inr (7, [.ref aOt, .ref aOr, .int O_drops, .int O_changed, .int O_picked, .int O_taken, .int O_acts, .int O_isForged, .ref aOp, .ref aOx, .int O_taped, .int O_size, .int O_at, .int O_fault, .int O_wordEnd, .int O_number, .ref aOw, .int O_writtenMany])), (aOt, .inl (cI, 50, .inl vOt)), (aOr, .inl (cI, 25, .inl vOr)), (aOp, .inl (cB, 600, .inl vOp)), (aOx, .inl (cB, 600, .inl vOx)), (aOw, .inl (cB, 600, .inl vOw))]) (w1 := []) hP hD [] [0, 1, 2, 3, 4, 5] rfl rfl (by decide) (by decide) hk1 hFc hP1 hD1
  generalize H1 = H at hP hS ⊢
  have hP : va_P (dC, dI) vwCl [(aO, .inr (7, [.ref aOt, .ref aOr, .int O_drops, .int O_changed, .int O_picked, .int O_taken, .int O_acts, .int O_isForged, .ref aOp, .ref aOx, .int O_taped, .int O_size, .int O_at, .int O_fault, .int O_wordEnd, .int O_number, .ref aOw, .int O_writtenMany])), (aOt, .inl (cI, 50, .inl vOt)), (aOr, .inl (cI, 25, .inl vOr)), (aOp, .inl (cB, 600, .inl vOp)), (aOx, .inl (cB, 600, .inl vOx)), (aOw, .inl (cB, 600, .inl vOw))] H := hP
  have hD : va_D A [(aO, .inr (7, [.ref aOt, .ref aOr, .int O_drops, .int O_changed, .int O_picked, .int O_taken, .int O_acts, .int O_isForged, .ref aOp, .ref aOx, .int O_taped, .int O_size, .int O_at, .int O_fault, .int O_wordEnd, .int O_number, .ref aOw, .int O_writtenMany])), (aOt, .inl (cI, 50, .inl vOt)), (aOr, .inl (cI, 25, .inl vOr)), (aOp, .inl (cB, 600, .inl vOp)), (aOx, .inl (cB, 600, .inl vOx)), (aOw, .inl (cB, 600, .inl vOw))] := hD
  refine lv_if_eq (tgt := 20) hx hb dX7_cost_7 (by decide) (fun c_7 => ?_) (fun c_7 => ?_)
  · have hE := ipos c_7 hE
    refine lv_iconst (v := (0 : Int32)) hx hb dX7_cost_20 (by decide) ?_
    exact W.zret (v := (0 : Int32)) (ty := .boolean) hx hb hr rfl (fun t ht hW => ⟨⟨(0 : Int32), (vOt), rfl, ⟨hE.trans hRES, Or.inl rfl⟩, (by rw [ht]; exact hP), va_K.moved hW.alike hK, hD⟩, hS.F ht⟩) hS.2.2 dX7_cost_21
  · have hE := ineg c_7 hE
    refine lv_iload_n hx hb dX7_cost_10 rfl (lv_at hl 2 rfl) ?_
    refine lv_iconst (v := (0 : Int32)) hx hb dX7_cost_11 (by decide) ?_
    refine lv_bipush (v := (100 : Int32)) hx hb dX7_cost_12 (by decide) ?_
    have hPc := hP.sub (ws' := []) [] rfl
    have hDc := hD.sub (ws' := []) [] (by decide) rfl
    have hFc := va_free (wc := []) hD hS hA [] rfl
    refine va_calli (va_runS (As := [.int p2, .int (0 : Int32), .int (100 : Int32)]) (rest := []) ⟨hx, hb, hml, hown, hts⟩ (kO_isIn l dC dI cI cB H.size p2 (0 : Int32) (100 : Int32) ) (va_cwS 3 hts gX7_cost_X7_isIn rfl rfl rfl (by decide +kernel) ⟨Nat.le_of_ble_eq_true rfl, Nat.le_of_ble_eq_true rfl⟩) (pre_S hK hPc hDc) rfl rfl hl.1 rfl (lv_room (Nat.le_of_ble_eq_true rfl)) dX7_cost_14 ⟨(Nat.zero_le _), (Nat.zero_le _)⟩) hS (fun q _ h => hFc q h) hFc (fun r14 u t H1 locs ht hvm hw hB hz1 hk1 hS => ?_)
    obtain ⟨hP1, hK1, hD1⟩ := hB
    rw [ht] at hP1
    obtain ⟨hw, hbz14, hq0_14⟩ := hw
    have hw := hw.symm
    subst hw
    obtain ⟨hP, hD⟩ := va_join (wr := [(aO, .inr (7, [.ref aOt, .ref aOr, .int O_drops, .int O_changed, .int O_picked, .int O_taken, .int O_acts, .int O_isForged, .ref aOp, .ref aOx, .int O_taped, .int O_size, .int O_at, .int O_fault, .int O_wordEnd, .int O_number, .ref aOw, .int O_writtenMany])), (aOt, .inl (cI, 50, .inl vOt)), (aOr, .inl (cI, 25, .inl vOr)), (aOp, .inl (cB, 600, .inl vOp)), (aOx, .inl (cB, 600, .inl vOx)), (aOw, .inl (cB, 600, .inl vOw))]) (w1 := []) hP hD [] [0, 1, 2, 3, 4, 5] rfl rfl (by decide) (by decide) hk1 hFc hP1 hD1
    generalize H1 = H at hP hS ⊢
    have hP : va_P (dC, dI) vwCl [(aO, .inr (7, [.ref aOt, .ref aOr, .int O_drops, .int O_changed, .int O_picked, .int O_taken, .int O_acts, .int O_isForged, .ref aOp, .ref aOx, .int O_taped, .int O_size, .int O_at, .int O_fault, .int O_wordEnd, .int O_number, .ref aOw, .int O_writtenMany])), (aOt, .inl (cI, 50, .inl vOt)), (aOr, .inl (cI, 25, .inl vOr)), (aOp, .inl (cB, 600, .inl vOp)), (aOx, .inl (cB, 600, .inl vOx)), (aOw, .inl (cB, 600, .inl vOw))] H := hP
    have hD : va_D A [(aO, .inr (7, [.ref aOt, .ref aOr, .int O_drops, .int O_changed, .int O_picked, .int O_taken, .int O_acts, .int O_isForged, .ref aOp, .ref aOx, .int O_taped, .int O_size, .int O_at, .int O_fault, .int O_wordEnd, .int O_number, .ref aOw, .int O_writtenMany])), (aOt, .inl (cI, 50, .inl vOt)), (aOr, .inl (cI, 25, .inl vOr)), (aOp, .inl (cB, 600, .inl vOp)), (aOx, .inl (cB, 600, .inl vOx)), (aOw, .inl (cB, 600, .inl vOw))] := hD
    refine lv_if_ne (tgt := 22) hx hb dX7_cost_17 (by decide) (fun c_17 => ?_) (fun c_17 => ?_)
    · have hE := ineg c_17 hE
      refine lv_aload_n hx hb dX7_cost_22 rfl (lv_at hl 0 rfl) ?_
      refine va_get (D := (dC, dI)) (ci := 7) (v := .ref aOt) (C := RX7) (T := TX7) (N := 18) hx hb hts (fun _ h => List.mem_cons_of_mem _ (List.mem_append_right _ h)) hown hK hP 0 rfl rfl 0 (by decide) (hts _ (List.mem_cons_of_mem _ (List.mem_append_left _ (List.mem_of_getElem? (i := 0) rfl)))) (fun _ h9 => h9) rfl dX7_cost_23 ?_
      refine lv_bipush (v := (8 : Int32)) hx hb dX7_cost_26 (by decide) ?_
      refine lv_iload_n hx hb dX7_cost_28 rfl (lv_at hl 1 rfl) ?_
      refine lv_iadd hx hb dX7_cost_29 ?_
      refine lv_iload_n hx hb dX7_cost_30 rfl (lv_at hl 2 rfl) ?_
      refine va_iast (D := (dC, dI)) (cl := vwCl) hx hb hK hP hD hS 1 0 rfl rfl (by first | ((try generalize (fO_isIn p2 (0 : Int32) (100 : Int32)) = g1 at hbz4 hq0_4 c_7 hbz14 hq0_14 c_17 ⊢); (try generalize (fO_isIn p1 (0 : Int32) (6 : Int32)) = g0 at hbz4 hq0_4 c_7 hbz14 hq0_14 c_17 ⊢); (try simp only [not_true_eq_false, not_false_eq_true, false_implies, true_implies, implies_true, vp_in_iff, i32_lt, i32_le, i32_eq, i32_add, i32_sub, i32_mul, t32_m1, t32_0, t32_1, t32_6, t32_8, t32_100] at hbz4 hq0_4 c_7 hbz14 hq0_14 c_17 ⊢) <;> intros <;> omega)) dX7_cost_31 (fun H locs hP hD hS => ?_)
      have hP : va_P (dC, dI) vwCl [(aO, .inr (7, [.ref aOt, .ref aOr, .int O_drops, .int O_changed, .int O_picked, .int O_taken, .int O_acts, .int O_isForged, .ref aOp, .ref aOx, .int O_taped, .int O_size, .int O_at, .int O_fault, .int O_wordEnd, .int O_number, .ref aOw, .int O_writtenMany])), (aOt, .inl (cI, 50, .inl (upd vOt ((8 : Int32) + p1).toNatClampNeg p2))), (aOr, .inl (cI, 25, .inl vOr)), (aOp, .inl (cB, 600, .inl vOp)), (aOx, .inl (cB, 600, .inl vOx)), (aOw, .inl (cB, 600, .inl vOw))] H := hP
      have hD : va_D A [(aO, .inr (7, [.ref aOt, .ref aOr, .int O_drops, .int O_changed, .int O_picked, .int O_taken, .int O_acts, .int O_isForged, .ref aOp, .ref aOx, .int O_taped, .int O_size, .int O_at, .int O_fault, .int O_wordEnd, .int O_number, .ref aOw, .int O_writtenMany])), (aOt, .inl (cI, 50, .inl (upd vOt ((8 : Int32) + p1).toNatClampNeg p2))), (aOr, .inl (cI, 25, .inl vOr)), (aOp, .inl (cB, 600, .inl vOp)), (aOx, .inl (cB, 600, .inl vOx)), (aOw, .inl (cB, 600, .inl vOw))] := hD
      refine lv_iconst (v := (1 : Int32)) hx hb dX7_cost_32 (by decide) ?_
      exact W.zret (v := (1 : Int32)) (ty := .boolean) hx hb hr rfl (fun t ht hW => ⟨⟨(1 : Int32), ((upd vOt ((8 : Int32) + p1).toNatClampNeg p2)), rfl, ⟨hE.trans hRES, Or.inr rfl⟩, (by rw [ht]; exact hP), va_K.moved hW.alike hK, hD⟩, hS.F ht⟩) hS.2.2 dX7_cost_33
    · have hE := ipos c_17 hE
      refine lv_iconst (v := (0 : Int32)) hx hb dX7_cost_20 (by decide) ?_
      exact W.zret (v := (0 : Int32)) (ty := .boolean) hx hb hr rfl (fun t ht hW => ⟨⟨(0 : Int32), (vOt), rfl, ⟨hE.trans hRES, Or.inl rfl⟩, (by rw [ht]; exact hP), va_K.moved hW.alike hK, hD⟩, hS.F ht⟩) hS.2.2 dX7_cost_21
-- X7_pair
def fO_pair (p0 : Int32) (p1 : Int32) : Int32 := (if (if p1 < p0 then p1 else p0) = 0 then ((if p0 < p1 then p1 else p0) - (1 : Int32)) else (if (if p1 < p0 then p1 else p0) = (1 : Int32) then ((if p0 < p1 then p1 else p0) + (2 : Int32)) else (if (if p1 < p0 then p1 else p0) = (2 : Int32) then ((if p0 < p1 then p1 else p0) + (4 : Int32)) else (9 : Int32))))
set_option maxHeartbeats 4000000 in
set_option maxRecDepth 100000 in
theorem kO_pair (l : Launch) (dC : Nat → ClassId) (dI : Nat → Nat → Nat) (cI cB : ClassId) (sz : Nat) (p0 : Int32) (p1 : Int32) : Met l yX7_pair wsX7_pair ({ frames := 1, cells := 0, slots := 0, locals := 21 }) (va_Pc [.int p0, .int p1] (PB (dC, dI) vwCl [(cI, .int), (cB, .byte)] [] sz)) (va_Qi (fun (r : Int32) (u : Unit) => r = fO_pair p0 p1 ∧ ((0 ≤ p0.toInt ∧ p0.toInt < 5) ∧ (0 ≤ p1.toInt ∧ p1.toInt < 5) ∧ ¬ p0 = p1 → 0 ≤ r.toInt ∧ r.toInt ≤ 9)) (fun (_ : Unit) t => va_P (dC, dI) vwCl [] t.heap ∧ va_K (dC, dI) vwCl [(cI, .int), (cB, .byte)] t ∧ va_D (va_A [] sz) []) (va_A [] sz)) 0 0 (va_A [] sz) := by
  refine Met.ofW (cc := cX7_pair) (maxL := 4) (ret := (some .int)) (by decide) rfl ?_
  intro p e s m args below meth c s₁ B hml hv
  obtain ⟨rfl, hsz, hP, hK, hD0⟩ := hv
  have hx := B.exec
  have hb := B.bytes
  have hr := B.returns
  have hts := atoms_spec (ws := wsX7_pair) B.pre
  have hown : s.vm.findClass RX7 = some m.cls := findClass_of_methodNamed B.named
  have hlocks := B.notSynchronized
  clear B
  subst hsz
  have hD := hD0.self (sz := s.heap.size)
  clear hD0
  generalize hAe : va_A [] s.heap.size = A at hD ⊢
  have hA : ∀ q : Nat, s.heap.size ≤ q → A q := fun q h => by rw [← hAe]; exact Or.inr h
  clear hAe
  have hS : va_S A s.heap s.heap [] := va_S.rf
  have hP : va_P (dC, dI) vwCl [] s.heap := hP
  have hl := lv_entry ([.int p0, .int p1]) (n := 4) (Nat.le_of_ble_eq_true rfl)
  rw [lg_entry_eq]
  generalize (lg_sl ([.int p0, .int p1]) ++ List.replicate (4 - (lg_sl ([.int p0, .int p1])).length) Slot.unset).toArray = ls at hl ⊢
  have hl : lv_has ls 4 [(0, .int p0), (1, .int p1)] := hl
  obtain ⟨RES, hRES⟩ : ∃ y, y = fO_pair p0 p1 := ⟨_, rfl⟩
  have hE := hRES.symm
  rw [fO_pair] at hE
  refine lv_iload_n hx hb dX7_pair_0 rfl (lv_at hl 0 rfl) ?_
  refine lv_iload_n hx hb dX7_pair_1 rfl (lv_at hl 1 rfl) ?_
  refine va_mmin hx hb (by rw [hml]; exact hl.1.symm) hown (hts _ (List.mem_cons_of_mem _ (List.mem_of_getElem? (i := 0) rfl))) (hts _ (List.mem_cons_of_mem _ (List.mem_of_getElem? (i := 1) rfl))) (hts _ (List.mem_cons_of_mem _ (List.mem_of_getElem? (i := 2) rfl))) (hts _ (List.mem_cons_of_mem _ (List.mem_of_getElem? (i := 3) rfl))) (Nat.le_of_ble_eq_true rfl) (Nat.le_of_ble_eq_true rfl) (Nat.zero_le _) (Nat.zero_le _) dX7_pair_2 ?_
  have hm_2 := mmmin_f p0 p1
  refine lv_istore_n (lv' := [(2, .int (if p1 < p0 then p1 else p0)), (0, .int p0), (1, .int p1)]) hx hb dX7_pair_5 rfl hl (by decide) rfl (fun ls hl => ?_)
  refine lv_iload_n hx hb dX7_pair_6 rfl (lv_at hl 1 rfl) ?_
  refine lv_iload_n hx hb dX7_pair_7 rfl (lv_at hl 2 rfl) ?_
  refine va_mmax hx hb (by rw [hml]; exact hl.1.symm) hown (hts _ (List.mem_cons_of_mem _ (List.mem_of_getElem? (i := 4) rfl))) (hts _ (List.mem_cons_of_mem _ (List.mem_of_getElem? (i := 5) rfl))) (hts _ (List.mem_cons_of_mem _ (List.mem_of_getElem? (i := 2) rfl))) (hts _ (List.mem_cons_of_mem _ (List.mem_of_getElem? (i := 6) rfl))) (Nat.le_of_ble_eq_true rfl) (Nat.le_of_ble_eq_true rfl) (Nat.zero_le _) (Nat.zero_le _) dX7_pair_8 ?_
  have hm_8 := mmmax_f p0 p1
  refine lv_istore_n (lv' := [(3, .int (if p0 < p1 then p1 else p0)), (2, .int (if p1 < p0 then p1 else p0)), (0, .int p0), (1, .int p1)]) hx hb dX7_pair_11 rfl hl (by decide) rfl (fun ls hl => ?_)
  refine lv_iload_n hx hb dX7_pair_12 rfl (lv_at hl 1 rfl) ?_
  refine lv_if_ne (tgt := 22) hx hb dX7_pair_13 (by decide) (fun c_13 => ?_) (fun c_13 => ?_)
  · have hE := ineg c_13 hE
    refine lv_iload_n hx hb dX7_pair_22 rfl (lv_at hl 1 rfl) ?_
    refine lv_iconst (v := (1 : Int32)) hx hb dX7_pair_23 (by decide) ?_
    refine lv_icmp_ne (tgt := 33) hx hb dX7_pair_24 (by decide) (fun c_24 => ?_) (fun c_24 => ?_)
    · have hE := ineg c_24 hE
      refine lv_iload_n hx hb dX7_pair_33 rfl (lv_at hl 1 rfl) ?_
      refine lv_iconst (v := (2 : Int32)) hx hb dX7_pair_34 (by decide) ?_
      refine lv_icmp_ne (tgt := 44) hx hb dX7_pair_35 (by decide) (fun c_35 => ?_) (fun c_35 => ?_)
      · have hE := ineg c_35 hE
        refine lv_bipush (v := (9 : Int32)) hx hb dX7_pair_44 (by decide) ?_
        exact W.iret (v := (9 : Int32)) hx hb hr (fun t ht hW => ⟨⟨(9 : Int32), (), rfl, ⟨hE.trans hRES, (by first | ((try simp only [not_true_eq_false, not_false_eq_true, false_implies, true_implies, implies_true, vp_in_iff, i32_lt, i32_le, i32_eq, i32_add, i32_sub, i32_mul, t32_m1, t32_0, t32_1, t32_2, t32_4, t32_9] at hm_2 hm_8 c_13 c_24 c_35 ⊢) <;> intros <;> omega))⟩, (by rw [ht]; exact hP), va_K.moved hW.alike hK, hD⟩, hS.F ht⟩) hS.2.2 dX7_pair_46
      · have hE := ipos c_35 hE
        refine lv_iload_n hx hb dX7_pair_38 rfl (lv_at hl 0 rfl) ?_
        refine lv_iconst (v := (4 : Int32)) hx hb dX7_pair_39 (by decide) ?_
        refine lv_iadd hx hb dX7_pair_40 ?_
        refine lv_goto (tgt := 46) hx hb dX7_pair_41 (by decide) ?_
        exact W.iret (v := ((if p0 < p1 then p1 else p0) + (4 : Int32))) hx hb hr (fun t ht hW => ⟨⟨((if p0 < p1 then p1 else p0) + (4 : Int32)), (), rfl, ⟨hE.trans hRES, (by first | ((try simp only [not_true_eq_false, not_false_eq_true, false_implies, true_implies, implies_true, vp_in_iff, i32_lt, i32_le, i32_eq, i32_add, i32_sub, i32_mul, t32_m1, t32_0, t32_1, t32_2, t32_4, t32_9] at hm_2 hm_8 c_13 c_24 c_35 ⊢) <;> intros <;> omega) | ((try (have hs0 : ((if p0 < p1 then p1 else p0) + (4 : Int32)).toInt = (if p0 < p1 then p1 else p0).toInt + 4 := by (have h := i32_addS (x := (if p0 < p1 then p1 else p0)) (y := (4 : Int32)) (by (try simp only [not_true_eq_false, not_false_eq_true, false_implies, true_implies, implies_true, vp_in_iff, i32_lt, i32_le, i32_eq, t32_m1, t32_0, t32_1, t32_2, t32_4, t32_9] at hm_2 hm_8 c_13 c_24 c_35 ⊢) <;> omega) (by (try simp only [not_true_eq_false, not_false_eq_true, false_implies, true_implies, implies_true, vp_in_iff, i32_lt, i32_le, i32_eq, t32_m1, t32_0, t32_1, t32_2, t32_4, t32_9] at hm_2 hm_8 c_13 c_24 c_35 ⊢) <;> omega); (try simp only [t32_m1, t32_0, t32_1, t32_2, t32_4, t32_9] at h); exact h))); (try simp only [not_true_eq_false, not_false_eq_true, false_implies, true_implies, implies_true, vp_in_iff, i32_lt, i32_le, i32_eq, t32_m1, t32_0, t32_1, t32_2, t32_4, t32_9] at hm_2 hm_8 c_13 c_24 c_35 ⊢) <;> intros <;> omega))⟩, (by rw [ht]; exact hP), va_K.moved hW.alike hK, hD⟩, hS.F ht⟩) hS.2.2 dX7_pair_46
    · have hE := ipos c_24 hE
      refine lv_iload_n hx hb dX7_pair_27 rfl (lv_at hl 0 rfl) ?_
      refine lv_iconst (v := (2 : Int32)) hx hb dX7_pair_28 (by decide) ?_
      refine lv_iadd hx hb dX7_pair_29 ?_
      refine lv_goto (tgt := 46) hx hb dX7_pair_30 (by decide) ?_
      exact W.iret (v := ((if p0 < p1 then p1 else p0) + (2 : Int32))) hx hb hr (fun t ht hW => ⟨⟨((if p0 < p1 then p1 else p0) + (2 : Int32)), (), rfl, ⟨hE.trans hRES, (by first | ((try simp only [not_true_eq_false, not_false_eq_true, false_implies, true_implies, implies_true, vp_in_iff, i32_lt, i32_le, i32_eq, i32_add, i32_sub, i32_mul, t32_m1, t32_0, t32_1, t32_2, t32_4, t32_9] at hm_2 hm_8 c_13 c_24 ⊢) <;> intros <;> omega) | ((try (have hs0 : ((if p0 < p1 then p1 else p0) + (2 : Int32)).toInt = (if p0 < p1 then p1 else p0).toInt + 2 := by (have h := i32_addS (x := (if p0 < p1 then p1 else p0)) (y := (2 : Int32)) (by (try simp only [not_true_eq_false, not_false_eq_true, false_implies, true_implies, implies_true, vp_in_iff, i32_lt, i32_le, i32_eq, t32_m1, t32_0, t32_1, t32_2, t32_4, t32_9] at hm_2 hm_8 c_13 c_24 ⊢) <;> omega) (by (try simp only [not_true_eq_false, not_false_eq_true, false_implies, true_implies, implies_true, vp_in_iff, i32_lt, i32_le, i32_eq, t32_m1, t32_0, t32_1, t32_2, t32_4, t32_9] at hm_2 hm_8 c_13 c_24 ⊢) <;> omega); (try simp only [t32_m1, t32_0, t32_1, t32_2, t32_4, t32_9] at h); exact h))); (try simp only [not_true_eq_false, not_false_eq_true, false_implies, true_implies, implies_true, vp_in_iff, i32_lt, i32_le, i32_eq, t32_m1, t32_0, t32_1, t32_2, t32_4, t32_9] at hm_2 hm_8 c_13 c_24 ⊢) <;> intros <;> omega))⟩, (by rw [ht]; exact hP), va_K.moved hW.alike hK, hD⟩, hS.F ht⟩) hS.2.2 dX7_pair_46
  · have hE := ipos c_13 hE
    refine lv_iload_n hx hb dX7_pair_16 rfl (lv_at hl 0 rfl) ?_
    refine lv_iconst (v := (1 : Int32)) hx hb dX7_pair_17 (by decide) ?_
    refine lv_isub hx hb dX7_pair_18 ?_
    refine lv_goto (tgt := 46) hx hb dX7_pair_19 (by decide) ?_
    exact W.iret (v := ((if p0 < p1 then p1 else p0) - (1 : Int32))) hx hb hr (fun t ht hW => ⟨⟨((if p0 < p1 then p1 else p0) - (1 : Int32)), (), rfl, ⟨hE.trans hRES, (by first | ((try simp only [not_true_eq_false, not_false_eq_true, false_implies, true_implies, implies_true, vp_in_iff, i32_lt, i32_le, i32_eq, i32_add, i32_sub, i32_mul, t32_m1, t32_0, t32_1, t32_2, t32_4, t32_9] at hm_2 hm_8 c_13 ⊢) <;> intros <;> omega) | ((try (have hs0 : ((if p0 < p1 then p1 else p0) - (1 : Int32)).toInt = (if p0 < p1 then p1 else p0).toInt - 1 := by (have h := i32_subS (x := (if p0 < p1 then p1 else p0)) (y := (1 : Int32)) (by (try simp only [not_true_eq_false, not_false_eq_true, false_implies, true_implies, implies_true, vp_in_iff, i32_lt, i32_le, i32_eq, t32_m1, t32_0, t32_1, t32_2, t32_4, t32_9] at hm_2 hm_8 c_13 ⊢) <;> omega) (by (try simp only [not_true_eq_false, not_false_eq_true, false_implies, true_implies, implies_true, vp_in_iff, i32_lt, i32_le, i32_eq, t32_m1, t32_0, t32_1, t32_2, t32_4, t32_9] at hm_2 hm_8 c_13 ⊢) <;> omega); (try simp only [t32_m1, t32_0, t32_1, t32_2, t32_4, t32_9] at h); exact h))); (try simp only [not_true_eq_false, not_false_eq_true, false_implies, true_implies, implies_true, vp_in_iff, i32_lt, i32_le, i32_eq, t32_m1, t32_0, t32_1, t32_2, t32_4, t32_9] at hm_2 hm_8 c_13 ⊢) <;> intros <;> omega))⟩, (by rw [ht]; exact hP), va_K.moved hW.alike hK, hD⟩, hS.F ht⟩) hS.2.2 dX7_pair_46
-- X7_must
def fO_must (vOt : Nat → Int32) (p1 : Int32) (p2 : Int32) (p3 : Int32) : Int32 × (Nat → Int32) := (if (fO_areFriends p1 p2) = 0 then ((0 : Int32), vOt) else (if (vOt ((15 : Int32) + (fO_pair p1 p2)).toNatClampNeg) = (fO_one p3) then ((0 : Int32), vOt) else ((1 : Int32), (upd vOt ((15 : Int32) + (fO_pair p1 p2)).toNatClampNeg (fO_one p3)))))
set_option maxHeartbeats 4000000 in
set_option maxRecDepth 100000 in
theorem kO_must (l : Launch) (dC : Nat → ClassId) (dI : Nat → Nat → Nat) (cI cB : ClassId) (aO aOt aOr aOp aOx aOw : Nat) (sz : Nat) (O_drops : Int32) (O_changed : Int32) (O_picked : Int32) (O_taken : Int32) (O_acts : Int32) (O_isForged : Int32) (O_taped : Int32) (O_size : Int32) (O_at : Int32) (O_fault : Int32) (O_wordEnd : Int32) (O_number : Int32) (O_writtenMany : Int32) (vOt : Nat → Int32) (vOr : Nat → Int32) (vOp : Nat → Int32) (vOx : Nat → Int32) (vOw : Nat → Int32) (p1 : Int32) (p2 : Int32) (p3 : Int32) : Met l yX7_must wsX7_must ({ frames := 3, cells := 0, slots := 0, locals := 63 }) (va_Pc [.ref aO, .int p1, .int p2, .int p3] (PB (dC, dI) vwCl [(cI, .int), (cB, .byte)] [(aO, .inr (7, [.ref aOt, .ref aOr, .int O_drops, .int O_changed, .int O_picked, .int O_taken, .int O_acts, .int O_isForged, .ref aOp, .ref aOx, .int O_taped, .int O_size, .int O_at, .int O_fault, .int O_wordEnd, .int O_number, .ref aOw, .int O_writtenMany])), (aOt, .inl (cI, 50, .inl vOt)), (aOr, .inl (cI, 25, .inl vOr)), (aOp, .inl (cB, 600, .inl vOp)), (aOx, .inl (cB, 600, .inl vOx)), (aOw, .inl (cB, 600, .inl vOw))] sz)) (va_Qi (fun (r : Int32) (u : (Nat → Int32)) => (r, u) = fO_must vOt p1 p2 p3 ∧ (r = 0 ∨ r = 1)) (fun (u : (Nat → Int32)) t => va_P (dC, dI) vwCl [(aO, .inr (7, [.ref aOt, .ref aOr, .int O_drops, .int O_changed, .int O_picked, .int O_taken, .int O_acts, .int O_isForged, .ref aOp, .ref aOx, .int O_taped, .int O_size, .int O_at, .int O_fault, .int O_wordEnd, .int O_number, .ref aOw, .int O_writtenMany])), (aOt, .inl (cI, 50, .inl u)), (aOr, .inl (cI, 25, .inl vOr)), (aOp, .inl (cB, 600, .inl vOp)), (aOx, .inl (cB, 600, .inl vOx)), (aOw, .inl (cB, 600, .inl vOw))] t.heap ∧ va_K (dC, dI) vwCl [(cI, .int), (cB, .byte)] t ∧ va_D (va_A [(aO, .inr (7, [.ref aOt, .ref aOr, .int O_drops, .int O_changed, .int O_picked, .int O_taken, .int O_acts, .int O_isForged, .ref aOp, .ref aOx, .int O_taped, .int O_size, .int O_at, .int O_fault, .int O_wordEnd, .int O_number, .ref aOw, .int O_writtenMany])), (aOt, .inl (cI, 50, .inl vOt)), (aOr, .inl (cI, 25, .inl vOr)), (aOp, .inl (cB, 600, .inl vOp)), (aOx, .inl (cB, 600, .inl vOx)), (aOw, .inl (cB, 600, .inl vOw))] sz) [(aO, .inr (7, [.ref aOt, .ref aOr, .int O_drops, .int O_changed, .int O_picked, .int O_taken, .int O_acts, .int O_isForged, .ref aOp, .ref aOx, .int O_taped, .int O_size, .int O_at, .int O_fault, .int O_wordEnd, .int O_number, .ref aOw, .int O_writtenMany])), (aOt, .inl (cI, 50, .inl u)), (aOr, .inl (cI, 25, .inl vOr)), (aOp, .inl (cB, 600, .inl vOp)), (aOx, .inl (cB, 600, .inl vOx)), (aOw, .inl (cB, 600, .inl vOw))]) (va_A [(aO, .inr (7, [.ref aOt, .ref aOr, .int O_drops, .int O_changed, .int O_picked, .int O_taken, .int O_acts, .int O_isForged, .ref aOp, .ref aOx, .int O_taped, .int O_size, .int O_at, .int O_fault, .int O_wordEnd, .int O_number, .ref aOw, .int O_writtenMany])), (aOt, .inl (cI, 50, .inl vOt)), (aOr, .inl (cI, 25, .inl vOr)), (aOp, .inl (cB, 600, .inl vOp)), (aOx, .inl (cB, 600, .inl vOx)), (aOw, .inl (cB, 600, .inl vOw))] sz)) 0 0 (va_A [(aO, .inr (7, [.ref aOt, .ref aOr, .int O_drops, .int O_changed, .int O_picked, .int O_taken, .int O_acts, .int O_isForged, .ref aOp, .ref aOx, .int O_taped, .int O_size, .int O_at, .int O_fault, .int O_wordEnd, .int O_number, .ref aOw, .int O_writtenMany])), (aOt, .inl (cI, 50, .inl vOt)), (aOr, .inl (cI, 25, .inl vOr)), (aOp, .inl (cB, 600, .inl vOp)), (aOx, .inl (cB, 600, .inl vOx)), (aOw, .inl (cB, 600, .inl vOw))] sz) := by
  refine Met.ofW (cc := cX7_must) (maxL := 4) (ret := (some .boolean)) (by decide) rfl ?_
  intro p e s m args below meth c s₁ B hml hv
  obtain ⟨rfl, hsz, hP, hK, hD0⟩ := hv
  have hx := B.exec
  have hb := B.bytes
  have hr := B.returns
  have hts := atoms_spec (ws := wsX7_must) B.pre
  have hown : s.vm.findClass RX7 = some m.cls := findClass_of_methodNamed B.named
  have hlocks := B.notSynchronized
  clear B
  subst hsz
  have hD := hD0.self (sz := s.heap.size)
  clear hD0
  generalize hAe : va_A [(aO, .inr (7, [.ref aOt, .ref aOr, .int O_drops, .int O_changed, .int O_picked, .int O_taken, .int O_acts, .int O_isForged, .ref aOp, .ref aOx, .int O_taped, .int O_size, .int O_at, .int O_fault, .int O_wordEnd, .int O_number, .ref aOw, .int O_writtenMany])), (aOt, .inl (cI, 50, .inl vOt)), (aOr, .inl (cI, 25, .inl vOr)), (aOp, .inl (cB, 600, .inl vOp)), (aOx, .inl (cB, 600, .inl vOx)), (aOw, .inl (cB, 600, .inl vOw))] s.heap.size = A at hD ⊢
  have hA : ∀ q : Nat, s.heap.size ≤ q → A q := fun q h => by rw [← hAe]; exact Or.inr h
  clear hAe
  have hS : va_S A s.heap s.heap [] := va_S.rf
  have hP : va_P (dC, dI) vwCl [(aO, .inr (7, [.ref aOt, .ref aOr, .int O_drops, .int O_changed, .int O_picked, .int O_taken, .int O_acts, .int O_isForged, .ref aOp, .ref aOx, .int O_taped, .int O_size, .int O_at, .int O_fault, .int O_wordEnd, .int O_number, .ref aOw, .int O_writtenMany])), (aOt, .inl (cI, 50, .inl vOt)), (aOr, .inl (cI, 25, .inl vOr)), (aOp, .inl (cB, 600, .inl vOp)), (aOx, .inl (cB, 600, .inl vOx)), (aOw, .inl (cB, 600, .inl vOw))] s.heap := hP
  have hl := lv_entry ([.ref aO, .int p1, .int p2, .int p3]) (n := 4) (Nat.le_of_ble_eq_true rfl)
  rw [lg_entry_eq]
  generalize (lg_sl ([.ref aO, .int p1, .int p2, .int p3]) ++ List.replicate (4 - (lg_sl ([.ref aO, .int p1, .int p2, .int p3])).length) Slot.unset).toArray = ls at hl ⊢
  have hl : lv_has ls 4 [(0, .ref aO), (1, .int p1), (2, .int p2), (3, .int p3)] := hl
  obtain ⟨RES, hRES⟩ : ∃ y, y = fO_must vOt p1 p2 p3 := ⟨_, rfl⟩
  have hE := hRES.symm
  rw [fO_must] at hE
  refine lv_iload_n hx hb dX7_must_0 rfl (lv_at hl 1 rfl) ?_
  refine lv_iload_n hx hb dX7_must_1 rfl (lv_at hl 2 rfl) ?_
  have hPc := hP.sub (ws' := []) [] rfl
  have hDc := hD.sub (ws' := []) [] (by decide) rfl
  have hFc := va_free (wc := []) hD hS hA [] rfl
  refine va_calli (va_runS (As := [.int p1, .int p2]) (rest := []) ⟨hx, hb, hml, hown, hts⟩ (kO_areFriends l dC dI cI cB s.heap.size p1 p2 ) (va_cwS 2 hts gX7_must_X7_areFriends rfl rfl rfl (by decide +kernel) ⟨Nat.le_of_ble_eq_true rfl, Nat.le_of_ble_eq_true rfl⟩) (pre_S hK hPc hDc) rfl rfl hl.1 rfl (lv_room (Nat.le_of_ble_eq_true rfl)) dX7_must_2 ⟨(Nat.zero_le _), (Nat.zero_le _)⟩) hS (fun q _ h => hFc q h) hFc (fun r2 u t H1 locs ht hvm hw hB hz1 hk1 hS => ?_)
  obtain ⟨hP1, hK1, hD1⟩ := hB
  rw [ht] at hP1
  obtain ⟨hw, hbz2, hq0_2⟩ := hw
  have hw := hw.symm
  subst hw
  obtain ⟨hP, hD⟩ := va_join (wr := [(aO, .inr (7, [.ref aOt, .ref aOr, .int O_drops, .int O_changed, .int O_picked, .int O_taken, .int O_acts, .int O_isForged, .ref aOp, .ref aOx, .int O_taped, .int O_size, .int O_at, .int O_fault, .int O_wordEnd, .int O_number, .ref aOw, .int O_writtenMany])), (aOt, .inl (cI, 50, .inl vOt)), (aOr, .inl (cI, 25, .inl vOr)), (aOp, .inl (cB, 600, .inl vOp)), (aOx, .inl (cB, 600, .inl vOx)), (aOw, .inl (cB, 600, .inl vOw))]) (w1 := []) hP hD [] [0, 1, 2, 3, 4, 5] rfl rfl (by decide) (by decide) hk1 hFc hP1 hD1
  generalize H1 = H at hP hS ⊢
  have hP : va_P (dC, dI) vwCl [(aO, .inr (7, [.ref aOt, .ref aOr, .int O_drops, .int O_changed, .int O_picked, .int O_taken, .int O_acts, .int O_isForged, .ref aOp, .ref aOx, .int O_taped, .int O_size, .int O_at, .int O_fault, .int O_wordEnd, .int O_number, .ref aOw, .int O_writtenMany])), (aOt, .inl (cI, 50, .inl vOt)), (aOr, .inl (cI, 25, .inl vOr)), (aOp, .inl (cB, 600, .inl vOp)), (aOx, .inl (cB, 600, .inl vOx)), (aOw, .inl (cB, 600, .inl vOw))] H := hP
  have hD : va_D A [(aO, .inr (7, [.ref aOt, .ref aOr, .int O_drops, .int O_changed, .int O_picked, .int O_taken, .int O_acts, .int O_isForged, .ref aOp, .ref aOx, .int O_taped, .int O_size, .int O_at, .int O_fault, .int O_wordEnd, .int O_number, .ref aOw, .int O_writtenMany])), (aOt, .inl (cI, 50, .inl vOt)), (aOr, .inl (cI, 25, .inl vOr)), (aOp, .inl (cB, 600, .inl vOp)), (aOx, .inl (cB, 600, .inl vOx)), (aOw, .inl (cB, 600, .inl vOw))] := hD
  refine lv_if_eq (tgt := 28) hx hb dX7_must_5 (by decide) (fun c_5 => ?_) (fun c_5 => ?_)
  · have hE := ipos c_5 hE
    refine lv_iconst (v := (0 : Int32)) hx hb dX7_must_28 (by decide) ?_
    exact W.zret (v := (0 : Int32)) (ty := .boolean) hx hb hr rfl (fun t ht hW => ⟨⟨(0 : Int32), (vOt), rfl, ⟨hE.trans hRES, Or.inl rfl⟩, (by rw [ht]; exact hP), va_K.moved hW.alike hK, hD⟩, hS.F ht⟩) hS.2.2 dX7_must_29
  · have hE := ineg c_5 hE
    refine lv_aload_n hx hb dX7_must_8 rfl (lv_at hl 0 rfl) ?_
    refine va_get (D := (dC, dI)) (ci := 7) (v := .ref aOt) (C := RX7) (T := TX7) (N := 18) hx hb hts (fun _ h => List.mem_cons_of_mem _ (List.mem_append_right _ h)) hown hK hP 0 rfl rfl 0 (by decide) (hts _ (List.mem_cons_of_mem _ (List.mem_append_left _ (List.mem_of_getElem? (i := 0) rfl)))) (fun _ h9 => h9) rfl dX7_must_9 ?_
    refine lv_bipush (v := (15 : Int32)) hx hb dX7_must_12 (by decide) ?_
    refine lv_iload_n hx hb dX7_must_14 rfl (lv_at hl 1 rfl) ?_
    refine lv_iload_n hx hb dX7_must_15 rfl (lv_at hl 2 rfl) ?_
    have hPc := hP.sub (ws' := []) [] rfl
    have hDc := hD.sub (ws' := []) [] (by decide) rfl
    have hFc := va_free (wc := []) hD hS hA [] rfl
    refine va_calli (va_runS (As := [.int p1, .int p2]) (rest := [.int (15 : Int32), .ref aOt]) ⟨hx, hb, hml, hown, hts⟩ (kO_pair l dC dI cI cB H.size p1 p2 ) (va_cwS 2 hts gX7_must_X7_pair rfl rfl rfl (by decide +kernel) ⟨Nat.le_of_ble_eq_true rfl, Nat.le_of_ble_eq_true rfl⟩) (pre_S hK hPc hDc) rfl rfl hl.1 rfl (lv_room (Nat.le_of_ble_eq_true rfl)) dX7_must_16 ⟨(Nat.zero_le _), (Nat.zero_le _)⟩) hS (fun q _ h => hFc q h) hFc (fun r16 u t H1 locs ht hvm hw hB hz1 hk1 hS => ?_)
    obtain ⟨hP1, hK1, hD1⟩ := hB
    rw [ht] at hP1
    obtain ⟨hw, hq0_16⟩ := hw
    have hw := hw.symm
    subst hw
    obtain ⟨hP, hD⟩ := va_join (wr := [(aO, .inr (7, [.ref aOt, .ref aOr, .int O_drops, .int O_changed, .int O_picked, .int O_taken, .int O_acts, .int O_isForged, .ref aOp, .ref aOx, .int O_taped, .int O_size, .int O_at, .int O_fault, .int O_wordEnd, .int O_number, .ref aOw, .int O_writtenMany])), (aOt, .inl (cI, 50, .inl vOt)), (aOr, .inl (cI, 25, .inl vOr)), (aOp, .inl (cB, 600, .inl vOp)), (aOx, .inl (cB, 600, .inl vOx)), (aOw, .inl (cB, 600, .inl vOw))]) (w1 := []) hP hD [] [0, 1, 2, 3, 4, 5] rfl rfl (by decide) (by decide) hk1 hFc hP1 hD1
    generalize H1 = H at hP hS ⊢
    have hP : va_P (dC, dI) vwCl [(aO, .inr (7, [.ref aOt, .ref aOr, .int O_drops, .int O_changed, .int O_picked, .int O_taken, .int O_acts, .int O_isForged, .ref aOp, .ref aOx, .int O_taped, .int O_size, .int O_at, .int O_fault, .int O_wordEnd, .int O_number, .ref aOw, .int O_writtenMany])), (aOt, .inl (cI, 50, .inl vOt)), (aOr, .inl (cI, 25, .inl vOr)), (aOp, .inl (cB, 600, .inl vOp)), (aOx, .inl (cB, 600, .inl vOx)), (aOw, .inl (cB, 600, .inl vOw))] H := hP
    have hD : va_D A [(aO, .inr (7, [.ref aOt, .ref aOr, .int O_drops, .int O_changed, .int O_picked, .int O_taken, .int O_acts, .int O_isForged, .ref aOp, .ref aOx, .int O_taped, .int O_size, .int O_at, .int O_fault, .int O_wordEnd, .int O_number, .ref aOw, .int O_writtenMany])), (aOt, .inl (cI, 50, .inl vOt)), (aOr, .inl (cI, 25, .inl vOr)), (aOp, .inl (cB, 600, .inl vOp)), (aOx, .inl (cB, 600, .inl vOx)), (aOw, .inl (cB, 600, .inl vOw))] := hD
    refine lv_iadd hx hb dX7_must_19 ?_
    refine va_iald (D := (dC, dI)) (cl := vwCl) hx hb hK hP 1 0 rfl rfl (by first | ((try generalize (fO_pair p1 p2) = g1 at hbz2 hq0_2 c_5 hq0_16 ⊢); (try generalize (fO_areFriends p1 p2) = g0 at hbz2 hq0_2 c_5 hq0_16 ⊢); (try simp only [not_true_eq_false, not_false_eq_true, false_implies, true_implies, implies_true, vp_in_iff, i32_lt, i32_le, i32_eq, i32_add, i32_sub, i32_mul, t32_m1, t32_0, t32_1, t32_15] at hbz2 hq0_2 c_5 hq0_16 ⊢) <;> intros <;> omega)) dX7_must_20 ?_
    refine lv_iload_n hx hb dX7_must_21 rfl (lv_at hl 3 rfl) ?_
    have hPc := hP.sub (ws' := []) [] rfl
    have hDc := hD.sub (ws' := []) [] (by decide) rfl
    have hFc := va_free (wc := []) hD hS hA [] rfl
    refine va_calli (va_runS (As := [.int p3]) (rest := [.int (vOt ((15 : Int32) + (fO_pair p1 p2)).toNatClampNeg)]) ⟨hx, hb, hml, hown, hts⟩ (kO_one l dC dI cI cB H.size p3 ) (va_cwS 1 hts gX7_must_X7_one rfl rfl rfl (by decide +kernel) ⟨Nat.le_of_ble_eq_true rfl, Nat.le_of_ble_eq_true rfl⟩) (pre_S hK hPc hDc) rfl rfl hl.1 rfl (lv_room (Nat.le_of_ble_eq_true rfl)) dX7_must_22 ⟨(Nat.zero_le _), (Nat.zero_le _)⟩) hS (fun q _ h => hFc q h) hFc (fun r22 u t H1 locs ht hvm hw hB hz1 hk1 hS => ?_)
    obtain ⟨hP1, hK1, hD1⟩ := hB
    rw [ht] at hP1
    have hw := hw.symm
    subst hw
    obtain ⟨hP, hD⟩ := va_join (wr := [(aO, .inr (7, [.ref aOt, .ref aOr, .int O_drops, .int O_changed, .int O_picked, .int O_taken, .int O_acts, .int O_isForged, .ref aOp, .ref aOx, .int O_taped, .int O_size, .int O_at, .int O_fault, .int O_wordEnd, .int O_number, .ref aOw, .int O_writtenMany])), (aOt, .inl (cI, 50, .inl vOt)), (aOr, .inl (cI, 25, .inl vOr)), (aOp, .inl (cB, 600, .inl vOp)), (aOx, .inl (cB, 600, .inl vOx)), (aOw, .inl (cB, 600, .inl vOw))]) (w1 := []) hP hD [] [0, 1, 2, 3, 4, 5] rfl rfl (by decide) (by decide) hk1 hFc hP1 hD1
    generalize H1 = H at hP hS ⊢
    have hP : va_P (dC, dI) vwCl [(aO, .inr (7, [.ref aOt, .ref aOr, .int O_drops, .int O_changed, .int O_picked, .int O_taken, .int O_acts, .int O_isForged, .ref aOp, .ref aOx, .int O_taped, .int O_size, .int O_at, .int O_fault, .int O_wordEnd, .int O_number, .ref aOw, .int O_writtenMany])), (aOt, .inl (cI, 50, .inl vOt)), (aOr, .inl (cI, 25, .inl vOr)), (aOp, .inl (cB, 600, .inl vOp)), (aOx, .inl (cB, 600, .inl vOx)), (aOw, .inl (cB, 600, .inl vOw))] H := hP
    have hD : va_D A [(aO, .inr (7, [.ref aOt, .ref aOr, .int O_drops, .int O_changed, .int O_picked, .int O_taken, .int O_acts, .int O_isForged, .ref aOp, .ref aOx, .int O_taped, .int O_size, .int O_at, .int O_fault, .int O_wordEnd, .int O_number, .ref aOw, .int O_writtenMany])), (aOt, .inl (cI, 50, .inl vOt)), (aOr, .inl (cI, 25, .inl vOr)), (aOp, .inl (cB, 600, .inl vOp)), (aOx, .inl (cB, 600, .inl vOx)), (aOw, .inl (cB, 600, .inl vOw))] := hD
    refine lv_icmp_ne (tgt := 30) hx hb dX7_must_25 (by decide) (fun c_25 => ?_) (fun c_25 => ?_)
    · have hE := ineg c_25 hE
      refine lv_aload_n hx hb dX7_must_30 rfl (lv_at hl 0 rfl) ?_
      refine va_get (D := (dC, dI)) (ci := 7) (v := .ref aOt) (C := RX7) (T := TX7) (N := 18) hx hb hts (fun _ h => List.mem_cons_of_mem _ (List.mem_append_right _ h)) hown hK hP 0 rfl rfl 0 (by decide) (hts _ (List.mem_cons_of_mem _ (List.mem_append_left _ (List.mem_of_getElem? (i := 0) rfl)))) (fun _ h9 => h9) rfl dX7_must_31 ?_
      refine lv_bipush (v := (15 : Int32)) hx hb dX7_must_34 (by decide) ?_
      refine lv_iload_n hx hb dX7_must_36 rfl (lv_at hl 1 rfl) ?_
      refine lv_iload_n hx hb dX7_must_37 rfl (lv_at hl 2 rfl) ?_
      have hPc := hP.sub (ws' := []) [] rfl
      have hDc := hD.sub (ws' := []) [] (by decide) rfl
      have hFc := va_free (wc := []) hD hS hA [] rfl
      refine va_calli (va_runS (As := [.int p1, .int p2]) (rest := [.int (15 : Int32), .ref aOt]) ⟨hx, hb, hml, hown, hts⟩ (kO_pair l dC dI cI cB H.size p1 p2 ) (va_cwS 2 hts gX7_must_X7_pair rfl rfl rfl (by decide +kernel) ⟨Nat.le_of_ble_eq_true rfl, Nat.le_of_ble_eq_true rfl⟩) (pre_S hK hPc hDc) rfl rfl hl.1 rfl (lv_room (Nat.le_of_ble_eq_true rfl)) dX7_must_38 ⟨(Nat.zero_le _), (Nat.zero_le _)⟩) hS (fun q _ h => hFc q h) hFc (fun r38 u t H1 locs ht hvm hw hB hz1 hk1 hS => ?_)
      obtain ⟨hP1, hK1, hD1⟩ := hB
      rw [ht] at hP1
      obtain ⟨hw, hq0_38⟩ := hw
      have hw := hw.symm
      subst hw
      obtain ⟨hP, hD⟩ := va_join (wr := [(aO, .inr (7, [.ref aOt, .ref aOr, .int O_drops, .int O_changed, .int O_picked, .int O_taken, .int O_acts, .int O_isForged, .ref aOp, .ref aOx, .int O_taped, .int O_size, .int O_at, .int O_fault, .int O_wordEnd, .int O_number, .ref aOw, .int O_writtenMany])), (aOt, .inl (cI, 50, .inl vOt)), (aOr, .inl (cI, 25, .inl vOr)), (aOp, .inl (cB, 600, .inl vOp)), (aOx, .inl (cB, 600, .inl vOx)), (aOw, .inl (cB, 600, .inl vOw))]) (w1 := []) hP hD [] [0, 1, 2, 3, 4, 5] rfl rfl (by decide) (by decide) hk1 hFc hP1 hD1
      generalize H1 = H at hP hS ⊢
      have hP : va_P (dC, dI) vwCl [(aO, .inr (7, [.ref aOt, .ref aOr, .int O_drops, .int O_changed, .int O_picked, .int O_taken, .int O_acts, .int O_isForged, .ref aOp, .ref aOx, .int O_taped, .int O_size, .int O_at, .int O_fault, .int O_wordEnd, .int O_number, .ref aOw, .int O_writtenMany])), (aOt, .inl (cI, 50, .inl vOt)), (aOr, .inl (cI, 25, .inl vOr)), (aOp, .inl (cB, 600, .inl vOp)), (aOx, .inl (cB, 600, .inl vOx)), (aOw, .inl (cB, 600, .inl vOw))] H := hP
      have hD : va_D A [(aO, .inr (7, [.ref aOt, .ref aOr, .int O_drops, .int O_changed, .int O_picked, .int O_taken, .int O_acts, .int O_isForged, .ref aOp, .ref aOx, .int O_taped, .int O_size, .int O_at, .int O_fault, .int O_wordEnd, .int O_number, .ref aOw, .int O_writtenMany])), (aOt, .inl (cI, 50, .inl vOt)), (aOr, .inl (cI, 25, .inl vOr)), (aOp, .inl (cB, 600, .inl vOp)), (aOx, .inl (cB, 600, .inl vOx)), (aOw, .inl (cB, 600, .inl vOw))] := hD
      refine lv_iadd hx hb dX7_must_41 ?_
      refine lv_iload_n hx hb dX7_must_42 rfl (lv_at hl 3 rfl) ?_
      have hPc := hP.sub (ws' := []) [] rfl
      have hDc := hD.sub (ws' := []) [] (by decide) rfl
      have hFc := va_free (wc := []) hD hS hA [] rfl
      refine va_calli (va_runS (As := [.int p3]) (rest := [.int ((15 : Int32) + (fO_pair p1 p2)), .ref aOt]) ⟨hx, hb, hml, hown, hts⟩ (kO_one l dC dI cI cB H.size p3 ) (va_cwS 1 hts gX7_must_X7_one rfl rfl rfl (by decide +kernel) ⟨Nat.le_of_ble_eq_true rfl, Nat.le_of_ble_eq_true rfl⟩) (pre_S hK hPc hDc) rfl rfl hl.1 rfl (lv_room (Nat.le_of_ble_eq_true rfl)) dX7_must_43 ⟨(Nat.zero_le _), (Nat.zero_le _)⟩) hS (fun q _ h => hFc q h) hFc (fun r43 u t H1 locs ht hvm hw hB hz1 hk1 hS => ?_)
      obtain ⟨hP1, hK1, hD1⟩ := hB
      rw [ht] at hP1
      have hw := hw.symm
      subst hw
      obtain ⟨hP, hD⟩ := va_join (wr := [(aO, .inr (7, [.ref aOt, .ref aOr, .int O_drops, .int O_changed, .int O_picked, .int O_taken, .int O_acts, .int O_isForged, .ref aOp, .ref aOx, .int O_taped, .int O_size, .int O_at, .int O_fault, .int O_wordEnd, .int O_number, .ref aOw, .int O_writtenMany])), (aOt, .inl (cI, 50, .inl vOt)), (aOr, .inl (cI, 25, .inl vOr)), (aOp, .inl (cB, 600, .inl vOp)), (aOx, .inl (cB, 600, .inl vOx)), (aOw, .inl (cB, 600, .inl vOw))]) (w1 := []) hP hD [] [0, 1, 2, 3, 4, 5] rfl rfl (by decide) (by decide) hk1 hFc hP1 hD1
      generalize H1 = H at hP hS ⊢
      have hP : va_P (dC, dI) vwCl [(aO, .inr (7, [.ref aOt, .ref aOr, .int O_drops, .int O_changed, .int O_picked, .int O_taken, .int O_acts, .int O_isForged, .ref aOp, .ref aOx, .int O_taped, .int O_size, .int O_at, .int O_fault, .int O_wordEnd, .int O_number, .ref aOw, .int O_writtenMany])), (aOt, .inl (cI, 50, .inl vOt)), (aOr, .inl (cI, 25, .inl vOr)), (aOp, .inl (cB, 600, .inl vOp)), (aOx, .inl (cB, 600, .inl vOx)), (aOw, .inl (cB, 600, .inl vOw))] H := hP
      have hD : va_D A [(aO, .inr (7, [.ref aOt, .ref aOr, .int O_drops, .int O_changed, .int O_picked, .int O_taken, .int O_acts, .int O_isForged, .ref aOp, .ref aOx, .int O_taped, .int O_size, .int O_at, .int O_fault, .int O_wordEnd, .int O_number, .ref aOw, .int O_writtenMany])), (aOt, .inl (cI, 50, .inl vOt)), (aOr, .inl (cI, 25, .inl vOr)), (aOp, .inl (cB, 600, .inl vOp)), (aOx, .inl (cB, 600, .inl vOx)), (aOw, .inl (cB, 600, .inl vOw))] := hD
      refine va_iast (D := (dC, dI)) (cl := vwCl) hx hb hK hP hD hS 1 0 rfl rfl (by first | ((try generalize (fO_one p3) = g2 at hbz2 hq0_2 c_5 hq0_16 c_25 hq0_38 ⊢); (try generalize (fO_pair p1 p2) = g1 at hbz2 hq0_2 c_5 hq0_16 c_25 hq0_38 ⊢); (try generalize (fO_areFriends p1 p2) = g0 at hbz2 hq0_2 c_5 hq0_16 c_25 hq0_38 ⊢); (try simp only [not_true_eq_false, not_false_eq_true, false_implies, true_implies, implies_true, vp_in_iff, i32_lt, i32_le, i32_eq, i32_add, i32_sub, i32_mul, t32_m1, t32_0, t32_1, t32_15] at hbz2 hq0_2 c_5 hq0_16 c_25 hq0_38 ⊢) <;> intros <;> omega) | ((try (have hs0 : ((15 : Int32) + (fO_pair p1 p2)).toInt = 15 + (fO_pair p1 p2).toInt := by (have h := i32_addS (x := (15 : Int32)) (y := (fO_pair p1 p2)) (by (try simp only [not_true_eq_false, not_false_eq_true, false_implies, true_implies, implies_true, vp_in_iff, i32_lt, i32_le, i32_eq, t32_m1, t32_0, t32_1, t32_15] at hbz2 hq0_2 c_5 hq0_16 c_25 hq0_38 ⊢) <;> omega) (by (try simp only [not_true_eq_false, not_false_eq_true, false_implies, true_implies, implies_true, vp_in_iff, i32_lt, i32_le, i32_eq, t32_m1, t32_0, t32_1, t32_15] at hbz2 hq0_2 c_5 hq0_16 c_25 hq0_38 ⊢) <;> omega); (try simp only [t32_m1, t32_0, t32_1, t32_15] at h); exact h))); (try simp only [not_true_eq_false, not_false_eq_true, false_implies, true_implies, implies_true, vp_in_iff, i32_lt, i32_le, i32_eq, t32_m1, t32_0, t32_1, t32_15] at hbz2 hq0_2 c_5 hq0_16 c_25 hq0_38 ⊢) <;> intros <;> omega)) dX7_must_46 (fun H locs hP hD hS => ?_)
      have hP : va_P (dC, dI) vwCl [(aO, .inr (7, [.ref aOt, .ref aOr, .int O_drops, .int O_changed, .int O_picked, .int O_taken, .int O_acts, .int O_isForged, .ref aOp, .ref aOx, .int O_taped, .int O_size, .int O_at, .int O_fault, .int O_wordEnd, .int O_number, .ref aOw, .int O_writtenMany])), (aOt, .inl (cI, 50, .inl (upd vOt ((15 : Int32) + (fO_pair p1 p2)).toNatClampNeg (fO_one p3)))), (aOr, .inl (cI, 25, .inl vOr)), (aOp, .inl (cB, 600, .inl vOp)), (aOx, .inl (cB, 600, .inl vOx)), (aOw, .inl (cB, 600, .inl vOw))] H := hP
      have hD : va_D A [(aO, .inr (7, [.ref aOt, .ref aOr, .int O_drops, .int O_changed, .int O_picked, .int O_taken, .int O_acts, .int O_isForged, .ref aOp, .ref aOx, .int O_taped, .int O_size, .int O_at, .int O_fault, .int O_wordEnd, .int O_number, .ref aOw, .int O_writtenMany])), (aOt, .inl (cI, 50, .inl (upd vOt ((15 : Int32) + (fO_pair p1 p2)).toNatClampNeg (fO_one p3)))), (aOr, .inl (cI, 25, .inl vOr)), (aOp, .inl (cB, 600, .inl vOp)), (aOx, .inl (cB, 600, .inl vOx)), (aOw, .inl (cB, 600, .inl vOw))] := hD
      refine lv_iconst (v := (1 : Int32)) hx hb dX7_must_47 (by decide) ?_
      exact W.zret (v := (1 : Int32)) (ty := .boolean) hx hb hr rfl (fun t ht hW => ⟨⟨(1 : Int32), ((upd vOt ((15 : Int32) + (fO_pair p1 p2)).toNatClampNeg (fO_one p3))), rfl, ⟨hE.trans hRES, Or.inr rfl⟩, (by rw [ht]; exact hP), va_K.moved hW.alike hK, hD⟩, hS.F ht⟩) hS.2.2 dX7_must_48
    · have hE := ipos c_25 hE
      refine lv_iconst (v := (0 : Int32)) hx hb dX7_must_28 (by decide) ?_
      exact W.zret (v := (0 : Int32)) (ty := .boolean) hx hb hr rfl (fun t ht hW => ⟨⟨(0 : Int32), (vOt), rfl, ⟨hE.trans hRES, Or.inl rfl⟩, (by rw [ht]; exact hP), va_K.moved hW.alike hK, hD⟩, hS.F ht⟩) hS.2.2 dX7_must_29
-- X7_waysOf
def fO_waysOf (vOt : Nat → Int32) (p1 : Int32) (p2 : Int32) : Int32 := ((vOt p1.toNatClampNeg) &&& ((p2 >>> ((3 : Int32) &&& 31)) ^^^ (-1 : Int32)))
set_option maxHeartbeats 4000000 in
set_option maxRecDepth 100000 in
theorem kO_waysOf (l : Launch) (dC : Nat → ClassId) (dI : Nat → Nat → Nat) (cI cB : ClassId) (aO aOt aOr aOp aOx aOw : Nat) (sz : Nat) (O_drops : Int32) (O_changed : Int32) (O_picked : Int32) (O_taken : Int32) (O_acts : Int32) (O_isForged : Int32) (O_taped : Int32) (O_size : Int32) (O_at : Int32) (O_fault : Int32) (O_wordEnd : Int32) (O_number : Int32) (O_writtenMany : Int32) (vOt : Nat → Int32) (vOr : Nat → Int32) (vOp : Nat → Int32) (vOx : Nat → Int32) (vOw : Nat → Int32) (p1 : Int32) (p2 : Int32) (hp0 : 0 ≤ p1.toInt ∧ p1.toInt < 5) : Met l yX7_waysOf wsX7_waysOf ({ frames := 0, cells := 0, slots := 0, locals := 0 }) (va_Pc [.ref aO, .int p1, .int p2] (PB (dC, dI) vwCl [(cI, .int), (cB, .byte)] [(aO, .inr (7, [.ref aOt, .ref aOr, .int O_drops, .int O_changed, .int O_picked, .int O_taken, .int O_acts, .int O_isForged, .ref aOp, .ref aOx, .int O_taped, .int O_size, .int O_at, .int O_fault, .int O_wordEnd, .int O_number, .ref aOw, .int O_writtenMany])), (aOt, .inl (cI, 50, .inl vOt)), (aOr, .inl (cI, 25, .inl vOr)), (aOp, .inl (cB, 600, .inl vOp)), (aOx, .inl (cB, 600, .inl vOx)), (aOw, .inl (cB, 600, .inl vOw))] sz)) (va_Qi (fun (r : Int32) (u : Unit) => r = fO_waysOf vOt p1 p2) (fun (_ : Unit) t => va_P (dC, dI) vwCl [(aO, .inr (7, [.ref aOt, .ref aOr, .int O_drops, .int O_changed, .int O_picked, .int O_taken, .int O_acts, .int O_isForged, .ref aOp, .ref aOx, .int O_taped, .int O_size, .int O_at, .int O_fault, .int O_wordEnd, .int O_number, .ref aOw, .int O_writtenMany])), (aOt, .inl (cI, 50, .inl vOt)), (aOr, .inl (cI, 25, .inl vOr)), (aOp, .inl (cB, 600, .inl vOp)), (aOx, .inl (cB, 600, .inl vOx)), (aOw, .inl (cB, 600, .inl vOw))] t.heap ∧ va_K (dC, dI) vwCl [(cI, .int), (cB, .byte)] t ∧ va_D (va_A [(aO, .inr (7, [.ref aOt, .ref aOr, .int O_drops, .int O_changed, .int O_picked, .int O_taken, .int O_acts, .int O_isForged, .ref aOp, .ref aOx, .int O_taped, .int O_size, .int O_at, .int O_fault, .int O_wordEnd, .int O_number, .ref aOw, .int O_writtenMany])), (aOt, .inl (cI, 50, .inl vOt)), (aOr, .inl (cI, 25, .inl vOr)), (aOp, .inl (cB, 600, .inl vOp)), (aOx, .inl (cB, 600, .inl vOx)), (aOw, .inl (cB, 600, .inl vOw))] sz) [(aO, .inr (7, [.ref aOt, .ref aOr, .int O_drops, .int O_changed, .int O_picked, .int O_taken, .int O_acts, .int O_isForged, .ref aOp, .ref aOx, .int O_taped, .int O_size, .int O_at, .int O_fault, .int O_wordEnd, .int O_number, .ref aOw, .int O_writtenMany])), (aOt, .inl (cI, 50, .inl vOt)), (aOr, .inl (cI, 25, .inl vOr)), (aOp, .inl (cB, 600, .inl vOp)), (aOx, .inl (cB, 600, .inl vOx)), (aOw, .inl (cB, 600, .inl vOw))]) (va_A [(aO, .inr (7, [.ref aOt, .ref aOr, .int O_drops, .int O_changed, .int O_picked, .int O_taken, .int O_acts, .int O_isForged, .ref aOp, .ref aOx, .int O_taped, .int O_size, .int O_at, .int O_fault, .int O_wordEnd, .int O_number, .ref aOw, .int O_writtenMany])), (aOt, .inl (cI, 50, .inl vOt)), (aOr, .inl (cI, 25, .inl vOr)), (aOp, .inl (cB, 600, .inl vOp)), (aOx, .inl (cB, 600, .inl vOx)), (aOw, .inl (cB, 600, .inl vOw))] sz)) 0 0 (va_A [(aO, .inr (7, [.ref aOt, .ref aOr, .int O_drops, .int O_changed, .int O_picked, .int O_taken, .int O_acts, .int O_isForged, .ref aOp, .ref aOx, .int O_taped, .int O_size, .int O_at, .int O_fault, .int O_wordEnd, .int O_number, .ref aOw, .int O_writtenMany])), (aOt, .inl (cI, 50, .inl vOt)), (aOr, .inl (cI, 25, .inl vOr)), (aOp, .inl (cB, 600, .inl vOp)), (aOx, .inl (cB, 600, .inl vOx)), (aOw, .inl (cB, 600, .inl vOw))] sz) := by
  refine Met.ofW (cc := cX7_waysOf) (maxL := 3) (ret := (some .int)) (by decide) rfl ?_
  intro p e s m args below meth c s₁ B hml hv
  obtain ⟨rfl, hsz, hP, hK, hD0⟩ := hv
  have hx := B.exec
  have hb := B.bytes
  have hr := B.returns
  have hts := atoms_spec (ws := wsX7_waysOf) B.pre
  have hown : s.vm.findClass RX7 = some m.cls := findClass_of_methodNamed B.named
  have hlocks := B.notSynchronized
  clear B
  subst hsz
  have hD := hD0.self (sz := s.heap.size)
  clear hD0
  generalize hAe : va_A [(aO, .inr (7, [.ref aOt, .ref aOr, .int O_drops, .int O_changed, .int O_picked, .int O_taken, .int O_acts, .int O_isForged, .ref aOp, .ref aOx, .int O_taped, .int O_size, .int O_at, .int O_fault, .int O_wordEnd, .int O_number, .ref aOw, .int O_writtenMany])), (aOt, .inl (cI, 50, .inl vOt)), (aOr, .inl (cI, 25, .inl vOr)), (aOp, .inl (cB, 600, .inl vOp)), (aOx, .inl (cB, 600, .inl vOx)), (aOw, .inl (cB, 600, .inl vOw))] s.heap.size = A at hD ⊢
  have hA : ∀ q : Nat, s.heap.size ≤ q → A q := fun q h => by rw [← hAe]; exact Or.inr h
  clear hAe
  have hS : va_S A s.heap s.heap [] := va_S.rf
  have hP : va_P (dC, dI) vwCl [(aO, .inr (7, [.ref aOt, .ref aOr, .int O_drops, .int O_changed, .int O_picked, .int O_taken, .int O_acts, .int O_isForged, .ref aOp, .ref aOx, .int O_taped, .int O_size, .int O_at, .int O_fault, .int O_wordEnd, .int O_number, .ref aOw, .int O_writtenMany])), (aOt, .inl (cI, 50, .inl vOt)), (aOr, .inl (cI, 25, .inl vOr)), (aOp, .inl (cB, 600, .inl vOp)), (aOx, .inl (cB, 600, .inl vOx)), (aOw, .inl (cB, 600, .inl vOw))] s.heap := hP
  have hl := lv_entry ([.ref aO, .int p1, .int p2]) (n := 3) (Nat.le_of_ble_eq_true rfl)
  rw [lg_entry_eq]
  generalize (lg_sl ([.ref aO, .int p1, .int p2]) ++ List.replicate (3 - (lg_sl ([.ref aO, .int p1, .int p2])).length) Slot.unset).toArray = ls at hl ⊢
  have hl : lv_has ls 3 [(0, .ref aO), (1, .int p1), (2, .int p2)] := hl
  obtain ⟨RES, hRES⟩ : ∃ y, y = fO_waysOf vOt p1 p2 := ⟨_, rfl⟩
  have hE := hRES.symm
  rw [fO_waysOf] at hE
  refine lv_aload_n hx hb dX7_waysOf_0 rfl (lv_at hl 0 rfl) ?_
  refine va_get (D := (dC, dI)) (ci := 7) (v := .ref aOt) (C := RX7) (T := TX7) (N := 18) hx hb hts (fun _ h => List.mem_cons_of_mem _ (List.mem_append_right _ h)) hown hK hP 0 rfl rfl 0 (by decide) (hts _ (List.mem_cons_of_mem _ (List.mem_append_left _ (List.mem_of_getElem? (i := 0) rfl)))) (fun _ h9 => h9) rfl dX7_waysOf_1 ?_
  refine lv_iload_n hx hb dX7_waysOf_4 rfl (lv_at hl 1 rfl) ?_
  refine va_iald (D := (dC, dI)) (cl := vwCl) hx hb hK hP 1 0 rfl rfl (by first | ((try simp only [not_true_eq_false, not_false_eq_true, false_implies, true_implies, implies_true, vp_in_iff, i32_lt, i32_le, i32_eq, i32_add, i32_sub, i32_mul, t32_m1, t32_0, t32_1, t32_3] at hp0 ⊢) <;> intros <;> omega)) dX7_waysOf_5 ?_
  refine lv_iload_n hx hb dX7_waysOf_6 rfl (lv_at hl 2 rfl) ?_
  refine lv_iconst (v := (3 : Int32)) hx hb dX7_waysOf_7 (by decide) ?_
  refine lv_ishr hx hb dX7_waysOf_8 ?_
  refine lv_iconst (v := (-1 : Int32)) hx hb dX7_waysOf_9 (by decide) ?_
  refine lv_ixor hx hb dX7_waysOf_10 ?_
  refine lv_iand hx hb dX7_waysOf_11 ?_
  exact W.iret (v := ((vOt p1.toNatClampNeg) &&& ((p2 >>> ((3 : Int32) &&& 31)) ^^^ (-1 : Int32)))) hx hb hr (fun t ht hW => ⟨⟨((vOt p1.toNatClampNeg) &&& ((p2 >>> ((3 : Int32) &&& 31)) ^^^ (-1 : Int32))), (), rfl, hE.trans hRES, (by rw [ht]; exact hP), va_K.moved hW.alike hK, hD⟩, hS.F ht⟩) hS.2.2 dX7_waysOf_12
-- X7_best
def fO_best_l4  (p0 : Int32) : Nat → Int32 → Int32 → (Int32)
  | 0, x1_4, x2_4 => 0
  | n_4 + 1, x1_4, x2_4 => (if (4 : Int32) ≤ x2_4 then x1_4 else (if ((p0 >>> (x2_4 &&& 31)) &&& (1 : Int32)) = (1 : Int32) then (fO_best_l4 p0 n_4) x2_4 (x2_4 + (1 : Int32)) else (fO_best_l4 p0 n_4) x1_4 (x2_4 + (1 : Int32))))
def fO_best (p0 : Int32) : Int32 := fO_best_l4 p0 (5) (-1 : Int32) (0 : Int32)
set_option maxHeartbeats 4000000 in
set_option maxRecDepth 100000 in
theorem kO_best (l : Launch) (dC : Nat → ClassId) (dI : Nat → Nat → Nat) (cI cB : ClassId) (sz : Nat) (p0 : Int32) : Met l yX7_best wsX7_best ({ frames := 0, cells := 0, slots := 0, locals := 0 }) (va_Pc [.int p0] (PB (dC, dI) vwCl [(cI, .int), (cB, .byte)] [] sz)) (va_Qi (fun (r : Int32) (u : Unit) => r = fO_best p0 ∧ (-1 ≤ r.toInt ∧ r.toInt ≤ 3)) (fun (_ : Unit) t => va_P (dC, dI) vwCl [] t.heap ∧ va_K (dC, dI) vwCl [(cI, .int), (cB, .byte)] t ∧ va_D (va_A [] sz) []) (va_A [] sz)) 0 0 (va_A [] sz) := by
  refine Met.ofW (cc := cX7_best) (maxL := 3) (ret := (some .int)) (by decide) rfl ?_
  intro p e s m args below meth c s₁ B hml hv
  obtain ⟨rfl, hsz, hP, hK, hD0⟩ := hv
  have hx := B.exec
  have hb := B.bytes
  have hr := B.returns
  have hts := atoms_spec (ws := wsX7_best) B.pre
  have hown : s.vm.findClass RX7 = some m.cls := findClass_of_methodNamed B.named
  have hlocks := B.notSynchronized
  clear B
  subst hsz
  have hD := hD0.self (sz := s.heap.size)
  clear hD0
  generalize hAe : va_A [] s.heap.size = A at hD ⊢
  have hA : ∀ q : Nat, s.heap.size ≤ q → A q := fun q h => by rw [← hAe]; exact Or.inr h
  clear hAe
  have hS : va_S A s.heap s.heap [] := va_S.rf
  have hP : va_P (dC, dI) vwCl [] s.heap := hP
  have hl := lv_entry ([.int p0]) (n := 3) (Nat.le_of_ble_eq_true rfl)
  rw [lg_entry_eq]
  generalize (lg_sl ([.int p0]) ++ List.replicate (3 - (lg_sl ([.int p0])).length) Slot.unset).toArray = ls at hl ⊢
  have hl : lv_has ls 3 [(0, .int p0)] := hl
  obtain ⟨RES, hRES⟩ : ∃ y, y = fO_best p0 := ⟨_, rfl⟩
  have hE := hRES.symm
  rw [fO_best] at hE
  refine W.nameQ (fun Q9 hQ9 => ?_)
  refine lv_iconst (v := (-1 : Int32)) hx hb dX7_best_0 (by decide) ?_
  refine lv_istore_n (lv' := [(1, .int (-1 : Int32)), (0, .int p0)]) hx hb dX7_best_1 rfl hl (by decide) rfl (fun ls hl => ?_)
  refine lv_iconst (v := (0 : Int32)) hx hb dX7_best_2 (by decide) ?_
  refine lv_istore_n (lv' := [(2, .int (0 : Int32)), (1, .int (-1 : Int32)), (0, .int p0)]) hx hb dX7_best_3 rfl hl (by decide) rfl (fun ls hl => ?_)
  have b_4 : ∀ (n_4 : Nat) (x1_4 : Int32) (x2_4 : Int32), (0 ≤ x2_4.toInt ∧ x2_4.toInt ≤ 4) → (-1 ≤ x1_4.toInt ∧ x1_4.toInt < x2_4.toInt) → ((4 - x2_4.toInt).toNat : Nat) < n_4 → fO_best_l4 p0 n_4 x1_4 x2_4 = RES → ∀ (H : Heap) (locs : List Loc) (ls : Array Slot), va_P (dC, dI) vwCl [] H → va_D A [] → va_S A s.heap H locs → lv_has ls 3 [(0, .int p0), (1, .int x1_4), (2, .int x2_4)] → W p l e (headSpec wsX7_best ({ frames := 0, cells := 0, slots := 0, locals := 0 })).room s m ([.int p0] : List Value).toArray below meth c H locs 0 0 Q9 (F0 m 4 ls []) := by
    intro n_4
    induction n_4 with
    | zero => intro x1_4 x2_4 hi0_4 hi1_4 hm_4 hE; exact absurd hm_4 (Nat.not_lt_zero _)
    | succ n_4 ih_4 =>
      intro x1_4 x2_4 hi0_4 hi1_4 hm_4 hE H locs ls hP hD hS hl
      rw [fO_best_l4] at hE
      refine lv_iload_n hx hb dX7_best_4 rfl (lv_at hl 2 rfl) ?_
      refine lv_iconst (v := (4 : Int32)) hx hb dX7_best_5 (by decide) ?_
      refine lv_icmp_ge (tgt := 26) hx hb dX7_best_6 (by decide) (fun c_6 => ?_) (fun c_6 => ?_)
      · have hE := ipos c_6 hE
        refine lv_iload_n hx hb dX7_best_26 rfl (lv_at hl 1 rfl) ?_
        subst hQ9
        exact W.iret (v := x1_4) hx hb hr (fun t ht hW => ⟨⟨x1_4, (), rfl, ⟨hE.trans hRES, (by first | ((try simp only [not_true_eq_false, not_false_eq_true, false_implies, true_implies, implies_true, vp_in_iff, i32_lt, i32_le, i32_eq, i32_add, i32_sub, i32_mul, t32_m1, t32_0, t32_1, t32_4] at hi0_4 hi1_4 hm_4 c_6 ⊢) <;> intros <;> omega))⟩, (by rw [ht]; exact hP), va_K.moved hW.alike hK, hD⟩, hS.F ht⟩) hS.2.2 dX7_best_27
      · have hE := ineg c_6 hE
        refine lv_iload_n hx hb dX7_best_9 rfl (lv_at hl 0 rfl) ?_
        refine lv_iload_n hx hb dX7_best_10 rfl (lv_at hl 2 rfl) ?_
        refine lv_ishr hx hb dX7_best_11 ?_
        refine lv_iconst (v := (1 : Int32)) hx hb dX7_best_12 (by decide) ?_
        refine lv_iand hx hb dX7_best_13 ?_
        refine lv_iconst (v := (1 : Int32)) hx hb dX7_best_14 (by decide) ?_
        refine lv_icmp_ne (tgt := 20) hx hb dX7_best_15 (by decide) (fun c_15 => ?_) (fun c_15 => ?_)
        · have hE := ineg c_15 hE
          refine lv_iinc (v := (x2_4 + (1 : Int32))) (lv' := [(2, .int (x2_4 + (1 : Int32))), (0, .int p0), (1, .int x1_4)]) hx hb dX7_best_20 hl (k := 2) rfl rfl (by decide) rfl (fun ls hl => ?_)
          refine lv_goto (tgt := 4) hx hb dX7_best_23 (by decide) ?_
          exact ih_4 x1_4 (x2_4 + (1 : Int32)) (by first | ((try simp only [not_true_eq_false, not_false_eq_true, false_implies, true_implies, implies_true, vp_in_iff, i32_lt, i32_le, i32_eq, i32_add, i32_sub, i32_mul, t32_m1, t32_0, t32_1, t32_4] at hi0_4 hi1_4 hm_4 c_6 ⊢) <;> intros <;> omega) | ((try (have hs0 : (x2_4 + (1 : Int32)).toInt = x2_4.toInt + 1 := by (have h := i32_addS (x := x2_4) (y := (1 : Int32)) (by (try simp only [not_true_eq_false, not_false_eq_true, false_implies, true_implies, implies_true, vp_in_iff, i32_lt, i32_le, i32_eq, t32_m1, t32_0, t32_1, t32_4] at hi0_4 hi1_4 hm_4 c_6 ⊢) <;> omega) (by (try simp only [not_true_eq_false, not_false_eq_true, false_implies, true_implies, implies_true, vp_in_iff, i32_lt, i32_le, i32_eq, t32_m1, t32_0, t32_1, t32_4] at hi0_4 hi1_4 hm_4 c_6 ⊢) <;> omega); (try simp only [t32_m1, t32_0, t32_1, t32_4] at h); exact h))); (try simp only [not_true_eq_false, not_false_eq_true, false_implies, true_implies, implies_true, vp_in_iff, i32_lt, i32_le, i32_eq, t32_m1, t32_0, t32_1, t32_4] at hi0_4 hi1_4 hm_4 c_6 ⊢) <;> intros <;> omega)) (by first | ((try simp only [not_true_eq_false, not_false_eq_true, false_implies, true_implies, implies_true, vp_in_iff, i32_lt, i32_le, i32_eq, i32_add, i32_sub, i32_mul, t32_m1, t32_0, t32_1, t32_4] at hi0_4 hi1_4 hm_4 c_6 ⊢) <;> intros <;> omega) | ((try (have hs0 : (x2_4 + (1 : Int32)).toInt = x2_4.toInt + 1 := by (have h := i32_addS (x := x2_4) (y := (1 : Int32)) (by (try simp only [not_true_eq_false, not_false_eq_true, false_implies, true_implies, implies_true, vp_in_iff, i32_lt, i32_le, i32_eq, t32_m1, t32_0, t32_1, t32_4] at hi0_4 hi1_4 hm_4 c_6 ⊢) <;> omega) (by (try simp only [not_true_eq_false, not_false_eq_true, false_implies, true_implies, implies_true, vp_in_iff, i32_lt, i32_le, i32_eq, t32_m1, t32_0, t32_1, t32_4] at hi0_4 hi1_4 hm_4 c_6 ⊢) <;> omega); (try simp only [t32_m1, t32_0, t32_1, t32_4] at h); exact h))); (try simp only [not_true_eq_false, not_false_eq_true, false_implies, true_implies, implies_true, vp_in_iff, i32_lt, i32_le, i32_eq, t32_m1, t32_0, t32_1, t32_4] at hi0_4 hi1_4 hm_4 c_6 ⊢) <;> intros <;> omega)) (by first | ((try simp only [not_true_eq_false, not_false_eq_true, false_implies, true_implies, implies_true, vp_in_iff, i32_lt, i32_le, i32_eq, i32_add, i32_sub, i32_mul, t32_m1, t32_0, t32_1, t32_4] at hi0_4 hi1_4 hm_4 c_6 ⊢) <;> intros <;> omega)) hE _ _ _ hP hD hS (lv_sub hl [1, 2, 0] rfl)
        · have hE := ipos c_15 hE
          refine lv_iload_n hx hb dX7_best_18 rfl (lv_at hl 2 rfl) ?_
          refine lv_istore_n (lv' := [(1, .int x2_4), (0, .int p0), (2, .int x2_4)]) hx hb dX7_best_19 rfl hl (by decide) rfl (fun ls hl => ?_)
          refine lv_iinc (v := (x2_4 + (1 : Int32))) (lv' := [(2, .int (x2_4 + (1 : Int32))), (1, .int x2_4), (0, .int p0)]) hx hb dX7_best_20 hl (k := 2) rfl rfl (by decide) rfl (fun ls hl => ?_)
          refine lv_goto (tgt := 4) hx hb dX7_best_23 (by decide) ?_
          exact ih_4 x2_4 (x2_4 + (1 : Int32)) (by first | ((try simp only [not_true_eq_false, not_false_eq_true, false_implies, true_implies, implies_true, vp_in_iff, i32_lt, i32_le, i32_eq, i32_add, i32_sub, i32_mul, t32_m1, t32_0, t32_1, t32_4] at hi0_4 hi1_4 hm_4 c_6 ⊢) <;> intros <;> omega) | ((try (have hs0 : (x2_4 + (1 : Int32)).toInt = x2_4.toInt + 1 := by (have h := i32_addS (x := x2_4) (y := (1 : Int32)) (by (try simp only [not_true_eq_false, not_false_eq_true, false_implies, true_implies, implies_true, vp_in_iff, i32_lt, i32_le, i32_eq, t32_m1, t32_0, t32_1, t32_4] at hi0_4 hi1_4 hm_4 c_6 ⊢) <;> omega) (by (try simp only [not_true_eq_false, not_false_eq_true, false_implies, true_implies, implies_true, vp_in_iff, i32_lt, i32_le, i32_eq, t32_m1, t32_0, t32_1, t32_4] at hi0_4 hi1_4 hm_4 c_6 ⊢) <;> omega); (try simp only [t32_m1, t32_0, t32_1, t32_4] at h); exact h))); (try simp only [not_true_eq_false, not_false_eq_true, false_implies, true_implies, implies_true, vp_in_iff, i32_lt, i32_le, i32_eq, t32_m1, t32_0, t32_1, t32_4] at hi0_4 hi1_4 hm_4 c_6 ⊢) <;> intros <;> omega)) (by first | ((try simp only [not_true_eq_false, not_false_eq_true, false_implies, true_implies, implies_true, vp_in_iff, i32_lt, i32_le, i32_eq, i32_add, i32_sub, i32_mul, t32_m1, t32_0, t32_1, t32_4] at hi0_4 hi1_4 hm_4 c_6 ⊢) <;> intros <;> omega) | ((try (have hs0 : (x2_4 + (1 : Int32)).toInt = x2_4.toInt + 1 := by (have h := i32_addS (x := x2_4) (y := (1 : Int32)) (by (try simp only [not_true_eq_false, not_false_eq_true, false_implies, true_implies, implies_true, vp_in_iff, i32_lt, i32_le, i32_eq, t32_m1, t32_0, t32_1, t32_4] at hi0_4 hi1_4 hm_4 c_6 ⊢) <;> omega) (by (try simp only [not_true_eq_false, not_false_eq_true, false_implies, true_implies, implies_true, vp_in_iff, i32_lt, i32_le, i32_eq, t32_m1, t32_0, t32_1, t32_4] at hi0_4 hi1_4 hm_4 c_6 ⊢) <;> omega); (try simp only [t32_m1, t32_0, t32_1, t32_4] at h); exact h))); (try simp only [not_true_eq_false, not_false_eq_true, false_implies, true_implies, implies_true, vp_in_iff, i32_lt, i32_le, i32_eq, t32_m1, t32_0, t32_1, t32_4] at hi0_4 hi1_4 hm_4 c_6 ⊢) <;> intros <;> omega)) (by first | ((try simp only [not_true_eq_false, not_false_eq_true, false_implies, true_implies, implies_true, vp_in_iff, i32_lt, i32_le, i32_eq, i32_add, i32_sub, i32_mul, t32_m1, t32_0, t32_1, t32_4] at hi0_4 hi1_4 hm_4 c_6 ⊢) <;> intros <;> omega)) hE _ _ _ hP hD hS (lv_sub hl [2, 1, 0] rfl)
  exact b_4 (5) (-1 : Int32) (0 : Int32) (by first | decide | (simp only [not_true_eq_false, not_false_eq_true, false_implies, true_implies, implies_true, vp_in_iff, i32_lt, i32_le, i32_eq, i32_add, i32_sub, i32_mul, t32_m1, t32_0, t32_1, t32_4] <;> intros <;> omega)) (by first | decide | (simp only [not_true_eq_false, not_false_eq_true, false_implies, true_implies, implies_true, vp_in_iff, i32_lt, i32_le, i32_eq, i32_add, i32_sub, i32_mul, t32_m1, t32_0, t32_1, t32_4] <;> intros <;> omega)) (by first | decide | (simp only [not_true_eq_false, not_false_eq_true, false_implies, true_implies, implies_true, vp_in_iff, i32_lt, i32_le, i32_eq, i32_add, i32_sub, i32_mul, t32_m1, t32_0, t32_1, t32_4] <;> intros <;> omega) | decide) hE _ _ _ hP hD hS (lv_sub hl [2, 1, 0] rfl)
-- X7_offer
def fO_offer_l4  (p0 : Int32) (p1 : Int32) : Nat → Int32 → Int32 → (Int32)
  | 0, x2_4, x3_4 => 0
  | n_4 + 1, x2_4, x3_4 => (if p1 ≤ x3_4 then x2_4 else (if (x2_4 &&& (((1 : Int32) <<< ((if (0 : Int32) < (fO_best x2_4) then (fO_best x2_4) else (0 : Int32)) &&& 31)) ^^^ (-1 : Int32))) = 0 then (fO_offer_l4 p0 p1 n_4) x2_4 (x3_4 + (1 : Int32)) else (fO_offer_l4 p0 p1 n_4) (x2_4 &&& (((1 : Int32) <<< ((if (0 : Int32) < (fO_best x2_4) then (fO_best x2_4) else (0 : Int32)) &&& 31)) ^^^ (-1 : Int32))) (x3_4 + (1 : Int32))))
def fO_offer (p0 : Int32) (p1 : Int32) : Int32 := fO_offer_l4 p0 p1 (4) p0 (0 : Int32)
set_option maxHeartbeats 4000000 in
set_option maxRecDepth 100000 in
theorem kO_offer (l : Launch) (dC : Nat → ClassId) (dI : Nat → Nat → Nat) (cI cB : ClassId) (sz : Nat) (p0 : Int32) (p1 : Int32) (hp0 : p1.toInt ≤ 3) : Met l yX7_offer wsX7_offer ({ frames := 1, cells := 0, slots := 0, locals := 22 }) (va_Pc [.int p0, .int p1] (PB (dC, dI) vwCl [(cI, .int), (cB, .byte)] [] sz)) (va_Qi (fun (r : Int32) (u : Unit) => r = fO_offer p0 p1) (fun (_ : Unit) t => va_P (dC, dI) vwCl [] t.heap ∧ va_K (dC, dI) vwCl [(cI, .int), (cB, .byte)] t ∧ va_D (va_A [] sz) []) (va_A [] sz)) 0 0 (va_A [] sz) := by
  refine Met.ofW (cc := cX7_offer) (maxL := 5) (ret := (some .int)) (by decide) rfl ?_
  intro p e s m args below meth c s₁ B hml hv
  obtain ⟨rfl, hsz, hP, hK, hD0⟩ := hv
  have hx := B.exec
  have hb := B.bytes
  have hr := B.returns
  have hts := atoms_spec (ws := wsX7_offer) B.pre
  have hown : s.vm.findClass RX7 = some m.cls := findClass_of_methodNamed B.named
  have hlocks := B.notSynchronized
  clear B
  subst hsz
  have hD := hD0.self (sz := s.heap.size)
  clear hD0
  generalize hAe : va_A [] s.heap.size = A at hD ⊢
  have hA : ∀ q : Nat, s.heap.size ≤ q → A q := fun q h => by rw [← hAe]; exact Or.inr h
  clear hAe
  have hS : va_S A s.heap s.heap [] := va_S.rf
  have hP : va_P (dC, dI) vwCl [] s.heap := hP
  have hl := lv_entry ([.int p0, .int p1]) (n := 5) (Nat.le_of_ble_eq_true rfl)
  rw [lg_entry_eq]
  generalize (lg_sl ([.int p0, .int p1]) ++ List.replicate (5 - (lg_sl ([.int p0, .int p1])).length) Slot.unset).toArray = ls at hl ⊢
  have hl : lv_has ls 5 [(0, .int p0), (1, .int p1)] := hl
  obtain ⟨RES, hRES⟩ : ∃ y, y = fO_offer p0 p1 := ⟨_, rfl⟩
  have hE := hRES.symm
  rw [fO_offer] at hE
  refine W.nameQ (fun Q9 hQ9 => ?_)
  refine lv_iload_n hx hb dX7_offer_0 rfl (lv_at hl 0 rfl) ?_
  refine lv_istore_n (lv' := [(2, .int p0), (0, .int p0), (1, .int p1)]) hx hb dX7_offer_1 rfl hl (by decide) rfl (fun ls hl => ?_)
  refine lv_iconst (v := (0 : Int32)) hx hb dX7_offer_2 (by decide) ?_
  refine lv_istore_n (lv' := [(3, .int (0 : Int32)), (2, .int p0), (0, .int p0), (1, .int p1)]) hx hb dX7_offer_3 rfl hl (by decide) rfl (fun ls hl => ?_)
  have b_4 : ∀ (n_4 : Nat) (x2_4 : Int32) (x3_4 : Int32), (0 ≤ x3_4.toInt ∧ x3_4.toInt ≤ 3) → ((3 - x3_4.toInt).toNat : Nat) < n_4 → fO_offer_l4 p0 p1 n_4 x2_4 x3_4 = RES → ∀ (H : Heap) (locs : List Loc) (ls : Array Slot), va_P (dC, dI) vwCl [] H → va_D A [] → va_S A s.heap H locs → lv_has ls 5 [(1, .int p1), (2, .int x2_4), (3, .int x3_4)] → W p l e (headSpec wsX7_offer ({ frames := 1, cells := 0, slots := 0, locals := 22 })).room s m ([.int p0, .int p1] : List Value).toArray below meth c H locs 0 0 Q9 (F0 m 4 ls []) := by
    intro n_4
    induction n_4 with
    | zero => intro x2_4 x3_4 hi0_4 hm_4 hE; exact absurd hm_4 (Nat.not_lt_zero _)
    | succ n_4 ih_4 =>
      intro x2_4 x3_4 hi0_4 hm_4 hE H locs ls hP hD hS hl
      rw [fO_offer_l4] at hE
      refine lv_iload_n hx hb dX7_offer_4 rfl (lv_at hl 2 rfl) ?_
      refine lv_iload_n hx hb dX7_offer_5 rfl (lv_at hl 0 rfl) ?_
      refine lv_icmp_ge (tgt := 39) hx hb dX7_offer_6 (by decide) (fun c_6 => ?_) (fun c_6 => ?_)
      · have hE := ipos c_6 hE
        refine lv_iload_n hx hb dX7_offer_39 rfl (lv_at hl 1 rfl) ?_
        subst hQ9
        exact W.iret (v := x2_4) hx hb hr (fun t ht hW => ⟨⟨x2_4, (), rfl, hE.trans hRES, (by rw [ht]; exact hP), va_K.moved hW.alike hK, hD⟩, hS.F ht⟩) hS.2.2 dX7_offer_40
      · have hE := ineg c_6 hE
        refine lv_iload_n hx hb dX7_offer_9 rfl (lv_at hl 1 rfl) ?_
        refine lv_iconst (v := (1 : Int32)) hx hb dX7_offer_10 (by decide) ?_
        refine lv_iconst (v := (0 : Int32)) hx hb dX7_offer_11 (by decide) ?_
        refine lv_iload_n hx hb dX7_offer_12 rfl (lv_at hl 1 rfl) ?_
        have hPc := hP.sub (ws' := []) [] rfl
        have hDc := hD.sub (ws' := []) [] (by decide) rfl
        have hFc := va_free (wc := []) hD hS hA [] rfl
        refine va_calli (va_runS (As := [.int x2_4]) (rest := [.int (0 : Int32), .int (1 : Int32), .int x2_4]) ⟨hx, hb, hml, hown, hts⟩ (kO_best l dC dI cI cB H.size x2_4 ) (va_cwS 1 hts gX7_offer_X7_best rfl rfl rfl (by decide +kernel) ⟨Nat.le_of_ble_eq_true rfl, Nat.le_of_ble_eq_true rfl⟩) (pre_S hK hPc hDc) rfl rfl hl.1 rfl (lv_room (Nat.le_of_ble_eq_true rfl)) dX7_offer_13 ⟨(Nat.zero_le _), (Nat.zero_le _)⟩) hS (fun q _ h => hFc q h) hFc (fun r13 u t H1 locs ht hvm hw hB hz1 hk1 hS => ?_)
        obtain ⟨hP1, hK1, hD1⟩ := hB
        rw [ht] at hP1
        obtain ⟨hw, hq0_13⟩ := hw
        have hw := hw.symm
        subst hw
        obtain ⟨hP, hD⟩ := va_join (wr := []) (w1 := []) hP hD [] [] rfl rfl (by decide) (by decide) hk1 hFc hP1 hD1
        generalize H1 = H at hP hS ⊢
        have hP : va_P (dC, dI) vwCl [] H := hP
        have hD : va_D A [] := hD
        refine va_mmax hx hb (by rw [hml]; exact hl.1.symm) hown (hts _ (List.mem_cons_of_mem _ (List.mem_of_getElem? (i := 0) rfl))) (hts _ (List.mem_cons_of_mem _ (List.mem_of_getElem? (i := 1) rfl))) (hts _ (List.mem_cons_of_mem _ (List.mem_of_getElem? (i := 2) rfl))) (hts _ (List.mem_cons_of_mem _ (List.mem_of_getElem? (i := 3) rfl))) (Nat.le_of_ble_eq_true rfl) (Nat.le_of_ble_eq_true rfl) (Nat.zero_le _) (Nat.zero_le _) dX7_offer_16 ?_
        have hm_16 := mmmax_f (0 : Int32) (fO_best x2_4)
        refine lv_ishl hx hb dX7_offer_19 ?_
        refine lv_iconst (v := (-1 : Int32)) hx hb dX7_offer_20 (by decide) ?_
        refine lv_ixor hx hb dX7_offer_21 ?_
        refine lv_iand hx hb dX7_offer_22 ?_
        refine lv_istore (lv' := [(4, .int (x2_4 &&& (((1 : Int32) <<< ((if (0 : Int32) < (fO_best x2_4) then (fO_best x2_4) else (0 : Int32)) &&& 31)) ^^^ (-1 : Int32)))), (1, .int p1), (2, .int x2_4), (3, .int x3_4)]) hx hb dX7_offer_23 hl (by decide) rfl (fun ls hl => ?_)
        refine lv_iload hx hb dX7_offer_25 (lv_at hl 0 rfl) ?_
        refine lv_if_eq (tgt := 33) hx hb dX7_offer_27 (by decide) (fun c_27 => ?_) (fun c_27 => ?_)
        · have hE := ipos c_27 hE
          refine lv_iinc (v := (x3_4 + (1 : Int32))) (lv' := [(3, .int (x3_4 + (1 : Int32))), (4, .int (x2_4 &&& (((1 : Int32) <<< ((if (0 : Int32) < (fO_best x2_4) then (fO_best x2_4) else (0 : Int32)) &&& 31)) ^^^ (-1 : Int32)))), (1, .int p1), (2, .int x2_4)]) hx hb dX7_offer_33 hl (k := 3) rfl rfl (by decide) rfl (fun ls hl => ?_)
          refine lv_goto (tgt := 4) hx hb dX7_offer_36 (by decide) ?_
          exact ih_4 x2_4 (x3_4 + (1 : Int32)) (by first | ((try generalize (fO_best x2_4) = g0 at hp0 hi0_4 hm_4 c_6 hq0_13 hm_16 ⊢); (try simp only [not_true_eq_false, not_false_eq_true, false_implies, true_implies, implies_true, vp_in_iff, i32_lt, i32_le, i32_eq, i32_add, i32_sub, i32_mul, t32_m1, t32_0, t32_1] at hp0 hi0_4 hm_4 c_6 hq0_13 hm_16 ⊢) <;> intros <;> omega) | ((try (have hs0 : (x3_4 + (1 : Int32)).toInt = x3_4.toInt + 1 := by (have h := i32_addS (x := x3_4) (y := (1 : Int32)) (by (try simp only [not_true_eq_false, not_false_eq_true, false_implies, true_implies, implies_true, vp_in_iff, i32_lt, i32_le, i32_eq, t32_m1, t32_0, t32_1] at hp0 hi0_4 hm_4 c_6 hq0_13 hm_16 ⊢) <;> omega) (by (try simp only [not_true_eq_false, not_false_eq_true, false_implies, true_implies, implies_true, vp_in_iff, i32_lt, i32_le, i32_eq, t32_m1, t32_0, t32_1] at hp0 hi0_4 hm_4 c_6 hq0_13 hm_16 ⊢) <;> omega); (try simp only [t32_m1, t32_0, t32_1] at h); exact h))); (try simp only [not_true_eq_false, not_false_eq_true, false_implies, true_implies, implies_true, vp_in_iff, i32_lt, i32_le, i32_eq, t32_m1, t32_0, t32_1] at hp0 hi0_4 hm_4 c_6 hq0_13 hm_16 ⊢) <;> intros <;> omega)) (by first | ((try generalize (fO_best x2_4) = g0 at hp0 hi0_4 hm_4 c_6 hq0_13 hm_16 ⊢); (try simp only [not_true_eq_false, not_false_eq_true, false_implies, true_implies, implies_true, vp_in_iff, i32_lt, i32_le, i32_eq, i32_add, i32_sub, i32_mul, t32_m1, t32_0, t32_1] at hp0 hi0_4 hm_4 c_6 hq0_13 hm_16 ⊢) <;> intros <;> omega)) hE _ _ _ hP hD hS (lv_sub hl [2, 3, 0] rfl)
        · have hE := ineg c_27 hE
          refine lv_iload hx hb dX7_offer_30 (lv_at hl 0 rfl) ?_
          refine lv_istore_n (lv' := [(2, .int (x2_4 &&& (((1 : Int32) <<< ((if (0 : Int32) < (fO_best x2_4) then (fO_best x2_4) else (0 : Int32)) &&& 31)) ^^^ (-1 : Int32)))), (4, .int (x2_4 &&& (((1 : Int32) <<< ((if (0 : Int32) < (fO_best x2_4) then (fO_best x2_4) else (0 : Int32)) &&& 31)) ^^^ (-1 : Int32)))), (1, .int p1), (3, .int x3_4)]) hx hb dX7_offer_32 rfl hl (by decide) rfl (fun ls hl => ?_)
          refine lv_iinc (v := (x3_4 + (1 : Int32))) (lv' := [(3, .int (x3_4 + (1 : Int32))), (2, .int (x2_4 &&& (((1 : Int32) <<< ((if (0 : Int32) < (fO_best x2_4) then (fO_best x2_4) else (0 : Int32)) &&& 31)) ^^^ (-1 : Int32)))), (4, .int (x2_4 &&& (((1 : Int32) <<< ((if (0 : Int32) < (fO_best x2_4) then (fO_best x2_4) else (0 : Int32)) &&& 31)) ^^^ (-1 : Int32)))), (1, .int p1)]) hx hb dX7_offer_33 hl (k := 3) rfl rfl (by decide) rfl (fun ls hl => ?_)
          refine lv_goto (tgt := 4) hx hb dX7_offer_36 (by decide) ?_
          exact ih_4 (x2_4 &&& (((1 : Int32) <<< ((if (0 : Int32) < (fO_best x2_4) then (fO_best x2_4) else (0 : Int32)) &&& 31)) ^^^ (-1 : Int32))) (x3_4 + (1 : Int32)) (by first | ((try generalize (fO_best x2_4) = g0 at hp0 hi0_4 hm_4 c_6 hq0_13 hm_16 ⊢); (try simp only [not_true_eq_false, not_false_eq_true, false_implies, true_implies, implies_true, vp_in_iff, i32_lt, i32_le, i32_eq, i32_add, i32_sub, i32_mul, t32_m1, t32_0, t32_1] at hp0 hi0_4 hm_4 c_6 hq0_13 hm_16 ⊢) <;> intros <;> omega) | ((try (have hs0 : (x3_4 + (1 : Int32)).toInt = x3_4.toInt + 1 := by (have h := i32_addS (x := x3_4) (y := (1 : Int32)) (by (try simp only [not_true_eq_false, not_false_eq_true, false_implies, true_implies, implies_true, vp_in_iff, i32_lt, i32_le, i32_eq, t32_m1, t32_0, t32_1] at hp0 hi0_4 hm_4 c_6 hq0_13 hm_16 ⊢) <;> omega) (by (try simp only [not_true_eq_false, not_false_eq_true, false_implies, true_implies, implies_true, vp_in_iff, i32_lt, i32_le, i32_eq, t32_m1, t32_0, t32_1] at hp0 hi0_4 hm_4 c_6 hq0_13 hm_16 ⊢) <;> omega); (try simp only [t32_m1, t32_0, t32_1] at h); exact h))); (try simp only [not_true_eq_false, not_false_eq_true, false_implies, true_implies, implies_true, vp_in_iff, i32_lt, i32_le, i32_eq, t32_m1, t32_0, t32_1] at hp0 hi0_4 hm_4 c_6 hq0_13 hm_16 ⊢) <;> intros <;> omega)) (by first | ((try generalize (fO_best x2_4) = g0 at hp0 hi0_4 hm_4 c_6 hq0_13 hm_16 ⊢); (try simp only [not_true_eq_false, not_false_eq_true, false_implies, true_implies, implies_true, vp_in_iff, i32_lt, i32_le, i32_eq, i32_add, i32_sub, i32_mul, t32_m1, t32_0, t32_1] at hp0 hi0_4 hm_4 c_6 hq0_13 hm_16 ⊢) <;> intros <;> omega)) hE _ _ _ hP hD hS (lv_sub hl [3, 1, 0] rfl)
  exact b_4 (4) p0 (0 : Int32) (by first | ((try simp only [not_true_eq_false, not_false_eq_true, false_implies, true_implies, implies_true, vp_in_iff, i32_lt, i32_le, i32_eq, i32_add, i32_sub, i32_mul, t32_m1, t32_0, t32_1] at hp0 ⊢) <;> intros <;> omega)) (by first | ((try simp only [not_true_eq_false, not_false_eq_true, false_implies, true_implies, implies_true, vp_in_iff, i32_lt, i32_le, i32_eq, i32_add, i32_sub, i32_mul, t32_m1, t32_0, t32_1] at hp0 ⊢) <;> intros <;> omega) | decide) hE _ _ _ hP hD hS (lv_sub hl [3, 1, 0] rfl)
