-- X2_kindOf
def fR_kindOf_b35  (p0 : Int32)  : Int32 := (if p0 = (59 : Int32) then (3 : Int32) else (if p0 = (32 : Int32) then (4 : Int32) else (if p0 = (10 : Int32) then (4 : Int32) else (5 : Int32))))
def fR_kindOf_b21  (p0 : Int32)  : Int32 := (if p0 < (48 : Int32) then fR_kindOf_b35 p0 else (if (57 : Int32) < p0 then fR_kindOf_b35 p0 else (2 : Int32)))
def fR_kindOf (p0 : Int32) : Int32 := (if p0 = (-1 : Int32) then (0 : Int32) else (if p0 < (97 : Int32) then fR_kindOf_b21 p0 else (if (122 : Int32) < p0 then fR_kindOf_b21 p0 else (1 : Int32))))
set_option maxHeartbeats 4000000 in
set_option maxRecDepth 100000 in
theorem kR_kindOf (l : Launch) (dC : Nat → ClassId) (dI : Nat → Nat → Nat) (cI cB : ClassId) (sz : Nat) (p0 : Int32) : Met l yX2_kindOf wsX2_kindOf ({ frames := 0, cells := 0, slots := 0, locals := 0 }) (va_Pc [.int p0] (PB (dC, dI) vwCl [(cI, .int), (cB, .byte)] [] sz)) (va_Qi (fun (r : Int32) (u : Unit) => r = fR_kindOf p0 ∧ (p0 = (-1 : Int32) → r = (0 : Int32)) ∧ (r = (2 : Int32) → 48 ≤ p0.toInt ∧ p0.toInt ≤ 57)) (fun (_ : Unit) t => va_P (dC, dI) vwCl [] t.heap ∧ va_K (dC, dI) vwCl [(cI, .int), (cB, .byte)] t ∧ va_D (va_A [] sz) []) (va_A [] sz)) 0 0 (va_A [] sz) := by
  refine Met.ofW (cc := cX2_kindOf) (maxL := 1) (ret := (some .int)) (by decide) rfl ?_
  intro p e s m args below meth c s₁ B hml hv
  obtain ⟨rfl, hsz, hP, hK, hD0⟩ := hv
  have hx := B.exec
  have hb := B.bytes
  have hr := B.returns
  have hts := atoms_spec (ws := wsX2_kindOf) B.pre
  have hown : s.vm.findClass RX2 = some m.cls := findClass_of_methodNamed B.named
  have hlocks := B.notSynchronized
  clear B
  subst hsz
  have hD := hD0.self (sz := s.heap.size)
  clear hD0
  generalize hAe : va_A [] s.heap.size = A at hD ⊢
  have hA : ∀ q : Nat, s.heap.size ≤ q → A q := fun q h => by rw [← hAe]; exact Or.inr h
  clear hAe
  have hS : va_S A s.heap s.heap [] := va_S.rf
  have hP : va_P (dC, dI) vwCl [] s.heap := hP
  have hl := lv_entry ([.int p0]) (n := 1) (Nat.le_of_ble_eq_true rfl)
  rw [lg_entry_eq]
  generalize (lg_sl ([.int p0]) ++ List.replicate (1 - (lg_sl ([.int p0])).length) Slot.unset).toArray = ls at hl ⊢
  have hl : lv_has ls 1 [(0, .int p0)] := hl
  obtain ⟨RES, hRES⟩ : ∃ y, y = fR_kindOf p0 := ⟨_, rfl⟩
  have hE := hRES.symm
  rw [fR_kindOf] at hE
  refine W.nameQ (fun Q9 hQ9 => ?_)
  refine lv_iload_n hx hb dX2_kindOf_0 rfl (lv_at hl 0 rfl) ?_
  refine lv_iconst (v := (-1 : Int32)) hx hb dX2_kindOf_1 (by decide) ?_
  refine lv_icmp_ne (tgt := 7) hx hb dX2_kindOf_2 (by decide) (fun c_2 => ?_) (fun c_2 => ?_)
  · have hE := ineg c_2 hE
    refine lv_iload_n hx hb dX2_kindOf_7 rfl (lv_at hl 0 rfl) ?_
    refine lv_bipush (v := (97 : Int32)) hx hb dX2_kindOf_8 (by decide) ?_
    have b_21 : ∀ (_ : Unit), fR_kindOf_b21 p0 = RES → ∀ (H : Heap) (locs : List Loc) (ls : Array Slot), va_P (dC, dI) vwCl [] H → va_D A [] → va_S A s.heap H locs → lv_has ls 1 [(0, .int p0)] → W p l e (headSpec wsX2_kindOf ({ frames := 0, cells := 0, slots := 0, locals := 0 })).room s m ([.int p0] : List Value).toArray below meth c H locs 0 0 Q9 (F0 m 21 ls []) := by
      intro _ hE H locs ls hP hD hS hl
      rw [fR_kindOf_b21] at hE
      refine lv_iload_n hx hb dX2_kindOf_21 rfl (lv_at hl 0 rfl) ?_
      refine lv_bipush (v := (48 : Int32)) hx hb dX2_kindOf_22 (by decide) ?_
      have b_35 : ∀ (_ : Unit), fR_kindOf_b35 p0 = RES → ∀ (H : Heap) (locs : List Loc) (ls : Array Slot), va_P (dC, dI) vwCl [] H → va_D A [] → va_S A s.heap H locs → lv_has ls 1 [(0, .int p0)] → W p l e (headSpec wsX2_kindOf ({ frames := 0, cells := 0, slots := 0, locals := 0 })).room s m ([.int p0] : List Value).toArray below meth c H locs 0 0 Q9 (F0 m 35 ls []) := by
        intro _ hE H locs ls hP hD hS hl
        rw [fR_kindOf_b35] at hE
        refine lv_iload_n hx hb dX2_kindOf_35 rfl (lv_at hl 0 rfl) ?_
        refine lv_bipush (v := (59 : Int32)) hx hb dX2_kindOf_36 (by decide) ?_
        refine lv_icmp_ne (tgt := 43) hx hb dX2_kindOf_38 (by decide) (fun c_38 => ?_) (fun c_38 => ?_)
        · have hE := ineg c_38 hE
          refine lv_iload_n hx hb dX2_kindOf_43 rfl (lv_at hl 0 rfl) ?_
          refine lv_bipush (v := (32 : Int32)) hx hb dX2_kindOf_44 (by decide) ?_
          refine lv_icmp_eq (tgt := 55) hx hb dX2_kindOf_46 (by decide) (fun c_46 => ?_) (fun c_46 => ?_)
          · have hE := ipos c_46 hE
            refine lv_iconst (v := (4 : Int32)) hx hb dX2_kindOf_55 (by decide) ?_
            refine lv_goto (tgt := 60) hx hb dX2_kindOf_56 (by decide) ?_
            subst hQ9
            exact W.iret (v := (4 : Int32)) hx hb hr (fun t ht hW => ⟨⟨(4 : Int32), (), rfl, ⟨hE.trans hRES, (by first | ((try simp only [not_true_eq_false, not_false_eq_true, false_implies, true_implies, implies_true, vp_in_iff, i32_lt, i32_le, i32_eq, i32_add, i32_sub, i32_mul, t32_m1, t32_0, t32_1, t32_2, t32_3, t32_4, t32_5, t32_10, t32_32, t32_48, t32_57, t32_59, t32_97, t32_122] at c_2 c_38 c_46 ⊢) <;> intros <;> omega)), (by first | ((try simp only [not_true_eq_false, not_false_eq_true, false_implies, true_implies, implies_true, vp_in_iff, i32_lt, i32_le, i32_eq, i32_add, i32_sub, i32_mul, t32_m1, t32_0, t32_1, t32_2, t32_3, t32_4, t32_5, t32_10, t32_32, t32_48, t32_57, t32_59, t32_97, t32_122] at c_2 c_38 c_46 ⊢) <;> intros <;> omega))⟩, (by rw [ht]; exact hP), va_K.moved hW.alike hK, hD⟩, hS.F ht⟩) hS.2.2 dX2_kindOf_60
          · have hE := ineg c_46 hE
            refine lv_iload_n hx hb dX2_kindOf_49 rfl (lv_at hl 0 rfl) ?_
            refine lv_bipush (v := (10 : Int32)) hx hb dX2_kindOf_50 (by decide) ?_
            refine lv_icmp_ne (tgt := 59) hx hb dX2_kindOf_52 (by decide) (fun c_52 => ?_) (fun c_52 => ?_)
            · have hE := ineg c_52 hE
              refine lv_iconst (v := (5 : Int32)) hx hb dX2_kindOf_59 (by decide) ?_
              subst hQ9
              exact W.iret (v := (5 : Int32)) hx hb hr (fun t ht hW => ⟨⟨(5 : Int32), (), rfl, ⟨hE.trans hRES, (by first | ((try simp only [not_true_eq_false, not_false_eq_true, false_implies, true_implies, implies_true, vp_in_iff, i32_lt, i32_le, i32_eq, i32_add, i32_sub, i32_mul, t32_m1, t32_0, t32_1, t32_2, t32_3, t32_4, t32_5, t32_10, t32_32, t32_48, t32_57, t32_59, t32_97, t32_122] at c_2 c_38 c_46 c_52 ⊢) <;> intros <;> omega)), (by first | ((try simp only [not_true_eq_false, not_false_eq_true, false_implies, true_implies, implies_true, vp_in_iff, i32_lt, i32_le, i32_eq, i32_add, i32_sub, i32_mul, t32_m1, t32_0, t32_1, t32_2, t32_3, t32_4, t32_5, t32_10, t32_32, t32_48, t32_57, t32_59, t32_97, t32_122] at c_2 c_38 c_46 c_52 ⊢) <;> intros <;> omega))⟩, (by rw [ht]; exact hP), va_K.moved hW.alike hK, hD⟩, hS.F ht⟩) hS.2.2 dX2_kindOf_60
            · have hE := ipos c_52 hE
              refine lv_iconst (v := (4 : Int32)) hx hb dX2_kindOf_55 (by decide) ?_
              refine lv_goto (tgt := 60) hx hb dX2_kindOf_56 (by decide) ?_
              subst hQ9
              exact W.iret (v := (4 : Int32)) hx hb hr (fun t ht hW => ⟨⟨(4 : Int32), (), rfl, ⟨hE.trans hRES, (by first | ((try simp only [not_true_eq_false, not_false_eq_true, false_implies, true_implies, implies_true, vp_in_iff, i32_lt, i32_le, i32_eq, i32_add, i32_sub, i32_mul, t32_m1, t32_0, t32_1, t32_2, t32_3, t32_4, t32_5, t32_10, t32_32, t32_48, t32_57, t32_59, t32_97, t32_122] at c_2 c_38 c_46 c_52 ⊢) <;> intros <;> omega)), (by first | ((try simp only [not_true_eq_false, not_false_eq_true, false_implies, true_implies, implies_true, vp_in_iff, i32_lt, i32_le, i32_eq, i32_add, i32_sub, i32_mul, t32_m1, t32_0, t32_1, t32_2, t32_3, t32_4, t32_5, t32_10, t32_32, t32_48, t32_57, t32_59, t32_97, t32_122] at c_2 c_38 c_46 c_52 ⊢) <;> intros <;> omega))⟩, (by rw [ht]; exact hP), va_K.moved hW.alike hK, hD⟩, hS.F ht⟩) hS.2.2 dX2_kindOf_60
        · have hE := ipos c_38 hE
          refine lv_iconst (v := (3 : Int32)) hx hb dX2_kindOf_41 (by decide) ?_
          subst hQ9
          exact W.iret (v := (3 : Int32)) hx hb hr (fun t ht hW => ⟨⟨(3 : Int32), (), rfl, ⟨hE.trans hRES, (by first | ((try simp only [not_true_eq_false, not_false_eq_true, false_implies, true_implies, implies_true, vp_in_iff, i32_lt, i32_le, i32_eq, i32_add, i32_sub, i32_mul, t32_m1, t32_0, t32_1, t32_2, t32_3, t32_4, t32_5, t32_10, t32_32, t32_48, t32_57, t32_59, t32_97, t32_122] at c_2 c_38 ⊢) <;> intros <;> omega)), (by first | ((try simp only [not_true_eq_false, not_false_eq_true, false_implies, true_implies, implies_true, vp_in_iff, i32_lt, i32_le, i32_eq, i32_add, i32_sub, i32_mul, t32_m1, t32_0, t32_1, t32_2, t32_3, t32_4, t32_5, t32_10, t32_32, t32_48, t32_57, t32_59, t32_97, t32_122] at c_2 c_38 ⊢) <;> intros <;> omega))⟩, (by rw [ht]; exact hP), va_K.moved hW.alike hK, hD⟩, hS.F ht⟩) hS.2.2 dX2_kindOf_42
      refine lv_icmp_lt (tgt := 35) hx hb dX2_kindOf_24 (by decide) (fun c_24 => ?_) (fun c_24 => ?_)
      · have hE := ipos c_24 hE
        exact b_35 ()  hE _ _ _ hP hD hS (lv_sub hl [0] rfl)
      · have hE := ineg c_24 hE
        refine lv_iload_n hx hb dX2_kindOf_27 rfl (lv_at hl 0 rfl) ?_
        refine lv_bipush (v := (57 : Int32)) hx hb dX2_kindOf_28 (by decide) ?_
        refine lv_icmp_gt (tgt := 35) hx hb dX2_kindOf_30 (by decide) (fun c_30 => ?_) (fun c_30 => ?_)
        · have hE := ipos c_30 hE
          exact b_35 ()  hE _ _ _ hP hD hS (lv_sub hl [0] rfl)
        · have hE := ineg c_30 hE
          refine lv_iconst (v := (2 : Int32)) hx hb dX2_kindOf_33 (by decide) ?_
          subst hQ9
          exact W.iret (v := (2 : Int32)) hx hb hr (fun t ht hW => ⟨⟨(2 : Int32), (), rfl, ⟨hE.trans hRES, (by first | ((try simp only [not_true_eq_false, not_false_eq_true, false_implies, true_implies, implies_true, vp_in_iff, i32_lt, i32_le, i32_eq, i32_add, i32_sub, i32_mul, t32_m1, t32_0, t32_1, t32_2, t32_3, t32_4, t32_5, t32_10, t32_32, t32_48, t32_57, t32_59, t32_97, t32_122] at c_2 c_24 c_30 ⊢) <;> intros <;> omega)), (by first | ((try simp only [not_true_eq_false, not_false_eq_true, false_implies, true_implies, implies_true, vp_in_iff, i32_lt, i32_le, i32_eq, i32_add, i32_sub, i32_mul, t32_m1, t32_0, t32_1, t32_2, t32_3, t32_4, t32_5, t32_10, t32_32, t32_48, t32_57, t32_59, t32_97, t32_122] at c_2 c_24 c_30 ⊢) <;> intros <;> omega))⟩, (by rw [ht]; exact hP), va_K.moved hW.alike hK, hD⟩, hS.F ht⟩) hS.2.2 dX2_kindOf_34
    refine lv_icmp_lt (tgt := 21) hx hb dX2_kindOf_10 (by decide) (fun c_10 => ?_) (fun c_10 => ?_)
    · have hE := ipos c_10 hE
      exact b_21 ()  hE _ _ _ hP hD hS (lv_sub hl [0] rfl)
    · have hE := ineg c_10 hE
      refine lv_iload_n hx hb dX2_kindOf_13 rfl (lv_at hl 0 rfl) ?_
      refine lv_bipush (v := (122 : Int32)) hx hb dX2_kindOf_14 (by decide) ?_
      refine lv_icmp_gt (tgt := 21) hx hb dX2_kindOf_16 (by decide) (fun c_16 => ?_) (fun c_16 => ?_)
      · have hE := ipos c_16 hE
        exact b_21 ()  hE _ _ _ hP hD hS (lv_sub hl [0] rfl)
      · have hE := ineg c_16 hE
        refine lv_iconst (v := (1 : Int32)) hx hb dX2_kindOf_19 (by decide) ?_
        subst hQ9
        exact W.iret (v := (1 : Int32)) hx hb hr (fun t ht hW => ⟨⟨(1 : Int32), (), rfl, ⟨hE.trans hRES, (by first | ((try simp only [not_true_eq_false, not_false_eq_true, false_implies, true_implies, implies_true, vp_in_iff, i32_lt, i32_le, i32_eq, i32_add, i32_sub, i32_mul, t32_m1, t32_0, t32_1, t32_2, t32_3, t32_4, t32_5, t32_10, t32_32, t32_48, t32_57, t32_59, t32_97, t32_122] at c_2 c_10 c_16 ⊢) <;> intros <;> omega)), (by first | ((try simp only [not_true_eq_false, not_false_eq_true, false_implies, true_implies, implies_true, vp_in_iff, i32_lt, i32_le, i32_eq, i32_add, i32_sub, i32_mul, t32_m1, t32_0, t32_1, t32_2, t32_3, t32_4, t32_5, t32_10, t32_32, t32_48, t32_57, t32_59, t32_97, t32_122] at c_2 c_10 c_16 ⊢) <;> intros <;> omega))⟩, (by rw [ht]; exact hP), va_K.moved hW.alike hK, hD⟩, hS.F ht⟩) hS.2.2 dX2_kindOf_20
  · have hE := ipos c_2 hE
    refine lv_iconst (v := (0 : Int32)) hx hb dX2_kindOf_5 (by decide) ?_
    subst hQ9
    exact W.iret (v := (0 : Int32)) hx hb hr (fun t ht hW => ⟨⟨(0 : Int32), (), rfl, ⟨hE.trans hRES, (by first | ((try simp only [not_true_eq_false, not_false_eq_true, false_implies, true_implies, implies_true, vp_in_iff, i32_lt, i32_le, i32_eq, i32_add, i32_sub, i32_mul, t32_m1, t32_0, t32_1, t32_2, t32_3, t32_4, t32_5, t32_10, t32_32, t32_48, t32_57, t32_59, t32_97, t32_122] at c_2 ⊢) <;> intros <;> omega)), (by first | ((try simp only [not_true_eq_false, not_false_eq_true, false_implies, true_implies, implies_true, vp_in_iff, i32_lt, i32_le, i32_eq, i32_add, i32_sub, i32_mul, t32_m1, t32_0, t32_1, t32_2, t32_3, t32_4, t32_5, t32_10, t32_32, t32_48, t32_57, t32_59, t32_97, t32_122] at c_2 ⊢) <;> intros <;> omega))⟩, (by rw [ht]; exact hP), va_K.moved hW.alike hK, hD⟩, hS.F ht⟩) hS.2.2 dX2_kindOf_6
