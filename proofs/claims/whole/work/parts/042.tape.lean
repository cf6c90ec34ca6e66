-- X3_hasSpace
def fP_hasSpace (P_count : Int32) : Int32 := (if (600 : Int32) < (P_count + (20 : Int32)) then (0 : Int32) else (1 : Int32))
set_option maxHeartbeats 4000000 in
set_option maxRecDepth 100000 in
theorem kP_hasSpace (l : Launch) (dC : Nat → ClassId) (dI : Nat → Nat → Nat) (cI cB : ClassId) (aP aPb : Nat) (sz : Nat) (P_count : Int32) (vPb : Nat → Int32) : Met l yX3_hasSpace wsX3_hasSpace ({ frames := 0, cells := 0, slots := 0, locals := 0 }) (va_Pc [.ref aP] (PB (dC, dI) vwCl [(cI, .int), (cB, .byte)] [(aP, .inr (3, [.ref aPb, .int P_count])), (aPb, .inl (cI, 600, .inl vPb))] sz)) (va_Qi (fun (r : Int32) (u : Unit) => r = fP_hasSpace P_count ∧ (r = 0 ∨ r = 1)) (fun (_ : Unit) t => va_P (dC, dI) vwCl [(aP, .inr (3, [.ref aPb, .int P_count])), (aPb, .inl (cI, 600, .inl vPb))] t.heap ∧ va_K (dC, dI) vwCl [(cI, .int), (cB, .byte)] t ∧ va_D (va_A [(aP, .inr (3, [.ref aPb, .int P_count])), (aPb, .inl (cI, 600, .inl vPb))] sz) [(aP, .inr (3, [.ref aPb, .int P_count])), (aPb, .inl (cI, 600, .inl vPb))]) (va_A [(aP, .inr (3, [.ref aPb, .int P_count])), (aPb, .inl (cI, 600, .inl vPb))] sz)) 0 0 (va_A [(aP, .inr (3, [.ref aPb, .int P_count])), (aPb, .inl (cI, 600, .inl vPb))] sz) := by
  refine Met.ofW (cc := cX3_hasSpace) (maxL := 1) (ret := (some .boolean)) (by decide) rfl ?_
  intro p e s m args below meth c s₁ B hml hv
  obtain ⟨rfl, hsz, hP, hK, hD0⟩ := hv
  have hx := B.exec
  have hb := B.bytes
  have hr := B.returns
  have hts := atoms_spec (ws := wsX3_hasSpace) B.pre
  have hown : s.vm.findClass RX3 = some m.cls := findClass_of_methodNamed B.named
  have hlocks := B.notSynchronized
  clear B
  subst hsz
  have hD := hD0.self (sz := s.heap.size)
  clear hD0
  generalize hAe : va_A [(aP, .inr (3, [.ref aPb, .int P_count])), (aPb, .inl (cI, 600, .inl vPb))] s.heap.size = A at hD ⊢
  have hA : ∀ q : Nat, s.heap.size ≤ q → A q := fun q h => by rw [← hAe]; exact Or.inr h
  clear hAe
  have hS : va_S A s.heap s.heap [] := va_S.rf
  have hP : va_P (dC, dI) vwCl [(aP, .inr (3, [.ref aPb, .int P_count])), (aPb, .inl (cI, 600, .inl vPb))] s.heap := hP
  have hl := lv_entry ([.ref aP]) (n := 1) (Nat.le_of_ble_eq_true rfl)
  rw [lg_entry_eq]
  generalize (lg_sl ([.ref aP]) ++ List.replicate (1 - (lg_sl ([.ref aP])).length) Slot.unset).toArray = ls at hl ⊢
  have hl : lv_has ls 1 [(0, .ref aP)] := hl
  obtain ⟨RES, hRES⟩ : ∃ y, y = fP_hasSpace P_count := ⟨_, rfl⟩
  have hE := hRES.symm
  rw [fP_hasSpace] at hE
  refine lv_aload_n hx hb dX3_hasSpace_0 rfl (lv_at hl 0 rfl) ?_
  refine va_get (D := (dC, dI)) (ci := 3) (v := .int P_count) (C := RX3) (T := TX3) (N := 2) hx hb hts (fun _ h => List.mem_cons_of_mem _ (List.mem_append_right _ h)) hown hK hP 0 rfl rfl 1 (by decide) (hts _ (List.mem_cons_of_mem _ (List.mem_append_left _ (List.mem_of_getElem? (i := 0) rfl)))) (fun _ h9 => h9) rfl dX3_hasSpace_1 ?_
  refine lv_bipush (v := (20 : Int32)) hx hb dX3_hasSpace_4 (by decide) ?_
  refine lv_iadd hx hb dX3_hasSpace_6 ?_
  refine lv_sipush (v := (600 : Int32)) hx hb dX3_hasSpace_7 (by decide) ?_
  refine lv_icmp_gt (tgt := 17) hx hb dX3_hasSpace_10 (by decide) (fun c_10 => ?_) (fun c_10 => ?_)
  · have hE := ipos c_10 hE
    refine lv_iconst (v := (0 : Int32)) hx hb dX3_hasSpace_17 (by decide) ?_
    exact W.zret (v := (0 : Int32)) (ty := .boolean) hx hb hr rfl (fun t ht hW => ⟨⟨(0 : Int32), (), rfl, ⟨hE.trans hRES, Or.inl rfl⟩, (by rw [ht]; exact hP), va_K.moved hW.alike hK, hD⟩, hS.F ht⟩) hS.2.2 dX3_hasSpace_18
  · have hE := ineg c_10 hE
    refine lv_iconst (v := (1 : Int32)) hx hb dX3_hasSpace_13 (by decide) ?_
    refine lv_goto (tgt := 18) hx hb dX3_hasSpace_14 (by decide) ?_
    exact W.zret (v := (1 : Int32)) (ty := .boolean) hx hb hr rfl (fun t ht hW => ⟨⟨(1 : Int32), (), rfl, ⟨hE.trans hRES, Or.inr rfl⟩, (by rw [ht]; exact hP), va_K.moved hW.alike hK, hD⟩, hS.F ht⟩) hS.2.2 dX3_hasSpace_18
-- X3_append
def fP_append_l3  (p1 : Int32) : Nat → Int32 → Int32 → (Nat → Int32) → (Int32 × (Nat → Int32))
  | 0, x2_3, P_count_3, vPb_3 => (P_count_3, vPb_3)
  | n_3 + 1, x2_3, P_count_3, vPb_3 => (if x2_3 < 0 then (P_count_3, vPb_3) else (if (600 : Int32) ≤ P_count_3 then (P_count_3, vPb_3) else (fP_append_l3 p1 n_3) (x2_3 + (-8 : Int32)) (P_count_3 + (1 : Int32)) (upd vPb_3 P_count_3.toNatClampNeg ((p1 >>> (x2_3 &&& 31)) &&& (255 : Int32)))))
def fP_append (P_count : Int32) (vPb : Nat → Int32) (p1 : Int32) : Int32 × (Nat → Int32) := fP_append_l3 p1 (5) (24 : Int32) P_count vPb
set_option maxHeartbeats 4000000 in
set_option maxRecDepth 100000 in
theorem kP_append (l : Launch) (dC : Nat → ClassId) (dI : Nat → Nat → Nat) (cI cB : ClassId) (aP aPb : Nat) (sz : Nat) (P_count : Int32) (vPb : Nat → Int32) (p1 : Int32) (hp0 : 0 ≤ P_count.toInt ∧ P_count.toInt ≤ 600) : Met l yX3_append wsX3_append ({ frames := 0, cells := 0, slots := 0, locals := 0 }) (va_Pc [.ref aP, .int p1] (PB (dC, dI) vwCl [(cI, .int), (cB, .byte)] [(aP, .inr (3, [.ref aPb, .int P_count])), (aPb, .inl (cI, 600, .inl vPb))] sz)) (va_Qv (fun (u : Int32 × (Nat → Int32)) => u = fP_append P_count vPb p1 ∧ (0 ≤ u.1.toInt ∧ u.1.toInt ≤ 600)) (fun (u : Int32 × (Nat → Int32)) t => va_P (dC, dI) vwCl [(aP, .inr (3, [.ref aPb, .int u.1])), (aPb, .inl (cI, 600, .inl u.2))] t.heap ∧ va_K (dC, dI) vwCl [(cI, .int), (cB, .byte)] t ∧ va_D (va_A [(aP, .inr (3, [.ref aPb, .int P_count])), (aPb, .inl (cI, 600, .inl vPb))] sz) [(aP, .inr (3, [.ref aPb, .int u.1])), (aPb, .inl (cI, 600, .inl u.2))]) (va_A [(aP, .inr (3, [.ref aPb, .int P_count])), (aPb, .inl (cI, 600, .inl vPb))] sz)) 0 0 (va_A [(aP, .inr (3, [.ref aPb, .int P_count])), (aPb, .inl (cI, 600, .inl vPb))] sz) := by
  refine Met.ofW (cc := cX3_append) (maxL := 3) (ret := none) (by decide) rfl ?_
  intro p e s m args below meth c s₁ B hml hv
  obtain ⟨rfl, hsz, hP, hK, hD0⟩ := hv
  have hx := B.exec
  have hb := B.bytes
  have hr := B.returns
  have hts := atoms_spec (ws := wsX3_append) B.pre
  have hown : s.vm.findClass RX3 = some m.cls := findClass_of_methodNamed B.named
  have hlocks := B.notSynchronized
  clear B
  subst hsz
  have hD := hD0.self (sz := s.heap.size)
  clear hD0
  generalize hAe : va_A [(aP, .inr (3, [.ref aPb, .int P_count])), (aPb, .inl (cI, 600, .inl vPb))] s.heap.size = A at hD ⊢
  have hA : ∀ q : Nat, s.heap.size ≤ q → A q := fun q h => by rw [← hAe]; exact Or.inr h
  clear hAe
  have hS : va_S A s.heap s.heap [] := va_S.rf
  have hP : va_P (dC, dI) vwCl [(aP, .inr (3, [.ref aPb, .int P_count])), (aPb, .inl (cI, 600, .inl vPb))] s.heap := hP
  have hl := lv_entry ([.ref aP, .int p1]) (n := 3) (Nat.le_of_ble_eq_true rfl)
  rw [lg_entry_eq]
  generalize (lg_sl ([.ref aP, .int p1]) ++ List.replicate (3 - (lg_sl ([.ref aP, .int p1])).length) Slot.unset).toArray = ls at hl ⊢
  have hl : lv_has ls 3 [(0, .ref aP), (1, .int p1)] := hl
  obtain ⟨RES, hRES⟩ : ∃ y, y = fP_append P_count vPb p1 := ⟨_, rfl⟩
  have hE := hRES.symm
  rw [fP_append] at hE
  refine W.nameQ (fun Q9 hQ9 => ?_)
  refine lv_bipush (v := (24 : Int32)) hx hb dX3_append_0 (by decide) ?_
  refine lv_istore_n (lv' := [(2, .int (24 : Int32)), (0, .ref aP), (1, .int p1)]) hx hb dX3_append_2 rfl hl (by decide) rfl (fun ls hl => ?_)
  have b_3 : ∀ (n_3 : Nat) (x2_3 : Int32) (P_count_3 : Int32) (vPb_3 : Nat → Int32), (0 ≤ P_count_3.toInt ∧ P_count_3.toInt ≤ 600) → (-8 ≤ x2_3.toInt ∧ x2_3.toInt ≤ 24) → (((x2_3.toInt + 8) / 8).toNat : Nat) < n_3 → fP_append_l3 p1 n_3 x2_3 P_count_3 vPb_3 = RES → ∀ (H : Heap) (locs : List Loc) (ls : Array Slot), va_P (dC, dI) vwCl [(aP, .inr (3, [.ref aPb, .int P_count_3])), (aPb, .inl (cI, 600, .inl vPb_3))] H → va_D A [(aP, .inr (3, [.ref aPb, .int P_count_3])), (aPb, .inl (cI, 600, .inl vPb_3))] → va_S A s.heap H locs → lv_has ls 3 [(0, .ref aP), (1, .int p1), (2, .int x2_3)] → W p l e (headSpec wsX3_append ({ frames := 0, cells := 0, slots := 0, locals := 0 })).room s m ([.ref aP, .int p1] : List Value).toArray below meth c H locs 0 0 Q9 (F0 m 3 ls []) := by
    intro n_3
    induction n_3 with
    | zero => intro x2_3 P_count_3 vPb_3 hi0_3 hi1_3 hm_3 hE; exact absurd hm_3 (Nat.not_lt_zero _)
    | succ n_3 ih_3 =>
      intro x2_3 P_count_3 vPb_3 hi0_3 hi1_3 hm_3 hE H locs ls hP hD hS hl
      rw [fP_append_l3] at hE
      refine lv_iload_n hx hb dX3_append_3 rfl (lv_at hl 2 rfl) ?_
      refine lv_if_lt (tgt := 49) hx hb dX3_append_4 (by decide) (fun c_4 => ?_) (fun c_4 => ?_)
      · have hE := ipos c_4 hE
        subst hQ9
        exact W.vret hx hb hr (fun t ht hW => ⟨⟨(P_count_3, vPb_3), rfl, ⟨hE.trans hRES, hi0_3⟩, (by rw [ht]; exact hP), va_K.moved hW.alike hK, hD⟩, hS.F ht⟩) hS.2.2 dX3_append_49
      · have hE := ineg c_4 hE
        refine lv_aload_n hx hb dX3_append_7 rfl (lv_at hl 0 rfl) ?_
        refine va_get (D := (dC, dI)) (ci := 3) (v := .int P_count_3) (C := RX3) (T := TX3) (N := 2) hx hb hts (fun _ h => List.mem_cons_of_mem _ (List.mem_append_right _ h)) hown hK hP 0 rfl rfl 1 (by decide) (hts _ (List.mem_cons_of_mem _ (List.mem_append_left _ (List.mem_of_getElem? (i := 0) rfl)))) (fun _ h9 => h9) rfl dX3_append_8 ?_
        refine lv_sipush (v := (600 : Int32)) hx hb dX3_append_11 (by decide) ?_
        refine lv_icmp_ge (tgt := 49) hx hb dX3_append_14 (by decide) (fun c_14 => ?_) (fun c_14 => ?_)
        · have hE := ipos c_14 hE
          subst hQ9
          exact W.vret hx hb hr (fun t ht hW => ⟨⟨(P_count_3, vPb_3), rfl, ⟨hE.trans hRES, hi0_3⟩, (by rw [ht]; exact hP), va_K.moved hW.alike hK, hD⟩, hS.F ht⟩) hS.2.2 dX3_append_49
        · have hE := ineg c_14 hE
          refine lv_aload_n hx hb dX3_append_17 rfl (lv_at hl 0 rfl) ?_
          refine va_get (D := (dC, dI)) (ci := 3) (v := .ref aPb) (C := RX3) (T := TX3) (N := 2) hx hb hts (fun _ h => List.mem_cons_of_mem _ (List.mem_append_right _ h)) hown hK hP 0 rfl rfl 0 (by decide) (hts _ (List.mem_cons_of_mem _ (List.mem_append_left _ (List.mem_of_getElem? (i := 1) rfl)))) (fun _ h9 => h9) rfl dX3_append_18 ?_
          refine lv_aload_n hx hb dX3_append_21 rfl (lv_at hl 0 rfl) ?_
          refine va_get (D := (dC, dI)) (ci := 3) (v := .int P_count_3) (C := RX3) (T := TX3) (N := 2) hx hb hts (fun _ h => List.mem_cons_of_mem _ (List.mem_append_right _ h)) hown hK hP 0 rfl rfl 1 (by decide) (hts _ (List.mem_cons_of_mem _ (List.mem_append_left _ (List.mem_of_getElem? (i := 0) rfl)))) (fun _ h9 => h9) rfl dX3_append_22 ?_
          refine lv_iload_n hx hb dX3_append_25 rfl (lv_at hl 1 rfl) ?_
          refine lv_iload_n hx hb dX3_append_26 rfl (lv_at hl 2 rfl) ?_
          refine lv_ishr hx hb dX3_append_27 ?_
          refine lv_sipush (v := (255 : Int32)) hx hb dX3_append_28 (by decide) ?_
          refine lv_iand hx hb dX3_append_31 ?_
          refine va_iast (D := (dC, dI)) (cl := vwCl) hx hb hK hP hD hS 1 0 rfl rfl (by first | ((try simp only [not_true_eq_false, not_false_eq_true, false_implies, true_implies, implies_true, vp_in_iff, i32_lt, i32_le, i32_eq, i32_add, i32_sub, i32_mul, t32_m8, t32_m1, t32_0, t32_1, t32_24, t32_255, t32_600] at hp0 hi0_3 hi1_3 hm_3 c_4 c_14 ⊢) <;> intros <;> omega)) dX3_append_32 (fun H locs hP hD hS => ?_)
          have hP : va_P (dC, dI) vwCl [(aP, .inr (3, [.ref aPb, .int P_count_3])), (aPb, .inl (cI, 600, .inl (upd vPb_3 P_count_3.toNatClampNeg ((p1 >>> (x2_3 &&& 31)) &&& (255 : Int32)))))] H := hP
          have hD : va_D A [(aP, .inr (3, [.ref aPb, .int P_count_3])), (aPb, .inl (cI, 600, .inl (upd vPb_3 P_count_3.toNatClampNeg ((p1 >>> (x2_3 &&& 31)) &&& (255 : Int32)))))] := hD
          refine lv_aload_n hx hb dX3_append_33 rfl (lv_at hl 0 rfl) ?_
          refine lv_dup hx hb dX3_append_34 rfl ?_
          refine va_get (D := (dC, dI)) (ci := 3) (v := .int P_count_3) (C := RX3) (T := TX3) (N := 2) hx hb hts (fun _ h => List.mem_cons_of_mem _ (List.mem_append_right _ h)) hown hK hP 0 rfl rfl 1 (by decide) (hts _ (List.mem_cons_of_mem _ (List.mem_append_left _ (List.mem_of_getElem? (i := 0) rfl)))) (fun _ h9 => h9) rfl dX3_append_35 ?_
          refine lv_iconst (v := (1 : Int32)) hx hb dX3_append_38 (by decide) ?_
          refine lv_iadd hx hb dX3_append_39 ?_
          refine va_put (D := (dC, dI)) (ci := 3) (v := .int (P_count_3 + (1 : Int32))) (ty := .int) (C := RX3) (T := TX3) (N := 2) hx hb hts (fun _ h => List.mem_cons_of_mem _ (List.mem_append_right _ h)) tyX3 tyX3_ok nmX3 hown hK hP hD hS 0 rfl rfl 1 (by decide) (hts _ (List.mem_cons_of_mem _ (List.mem_append_left _ (List.mem_of_getElem? (i := 0) rfl)))) (fun _ h9 => h9) rfl (by decide +kernel) rfl rfl (Nat.le_of_ble_eq_true rfl) dX3_append_40 (fun H locs hP hD hS => ?_)
          have hP : va_P (dC, dI) vwCl [(aP, .inr (3, [.ref aPb, .int (P_count_3 + (1 : Int32))])), (aPb, .inl (cI, 600, .inl (upd vPb_3 P_count_3.toNatClampNeg ((p1 >>> (x2_3 &&& 31)) &&& (255 : Int32)))))] H := hP
          have hD : va_D A [(aP, .inr (3, [.ref aPb, .int (P_count_3 + (1 : Int32))])), (aPb, .inl (cI, 600, .inl (upd vPb_3 P_count_3.toNatClampNeg ((p1 >>> (x2_3 &&& 31)) &&& (255 : Int32)))))] := hD
          refine lv_iinc (v := (x2_3 + (-8 : Int32))) (lv' := [(2, .int (x2_3 + (-8 : Int32))), (0, .ref aP), (1, .int p1)]) hx hb dX3_append_43 hl (k := 2) rfl rfl (by decide) rfl (fun ls hl => ?_)
          refine lv_goto (tgt := 3) hx hb dX3_append_46 (by decide) ?_
          exact ih_3 (x2_3 + (-8 : Int32)) (P_count_3 + (1 : Int32)) (upd vPb_3 P_count_3.toNatClampNeg ((p1 >>> (x2_3 &&& 31)) &&& (255 : Int32))) (by first | ((try simp only [not_true_eq_false, not_false_eq_true, false_implies, true_implies, implies_true, vp_in_iff, i32_lt, i32_le, i32_eq, i32_add, i32_sub, i32_mul, t32_m8, t32_m1, t32_0, t32_1, t32_24, t32_255, t32_600] at hp0 hi0_3 hi1_3 hm_3 c_4 c_14 ⊢) <;> intros <;> omega) | ((try (have hs0 : (P_count_3 + (1 : Int32)).toInt = P_count_3.toInt + 1 := by (have h := i32_addS (x := P_count_3) (y := (1 : Int32)) (by (try simp only [not_true_eq_false, not_false_eq_true, false_implies, true_implies, implies_true, vp_in_iff, i32_lt, i32_le, i32_eq, t32_m8, t32_m1, t32_0, t32_1, t32_24, t32_255, t32_600] at hp0 hi0_3 hi1_3 hm_3 c_4 c_14 ⊢) <;> omega) (by (try simp only [not_true_eq_false, not_false_eq_true, false_implies, true_implies, implies_true, vp_in_iff, i32_lt, i32_le, i32_eq, t32_m8, t32_m1, t32_0, t32_1, t32_24, t32_255, t32_600] at hp0 hi0_3 hi1_3 hm_3 c_4 c_14 ⊢) <;> omega); (try simp only [t32_m8, t32_m1, t32_0, t32_1, t32_24, t32_255, t32_600] at h); exact h))); (try simp only [not_true_eq_false, not_false_eq_true, false_implies, true_implies, implies_true, vp_in_iff, i32_lt, i32_le, i32_eq, t32_m8, t32_m1, t32_0, t32_1, t32_24, t32_255, t32_600] at hp0 hi0_3 hi1_3 hm_3 c_4 c_14 ⊢) <;> intros <;> omega)) (by first | ((try simp only [not_true_eq_false, not_false_eq_true, false_implies, true_implies, implies_true, vp_in_iff, i32_lt, i32_le, i32_eq, i32_add, i32_sub, i32_mul, t32_m8, t32_m1, t32_0, t32_1, t32_24, t32_255, t32_600] at hp0 hi0_3 hi1_3 hm_3 c_4 c_14 ⊢) <;> intros <;> omega) | ((try (have hs0 : (x2_3 + (-8 : Int32)).toInt = x2_3.toInt + -8 := by (have h := i32_addS (x := x2_3) (y := (-8 : Int32)) (by (try simp only [not_true_eq_false, not_false_eq_true, false_implies, true_implies, implies_true, vp_in_iff, i32_lt, i32_le, i32_eq, t32_m8, t32_m1, t32_0, t32_1, t32_24, t32_255, t32_600] at hp0 hi0_3 hi1_3 hm_3 c_4 c_14 ⊢) <;> omega) (by (try simp only [not_true_eq_false, not_false_eq_true, false_implies, true_implies, implies_true, vp_in_iff, i32_lt, i32_le, i32_eq, t32_m8, t32_m1, t32_0, t32_1, t32_24, t32_255, t32_600] at hp0 hi0_3 hi1_3 hm_3 c_4 c_14 ⊢) <;> omega); (try simp only [t32_m8, t32_m1, t32_0, t32_1, t32_24, t32_255, t32_600] at h); exact h))); (try simp only [not_true_eq_false, not_false_eq_true, false_implies, true_implies, implies_true, vp_in_iff, i32_lt, i32_le, i32_eq, t32_m8, t32_m1, t32_0, t32_1, t32_24, t32_255, t32_600] at hp0 hi0_3 hi1_3 hm_3 c_4 c_14 ⊢) <;> intros <;> omega)) (by first | ((try simp only [not_true_eq_false, not_false_eq_true, false_implies, true_implies, implies_true, vp_in_iff, i32_lt, i32_le, i32_eq, i32_add, i32_sub, i32_mul, t32_m8, t32_m1, t32_0, t32_1, t32_24, t32_255, t32_600] at hp0 hi0_3 hi1_3 hm_3 c_4 c_14 ⊢) <;> intros <;> omega)) hE _ _ _ hP hD hS (lv_sub hl [1, 2, 0] rfl)
  exact b_3 (5) (24 : Int32) P_count vPb hp0 (by first | ((try simp only [not_true_eq_false, not_false_eq_true, false_implies, true_implies, implies_true, vp_in_iff, i32_lt, i32_le, i32_eq, i32_add, i32_sub, i32_mul, t32_m8, t32_m1, t32_0, t32_1, t32_24, t32_255, t32_600] at hp0 ⊢) <;> intros <;> omega)) (by first | ((try simp only [not_true_eq_false, not_false_eq_true, false_implies, true_implies, implies_true, vp_in_iff, i32_lt, i32_le, i32_eq, i32_add, i32_sub, i32_mul, t32_m8, t32_m1, t32_0, t32_1, t32_24, t32_255, t32_600] at hp0 ⊢) <;> intros <;> omega) | decide) hE _ _ _ hP hD hS (lv_sub hl [1, 2, 0] rfl)
-- X3_size
def fP_size (P_count : Int32) : Int32 := P_count
set_option maxHeartbeats 4000000 in
set_option maxRecDepth 100000 in
theorem kP_size (l : Launch) (dC : Nat → ClassId) (dI : Nat → Nat → Nat) (cI cB : ClassId) (aP aPb : Nat) (sz : Nat) (P_count : Int32) (vPb : Nat → Int32) : Met l yX3_size wsX3_size ({ frames := 0, cells := 0, slots := 0, locals := 0 }) (va_Pc [.ref aP] (PB (dC, dI) vwCl [(cI, .int), (cB, .byte)] [(aP, .inr (3, [.ref aPb, .int P_count])), (aPb, .inl (cI, 600, .inl vPb))] sz)) (va_Qi (fun (r : Int32) (u : Unit) => r = fP_size P_count ∧ (r = P_count)) (fun (_ : Unit) t => va_P (dC, dI) vwCl [(aP, .inr (3, [.ref aPb, .int P_count])), (aPb, .inl (cI, 600, .inl vPb))] t.heap ∧ va_K (dC, dI) vwCl [(cI, .int), (cB, .byte)] t ∧ va_D (va_A [(aP, .inr (3, [.ref aPb, .int P_count])), (aPb, .inl (cI, 600, .inl vPb))] sz) [(aP, .inr (3, [.ref aPb, .int P_count])), (aPb, .inl (cI, 600, .inl vPb))]) (va_A [(aP, .inr (3, [.ref aPb, .int P_count])), (aPb, .inl (cI, 600, .inl vPb))] sz)) 0 0 (va_A [(aP, .inr (3, [.ref aPb, .int P_count])), (aPb, .inl (cI, 600, .inl vPb))] sz) := by
  refine Met.ofW (cc := cX3_size) (maxL := 1) (ret := (some .int)) (by decide) rfl ?_
  intro p e s m args below meth c s₁ B hml hv
  obtain ⟨rfl, hsz, hP, hK, hD0⟩ := hv
  have hx := B.exec
  have hb := B.bytes
  have hr := B.returns
  have hts := atoms_spec (ws := wsX3_size) B.pre
  have hown : s.vm.findClass RX3 = some m.cls := findClass_of_methodNamed B.named
  have hlocks := B.notSynchronized
  clear B
  subst hsz
  have hD := hD0.self (sz := s.heap.size)
  clear hD0
  generalize hAe : va_A [(aP, .inr (3, [.ref aPb, .int P_count])), (aPb, .inl (cI, 600, .inl vPb))] s.heap.size = A at hD ⊢
  have hA : ∀ q : Nat, s.heap.size ≤ q → A q := fun q h => by rw [← hAe]; exact Or.inr h
  clear hAe
  have hS : va_S A s.heap s.heap [] := va_S.rf
  have hP : va_P (dC, dI) vwCl [(aP, .inr (3, [.ref aPb, .int P_count])), (aPb, .inl (cI, 600, .inl vPb))] s.heap := hP
  have hl := lv_entry ([.ref aP]) (n := 1) (Nat.le_of_ble_eq_true rfl)
  rw [lg_entry_eq]
  generalize (lg_sl ([.ref aP]) ++ List.replicate (1 - (lg_sl ([.ref aP])).length) Slot.unset).toArray = ls at hl ⊢
  have hl : lv_has ls 1 [(0, .ref aP)] := hl
  obtain ⟨RES, hRES⟩ : ∃ y, y = fP_size P_count := ⟨_, rfl⟩
  have hE := hRES.symm
  rw [fP_size] at hE
  refine lv_aload_n hx hb dX3_size_0 rfl (lv_at hl 0 rfl) ?_
  refine va_get (D := (dC, dI)) (ci := 3) (v := .int P_count) (C := RX3) (T := TX3) (N := 2) hx hb hts (fun _ h => List.mem_cons_of_mem _ (List.mem_append_right _ h)) hown hK hP 0 rfl rfl 1 (by decide) (hts _ (List.mem_cons_of_mem _ (List.mem_append_left _ (List.mem_of_getElem? (i := 0) rfl)))) (fun _ h9 => h9) rfl dX3_size_1 ?_
  exact W.iret (v := P_count) hx hb hr (fun t ht hW => ⟨⟨P_count, (), rfl, ⟨hE.trans hRES, rfl⟩, (by rw [ht]; exact hP), va_K.moved hW.alike hK, hD⟩, hS.F ht⟩) hS.2.2 dX3_size_4
-- X3_cutTo
def fP_cutTo (P_count : Int32) (p1 : Int32) : Int32 := (if (0 : Int32) < (if P_count < p1 then P_count else p1) then (if P_count < p1 then P_count else p1) else (0 : Int32))
set_option maxHeartbeats 4000000 in
set_option maxRecDepth 100000 in
theorem kP_cutTo (l : Launch) (dC : Nat → ClassId) (dI : Nat → Nat → Nat) (cI cB : ClassId) (aP aPb : Nat) (sz : Nat) (P_count : Int32) (vPb : Nat → Int32) (p1 : Int32) (hp0 : 0 ≤ P_count.toInt ∧ P_count.toInt ≤ 600) : Met l yX3_cutTo wsX3_cutTo ({ frames := 1, cells := 0, slots := 0, locals := 21 }) (va_Pc [.ref aP, .int p1] (PB (dC, dI) vwCl [(cI, .int), (cB, .byte)] [(aP, .inr (3, [.ref aPb, .int P_count])), (aPb, .inl (cI, 600, .inl vPb))] sz)) (va_Qv (fun (u : Int32) => u = fP_cutTo P_count p1 ∧ (0 ≤ u.toInt ∧ u.toInt ≤ P_count.toInt)) (fun (u : Int32) t => va_P (dC, dI) vwCl [(aP, .inr (3, [.ref aPb, .int u])), (aPb, .inl (cI, 600, .inl vPb))] t.heap ∧ va_K (dC, dI) vwCl [(cI, .int), (cB, .byte)] t ∧ va_D (va_A [(aP, .inr (3, [.ref aPb, .int P_count])), (aPb, .inl (cI, 600, .inl vPb))] sz) [(aP, .inr (3, [.ref aPb, .int u])), (aPb, .inl (cI, 600, .inl vPb))]) (va_A [(aP, .inr (3, [.ref aPb, .int P_count])), (aPb, .inl (cI, 600, .inl vPb))] sz)) 0 0 (va_A [(aP, .inr (3, [.ref aPb, .int P_count])), (aPb, .inl (cI, 600, .inl vPb))] sz) := by
  refine Met.ofW (cc := cX3_cutTo) (maxL := 2) (ret := none) (by decide) rfl ?_
  intro p e s m args below meth c s₁ B hml hv
  obtain ⟨rfl, hsz, hP, hK, hD0⟩ := hv
  have hx := B.exec
  have hb := B.bytes
  have hr := B.returns
  have hts := atoms_spec (ws := wsX3_cutTo) B.pre
  have hown : s.vm.findClass RX3 = some m.cls := findClass_of_methodNamed B.named
  have hlocks := B.notSynchronized
  clear B
  subst hsz
  have hD := hD0.self (sz := s.heap.size)
  clear hD0
  generalize hAe : va_A [(aP, .inr (3, [.ref aPb, .int P_count])), (aPb, .inl (cI, 600, .inl vPb))] s.heap.size = A at hD ⊢
  have hA : ∀ q : Nat, s.heap.size ≤ q → A q := fun q h => by rw [← hAe]; exact Or.inr h
  clear hAe
  have hS : va_S A s.heap s.heap [] := va_S.rf
  have hP : va_P (dC, dI) vwCl [(aP, .inr (3, [.ref aPb, .int P_count])), (aPb, .inl (cI, 600, .inl vPb))] s.heap := hP
  have hl := lv_entry ([.ref aP, .int p1]) (n := 2) (Nat.le_of_ble_eq_true rfl)
  rw [lg_entry_eq]
  generalize (lg_sl ([.ref aP, .int p1]) ++ List.replicate (2 - (lg_sl ([.ref aP, .int p1])).length) Slot.unset).toArray = ls at hl ⊢
  have hl : lv_has ls 2 [(0, .ref aP), (1, .int p1)] := hl
  obtain ⟨RES, hRES⟩ : ∃ y, y = fP_cutTo P_count p1 := ⟨_, rfl⟩
  have hE := hRES.symm
  rw [fP_cutTo] at hE
  refine lv_aload_n hx hb dX3_cutTo_0 rfl (lv_at hl 0 rfl) ?_
  refine lv_iconst (v := (0 : Int32)) hx hb dX3_cutTo_1 (by decide) ?_
  refine lv_iload_n hx hb dX3_cutTo_2 rfl (lv_at hl 1 rfl) ?_
  refine lv_aload_n hx hb dX3_cutTo_3 rfl (lv_at hl 0 rfl) ?_
  refine va_get (D := (dC, dI)) (ci := 3) (v := .int P_count) (C := RX3) (T := TX3) (N := 2) hx hb hts (fun _ h => List.mem_cons_of_mem _ (List.mem_append_right _ h)) hown hK hP 0 rfl rfl 1 (by decide) (hts _ (List.mem_cons_of_mem _ (List.mem_append_left _ (List.mem_of_getElem? (i := 0) rfl)))) (fun _ h9 => h9) rfl dX3_cutTo_4 ?_
  refine va_mmin hx hb (by rw [hml]; exact hl.1.symm) hown (hts _ (List.mem_cons_of_mem _ (List.mem_append_left _ (List.mem_of_getElem? (i := 1) rfl)))) (hts _ (List.mem_cons_of_mem _ (List.mem_append_left _ (List.mem_of_getElem? (i := 2) rfl)))) (hts _ (List.mem_cons_of_mem _ (List.mem_append_left _ (List.mem_of_getElem? (i := 3) rfl)))) (hts _ (List.mem_cons_of_mem _ (List.mem_append_left _ (List.mem_of_getElem? (i := 4) rfl)))) (Nat.le_of_ble_eq_true rfl) (Nat.le_of_ble_eq_true rfl) (Nat.zero_le _) (Nat.zero_le _) dX3_cutTo_7 ?_
  have hm_7 := mmmin_f p1 P_count
  refine va_mmax hx hb (by rw [hml]; exact hl.1.symm) hown (hts _ (List.mem_cons_of_mem _ (List.mem_append_left _ (List.mem_of_getElem? (i := 5) rfl)))) (hts _ (List.mem_cons_of_mem _ (List.mem_append_left _ (List.mem_of_getElem? (i := 6) rfl)))) (hts _ (List.mem_cons_of_mem _ (List.mem_append_left _ (List.mem_of_getElem? (i := 3) rfl)))) (hts _ (List.mem_cons_of_mem _ (List.mem_append_left _ (List.mem_of_getElem? (i := 7) rfl)))) (Nat.le_of_ble_eq_true rfl) (Nat.le_of_ble_eq_true rfl) (Nat.zero_le _) (Nat.zero_le _) dX3_cutTo_10 ?_
  have hm_10 := mmmax_f (0 : Int32) (if P_count < p1 then P_count else p1)
  refine va_put (D := (dC, dI)) (ci := 3) (v := .int (if (0 : Int32) < (if P_count < p1 then P_count else p1) then (if P_count < p1 then P_count else p1) else (0 : Int32))) (ty := .int) (C := RX3) (T := TX3) (N := 2) hx hb hts (fun _ h => List.mem_cons_of_mem _ (List.mem_append_right _ h)) tyX3 tyX3_ok nmX3 hown hK hP hD hS 0 rfl rfl 1 (by decide) (hts _ (List.mem_cons_of_mem _ (List.mem_append_left _ (List.mem_of_getElem? (i := 0) rfl)))) (fun _ h9 => h9) rfl (by decide +kernel) rfl rfl (Nat.le_of_ble_eq_true rfl) dX3_cutTo_13 (fun H locs hP hD hS => ?_)
  have hP : va_P (dC, dI) vwCl [(aP, .inr (3, [.ref aPb, .int (if (0 : Int32) < (if P_count < p1 then P_count else p1) then (if P_count < p1 then P_count else p1) else (0 : Int32))])), (aPb, .inl (cI, 600, .inl vPb))] H := hP
  have hD : va_D A [(aP, .inr (3, [.ref aPb, .int (if (0 : Int32) < (if P_count < p1 then P_count else p1) then (if P_count < p1 then P_count else p1) else (0 : Int32))])), (aPb, .inl (cI, 600, .inl vPb))] := hD
  exact W.vret hx hb hr (fun t ht hW => ⟨⟨((if (0 : Int32) < (if P_count < p1 then P_count else p1) then (if P_count < p1 then P_count else p1) else (0 : Int32))), rfl, ⟨hE.trans hRES, (by first | ((try simp only [not_true_eq_false, not_false_eq_true, false_implies, true_implies, implies_true, vp_in_iff, i32_lt, i32_le, i32_eq, i32_add, i32_sub, i32_mul, t32_m1, t32_0, t32_1] at hp0 hm_7 hm_10 ⊢) <;> intros <;> omega))⟩, (by rw [ht]; exact hP), va_K.moved hW.alike hK, hD⟩, hS.F ht⟩) hS.2.2 dX3_cutTo_16
-- X3_at
def fP_at (P_count : Int32) (vPb : Nat → Int32) (p1 : Int32) : Int32 := (if p1 < 0 then (-1 : Int32) else (if P_count ≤ p1 then (-1 : Int32) else (vPb p1.toNatClampNeg)))
set_option maxHeartbeats 4000000 in
set_option maxRecDepth 100000 in
theorem kP_at (l : Launch) (dC : Nat → ClassId) (dI : Nat → Nat → Nat) (cI cB : ClassId) (aP aPb : Nat) (sz : Nat) (P_count : Int32) (vPb : Nat → Int32) (p1 : Int32) (hp0 : 0 ≤ P_count.toInt ∧ P_count.toInt ≤ 600) : Met l yX3_at wsX3_at ({ frames := 0, cells := 0, slots := 0, locals := 0 }) (va_Pc [.ref aP, .int p1] (PB (dC, dI) vwCl [(cI, .int), (cB, .byte)] [(aP, .inr (3, [.ref aPb, .int P_count])), (aPb, .inl (cI, 600, .inl vPb))] sz)) (va_Qi (fun (r : Int32) (u : Unit) => r = fP_at P_count vPb p1 ∧ (¬ r = -1 → 0 ≤ p1.toInt ∧ p1.toInt < P_count.toInt)) (fun (_ : Unit) t => va_P (dC, dI) vwCl [(aP, .inr (3, [.ref aPb, .int P_count])), (aPb, .inl (cI, 600, .inl vPb))] t.heap ∧ va_K (dC, dI) vwCl [(cI, .int), (cB, .byte)] t ∧ va_D (va_A [(aP, .inr (3, [.ref aPb, .int P_count])), (aPb, .inl (cI, 600, .inl vPb))] sz) [(aP, .inr (3, [.ref aPb, .int P_count])), (aPb, .inl (cI, 600, .inl vPb))]) (va_A [(aP, .inr (3, [.ref aPb, .int P_count])), (aPb, .inl (cI, 600, .inl vPb))] sz)) 0 0 (va_A [(aP, .inr (3, [.ref aPb, .int P_count])), (aPb, .inl (cI, 600, .inl vPb))] sz) := by
  refine Met.ofW (cc := cX3_at) (maxL := 2) (ret := (some .int)) (by decide) rfl ?_
  intro p e s m args below meth c s₁ B hml hv
  obtain ⟨rfl, hsz, hP, hK, hD0⟩ := hv
  have hx := B.exec
  have hb := B.bytes
  have hr := B.returns
  have hts := atoms_spec (ws := wsX3_at) B.pre
  have hown : s.vm.findClass RX3 = some m.cls := findClass_of_methodNamed B.named
  have hlocks := B.notSynchronized
  clear B
  subst hsz
  have hD := hD0.self (sz := s.heap.size)
  clear hD0
  generalize hAe : va_A [(aP, .inr (3, [.ref aPb, .int P_count])), (aPb, .inl (cI, 600, .inl vPb))] s.heap.size = A at hD ⊢
  have hA : ∀ q : Nat, s.heap.size ≤ q → A q := fun q h => by rw [← hAe]; exact Or.inr h
  clear hAe
  have hS : va_S A s.heap s.heap [] := va_S.rf
  have hP : va_P (dC, dI) vwCl [(aP, .inr (3, [.ref aPb, .int P_count])), (aPb, .inl (cI, 600, .inl vPb))] s.heap := hP
  have hl := lv_entry ([.ref aP, .int p1]) (n := 2) (Nat.le_of_ble_eq_true rfl)
  rw [lg_entry_eq]
  generalize (lg_sl ([.ref aP, .int p1]) ++ List.replicate (2 - (lg_sl ([.ref aP, .int p1])).length) Slot.unset).toArray = ls at hl ⊢
  have hl : lv_has ls 2 [(0, .ref aP), (1, .int p1)] := hl
  obtain ⟨RES, hRES⟩ : ∃ y, y = fP_at P_count vPb p1 := ⟨_, rfl⟩
  have hE := hRES.symm
  rw [fP_at] at hE
  refine lv_iload_n hx hb dX3_at_0 rfl (lv_at hl 1 rfl) ?_
  refine lv_if_lt (tgt := 21) hx hb dX3_at_1 (by decide) (fun c_1 => ?_) (fun c_1 => ?_)
  · have hE := ipos c_1 hE
    refine lv_iconst (v := (-1 : Int32)) hx hb dX3_at_21 (by decide) ?_
    exact W.iret (v := (-1 : Int32)) hx hb hr (fun t ht hW => ⟨⟨(-1 : Int32), (), rfl, ⟨hE.trans hRES, (by first | ((try simp only [not_true_eq_false, not_false_eq_true, false_implies, true_implies, implies_true, vp_in_iff, i32_lt, i32_le, i32_eq, i32_add, i32_sub, i32_mul, t32_m1, t32_0, t32_1] at hp0 c_1 ⊢) <;> intros <;> omega))⟩, (by rw [ht]; exact hP), va_K.moved hW.alike hK, hD⟩, hS.F ht⟩) hS.2.2 dX3_at_22
  · have hE := ineg c_1 hE
    refine lv_iload_n hx hb dX3_at_4 rfl (lv_at hl 1 rfl) ?_
    refine lv_aload_n hx hb dX3_at_5 rfl (lv_at hl 0 rfl) ?_
    refine va_get (D := (dC, dI)) (ci := 3) (v := .int P_count) (C := RX3) (T := TX3) (N := 2) hx hb hts (fun _ h => List.mem_cons_of_mem _ (List.mem_append_right _ h)) hown hK hP 0 rfl rfl 1 (by decide) (hts _ (List.mem_cons_of_mem _ (List.mem_append_left _ (List.mem_of_getElem? (i := 0) rfl)))) (fun _ h9 => h9) rfl dX3_at_6 ?_
    refine lv_icmp_ge (tgt := 21) hx hb dX3_at_9 (by decide) (fun c_9 => ?_) (fun c_9 => ?_)
    · have hE := ipos c_9 hE
      refine lv_iconst (v := (-1 : Int32)) hx hb dX3_at_21 (by decide) ?_
      exact W.iret (v := (-1 : Int32)) hx hb hr (fun t ht hW => ⟨⟨(-1 : Int32), (), rfl, ⟨hE.trans hRES, (by first | ((try simp only [not_true_eq_false, not_false_eq_true, false_implies, true_implies, implies_true, vp_in_iff, i32_lt, i32_le, i32_eq, i32_add, i32_sub, i32_mul, t32_m1, t32_0, t32_1] at hp0 c_1 c_9 ⊢) <;> intros <;> omega))⟩, (by rw [ht]; exact hP), va_K.moved hW.alike hK, hD⟩, hS.F ht⟩) hS.2.2 dX3_at_22
    · have hE := ineg c_9 hE
      refine lv_aload_n hx hb dX3_at_12 rfl (lv_at hl 0 rfl) ?_
      refine va_get (D := (dC, dI)) (ci := 3) (v := .ref aPb) (C := RX3) (T := TX3) (N := 2) hx hb hts (fun _ h => List.mem_cons_of_mem _ (List.mem_append_right _ h)) hown hK hP 0 rfl rfl 0 (by decide) (hts _ (List.mem_cons_of_mem _ (List.mem_append_left _ (List.mem_of_getElem? (i := 1) rfl)))) (fun _ h9 => h9) rfl dX3_at_13 ?_
      refine lv_iload_n hx hb dX3_at_16 rfl (lv_at hl 1 rfl) ?_
      refine va_iald (D := (dC, dI)) (cl := vwCl) hx hb hK hP 1 0 rfl rfl (by first | ((try simp only [not_true_eq_false, not_false_eq_true, false_implies, true_implies, implies_true, vp_in_iff, i32_lt, i32_le, i32_eq, i32_add, i32_sub, i32_mul, t32_m1, t32_0, t32_1] at hp0 c_1 c_9 ⊢) <;> intros <;> omega)) dX3_at_17 ?_
      refine lv_goto (tgt := 22) hx hb dX3_at_18 (by decide) ?_
      exact W.iret (v := (vPb p1.toNatClampNeg)) hx hb hr (fun t ht hW => ⟨⟨(vPb p1.toNatClampNeg), (), rfl, ⟨hE.trans hRES, (by first | ((try simp only [not_true_eq_false, not_false_eq_true, false_implies, true_implies, implies_true, vp_in_iff, i32_lt, i32_le, i32_eq, i32_add, i32_sub, i32_mul, t32_m1, t32_0, t32_1] at hp0 c_1 c_9 ⊢) <;> intros <;> omega))⟩, (by rw [ht]; exact hP), va_K.moved hW.alike hK, hD⟩, hS.F ht⟩) hS.2.2 dX3_at_22
