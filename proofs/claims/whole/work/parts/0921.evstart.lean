set_option maxRecDepth 100000 in
theorem flR_0 : Cond.stringRef RX2 44 "friend" ∈ lw_tbl := by decide +kernel
set_option maxRecDepth 100000 in
theorem flR_1 : Cond.stringRef RX2 98 "has" ∈ lw_tbl := by decide +kernel
set_option maxRecDepth 100000 in
theorem flR_2 : Cond.stringRef RX2 53 "broken" ∈ lw_tbl := by decide +kernel
set_option maxRecDepth 100000 in
theorem flR_3 : Cond.stringRef RX2 66 "retries" ∈ lw_tbl := by decide +kernel
set_option maxRecDepth 100000 in
theorem flR_4 : Cond.stringRef RX2 71 "mend" ∈ lw_tbl := by decide +kernel
set_option maxRecDepth 100000 in
theorem flR_5 : Cond.stringRef RX2 121 "bind" ∈ lw_tbl := by decide +kernel
set_option maxRecDepth 100000 in
theorem flR_6 : Cond.stringRef RX2 123 "mark" ∈ lw_tbl := by decide +kernel
set_option maxRecDepth 100000 in
theorem flR_7 : Cond.stringRef RX2 125 "pin" ∈ lw_tbl := by decide +kernel
set_option maxRecDepth 100000 in
theorem flR_8 : Cond.stringRef RX2 76 "forbid" ∈ lw_tbl := by decide +kernel
set_option maxRecDepth 100000 in
theorem flR_9 : Cond.stringRef RX2 81 "cost" ∈ lw_tbl := by decide +kernel
set_option maxRecDepth 100000 in
theorem flR_10 : Cond.stringRef RX2 86 "must" ∈ lw_tbl := by decide +kernel
set_option maxRecDepth 100000 in
theorem flR_11 : Cond.stringRef RX5 68 "friend" ∈ lw_tbl := by decide +kernel
set_option maxRecDepth 100000 in
theorem flR_12 : Cond.stringRef RX5 70 " has" ∈ lw_tbl := by decide +kernel
set_option maxRecDepth 100000 in
theorem flR_13 : Cond.stringRef RX5 34 "broken" ∈ lw_tbl := by decide +kernel
set_option maxRecDepth 100000 in
theorem flR_14 : Cond.stringRef RX5 50 "retries" ∈ lw_tbl := by decide +kernel
set_option maxRecDepth 100000 in
theorem flR_15 : Cond.stringRef RX5 76 "mend " ∈ lw_tbl := by decide +kernel
set_option maxRecDepth 100000 in
theorem flR_16 : Cond.stringRef RX5 78 "" ∈ lw_tbl := by decide +kernel
set_option maxRecDepth 100000 in
theorem flR_17 : Cond.stringRef RX5 94 "bind" ∈ lw_tbl := by decide +kernel
set_option maxRecDepth 100000 in
theorem flR_18 : Cond.stringRef RX5 96 "mark" ∈ lw_tbl := by decide +kernel
set_option maxRecDepth 100000 in
theorem flR_19 : Cond.stringRef RX5 98 "pin" ∈ lw_tbl := by decide +kernel
set_option maxRecDepth 100000 in
theorem flR_20 : Cond.stringRef RX5 100 "forbid" ∈ lw_tbl := by decide +kernel
set_option maxRecDepth 100000 in
theorem flR_21 : Cond.stringRef RX5 86 "cost " ∈ lw_tbl := by decide +kernel
set_option maxRecDepth 100000 in
theorem flR_22 : Cond.stringRef RX5 92 "must" ∈ lw_tbl := by decide +kernel
set_option maxRecDepth 100000 in
theorem flE_X5_68 : Cond.eq (.string "TalkDown$Reader" 44) (.string "TalkDown$Writer" 68) ∈ flS := by decide +kernel
set_option maxRecDepth 100000 in
theorem flE_X5_34 : Cond.eq (.string "TalkDown$Reader" 53) (.string "TalkDown$Writer" 34) ∈ flS := by decide +kernel
set_option maxRecDepth 100000 in
theorem flE_X5_50 : Cond.eq (.string "TalkDown$Reader" 66) (.string "TalkDown$Writer" 50) ∈ flS := by decide +kernel
set_option maxRecDepth 100000 in
theorem flE_X5_94 : Cond.eq (.string "TalkDown$Reader" 121) (.string "TalkDown$Writer" 94) ∈ flS := by decide +kernel
set_option maxRecDepth 100000 in
theorem flE_X5_96 : Cond.eq (.string "TalkDown$Reader" 123) (.string "TalkDown$Writer" 96) ∈ flS := by decide +kernel
set_option maxRecDepth 100000 in
theorem flE_X5_98 : Cond.eq (.string "TalkDown$Reader" 125) (.string "TalkDown$Writer" 98) ∈ flS := by decide +kernel
set_option maxRecDepth 100000 in
theorem flE_X5_100 : Cond.eq (.string "TalkDown$Reader" 76) (.string "TalkDown$Writer" 100) ∈ flS := by decide +kernel
set_option maxRecDepth 100000 in
theorem flE_X5_92 : Cond.eq (.string "TalkDown$Reader" 86) (.string "TalkDown$Writer" 92) ∈ flS := by decide +kernel
set_option maxRecDepth 100000 in
theorem flZ_1 : Cond.eq (.static "java/lang/String" "COMPACT_STRINGS" "Z") (.int 1) ∈ flS := by decide +kernel
set_option maxRecDepth 100000 in
theorem flZ_2 : Cond.isRef (.static "jdk/internal/util/Preconditions" "SIOOBE_FORMATTER" "Ljava/util/function/BiFunction;") ∈ flS := by decide +kernel
set_option maxRecDepth 100000 in
theorem flZ_3 : Cond.laysStatic "java/lang/String" "COMPACT_STRINGS" "Z" ∈ lw_tbl ∧ Cond.initialized "java/lang/String" ∈ lw_tbl ∧ Cond.laysStatic "jdk/internal/util/Preconditions" "SIOOBE_FORMATTER" "Ljava/util/function/BiFunction;" ∈ lw_tbl ∧ Cond.initialized "jdk/internal/util/Preconditions" ∈ lw_tbl := by decide +kernel
set_option maxRecDepth 100000 in
theorem flN : ∀ w ∈ nestWs, w ∈ lw_tbl := by decide +kernel
theorem ev_start {s : State} {b : Nat} {A : Nat → Prop} (hgv : (Jvm.Cond.and given_1 narrow_1).before #[Value.ref b] s = true) (hts : ∀ w ∈ lw_tbl, w.before #[Value.ref b] s = true) (hA : ∀ a : Nat, a < s.heap.size → ¬ A a) : ∃ adK adV : Nat → Nat, ev adK adV A s s.heap := by
  have hs := flat_of_before _ hgv
  obtain ⟨adK, adV, hV, he⟩ := vk_Sof (N := 15) (tm := tmS) (len := lenS) (byt := bytS) (A := A) (args := #[Value.ref b]) (s := s) (fun i hi => by have h := (strS_ok i hi).1; omega) (fun i hi => hs _ (flS_1 i hi)) (fun i hi => hs _ (flS_2 i hi)) (fun i hi => hs _ (flS_3 i hi)) (fun i hi => hs _ (flS_4 i hi)) (fun i hi j hj => hs _ (flS_5 i hi j hj)) (fun i j hi hj hn => (flS_8 i j hi hj hn).elim (fun h => Or.inl (hs _ h)) (fun h => Or.inr (hs _ h))) hA
  refine ⟨adK, adV, fun w hw => ?_, hV, fun k q hk => ?_, va_Zof (hts _ flZ_3.1) (hts _ flZ_3.2.1) (va_eqi (hs _ flZ_1)) hA, ?_⟩
  · obtain ⟨a1, i1, x1, h1, rfl⟩ := nest_form w hw
    exact va_Nw.of rfl (hts _ (flN _ hw))
  · have hk2 : k < 23 := by
      rcases Nat.lt_or_ge k 23 with h | h
      · exact h
      · rw [List.getElem?_eq_none (by exact h)] at hk; cases hk
    rcases (show k = 0 ∨ k = 1 ∨ k = 2 ∨ k = 3 ∨ k = 4 ∨ k = 5 ∨ k = 6 ∨ k = 7 ∨ k = 8 ∨ k = 9 ∨ k = 10 ∨ k = 11 ∨ k = 12 ∨ k = 13 ∨ k = 14 ∨ k = 15 ∨ k = 16 ∨ k = 17 ∨ k = 18 ∨ k = 19 ∨ k = 20 ∨ k = 21 ∨ k = 22 by omega) with rfl | rfl | rfl | rfl | rfl | rfl | rfl | rfl | rfl | rfl | rfl | rfl | rfl | rfl | rfl | rfl | rfl | rfl | rfl | rfl | rfl | rfl | rfl
    · cases hk; exact vk_R.of (A := #[Value.ref b]) (hts _ flR_0) (he 0 (by decide))
    · cases hk; exact vk_R.of (A := #[Value.ref b]) (hts _ flR_1) (he 1 (by decide))
    · cases hk; exact vk_R.of (A := #[Value.ref b]) (hts _ flR_2) (he 2 (by decide))
    · cases hk; exact vk_R.of (A := #[Value.ref b]) (hts _ flR_3) (he 3 (by decide))
    · cases hk; exact vk_R.of (A := #[Value.ref b]) (hts _ flR_4) (he 4 (by decide))
    · cases hk; exact vk_R.of (A := #[Value.ref b]) (hts _ flR_5) (he 5 (by decide))
    · cases hk; exact vk_R.of (A := #[Value.ref b]) (hts _ flR_6) (he 6 (by decide))
    · cases hk; exact vk_R.of (A := #[Value.ref b]) (hts _ flR_7) (he 7 (by decide))
    · cases hk; exact vk_R.of (A := #[Value.ref b]) (hts _ flR_8) (he 8 (by decide))
    · cases hk; exact vk_R.of (A := #[Value.ref b]) (hts _ flR_9) (he 9 (by decide))
    · cases hk; exact vk_R.of (A := #[Value.ref b]) (hts _ flR_10) (he 10 (by decide))
    · cases hk; exact vk_R.of (A := #[Value.ref b]) (hts _ flR_11) (va_eqR (hs _ flE_X5_68) (he 0 (by decide)))
    · cases hk; exact vk_R.of (A := #[Value.ref b]) (hts _ flR_12) (he 11 (by decide))
    · cases hk; exact vk_R.of (A := #[Value.ref b]) (hts _ flR_13) (va_eqR (hs _ flE_X5_34) (he 2 (by decide)))
    · cases hk; exact vk_R.of (A := #[Value.ref b]) (hts _ flR_14) (va_eqR (hs _ flE_X5_50) (he 3 (by decide)))
    · cases hk; exact vk_R.of (A := #[Value.ref b]) (hts _ flR_15) (he 12 (by decide))
    · cases hk; exact vk_R.of (A := #[Value.ref b]) (hts _ flR_16) (he 13 (by decide))
    · cases hk; exact vk_R.of (A := #[Value.ref b]) (hts _ flR_17) (va_eqR (hs _ flE_X5_94) (he 5 (by decide)))
    · cases hk; exact vk_R.of (A := #[Value.ref b]) (hts _ flR_18) (va_eqR (hs _ flE_X5_96) (he 6 (by decide)))
    · cases hk; exact vk_R.of (A := #[Value.ref b]) (hts _ flR_19) (va_eqR (hs _ flE_X5_98) (he 7 (by decide)))
    · cases hk; exact vk_R.of (A := #[Value.ref b]) (hts _ flR_20) (va_eqR (hs _ flE_X5_100) (he 8 (by decide)))
    · cases hk; exact vk_R.of (A := #[Value.ref b]) (hts _ flR_21) (he 14 (by decide))
    · cases hk; exact vk_R.of (A := #[Value.ref b]) (hts _ flR_22) (va_eqR (hs _ flE_X5_92) (he 10 (by decide)))
  · obtain ⟨v, hv, hr⟩ := Cond.isRef_spec (hs _ flZ_2)
    have hz := va_Zof (A := A) (hts _ flZ_3.2.2.1) (hts _ flZ_3.2.2.2) hv hA
    cases v with
    | null => exact ⟨none, hz⟩
    | ref a => exact ⟨some a, hz⟩
    | _ => cases hr
