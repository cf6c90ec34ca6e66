/-- one place for each text -/
def repS : List (String × Nat) := [("TalkDown$Reader", 44), ("TalkDown$Reader", 98), ("TalkDown$Reader", 53), ("TalkDown$Reader", 66), ("TalkDown$Reader", 71), ("TalkDown$Reader", 121), ("TalkDown$Reader", 123), ("TalkDown$Reader", 125), ("TalkDown$Reader", 76), ("TalkDown$Reader", 81), ("TalkDown$Reader", 86), ("TalkDown$Writer", 70), ("TalkDown$Writer", 76), ("TalkDown$Writer", 78), ("TalkDown$Writer", 86)]
def tmS (i : Nat) : Term := .string (repS.getD i ("", 0)).1 (repS.getD i ("", 0)).2
abbrev flS : List Cond := flatC (Jvm.Cond.and given_1 narrow_1)
set_option maxRecDepth 100000 in
theorem flS_1 : ∀ i, i < 15 → Cond.exactly (tmS i) "java/lang/String" ∈ flS := by decide +kernel
set_option maxRecDepth 100000 in
theorem flS_2 : ∀ i, i < 15 → Cond.eq (.field (tmS i) "java/lang/String" "coder" "B") (.int 0) ∈ flS := by decide +kernel
set_option maxRecDepth 100000 in
theorem flS_3 : ∀ i, i < 15 → Cond.arrayOf (.field (tmS i) "java/lang/String" "value" "[B") .byte ∈ flS := by decide +kernel
set_option maxRecDepth 100000 in
theorem flS_4 : ∀ i, i < 15 → Cond.eq (.length (.field (tmS i) "java/lang/String" "value" "[B")) (.int (Int32.ofNat (lenS.getD i 0))) ∈ flS := by decide +kernel
set_option maxRecDepth 100000 in
theorem flS_5 : ∀ i, i < 15 → ∀ j, j < lenS.getD i 0 → Cond.eq (.elem (.field (tmS i) "java/lang/String" "value" "[B") (.int (Int32.ofNat j))) (.int ((bytS.getD i []).getD j 0)) ∈ flS := by decide +kernel
def posS : List (List Nat) := [[0, 26, 37, 50, 61, 73, 86, 99, 116, 132, 149, 188, 257, 276, 408], [0, 0, 38, 51, 62, 74, 87, 100, 117, 133, 150, 189, 258, 277, 409], [0, 0, 0, 52, 63, 75, 88, 101, 118, 134, 151, 190, 259, 278, 410], [0, 0, 0, 0, 64, 76, 89, 102, 119, 135, 152, 191, 260, 279, 411], [0, 0, 0, 0, 0, 77, 90, 103, 120, 136, 153, 192, 261, 280, 412], [0, 0, 0, 0, 0, 0, 91, 104, 121, 137, 154, 193, 262, 281, 413], [0, 0, 0, 0, 0, 0, 0, 105, 122, 138, 155, 194, 263, 282, 414], [0, 0, 0, 0, 0, 0, 0, 0, 123, 139, 156, 195, 264, 283, 415], [0, 0, 0, 0, 0, 0, 0, 0, 0, 140, 157, 196, 265, 284, 416], [0, 0, 0, 0, 0, 0, 0, 0, 0, 0, 158, 197, 266, 285, 417], [0, 0, 0, 0, 0, 0, 0, 0, 0, 0, 0, 198, 267, 286, 418], [0, 0, 0, 0, 0, 0, 0, 0, 0, 0, 0, 0, 269, 288, 420], [0, 0, 0, 0, 0, 0, 0, 0, 0, 0, 0, 0, 0, 291, 423], [0, 0, 0, 0, 0, 0, 0, 0, 0, 0, 0, 0, 0, 0, 424], [0, 0, 0, 0, 0, 0, 0, 0, 0, 0, 0, 0, 0, 0, 0]]
set_option maxRecDepth 100000 in
theorem flS_6 : ∀ i, i < 15 → ∀ j, j < 15 → ((posS.getD i []).getD j 0 = 0 ∨ flS[(posS.getD i []).getD j 0]? = some (Cond.not (Cond.eq (tmS i) (tmS j)))) := by decide +kernel
theorem flS_7 : ∀ i, i < 15 → ∀ j, j < 15 → i ≠ j → (¬ (posS.getD i []).getD j 0 = 0 ∨ ¬ (posS.getD j []).getD i 0 = 0) := by decide +kernel
theorem flS_8 (i j : Nat) (hi : i < 15) (hj : j < 15) (hn : i ≠ j) : (Cond.not (Cond.eq (tmS i) (tmS j)) ∈ flS ∨ Cond.not (Cond.eq (tmS j) (tmS i)) ∈ flS) := by
  rcases flS_7 i hi j hj hn with h | h
  · exact Or.inl (List.mem_of_getElem? ((flS_6 i hi j hj).resolve_left h))
  · exact Or.inr (List.mem_of_getElem? ((flS_6 j hj i hi).resolve_left h))
