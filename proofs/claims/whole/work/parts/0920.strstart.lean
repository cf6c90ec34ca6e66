/-- one place for each text -/
def repS : List (String × Nat) := [("TalkDown$Reader", 44), ("TalkDown$Reader", 98), ("TalkDown$Reader", 53), ("TalkDown$Reader", 66), ("TalkDown$Reader", 71), ("TalkDown$Reader", 121), ("TalkDown$Reader", 123), ("TalkDown$Reader", 125), ("TalkDown$Reader", 76), ("TalkDown$Reader", 81), ("TalkDown$Reader", 86), ("TalkDown$Writer", 70), ("TalkDown$Writer", 76), ("TalkDown$Writer", 78), ("TalkDown$Writer", 86)]
def tmS (i : Nat) : Term := .string (repS.getD i ("", 0)).1 (repS.getD i ("", 0)).2
abbrev flS : List Cond := flatC (Jvm.Cond.and given_1 narrow_1)
set_option maxRecDepth 100000 in
theorem flS_1 : ∀ i, i < 15 → Cond.exactly (tmS i) "java/lang/String" ∈ flS := by decide +kernel
set_option maxRecDepth 100000 in
theorem flS_2 : ∀ i, i < 15 → Cond.eq (.field (tmS i) "java/lang/String" "coder" "B") (.int 0) ∈ flS := by decide +kernel
set_option maxRecDepth 100000 in
theorem flS_3 : ∀ i, i < 15 → Cond.arrayOf (.field (tmS i) "java/lang/String" "value" "[B") .byte ∈ flS := by decide +kernel
set_option maxRecDepth 100000 in
theorem flS_4 : ∀ i, i < 15 → Cond.eq (.length (.field (tmS i) "java/lang/String" "value" "[B")) (.int (Int32.ofNat (lenS.getD i 0))) ∈ flS := by decide +kernel
set_option maxRecDepth 100000 in
theorem flS_5 : ∀ i, i < 15 → ∀ j, j < lenS.getD i 0 → Cond.eq (.elem (.field (tmS i) "java/lang/String" "value" "[B") (.int (Int32.ofNat j))) (.int ((bytS.getD i []).getD j 0)) ∈ flS := by decide +kernel
set_option maxRecDepth 100000 in
theorem flS_6 : ∀ i, i < 15 → ∀ j, j < 15 → i ≠ j → (Cond.not (Cond.eq (tmS i) (tmS j)) ∈ flS ∨ Cond.not (Cond.eq (tmS j) (tmS i)) ∈ flS) := by decide +kernel
