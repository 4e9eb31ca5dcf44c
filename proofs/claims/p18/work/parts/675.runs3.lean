/-! the runs of parse, 5 levels -/
theorem ps_5_1_1 : ps_ck 5 1 1 (ps_r 5 1 1) = true := by decide +kernel
theorem ps_5_1_2 : ps_ck 5 1 2 (ps_r 5 1 2) = true := by decide +kernel
theorem ps_5_1_3 : ps_ck 5 1 3 (ps_r 5 1 3) = true := by decide +kernel
theorem ps_5_1_4 : ps_ck 5 1 4 (ps_r 5 1 4) = true := by decide +kernel
theorem ps_5_2_1 : ps_ck 5 2 1 (ps_r 5 2 1) = true := by decide +kernel
theorem ps_5_2_2 : ps_ck 5 2 2 (ps_r 5 2 2) = true := by decide +kernel
theorem ps_5_2_3 : ps_ck 5 2 3 (ps_r 5 2 3) = true := by decide +kernel
theorem ps_5_2_4 : ps_ck 5 2 4 (ps_r 5 2 4) = true := by decide +kernel
theorem ps_5_3_1 : ps_ck 5 3 1 (ps_r 5 3 1) = true := by decide +kernel
theorem ps_5_3_2 : ps_ck 5 3 2 (ps_r 5 3 2) = true := by decide +kernel
theorem ps_5_3_3 : ps_ck 5 3 3 (ps_r 5 3 3) = true := by decide +kernel
theorem ps_5_3_4 : ps_ck 5 3 4 (ps_r 5 3 4) = true := by decide +kernel
theorem ps_5_4_1 : ps_ck 5 4 1 (ps_r 5 4 1) = true := by decide +kernel
theorem ps_5_4_2 : ps_ck 5 4 2 (ps_r 5 4 2) = true := by decide +kernel
theorem ps_5_4_3 : ps_ck 5 4 3 (ps_r 5 4 3) = true := by decide +kernel
theorem ps_5_4_4 : ps_ck 5 4 4 (ps_r 5 4 4) = true := by decide +kernel
theorem ps_5 {n m : Nat} (hn : 1 ≤ n ∧ n ≤ 4) (hm : 1 ≤ m ∧ m ≤ 4) : ps_ck 5 n m (ps_r 5 n m) = true := by
  obtain rfl | rfl | rfl | rfl : n = 1 ∨ n = 2 ∨ n = 3 ∨ n = 4 := by omega
  · obtain rfl | rfl | rfl | rfl : m = 1 ∨ m = 2 ∨ m = 3 ∨ m = 4 := by omega
    · exact ps_5_1_1
    · exact ps_5_1_2
    · exact ps_5_1_3
    · exact ps_5_1_4
  · obtain rfl | rfl | rfl | rfl : m = 1 ∨ m = 2 ∨ m = 3 ∨ m = 4 := by omega
    · exact ps_5_2_1
    · exact ps_5_2_2
    · exact ps_5_2_3
    · exact ps_5_2_4
  · obtain rfl | rfl | rfl | rfl : m = 1 ∨ m = 2 ∨ m = 3 ∨ m = 4 := by omega
    · exact ps_5_3_1
    · exact ps_5_3_2
    · exact ps_5_3_3
    · exact ps_5_3_4
  · obtain rfl | rfl | rfl | rfl : m = 1 ∨ m = 2 ∨ m = 3 ∨ m = 4 := by omega
    · exact ps_5_4_1
    · exact ps_5_4_2
    · exact ps_5_4_3
    · exact ps_5_4_4
