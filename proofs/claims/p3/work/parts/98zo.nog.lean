/-! contracts of the reference: long numbers -/
theorem la {x y : Int64} (h1 : -9223372036854775808 ≤ x.toInt + y.toInt) (h2 : x.toInt + y.toInt < 9223372036854775808) : (x + y).toInt = x.toInt + y.toInt := by
  rw [Int64.toInt_add, Int.bmod_eq_of_le (by omega) (by omega)]
theorem lb {x y : Int64} (h1 : -9223372036854775808 ≤ x.toInt - y.toInt) (h2 : x.toInt - y.toInt < 9223372036854775808) : (x - y).toInt = x.toInt - y.toInt := by
  rw [Int64.toInt_sub, Int.bmod_eq_of_le (by omega) (by omega)]
theorem lm {x y : Int64} (h1 : -9223372036854775808 ≤ x.toInt * y.toInt) (h2 : x.toInt * y.toInt < 9223372036854775808) : (x * y).toInt = x.toInt * y.toInt := by
  rw [Int64.toInt_mul, Int.bmod_eq_of_le (by omega) (by omega)]
theorem l32 {x : Int64} (h1 : -2147483648 ≤ x.toInt) (h2 : x.toInt < 2147483648) : x.toInt32.toInt = x.toInt := by
  rw [Int64.toInt_toInt32, Int.bmod_eq_of_le (by omega) (by omega)]
theorem i64 (x : Int32) : x.toInt64.toInt = x.toInt := Int32.toInt_toInt64 x
/-- how many a RANGE has -/
theorem l_n (a b : Int32) : (b.toInt64 - a.toInt64 + 1).toInt = b.toInt - a.toInt + 1 := by
  have h1 := a.le_toInt
  have h2 := a.toInt_lt
  have h3 := b.le_toInt
  have h4 := b.toInt_lt
  have e1 : (b.toInt64 - a.toInt64).toInt = b.toInt - a.toInt := by
    rw [lb (by rw [i64, i64]; omega) (by rw [i64, i64]; omega), i64, i64]
  have e2 : (1 : Int64).toInt = 1 := rfl
  rw [la (by rw [e1, e2]; omega) (by rw [e1, e2]; omega), e1, e2]
theorem lc_lt {x y : Int64} : (lg_cmp x y).toInt < 0 ↔ x.toInt < y.toInt := by
  have h := lg_cmp_lt x y
  rw [Int32.lt_iff_toInt_lt, Int64.lt_iff_toInt_lt] at h
  exact h
theorem lc_gt {x y : Int64} : 0 < (lg_cmp x y).toInt ↔ y.toInt < x.toInt := by
  have h := lg_cmp_gt x y
  rw [Int32.lt_iff_toInt_lt, Int64.lt_iff_toInt_lt] at h
  exact h
theorem l_min (x : Int64) : (if (100000 : Int64) < x then 100000 else x).toInt = min x.toInt 100000 := by
  have e : (100000 : Int64).toInt = 100000 := rfl
  by_cases c : (100000 : Int64) < x
  · rw [if_pos c]
    rw [Int64.lt_iff_toInt_lt] at c
    omega
  · rw [if_neg c]
    rw [Int64.lt_iff_toInt_lt] at c
    omega
