/-! small numbers; locals forgotten -/
theorem ic_eq {x y : Int32} (h : x = y) : ev_ic .eq x y = true := by simp [ev_ic, h]
theorem ic_eqn {x y : Int32} (h : ¬ x = y) : ev_ic .eq x y = false := by simp [ev_ic, h]
theorem ic_ne {x y : Int32} (h : ¬ x = y) : ev_ic .ne x y = true := by simp [ev_ic, h]
theorem ic_nen {x y : Int32} (h : x = y) : ev_ic .ne x y = false := by simp [ev_ic, h]
theorem nat_c {m : Nat} (h : m < 2147483648) : (Int32.ofNat m).toNatClampNeg = m := Int32.toNatClampNeg_ofNat_of_lt h
theorem nat_i {m : Nat} (h : m < 2147483648) : (Int32.ofNat m).toInt = m := Int32.toInt_ofNat_of_lt h
theorem nat_ix {m n : Nat} (h : m < 2147483648) (hn : m < n) : ev_ix (Int32.ofNat m) n = true := by
  unfold ev_ix
  rw [Bool.and_eq_true, nat_c h]
  refine ⟨?_, Nat.ble_eq.mpr hn⟩
  have h0 : ¬ Int32.ofNat m < 0 := by
    rw [Int32.lt_iff_toInt_lt, nat_i h, show (0 : Int32).toInt = 0 from rfl]
    omega
  simp [h0]
theorem nat_lt {m n : Nat} (hm : m < 2147483648) (hn : n < 2147483648) (h : m < n) : ev_ic .ge (Int32.ofNat m) (Int32.ofNat n) = false := by
  have h1 : Int32.ofNat m < Int32.ofNat n := by rw [Int32.lt_iff_toInt_lt, nat_i hm, nat_i hn]; omega
  simp [ev_ic, h1]
theorem nat_ne {m : Nat} (hm : m < 2147483648) : ev_ic .eq (Int32.ofNat m) (-1) = false := by
  have h1 : ¬ Int32.ofNat m = -1 := fun e => by
    have := congrArg Int32.toInt e
    rw [nat_i hm, show (-1 : Int32).toInt = -1 from rfl] at this
    omega
  simp [ev_ic, h1]
theorem nat_s (m : Nat) : Int32.ofNat m + 1 = Int32.ofNat (m + 1) := by
  rw [Int32.ofNat_add]; rfl
theorem ev_lk_f {P : Nat × Value → Bool} {j : Nat} {w : Value} (hp : P (j, w) = true) : ∀ {lv : ev_L}, ev_lk lv j = some w → ev_lk (lv.filter P) j = some w
  | [], h => by cases h
  | q :: r, h => by
    unfold ev_lk at h
    cases e : Nat.beq q.1 j with
    | true =>
      rw [e] at h
      cases h
      have e2 := Nat.eq_of_beq_eq_true e
      subst e2
      rw [List.filter_cons, hp]
      show ev_lk (q :: _) q.1 = _
      unfold ev_lk
      rw [Nat.beq_refl]
      rfl
    | false =>
      rw [e] at h
      have h2 := ev_lk_f hp (lv := r) h
      rw [List.filter_cons]
      split
      · show ev_lk (q :: _) j = _
        unfold ev_lk
        rw [e]
        exact h2
      · exact h2
