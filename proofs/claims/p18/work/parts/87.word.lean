/-! the scanner's words and signs -/
theorem xm_charAt {ix i : Nat} {r : List Value} (hi : i < 345) (hr : Nat.ble (ev_cat r) 8 = true) : ev_xm (.invokevirtual ix) 3 23 (.int (Int32.ofNat i) :: .retAddr 0 :: r) = some (.int (Int32.ofNat (kwB i)) :: r) := by
  show ev_if (Nat.beq 3 3 && (Nat.beq 23 23 && (Nat.ble (ev_cat r) 8 && (decide (nI (Int32.ofNat i).toNatClampNeg = Int32.ofNat i) && Nat.ble ((Int32.ofNat i).toNatClampNeg + 1) 345)))) (some (.int (nI (kwB (Int32.ofNat i).toNatClampNeg)) :: r)) = _
  rw [nat_c (by omega), hr, show decide (nI i = Int32.ofNat i) = true from decide_eq_true rfl, show Nat.ble (i + 1) 345 = true from Nat.ble_eq.mpr hi]
  rfl
theorem xm_index {ix c j : Nat} {r : List Value} (hc : c < 128) (hj : sgX c = some j) (hr : Nat.ble (ev_cat r) 8 = true) : ev_xm (.invokevirtual ix) 3 27 (.int (Int32.ofNat c) :: .retAddr 1 :: r) = some (.int (Int32.ofNat j) :: r) := by
  show ev_if (Nat.beq 3 3 && (Nat.beq 27 27 && (Nat.beq 1 1 && (Nat.ble (ev_cat r) 8 && (decide (nI (Int32.ofNat c).toNatClampNeg = Int32.ofNat c) && Nat.ble ((Int32.ofNat c).toNatClampNeg + 1) 128))))) (match sgX (Int32.ofNat c).toNatClampNeg with
    | some j => some (.int (nI j) :: r)
    | none => none) = _
  rw [nat_c (by omega), hr, hj, show decide (nI c = Int32.ofNat c) = true from decide_eq_true rfl, show Nat.ble (c + 1) 128 = true from Nat.ble_eq.mpr hc]
  rfl
theorem kw_ge : ∀ i, i < 345 → kwB i < 128 := by decide +kernel
theorem kwL_C : kwL = kwC := by decide +kernel
theorem wdL_sp {T : Nat → Nat} {q len c word same : Nat} {r : List Nat} {fits : Bool} (h : c = 32) : wdL T q len (c :: r) word same fits = bif fits && Nat.beq same len then Int32.ofNat word else wdL T q len r (word + 1) 0 true := by subst h; rfl
theorem wdL_c {T : Nat → Nat} {q len c word same : Nat} {r : List Nat} {fits : Bool} (h : ¬ c = 32) : wdL T q len (c :: r) word same fits = bif fits && (Nat.ble (same + 1) len && Nat.beq (T (q + same)) c) then wdL T q len r word (same + 1) true else wdL T q len r word same false := by
  show (bif Nat.beq c 32 then _ else _) = _
  rw [nb_ne h]
  rfl
theorem sg_x : ∀ c, c < 128 → sgO c = true → (match sgX c with | none => false | some j => decide (j < 19) && (!decide (c = 0) && !decide (c = 1))) = true := by decide +kernel
theorem sg_y {c : Nat} (hc : c < 128) (h : sgO c = true) : ∃ j, sgX c = some j ∧ j < 19 ∧ ¬ c = 0 ∧ ¬ c = 1 := by
  have h1 := sg_x c hc h
  cases hj : sgX c with
  | none => rw [hj] at h1; cases h1
  | some j =>
    rw [hj] at h1
    simp only [Bool.and_eq_true, decide_eq_true_eq, Bool.not_eq_true', decide_eq_false_iff_not] at h1
    exact ⟨j, rfl, h1.1, h1.2.1, h1.2.2⟩
theorem g_wordAt {X : ev_X} {d : Nat} {σ : fl_S} (hd : 1 ≤ d) {s tx n p ln k m : Nat} {T : Nat → Nat} {K V L H C A Z : Nat → Int32} {q len : Nat} (hS : SW σ s tx n T) (hq : q + len ≤ n) : CF X d 22 [.ref s, .int (Int32.ofNat q), .int (Int32.ofNat len)] (SS σ s p ln k m K V L H C A Z) (some (.int (WDt T q len))) (SS σ s p ln k m K V L H C A Z) := by
  have hS9 := hS
  obtain ⟨c_s, k1, k2, k3, k4, k5, k6, k7, s_text, s_size, ⟨TB, htx, hTB⟩, hn6, hT⟩ := hS
  refine f_meth hd rfl ?_
  have key : ∀ (cs : List Nat) (i word same : Nat) (fits : Bool) (lv1 : ev_L), (∀ j x, cs[j]? = some x → kwB (i + j) = x) → i + cs.length = 345 → word ≤ 200 + i → same ≤ len → lvK [(6, .int (Int32.ofNat i)), (5, .int (bif fits then 1 else 0)), (4, .int (Int32.ofNat same)), (3, .int (Int32.ofNat word)), (0, .ref s), (1, .int (Int32.ofNat q)), (2, .int (Int32.ofNat len))] lv1 → EF X (d - 1) 22 13 lv1 [] (SS σ s p ln k m K V L H C A Z) (some (.int (wdL T q len cs word same fits))) (SS σ s p ln k m K V L H C A Z) := by
    intro cs
    induction cs with
    | nil =>
      intro i word same fits lv1 hcs hi hw hs hlv
      rw [List.length_nil, Nat.add_zero] at hi
      subst hi
      cases fits
      ·
        refine f_lv [(6, .int (Int32.ofNat 345)), (5, .int 0), (4, .int (Int32.ofNat same)), (3, .int (Int32.ofNat word)), (0, .ref s), (1, .int (Int32.ofNat q)), (2, .int (Int32.ofNat len))] hlv ?_
        refine f_go (pc1 := 15) (lv1 := [(6, .int (Int32.ofNat 345)), (5, .int 0), (4, .int (Int32.ofNat same)), (3, .int (Int32.ofNat word)), (0, .ref s), (1, .int (Int32.ofNat q)), (2, .int (Int32.ofNat len))]) (st1 := [.int (Int32.ofNat 345)]) 1 rfl ?_
        refine f_ldcS rfl ?_
        refine f_xm (st1 := [.int 345, .int (Int32.ofNat 345)]) rfl rfl ?_
        refine f_icmp (t := 104) rfl rfl true (nat_geT (m := 345) (n := 345) (by decide) (by decide) (by decide)) ?_
        refine f_go (pc1 := 105) (lv1 := [(6, .int (Int32.ofNat 345)), (5, .int 0), (4, .int (Int32.ofNat same)), (3, .int (Int32.ofNat word)), (0, .ref s), (1, .int (Int32.ofNat q)), (2, .int (Int32.ofNat len))]) (st1 := [.int (-1)]) 1 rfl ?_
        exact f_rt rfl rfl
      ·
        refine f_lv [(6, .int (Int32.ofNat 345)), (5, .int 1), (4, .int (Int32.ofNat same)), (3, .int (Int32.ofNat word)), (0, .ref s), (1, .int (Int32.ofNat q)), (2, .int (Int32.ofNat len))] hlv ?_
        refine f_go (pc1 := 15) (lv1 := [(6, .int (Int32.ofNat 345)), (5, .int 1), (4, .int (Int32.ofNat same)), (3, .int (Int32.ofNat word)), (0, .ref s), (1, .int (Int32.ofNat q)), (2, .int (Int32.ofNat len))]) (st1 := [.int (Int32.ofNat 345)]) 1 rfl ?_
        refine f_ldcS rfl ?_
        refine f_xm (st1 := [.int 345, .int (Int32.ofNat 345)]) rfl rfl ?_
        refine f_icmp (t := 104) rfl rfl true (nat_geT (m := 345) (n := 345) (by decide) (by decide) (by decide)) ?_
        refine f_go (pc1 := 105) (lv1 := [(6, .int (Int32.ofNat 345)), (5, .int 1), (4, .int (Int32.ofNat same)), (3, .int (Int32.ofNat word)), (0, .ref s), (1, .int (Int32.ofNat q)), (2, .int (Int32.ofNat len))]) (st1 := [.int (-1)]) 1 rfl ?_
        exact f_rt rfl rfl
    | cons c r ih =>
      intro i word same fits lv1 hcs hi hw hs hlv
      rw [List.length_cons] at hi
      have hc0 : kwB i = c := hcs 0 c rfl
      have hc : c < 128 := by rw [← hc0]; exact kw_ge i (by omega)
      have hcs' : ∀ j x, r[j]? = some x → kwB (i + 1 + j) = x := fun j x hx => by rw [show i + 1 + j = i + (j + 1) by omega]; exact hcs (j + 1) x hx
      cases fits
      ·
        refine f_lv [(6, .int (Int32.ofNat i)), (5, .int 0), (4, .int (Int32.ofNat same)), (3, .int (Int32.ofNat word)), (0, .ref s), (1, .int (Int32.ofNat q)), (2, .int (Int32.ofNat len))] hlv ?_
        refine f_go (pc1 := 15) (lv1 := [(6, .int (Int32.ofNat i)), (5, .int 0), (4, .int (Int32.ofNat same)), (3, .int (Int32.ofNat word)), (0, .ref s), (1, .int (Int32.ofNat q)), (2, .int (Int32.ofNat len))]) (st1 := [.int (Int32.ofNat i)]) 1 rfl ?_
        refine f_ldcS rfl ?_
        refine f_xm (st1 := [.int 345, .int (Int32.ofNat i)]) rfl rfl ?_
        refine f_icmp (t := 104) rfl rfl false (nat_lt (m := i) (n := 345) (by omega) (by decide) (by omega)) ?_
        refine f_ldcS rfl ?_
        refine f_go (pc1 := 27) (lv1 := [(6, .int (Int32.ofNat i)), (5, .int 0), (4, .int (Int32.ofNat same)), (3, .int (Int32.ofNat word)), (0, .ref s), (1, .int (Int32.ofNat q)), (2, .int (Int32.ofNat len))]) (st1 := [.int (Int32.ofNat i), .retAddr 0]) 1 rfl ?_
        refine f_xm (st1 := [.int (Int32.ofNat (kwB i))]) rfl (xm_charAt (by omega) rfl) ?_
        rw [hc0]
        refine f_go (pc1 := 36) (lv1 := [(7, .int (Int32.ofNat c)), (6, .int (Int32.ofNat i)), (5, .int 0), (4, .int (Int32.ofNat same)), (3, .int (Int32.ofNat word)), (0, .ref s), (1, .int (Int32.ofNat q)), (2, .int (Int32.ofNat len))]) (st1 := [.int 32, .int (Int32.ofNat c)]) 3 rfl ?_
        by_cases x1 : c = 32
        ·
          refine f_icmp (t := 64) rfl rfl false (ic_nen (by rw [x1]; rfl)) ?_
          refine f_go (pc1 := 41) (lv1 := [(7, .int (Int32.ofNat c)), (6, .int (Int32.ofNat i)), (5, .int 0), (4, .int (Int32.ofNat same)), (3, .int (Int32.ofNat word)), (0, .ref s), (1, .int (Int32.ofNat q)), (2, .int (Int32.ofNat len))]) (st1 := [.int 0]) 1 rfl ?_
          refine f_go (pc1 := 52) (lv1 := [(7, .int (Int32.ofNat c)), (6, .int (Int32.ofNat i)), (5, .int 0), (4, .int (Int32.ofNat same)), (3, .int (Int32.ofNat word)), (0, .ref s), (1, .int (Int32.ofNat q)), (2, .int (Int32.ofNat len))]) (st1 := []) 1 rfl ?_
          rw [wdL_sp x1, Bool.false_and]
          refine f_lv [(6, .int (Int32.ofNat i)), (5, .int 0), (4, .int (Int32.ofNat same)), (3, .int (Int32.ofNat word)), (0, .ref s), (1, .int (Int32.ofNat q)), (2, .int (Int32.ofNat len))] (fl_c rfl (fl_c rfl (fl_c rfl (fl_c rfl (fl_c rfl (fl_c rfl (fl_c rfl fl_0))))))) ?_
          refine f_go (pc1 := 55) (lv1 := [(3, .int ((Int32.ofNat word) + 1)), (6, .int (Int32.ofNat i)), (5, .int 0), (4, .int (Int32.ofNat same)), (0, .ref s), (1, .int (Int32.ofNat q)), (2, .int (Int32.ofNat len))]) (st1 := []) 1 rfl ?_
          rw [nat_s]
          refine f_go (pc1 := 98) (lv1 := [(5, .int 1), (4, .int 0), (3, .int (Int32.ofNat (word + 1))), (6, .int (Int32.ofNat i)), (0, .ref s), (1, .int (Int32.ofNat q)), (2, .int (Int32.ofNat len))]) (st1 := []) 5 rfl ?_
          refine f_go (pc1 := 101) (lv1 := [(6, .int ((Int32.ofNat i) + 1)), (5, .int 1), (4, .int 0), (3, .int (Int32.ofNat (word + 1))), (0, .ref s), (1, .int (Int32.ofNat q)), (2, .int (Int32.ofNat len))]) (st1 := []) 1 rfl ?_
          rw [nat_s]
          refine f_go (pc1 := 13) (lv1 := [(6, .int (Int32.ofNat (i + 1))), (5, .int 1), (4, .int 0), (3, .int (Int32.ofNat (word + 1))), (0, .ref s), (1, .int (Int32.ofNat q)), (2, .int (Int32.ofNat len))]) (st1 := []) 1 rfl ?_
          refine f_lv [(6, .int (Int32.ofNat (i + 1))), (5, .int 1), (4, .int (Int32.ofNat 0)), (3, .int (Int32.ofNat (word + 1))), (0, .ref s), (1, .int (Int32.ofNat q)), (2, .int (Int32.ofNat len))] (fl_c rfl (fl_c rfl (fl_c rfl (fl_c rfl (fl_c rfl (fl_c rfl (fl_c rfl fl_0))))))) ?_
          exact ih (i + 1) (word + 1) 0 true _ hcs' (by omega) (by omega) (by omega) (fl_c rfl (fl_c rfl (fl_c rfl (fl_c rfl (fl_c rfl (fl_c rfl (fl_c rfl fl_0)))))))
        ·
          refine f_icmp (t := 64) rfl rfl true (ic_ne (fun e => x1 ((nat_e (n := 32) (by omega) (by decide)).mp e))) ?_
          refine f_go (pc1 := 66) (lv1 := [(7, .int (Int32.ofNat c)), (6, .int (Int32.ofNat i)), (5, .int 0), (4, .int (Int32.ofNat same)), (3, .int (Int32.ofNat word)), (0, .ref s), (1, .int (Int32.ofNat q)), (2, .int (Int32.ofNat len))]) (st1 := [.int 0]) 1 rfl ?_
          refine f_go (pc1 := 95) (lv1 := [(7, .int (Int32.ofNat c)), (6, .int (Int32.ofNat i)), (5, .int 0), (4, .int (Int32.ofNat same)), (3, .int (Int32.ofNat word)), (0, .ref s), (1, .int (Int32.ofNat q)), (2, .int (Int32.ofNat len))]) (st1 := []) 1 rfl ?_
          rw [wdL_c x1, Bool.false_and]
          refine f_lv [(6, .int (Int32.ofNat i)), (5, .int 0), (4, .int (Int32.ofNat same)), (3, .int (Int32.ofNat word)), (0, .ref s), (1, .int (Int32.ofNat q)), (2, .int (Int32.ofNat len))] (fl_c rfl (fl_c rfl (fl_c rfl (fl_c rfl (fl_c rfl (fl_c rfl (fl_c rfl fl_0))))))) ?_
          refine f_go (pc1 := 98) (lv1 := [(5, .int 0), (6, .int (Int32.ofNat i)), (4, .int (Int32.ofNat same)), (3, .int (Int32.ofNat word)), (0, .ref s), (1, .int (Int32.ofNat q)), (2, .int (Int32.ofNat len))]) (st1 := []) 2 rfl ?_
          refine f_go (pc1 := 101) (lv1 := [(6, .int ((Int32.ofNat i) + 1)), (5, .int 0), (4, .int (Int32.ofNat same)), (3, .int (Int32.ofNat word)), (0, .ref s), (1, .int (Int32.ofNat q)), (2, .int (Int32.ofNat len))]) (st1 := []) 1 rfl ?_
          rw [nat_s]
          refine f_go (pc1 := 13) (lv1 := [(6, .int (Int32.ofNat (i + 1))), (5, .int 0), (4, .int (Int32.ofNat same)), (3, .int (Int32.ofNat word)), (0, .ref s), (1, .int (Int32.ofNat q)), (2, .int (Int32.ofNat len))]) (st1 := []) 1 rfl ?_
          refine f_lv [(6, .int (Int32.ofNat (i + 1))), (5, .int 0), (4, .int (Int32.ofNat same)), (3, .int (Int32.ofNat word)), (0, .ref s), (1, .int (Int32.ofNat q)), (2, .int (Int32.ofNat len))] (fl_c rfl (fl_c rfl (fl_c rfl (fl_c rfl (fl_c rfl (fl_c rfl (fl_c rfl fl_0))))))) ?_
          exact ih (i + 1) word same false _ hcs' (by omega) (by omega) (by omega) (fl_c rfl (fl_c rfl (fl_c rfl (fl_c rfl (fl_c rfl (fl_c rfl (fl_c rfl fl_0)))))))
      ·
        refine f_lv [(6, .int (Int32.ofNat i)), (5, .int 1), (4, .int (Int32.ofNat same)), (3, .int (Int32.ofNat word)), (0, .ref s), (1, .int (Int32.ofNat q)), (2, .int (Int32.ofNat len))] hlv ?_
        refine f_go (pc1 := 15) (lv1 := [(6, .int (Int32.ofNat i)), (5, .int 1), (4, .int (Int32.ofNat same)), (3, .int (Int32.ofNat word)), (0, .ref s), (1, .int (Int32.ofNat q)), (2, .int (Int32.ofNat len))]) (st1 := [.int (Int32.ofNat i)]) 1 rfl ?_
        refine f_ldcS rfl ?_
        refine f_xm (st1 := [.int 345, .int (Int32.ofNat i)]) rfl rfl ?_
        refine f_icmp (t := 104) rfl rfl false (nat_lt (m := i) (n := 345) (by omega) (by decide) (by omega)) ?_
        refine f_ldcS rfl ?_
        refine f_go (pc1 := 27) (lv1 := [(6, .int (Int32.ofNat i)), (5, .int 1), (4, .int (Int32.ofNat same)), (3, .int (Int32.ofNat word)), (0, .ref s), (1, .int (Int32.ofNat q)), (2, .int (Int32.ofNat len))]) (st1 := [.int (Int32.ofNat i), .retAddr 0]) 1 rfl ?_
        refine f_xm (st1 := [.int (Int32.ofNat (kwB i))]) rfl (xm_charAt (by omega) rfl) ?_
        rw [hc0]
        refine f_go (pc1 := 36) (lv1 := [(7, .int (Int32.ofNat c)), (6, .int (Int32.ofNat i)), (5, .int 1), (4, .int (Int32.ofNat same)), (3, .int (Int32.ofNat word)), (0, .ref s), (1, .int (Int32.ofNat q)), (2, .int (Int32.ofNat len))]) (st1 := [.int 32, .int (Int32.ofNat c)]) 3 rfl ?_
        by_cases x1 : c = 32
        ·
          refine f_icmp (t := 64) rfl rfl false (ic_nen (by rw [x1]; rfl)) ?_
          refine f_go (pc1 := 41) (lv1 := [(7, .int (Int32.ofNat c)), (6, .int (Int32.ofNat i)), (5, .int 1), (4, .int (Int32.ofNat same)), (3, .int (Int32.ofNat word)), (0, .ref s), (1, .int (Int32.ofNat q)), (2, .int (Int32.ofNat len))]) (st1 := [.int 1]) 1 rfl ?_
          refine f_go (pc1 := 47) (lv1 := [(7, .int (Int32.ofNat c)), (6, .int (Int32.ofNat i)), (5, .int 1), (4, .int (Int32.ofNat same)), (3, .int (Int32.ofNat word)), (0, .ref s), (1, .int (Int32.ofNat q)), (2, .int (Int32.ofNat len))]) (st1 := [.int (Int32.ofNat len), .int (Int32.ofNat same)]) 3 rfl ?_
          by_cases x2 : same = len
          ·
            refine f_icmp (t := 52) rfl rfl false (ic_nen (by rw [x2])) ?_
            refine f_go (pc1 := 51) (lv1 := [(7, .int (Int32.ofNat c)), (6, .int (Int32.ofNat i)), (5, .int 1), (4, .int (Int32.ofNat same)), (3, .int (Int32.ofNat word)), (0, .ref s), (1, .int (Int32.ofNat q)), (2, .int (Int32.ofNat len))]) (st1 := [.int (Int32.ofNat word)]) 1 rfl ?_
            rw [wdL_sp x1, x2, nb_self]
            exact f_rt rfl rfl
          ·
            refine f_icmp (t := 52) rfl rfl true (ic_ne (fun e => x2 ((nat_e (by omega) (by omega)).mp e))) ?_
            rw [wdL_sp x1, nb_ne x2, Bool.and_false]
            refine f_lv [(6, .int (Int32.ofNat i)), (5, .int 1), (4, .int (Int32.ofNat same)), (3, .int (Int32.ofNat word)), (0, .ref s), (1, .int (Int32.ofNat q)), (2, .int (Int32.ofNat len))] (fl_c rfl (fl_c rfl (fl_c rfl (fl_c rfl (fl_c rfl (fl_c rfl (fl_c rfl fl_0))))))) ?_
            refine f_go (pc1 := 55) (lv1 := [(3, .int ((Int32.ofNat word) + 1)), (6, .int (Int32.ofNat i)), (5, .int 1), (4, .int (Int32.ofNat same)), (0, .ref s), (1, .int (Int32.ofNat q)), (2, .int (Int32.ofNat len))]) (st1 := []) 1 rfl ?_
            rw [nat_s]
            refine f_go (pc1 := 98) (lv1 := [(5, .int 1), (4, .int 0), (3, .int (Int32.ofNat (word + 1))), (6, .int (Int32.ofNat i)), (0, .ref s), (1, .int (Int32.ofNat q)), (2, .int (Int32.ofNat len))]) (st1 := []) 5 rfl ?_
            refine f_go (pc1 := 101) (lv1 := [(6, .int ((Int32.ofNat i) + 1)), (5, .int 1), (4, .int 0), (3, .int (Int32.ofNat (word + 1))), (0, .ref s), (1, .int (Int32.ofNat q)), (2, .int (Int32.ofNat len))]) (st1 := []) 1 rfl ?_
            rw [nat_s]
            refine f_go (pc1 := 13) (lv1 := [(6, .int (Int32.ofNat (i + 1))), (5, .int 1), (4, .int 0), (3, .int (Int32.ofNat (word + 1))), (0, .ref s), (1, .int (Int32.ofNat q)), (2, .int (Int32.ofNat len))]) (st1 := []) 1 rfl ?_
            refine f_lv [(6, .int (Int32.ofNat (i + 1))), (5, .int 1), (4, .int (Int32.ofNat 0)), (3, .int (Int32.ofNat (word + 1))), (0, .ref s), (1, .int (Int32.ofNat q)), (2, .int (Int32.ofNat len))] (fl_c rfl (fl_c rfl (fl_c rfl (fl_c rfl (fl_c rfl (fl_c rfl (fl_c rfl fl_0))))))) ?_
            exact ih (i + 1) (word + 1) 0 true _ hcs' (by omega) (by omega) (by omega) (fl_c rfl (fl_c rfl (fl_c rfl (fl_c rfl (fl_c rfl (fl_c rfl (fl_c rfl fl_0)))))))
        ·
          refine f_icmp (t := 64) rfl rfl true (ic_ne (fun e => x1 ((nat_e (n := 32) (by omega) (by decide)).mp e))) ?_
          refine f_go (pc1 := 66) (lv1 := [(7, .int (Int32.ofNat c)), (6, .int (Int32.ofNat i)), (5, .int 1), (4, .int (Int32.ofNat same)), (3, .int (Int32.ofNat word)), (0, .ref s), (1, .int (Int32.ofNat q)), (2, .int (Int32.ofNat len))]) (st1 := [.int 1]) 1 rfl ?_
          refine f_go (pc1 := 72) (lv1 := [(7, .int (Int32.ofNat c)), (6, .int (Int32.ofNat i)), (5, .int 1), (4, .int (Int32.ofNat same)), (3, .int (Int32.ofNat word)), (0, .ref s), (1, .int (Int32.ofNat q)), (2, .int (Int32.ofNat len))]) (st1 := [.int (Int32.ofNat len), .int (Int32.ofNat same)]) 3 rfl ?_
          by_cases x2 : same < len
          ·
            refine f_icmp (t := 95) rfl rfl false (nat_lt (by omega) (by omega) x2) ?_
            refine f_go (pc1 := 76) (lv1 := [(7, .int (Int32.ofNat c)), (6, .int (Int32.ofNat i)), (5, .int 1), (4, .int (Int32.ofNat same)), (3, .int (Int32.ofNat word)), (0, .ref s), (1, .int (Int32.ofNat q)), (2, .int (Int32.ofNat len))]) (st1 := [.ref s]) 1 rfl ?_
            refine f_getf rfl rfl (g := 228) rfl c_s s_text ?_
            refine f_go (pc1 := 82) (lv1 := [(7, .int (Int32.ofNat c)), (6, .int (Int32.ofNat i)), (5, .int 1), (4, .int (Int32.ofNat same)), (3, .int (Int32.ofNat word)), (0, .ref s), (1, .int (Int32.ofNat q)), (2, .int (Int32.ofNat len))]) (st1 := [.int (Int32.ofNat same), .int (Int32.ofNat q), .ref tx]) 2 rfl ?_
            refine f_go (pc1 := 83) (lv1 := [(7, .int (Int32.ofNat c)), (6, .int (Int32.ofNat i)), (5, .int 1), (4, .int (Int32.ofNat same)), (3, .int (Int32.ofNat word)), (0, .ref s), (1, .int (Int32.ofNat q)), (2, .int (Int32.ofNat len))]) (st1 := [.int ((Int32.ofNat q) + (Int32.ofNat same)), .ref tx]) 1 rfl ?_
            rw [show ((Int32.ofNat q) + (Int32.ofNat same) : Int32) = (Int32.ofNat (q + same)) from (Int32.ofNat_add _ _).symm]
            refine f_bald rfl htx (i := q + same) (show q + same < 6000 by omega) (by omega) (hTB (q + same) (by omega)) ?_
            refine f_go (pc1 := 86) (lv1 := [(7, .int (Int32.ofNat c)), (6, .int (Int32.ofNat i)), (5, .int 1), (4, .int (Int32.ofNat same)), (3, .int (Int32.ofNat word)), (0, .ref s), (1, .int (Int32.ofNat q)), (2, .int (Int32.ofNat len))]) (st1 := [.int (Int32.ofNat c), .int (Int32.ofNat (T (q + same)))]) 1 rfl ?_
            by_cases x3 : T (q + same) = c
            ·
              refine f_icmp (t := 95) rfl rfl false (ic_nen (by rw [x3])) ?_
              rw [wdL_c x1, show Nat.ble (same + 1) len = true from Nat.ble_eq.mpr x2, x3, nb_self]
              refine f_lv [(6, .int (Int32.ofNat i)), (5, .int 1), (4, .int (Int32.ofNat same)), (3, .int (Int32.ofNat word)), (0, .ref s), (1, .int (Int32.ofNat q)), (2, .int (Int32.ofNat len))] (fl_c rfl (fl_c rfl (fl_c rfl (fl_c rfl (fl_c rfl (fl_c rfl (fl_c rfl fl_0))))))) ?_
              refine f_go (pc1 := 92) (lv1 := [(4, .int ((Int32.ofNat same) + 1)), (6, .int (Int32.ofNat i)), (5, .int 1), (3, .int (Int32.ofNat word)), (0, .ref s), (1, .int (Int32.ofNat q)), (2, .int (Int32.ofNat len))]) (st1 := []) 1 rfl ?_
              rw [nat_s]
              refine f_go (pc1 := 98) (lv1 := [(4, .int (Int32.ofNat (same + 1))), (6, .int (Int32.ofNat i)), (5, .int 1), (3, .int (Int32.ofNat word)), (0, .ref s), (1, .int (Int32.ofNat q)), (2, .int (Int32.ofNat len))]) (st1 := []) 1 rfl ?_
              refine f_go (pc1 := 101) (lv1 := [(6, .int ((Int32.ofNat i) + 1)), (4, .int (Int32.ofNat (same + 1))), (5, .int 1), (3, .int (Int32.ofNat word)), (0, .ref s), (1, .int (Int32.ofNat q)), (2, .int (Int32.ofNat len))]) (st1 := []) 1 rfl ?_
              rw [nat_s]
              refine f_go (pc1 := 13) (lv1 := [(6, .int (Int32.ofNat (i + 1))), (4, .int (Int32.ofNat (same + 1))), (5, .int 1), (3, .int (Int32.ofNat word)), (0, .ref s), (1, .int (Int32.ofNat q)), (2, .int (Int32.ofNat len))]) (st1 := []) 1 rfl ?_
              refine f_lv [(6, .int (Int32.ofNat (i + 1))), (5, .int 1), (4, .int (Int32.ofNat (same + 1))), (3, .int (Int32.ofNat word)), (0, .ref s), (1, .int (Int32.ofNat q)), (2, .int (Int32.ofNat len))] (fl_c rfl (fl_c rfl (fl_c rfl (fl_c rfl (fl_c rfl (fl_c rfl (fl_c rfl fl_0))))))) ?_
              exact ih (i + 1) word (same + 1) true _ hcs' (by omega) (by omega) (by omega) (fl_c rfl (fl_c rfl (fl_c rfl (fl_c rfl (fl_c rfl (fl_c rfl (fl_c rfl fl_0)))))))
            ·
              refine f_icmp (t := 95) rfl rfl true (ic_ne (fun e => x3 ((nat_e (by have := (hT (q + same) (by omega)).1; omega) (by omega)).mp e))) ?_
              rw [wdL_c x1, nb_ne x3, Bool.and_false, Bool.and_false]
              refine f_lv [(6, .int (Int32.ofNat i)), (5, .int 1), (4, .int (Int32.ofNat same)), (3, .int (Int32.ofNat word)), (0, .ref s), (1, .int (Int32.ofNat q)), (2, .int (Int32.ofNat len))] (fl_c rfl (fl_c rfl (fl_c rfl (fl_c rfl (fl_c rfl (fl_c rfl (fl_c rfl fl_0))))))) ?_
              refine f_go (pc1 := 98) (lv1 := [(5, .int 0), (6, .int (Int32.ofNat i)), (4, .int (Int32.ofNat same)), (3, .int (Int32.ofNat word)), (0, .ref s), (1, .int (Int32.ofNat q)), (2, .int (Int32.ofNat len))]) (st1 := []) 2 rfl ?_
              refine f_go (pc1 := 101) (lv1 := [(6, .int ((Int32.ofNat i) + 1)), (5, .int 0), (4, .int (Int32.ofNat same)), (3, .int (Int32.ofNat word)), (0, .ref s), (1, .int (Int32.ofNat q)), (2, .int (Int32.ofNat len))]) (st1 := []) 1 rfl ?_
              rw [nat_s]
              refine f_go (pc1 := 13) (lv1 := [(6, .int (Int32.ofNat (i + 1))), (5, .int 0), (4, .int (Int32.ofNat same)), (3, .int (Int32.ofNat word)), (0, .ref s), (1, .int (Int32.ofNat q)), (2, .int (Int32.ofNat len))]) (st1 := []) 1 rfl ?_
              refine f_lv [(6, .int (Int32.ofNat (i + 1))), (5, .int 0), (4, .int (Int32.ofNat same)), (3, .int (Int32.ofNat word)), (0, .ref s), (1, .int (Int32.ofNat q)), (2, .int (Int32.ofNat len))] (fl_c rfl (fl_c rfl (fl_c rfl (fl_c rfl (fl_c rfl (fl_c rfl (fl_c rfl fl_0))))))) ?_
              exact ih (i + 1) word same false _ hcs' (by omega) (by omega) (by omega) (fl_c rfl (fl_c rfl (fl_c rfl (fl_c rfl (fl_c rfl (fl_c rfl (fl_c rfl fl_0)))))))
          ·
            refine f_icmp (t := 95) rfl rfl true (nat_geT (by omega) (by omega) (by omega)) ?_
            rw [wdL_c x1, show Nat.ble (same + 1) len = false from Bool.eq_false_iff.mpr (fun h => x2 (Nat.le_of_ble_eq_true h)), Bool.false_and, Bool.and_false]
            refine f_lv [(6, .int (Int32.ofNat i)), (5, .int 1), (4, .int (Int32.ofNat same)), (3, .int (Int32.ofNat word)), (0, .ref s), (1, .int (Int32.ofNat q)), (2, .int (Int32.ofNat len))] (fl_c rfl (fl_c rfl (fl_c rfl (fl_c rfl (fl_c rfl (fl_c rfl (fl_c rfl fl_0))))))) ?_
            refine f_go (pc1 := 98) (lv1 := [(5, .int 0), (6, .int (Int32.ofNat i)), (4, .int (Int32.ofNat same)), (3, .int (Int32.ofNat word)), (0, .ref s), (1, .int (Int32.ofNat q)), (2, .int (Int32.ofNat len))]) (st1 := []) 2 rfl ?_
            refine f_go (pc1 := 101) (lv1 := [(6, .int ((Int32.ofNat i) + 1)), (5, .int 0), (4, .int (Int32.ofNat same)), (3, .int (Int32.ofNat word)), (0, .ref s), (1, .int (Int32.ofNat q)), (2, .int (Int32.ofNat len))]) (st1 := []) 1 rfl ?_
            rw [nat_s]
            refine f_go (pc1 := 13) (lv1 := [(6, .int (Int32.ofNat (i + 1))), (5, .int 0), (4, .int (Int32.ofNat same)), (3, .int (Int32.ofNat word)), (0, .ref s), (1, .int (Int32.ofNat q)), (2, .int (Int32.ofNat len))]) (st1 := []) 1 rfl ?_
            refine f_lv [(6, .int (Int32.ofNat (i + 1))), (5, .int 0), (4, .int (Int32.ofNat same)), (3, .int (Int32.ofNat word)), (0, .ref s), (1, .int (Int32.ofNat q)), (2, .int (Int32.ofNat len))] (fl_c rfl (fl_c rfl (fl_c rfl (fl_c rfl (fl_c rfl (fl_c rfl (fl_c rfl fl_0))))))) ?_
            exact ih (i + 1) word same false _ hcs' (by omega) (by omega) (by omega) (fl_c rfl (fl_c rfl (fl_c rfl (fl_c rfl (fl_c rfl (fl_c rfl (fl_c rfl fl_0)))))))
  refine f_go (pc1 := 13) (lv1 := [(6, .int 0), (5, .int 1), (4, .int 0), (3, .int 200), (0, .ref s), (1, .int (Int32.ofNat q)), (2, .int (Int32.ofNat len))]) (st1 := []) 8 rfl ?_
  refine f_lv [(6, .int (Int32.ofNat 0)), (5, .int 1), (4, .int (Int32.ofNat 0)), (3, .int (Int32.ofNat 200)), (0, .ref s), (1, .int (Int32.ofNat q)), (2, .int (Int32.ofNat len))] (fl_c rfl (fl_c rfl (fl_c rfl (fl_c rfl (fl_c rfl (fl_c rfl (fl_c rfl fl_0))))))) ?_
  exact key kwC 0 200 0 true _ (fun j x hx => by rw [Nat.zero_add]; show kwL.getD j 0 = x; rw [kwL_C, List.getD_eq_getElem?_getD, hx]; rfl) (by decide +kernel) (by decide) (by omega) (fl_c rfl (fl_c rfl (fl_c rfl (fl_c rfl (fl_c rfl (fl_c rfl (fl_c rfl fl_0)))))))
theorem prt_nx {T : Nat → Nat} {n q a b : Nat} (hb : ¬ b = 0) : (Nat.beq (T q) a && Nat.beq (nxT T n q) b) = prt T n q a b := by
  unfold prt nxT
  by_cases h : q + 1 < n
  · rw [if_pos h, decide_eq_true h, Bool.true_and]
    by_cases h1 : T q = a
    · rw [h1, nb_self, decide_eq_true rfl]
      by_cases h2 : T (q + 1) = b
      · rw [h2, nb_self, decide_eq_true rfl]
      · rw [nb_ne h2, decide_eq_false h2]
    · rw [nb_ne h1, decide_eq_false h1]; rfl
  · rw [if_neg h, decide_eq_false h, Bool.false_and, nb_ne (fun e => hb e.symm), Bool.and_false]
theorem sgk_prt {T : Nat → Nat} {n q : Nat} : sgk (T q) (nxT T n q) = bif prt T n q 46 46 then (4, 2) else (bif prt T n q 58 61 then (5, 2) else (bif prt T n q 60 61 then (6, 2) else (bif prt T n q 62 61 then (7, 2) else (bif prt T n q 60 58 then (8, 2) else (bif prt T n q 61 62 then (9, 2) else ((T q, 1))))))) := by
  unfold sgk
  rw [prt_nx (a := 46) (b := 46) (by decide), prt_nx (a := 58) (b := 61) (by decide), prt_nx (a := 60) (b := 61) (by decide), prt_nx (a := 62) (b := 61) (by decide), prt_nx (a := 60) (b := 58) (by decide), prt_nx (a := 61) (b := 62) (by decide)]
theorem i2c_c : ∀ c, c < 128 → ((Int32.ofNat c).toUInt32 % 65536).toInt32 = Int32.ofNat c := by decide +kernel
theorem g_scanSign {X : ev_X} {d : Nat} {σ : fl_S} (hd : 2 ≤ d) {s tx n q ln k m : Nat} {T : Nat → Nat} {K V L H C A Z : Nat → Int32} (hS : SW σ s tx n T) (hq : q < n) (hsg : sgnt T n q) (hk : k ≤ 6000) : CF X d 26 [.ref s, .int (Int32.ofNat (T q))] (SS σ s q ln k m K V L H C A Z) (some (.int 1)) (SS σ s (SEt T n q) ln (k + 1) m (upd K k (SGt T n q)) (upd V k 0) (upd L k (Int32.ofNat ln)) H C A Z) := by
  have hS9 := hS
  obtain ⟨c_s, k1, k2, k3, k4, k5, k6, k7, s_text, s_size, ⟨TB, htx, hTB⟩, hn6, hT⟩ := hS
  have hTq := (hT q hq).1
  have hpr : ∀ a b, a < 128 → b < 128 → CF X (d - 1) 18 [.ref s, .int (Int32.ofNat a), .int (Int32.ofNat b)] (SS σ s q ln k m K V L H C A Z) (some (.int (if prt T n q a b = true then 1 else 0))) (SS σ s q ln k m K V L H C A Z) := fun a b ha hb => g_isPair (by omega) hS9 hq ha hb
  have hsk := sgk_prt (T := T) (n := n) (q := q)
  unfold SGt SEt
  unfold sgnt at hsg
  refine f_meth (by omega) rfl ?_
  refine f_go (pc1 := 7) (lv1 := [(2, .int (-1)), (0, .ref s), (1, .int (Int32.ofNat (T q)))]) (st1 := [.int 46, .int 46, .ref s]) 5 rfl ?_
  cases x0 : prt T n q 46 46 with
  | true =>
    have hp := hpr 46 46 (by decide) (by decide)
    rw [x0, if_pos rfl] at hp
    rw [show sgk (T q) (nxT T n q) = (4, 2) by rw [hsk, x0] <;> rfl]
    refine f_vt rfl rfl c_s rfl hp ?_
    refine f_go (pc1 := 106) (lv1 := [(2, .int 4), (0, .ref s), (1, .int (Int32.ofNat (T q)))]) (st1 := [.ref s, .ref s]) 9 rfl ?_
    refine f_getf rfl rfl (g := 230) rfl c_s SS_230 ?_
    refine f_go (pc1 := 111) (lv1 := [(2, .int 4), (0, .ref s), (1, .int (Int32.ofNat (T q)))]) (st1 := [.int ((Int32.ofNat q) + 2), .ref s]) 2 rfl ?_
    rw [show ((Int32.ofNat q) + 2 : Int32) = (Int32.ofNat (q + 2)) from (Int32.ofNat_add q 2).symm]
    refine f_putf rfl rfl (g := 230) rfl c_s rfl ?_
    rw [SS_put230]
    refine f_go (pc1 := 118) (lv1 := [(2, .int 4), (0, .ref s), (1, .int (Int32.ofNat (T q)))]) (st1 := [.ref s, .int 0, .int 4, .ref s]) 4 rfl ?_
    refine f_getf rfl rfl (g := 231) rfl c_s SS_231 ?_
    refine f_vt rfl rfl c_s rfl (g_putToken (by omega) hS9 hk (by decide) (by decide)) ?_
    exact f_rt rfl rfl
  | false =>
    have hp := hpr 46 46 (by decide) (by decide)
    rw [x0, if_neg (by decide)] at hp
    refine f_vt rfl rfl c_s rfl hp ?_
    refine f_go (pc1 := 23) (lv1 := [(2, .int (-1)), (0, .ref s), (1, .int (Int32.ofNat (T q)))]) (st1 := [.int 61, .int 58, .ref s]) 4 rfl ?_
    cases x1 : prt T n q 58 61 with
    | true =>
      have hp := hpr 58 61 (by decide) (by decide)
      rw [x1, if_pos rfl] at hp
      rw [show sgk (T q) (nxT T n q) = (5, 2) by rw [hsk, x0, x1] <;> rfl]
      refine f_vt rfl rfl c_s rfl hp ?_
      refine f_go (pc1 := 106) (lv1 := [(2, .int 5), (0, .ref s), (1, .int (Int32.ofNat (T q)))]) (st1 := [.ref s, .ref s]) 9 rfl ?_
      refine f_getf rfl rfl (g := 230) rfl c_s SS_230 ?_
      refine f_go (pc1 := 111) (lv1 := [(2, .int 5), (0, .ref s), (1, .int (Int32.ofNat (T q)))]) (st1 := [.int ((Int32.ofNat q) + 2), .ref s]) 2 rfl ?_
      rw [show ((Int32.ofNat q) + 2 : Int32) = (Int32.ofNat (q + 2)) from (Int32.ofNat_add q 2).symm]
      refine f_putf rfl rfl (g := 230) rfl c_s rfl ?_
      rw [SS_put230]
      refine f_go (pc1 := 118) (lv1 := [(2, .int 5), (0, .ref s), (1, .int (Int32.ofNat (T q)))]) (st1 := [.ref s, .int 0, .int 5, .ref s]) 4 rfl ?_
      refine f_getf rfl rfl (g := 231) rfl c_s SS_231 ?_
      refine f_vt rfl rfl c_s rfl (g_putToken (by omega) hS9 hk (by decide) (by decide)) ?_
      exact f_rt rfl rfl
    | false =>
      have hp := hpr 58 61 (by decide) (by decide)
      rw [x1, if_neg (by decide)] at hp
      refine f_vt rfl rfl c_s rfl hp ?_
      refine f_go (pc1 := 39) (lv1 := [(2, .int (-1)), (0, .ref s), (1, .int (Int32.ofNat (T q)))]) (st1 := [.int 61, .int 60, .ref s]) 4 rfl ?_
      cases x2 : prt T n q 60 61 with
      | true =>
        have hp := hpr 60 61 (by decide) (by decide)
        rw [x2, if_pos rfl] at hp
        rw [show sgk (T q) (nxT T n q) = (6, 2) by rw [hsk, x0, x1, x2] <;> rfl]
        refine f_vt rfl rfl c_s rfl hp ?_
        refine f_go (pc1 := 106) (lv1 := [(2, .int 6), (0, .ref s), (1, .int (Int32.ofNat (T q)))]) (st1 := [.ref s, .ref s]) 9 rfl ?_
        refine f_getf rfl rfl (g := 230) rfl c_s SS_230 ?_
        refine f_go (pc1 := 111) (lv1 := [(2, .int 6), (0, .ref s), (1, .int (Int32.ofNat (T q)))]) (st1 := [.int ((Int32.ofNat q) + 2), .ref s]) 2 rfl ?_
        rw [show ((Int32.ofNat q) + 2 : Int32) = (Int32.ofNat (q + 2)) from (Int32.ofNat_add q 2).symm]
        refine f_putf rfl rfl (g := 230) rfl c_s rfl ?_
        rw [SS_put230]
        refine f_go (pc1 := 118) (lv1 := [(2, .int 6), (0, .ref s), (1, .int (Int32.ofNat (T q)))]) (st1 := [.ref s, .int 0, .int 6, .ref s]) 4 rfl ?_
        refine f_getf rfl rfl (g := 231) rfl c_s SS_231 ?_
        refine f_vt rfl rfl c_s rfl (g_putToken (by omega) hS9 hk (by decide) (by decide)) ?_
        exact f_rt rfl rfl
      | false =>
        have hp := hpr 60 61 (by decide) (by decide)
        rw [x2, if_neg (by decide)] at hp
        refine f_vt rfl rfl c_s rfl hp ?_
        refine f_go (pc1 := 56) (lv1 := [(2, .int (-1)), (0, .ref s), (1, .int (Int32.ofNat (T q)))]) (st1 := [.int 61, .int 62, .ref s]) 4 rfl ?_
        cases x3 : prt T n q 62 61 with
        | true =>
          have hp := hpr 62 61 (by decide) (by decide)
          rw [x3, if_pos rfl] at hp
          rw [show sgk (T q) (nxT T n q) = (7, 2) by rw [hsk, x0, x1, x2, x3] <;> rfl]
          refine f_vt rfl rfl c_s rfl hp ?_
          refine f_go (pc1 := 106) (lv1 := [(2, .int 7), (0, .ref s), (1, .int (Int32.ofNat (T q)))]) (st1 := [.ref s, .ref s]) 9 rfl ?_
          refine f_getf rfl rfl (g := 230) rfl c_s SS_230 ?_
          refine f_go (pc1 := 111) (lv1 := [(2, .int 7), (0, .ref s), (1, .int (Int32.ofNat (T q)))]) (st1 := [.int ((Int32.ofNat q) + 2), .ref s]) 2 rfl ?_
          rw [show ((Int32.ofNat q) + 2 : Int32) = (Int32.ofNat (q + 2)) from (Int32.ofNat_add q 2).symm]
          refine f_putf rfl rfl (g := 230) rfl c_s rfl ?_
          rw [SS_put230]
          refine f_go (pc1 := 118) (lv1 := [(2, .int 7), (0, .ref s), (1, .int (Int32.ofNat (T q)))]) (st1 := [.ref s, .int 0, .int 7, .ref s]) 4 rfl ?_
          refine f_getf rfl rfl (g := 231) rfl c_s SS_231 ?_
          refine f_vt rfl rfl c_s rfl (g_putToken (by omega) hS9 hk (by decide) (by decide)) ?_
          exact f_rt rfl rfl
        | false =>
          have hp := hpr 62 61 (by decide) (by decide)
          rw [x3, if_neg (by decide)] at hp
          refine f_vt rfl rfl c_s rfl hp ?_
          refine f_go (pc1 := 73) (lv1 := [(2, .int (-1)), (0, .ref s), (1, .int (Int32.ofNat (T q)))]) (st1 := [.int 58, .int 60, .ref s]) 4 rfl ?_
          cases x4 : prt T n q 60 58 with
          | true =>
            have hp := hpr 60 58 (by decide) (by decide)
            rw [x4, if_pos rfl] at hp
            rw [show sgk (T q) (nxT T n q) = (8, 2) by rw [hsk, x0, x1, x2, x3, x4] <;> rfl]
            refine f_vt rfl rfl c_s rfl hp ?_
            refine f_go (pc1 := 106) (lv1 := [(2, .int 8), (0, .ref s), (1, .int (Int32.ofNat (T q)))]) (st1 := [.ref s, .ref s]) 9 rfl ?_
            refine f_getf rfl rfl (g := 230) rfl c_s SS_230 ?_
            refine f_go (pc1 := 111) (lv1 := [(2, .int 8), (0, .ref s), (1, .int (Int32.ofNat (T q)))]) (st1 := [.int ((Int32.ofNat q) + 2), .ref s]) 2 rfl ?_
            rw [show ((Int32.ofNat q) + 2 : Int32) = (Int32.ofNat (q + 2)) from (Int32.ofNat_add q 2).symm]
            refine f_putf rfl rfl (g := 230) rfl c_s rfl ?_
            rw [SS_put230]
            refine f_go (pc1 := 118) (lv1 := [(2, .int 8), (0, .ref s), (1, .int (Int32.ofNat (T q)))]) (st1 := [.ref s, .int 0, .int 8, .ref s]) 4 rfl ?_
            refine f_getf rfl rfl (g := 231) rfl c_s SS_231 ?_
            refine f_vt rfl rfl c_s rfl (g_putToken (by omega) hS9 hk (by decide) (by decide)) ?_
            exact f_rt rfl rfl
          | false =>
            have hp := hpr 60 58 (by decide) (by decide)
            rw [x4, if_neg (by decide)] at hp
            refine f_vt rfl rfl c_s rfl hp ?_
            refine f_go (pc1 := 90) (lv1 := [(2, .int (-1)), (0, .ref s), (1, .int (Int32.ofNat (T q)))]) (st1 := [.int 62, .int 61, .ref s]) 4 rfl ?_
            cases x5 : prt T n q 61 62 with
            | true =>
              have hp := hpr 61 62 (by decide) (by decide)
              rw [x5, if_pos rfl] at hp
              rw [show sgk (T q) (nxT T n q) = (9, 2) by rw [hsk, x0, x1, x2, x3, x4, x5] <;> rfl]
              refine f_vt rfl rfl c_s rfl hp ?_
              refine f_go (pc1 := 106) (lv1 := [(2, .int 9), (0, .ref s), (1, .int (Int32.ofNat (T q)))]) (st1 := [.ref s, .ref s]) 8 rfl ?_
              refine f_getf rfl rfl (g := 230) rfl c_s SS_230 ?_
              refine f_go (pc1 := 111) (lv1 := [(2, .int 9), (0, .ref s), (1, .int (Int32.ofNat (T q)))]) (st1 := [.int ((Int32.ofNat q) + 2), .ref s]) 2 rfl ?_
              rw [show ((Int32.ofNat q) + 2 : Int32) = (Int32.ofNat (q + 2)) from (Int32.ofNat_add q 2).symm]
              refine f_putf rfl rfl (g := 230) rfl c_s rfl ?_
              rw [SS_put230]
              refine f_go (pc1 := 118) (lv1 := [(2, .int 9), (0, .ref s), (1, .int (Int32.ofNat (T q)))]) (st1 := [.ref s, .int 0, .int 9, .ref s]) 4 rfl ?_
              refine f_getf rfl rfl (g := 231) rfl c_s SS_231 ?_
              refine f_vt rfl rfl c_s rfl (g_putToken (by omega) hS9 hk (by decide) (by decide)) ?_
              exact f_rt rfl rfl
            | false =>
              have hp := hpr 61 62 (by decide) (by decide)
              rw [x5, if_neg (by decide)] at hp
              have hsk : sgk (T q) (nxT T n q) = (T q, 1) := by rw [hsk, x0, x1, x2, x3, x4, x5] <;> rfl
              rw [hsk] at hsg ⊢
              rcases hsg with hsg | hsg
              · exact absurd (show (1 : Nat) = 2 from hsg) (by decide)
              obtain ⟨j, hj, j1, h0, h1⟩ := sg_y hTq hsg
              refine f_vt rfl rfl c_s rfl hp ?_
              refine f_go (pc1 := 125) (lv1 := [(2, .int (-1)), (0, .ref s), (1, .int (Int32.ofNat (T q)))]) (st1 := []) 4 rfl ?_
              refine f_ldcS rfl ?_
              refine f_go (pc1 := 128) (lv1 := [(2, .int (-1)), (0, .ref s), (1, .int (Int32.ofNat (T q)))]) (st1 := [.int (Int32.ofNat (T q)), .retAddr 1]) 1 rfl ?_
              refine f_go (pc1 := 129) (lv1 := [(2, .int (-1)), (0, .ref s), (1, .int (Int32.ofNat (T q)))]) (st1 := [.int ((Int32.ofNat (T q)).toUInt32 % 65536).toInt32, .retAddr 1]) 1 rfl ?_
              rw [i2c_c _ hTq]
              refine f_xm (st1 := [.int (Int32.ofNat j)]) rfl (xm_index hTq hj rfl) ?_
              refine f_ifc (t := 146) rfl rfl true (nat_geT (n := 0) (by omega) (by decide) (Nat.zero_le _)) ?_
              refine f_go (pc1 := 148) (lv1 := [(2, .int (-1)), (0, .ref s), (1, .int (Int32.ofNat (T q)))]) (st1 := [.ref s, .ref s]) 2 rfl ?_
              refine f_getf rfl rfl (g := 230) rfl c_s SS_230 ?_
              refine f_go (pc1 := 153) (lv1 := [(2, .int (-1)), (0, .ref s), (1, .int (Int32.ofNat (T q)))]) (st1 := [.int ((Int32.ofNat q) + 1), .ref s]) 2 rfl ?_
              rw [show ((Int32.ofNat q) + 1 : Int32) = (Int32.ofNat (q + 1)) from (nat_s q)]
              refine f_putf rfl rfl (g := 230) rfl c_s rfl ?_
              rw [SS_put230]
              refine f_go (pc1 := 160) (lv1 := [(2, .int (-1)), (0, .ref s), (1, .int (Int32.ofNat (T q)))]) (st1 := [.ref s, .int 0, .int (Int32.ofNat (T q)), .ref s]) 4 rfl ?_
              refine f_getf rfl rfl (g := 231) rfl c_s SS_231 ?_
              refine f_vt rfl rfl c_s rfl (g_putToken (by omega) hS9 hk (fun e => h0 ((nat_e (n := 0) (by omega) (by decide)).mp e)) (fun e => h1 ((nat_e (n := 1) (by omega) (by decide)).mp e))) ?_
              exact f_rt rfl rfl
