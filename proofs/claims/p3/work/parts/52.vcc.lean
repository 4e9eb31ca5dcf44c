theorem v_symbol_0 {X : ev_X} {W : Nat → Prop} {d : Nat} {P : MP} {μ : MS} {R : Int32 → MS → Prop} {T : MS → Prop} (x1 : Int32) (x2 : Int32) (x3 : Int32) (x4 : Int32) (h : (MI (μ.1 43) (μ.2.2 44) ∧ (MI (μ.1 43) (μ.2.2 45) ∧ (MI (μ.1 43) (μ.2.2 46) ∧ (MI (μ.1 43) (μ.2.2 47) ∧ R 0 (mS1 (mA1 (mA1 (mA1 (mA1 μ 44 (((μ.1 43)).toNatClampNeg) x1) 45 (((μ.1 43)).toNatClampNeg) x2) 46 (((μ.1 43)).toNatClampNeg) x3) 47 (((μ.1 43)).toNatClampNeg) x4) 43 ((μ.1 43) + 1))))))) : ME X W true d 340 0 [(0, .ref P.1), (1, .int x1), (2, .int x2), (3, .int x3), (4, .int x4)] [] P μ R T := by
  refine me_go (pc1 := 1) (lv1 := [(0, .ref P.1), (1, .int x1), (2, .int x2), (3, .int x3), (4, .int x4)]) (st1 := [.ref P.1]) 1 rfl ?_
  refine me_getf (v := .ref (P.2.1 44)) rfl rfl rfl ?_
  refine me_go (pc1 := 5) (lv1 := [(0, .ref P.1), (1, .int x1), (2, .int x2), (3, .int x3), (4, .int x4)]) (st1 := [.ref P.1, .ref (P.2.1 44)]) 1 rfl ?_
  refine me_getf (v := .int (μ.1 43)) rfl rfl rfl ?_
  refine me_go (pc1 := 9) (lv1 := [(0, .ref P.1), (1, .int x1), (2, .int x2), (3, .int x3), (4, .int x4)]) (st1 := [.int x1, .int (μ.1 43), .ref (P.2.1 44)]) 1 rfl ?_
  have hi := h.1
  replace h := h.2
  refine me_iast rfl (g := 44) rfl rfl hi ?_
  refine me_go (pc1 := 11) (lv1 := [(0, .ref P.1), (1, .int x1), (2, .int x2), (3, .int x3), (4, .int x4)]) (st1 := [.ref P.1]) 1 rfl ?_
  refine me_getf (v := .ref (P.2.1 45)) rfl rfl rfl ?_
  refine me_go (pc1 := 15) (lv1 := [(0, .ref P.1), (1, .int x1), (2, .int x2), (3, .int x3), (4, .int x4)]) (st1 := [.ref P.1, .ref (P.2.1 45)]) 1 rfl ?_
  refine me_getf (v := .int (μ.1 43)) rfl rfl rfl ?_
  refine me_go (pc1 := 19) (lv1 := [(0, .ref P.1), (1, .int x1), (2, .int x2), (3, .int x3), (4, .int x4)]) (st1 := [.int x2, .int (μ.1 43), .ref (P.2.1 45)]) 1 rfl ?_
  have hi := h.1
  replace h := h.2
  refine me_iast rfl (g := 45) rfl rfl hi ?_
  refine me_go (pc1 := 21) (lv1 := [(0, .ref P.1), (1, .int x1), (2, .int x2), (3, .int x3), (4, .int x4)]) (st1 := [.ref P.1]) 1 rfl ?_
  refine me_getf (v := .ref (P.2.1 46)) rfl rfl rfl ?_
  refine me_go (pc1 := 25) (lv1 := [(0, .ref P.1), (1, .int x1), (2, .int x2), (3, .int x3), (4, .int x4)]) (st1 := [.ref P.1, .ref (P.2.1 46)]) 1 rfl ?_
  refine me_getf (v := .int (μ.1 43)) rfl rfl rfl ?_
  refine me_go (pc1 := 29) (lv1 := [(0, .ref P.1), (1, .int x1), (2, .int x2), (3, .int x3), (4, .int x4)]) (st1 := [.int x3, .int (μ.1 43), .ref (P.2.1 46)]) 1 rfl ?_
  have hi := h.1
  replace h := h.2
  refine me_iast rfl (g := 46) rfl rfl hi ?_
  refine me_go (pc1 := 31) (lv1 := [(0, .ref P.1), (1, .int x1), (2, .int x2), (3, .int x3), (4, .int x4)]) (st1 := [.ref P.1]) 1 rfl ?_
  refine me_getf (v := .ref (P.2.1 47)) rfl rfl rfl ?_
  refine me_go (pc1 := 35) (lv1 := [(0, .ref P.1), (1, .int x1), (2, .int x2), (3, .int x3), (4, .int x4)]) (st1 := [.ref P.1, .ref (P.2.1 47)]) 1 rfl ?_
  refine me_getf (v := .int (μ.1 43)) rfl rfl rfl ?_
  refine me_go (pc1 := 40) (lv1 := [(0, .ref P.1), (1, .int x1), (2, .int x2), (3, .int x3), (4, .int x4)]) (st1 := [.int x4, .int (μ.1 43), .ref (P.2.1 47)]) 1 rfl ?_
  have hi := h.1
  replace h := h.2
  refine me_iast rfl (g := 47) rfl rfl hi ?_
  refine me_go (pc1 := 43) (lv1 := [(0, .ref P.1), (1, .int x1), (2, .int x2), (3, .int x3), (4, .int x4)]) (st1 := [.ref P.1, .ref P.1]) 2 rfl ?_
  refine me_getf (v := .int (μ.1 43)) rfl rfl rfl ?_
  refine me_go (pc1 := 48) (lv1 := [(0, .ref P.1), (1, .int x1), (2, .int x2), (3, .int x3), (4, .int x4)]) (st1 := [.int ((μ.1 43) + 1), .ref P.1]) 2 rfl ?_
  refine me_put rfl rfl rfl ?_
  exact me_ret (v := none) (r := 0) rfl rfl rfl h
theorem v_variable_0 {X : ev_X} {W : Nat → Prop} {d : Nat} {P : MP} {μ : MS} {R : Int32 → MS → Prop} {T : MS → Prop} (x1 : Int32) (x2 : Int32) (h : (MI (μ.1 52) (μ.2.2 53) ∧ (MI (μ.1 52) (μ.2.2 54) ∧ (MI (μ.1 52) (μ.2.2 55) ∧ R (((μ.1 52) + 1) - 1) (mS1 (mA1 (mA1 (mA1 μ 53 (((μ.1 52)).toNatClampNeg) x1) 54 (((μ.1 52)).toNatClampNeg) x2) 55 (((μ.1 52)).toNatClampNeg) 0) 52 ((μ.1 52) + 1)))))) : ME X W true d 341 0 [(0, .ref P.1), (1, .int x1), (2, .int x2)] [] P μ R T := by
  refine me_go (pc1 := 1) (lv1 := [(0, .ref P.1), (1, .int x1), (2, .int x2)]) (st1 := [.ref P.1]) 1 rfl ?_
  refine me_getf (v := .ref (P.2.1 53)) rfl rfl rfl ?_
  refine me_go (pc1 := 5) (lv1 := [(0, .ref P.1), (1, .int x1), (2, .int x2)]) (st1 := [.ref P.1, .ref (P.2.1 53)]) 1 rfl ?_
  refine me_getf (v := .int (μ.1 52)) rfl rfl rfl ?_
  refine me_go (pc1 := 9) (lv1 := [(0, .ref P.1), (1, .int x1), (2, .int x2)]) (st1 := [.int x1, .int (μ.1 52), .ref (P.2.1 53)]) 1 rfl ?_
  have hi := h.1
  replace h := h.2
  refine me_iast rfl (g := 53) rfl rfl hi ?_
  refine me_go (pc1 := 11) (lv1 := [(0, .ref P.1), (1, .int x1), (2, .int x2)]) (st1 := [.ref P.1]) 1 rfl ?_
  refine me_getf (v := .ref (P.2.1 54)) rfl rfl rfl ?_
  refine me_go (pc1 := 15) (lv1 := [(0, .ref P.1), (1, .int x1), (2, .int x2)]) (st1 := [.ref P.1, .ref (P.2.1 54)]) 1 rfl ?_
  refine me_getf (v := .int (μ.1 52)) rfl rfl rfl ?_
  refine me_go (pc1 := 19) (lv1 := [(0, .ref P.1), (1, .int x1), (2, .int x2)]) (st1 := [.int x2, .int (μ.1 52), .ref (P.2.1 54)]) 1 rfl ?_
  have hi := h.1
  replace h := h.2
  refine me_iast rfl (g := 54) rfl rfl hi ?_
  refine me_go (pc1 := 21) (lv1 := [(0, .ref P.1), (1, .int x1), (2, .int x2)]) (st1 := [.ref P.1]) 1 rfl ?_
  refine me_getf (v := .ref (P.2.1 55)) rfl rfl rfl ?_
  refine me_go (pc1 := 25) (lv1 := [(0, .ref P.1), (1, .int x1), (2, .int x2)]) (st1 := [.ref P.1, .ref (P.2.1 55)]) 1 rfl ?_
  refine me_getf (v := .int (μ.1 52)) rfl rfl rfl ?_
  refine me_go (pc1 := 29) (lv1 := [(0, .ref P.1), (1, .int x1), (2, .int x2)]) (st1 := [.int 0, .int (μ.1 52), .ref (P.2.1 55)]) 1 rfl ?_
  have hi := h.1
  replace h := h.2
  refine me_iast rfl (g := 55) rfl rfl hi ?_
  refine me_go (pc1 := 32) (lv1 := [(0, .ref P.1), (1, .int x1), (2, .int x2)]) (st1 := [.ref P.1, .ref P.1]) 2 rfl ?_
  refine me_getf (v := .int (μ.1 52)) rfl rfl rfl ?_
  refine me_go (pc1 := 37) (lv1 := [(0, .ref P.1), (1, .int x1), (2, .int x2)]) (st1 := [.int ((μ.1 52) + 1), .ref P.1]) 2 rfl ?_
  refine me_put rfl rfl rfl ?_
  refine me_go (pc1 := 41) (lv1 := [(0, .ref P.1), (1, .int x1), (2, .int x2)]) (st1 := [.ref P.1]) 1 rfl ?_
  refine me_getf (v := .int ((μ.1 52) + 1)) rfl rfl rfl ?_
  refine me_go (pc1 := 46) (lv1 := [(0, .ref P.1), (1, .int x1), (2, .int x2)]) (st1 := [.int (((μ.1 52) + 1) - 1)]) 2 rfl ?_
  exact me_ret rfl rfl rfl h
theorem v_findIn_0 {X : ev_X} {W : Nat → Prop} {d : Nat} {P : MP} {μ : MS} {R : Int32 → MS → Prop} {T : MS → Prop} (x1 : Int32) (x2 : Int32) (x3 : Int32) (h : (MI x1 (μ.2.2 48) ∧ ME X W true d 342 8 [(0, .ref P.1), (1, .int x1), (2, .int x2), (3, .int x3), (4, .int (μ.2.1 48 x1.toNatClampNeg))] [] P μ R T)) : ME X W true d 342 0 [(0, .ref P.1), (1, .int x1), (2, .int x2), (3, .int x3)] [] P μ R T := by
  refine me_go (pc1 := 1) (lv1 := [(0, .ref P.1), (1, .int x1), (2, .int x2), (3, .int x3)]) (st1 := [.ref P.1]) 1 rfl ?_
  refine me_getf (v := .ref (P.2.1 48)) rfl rfl rfl ?_
  refine me_go (pc1 := 5) (lv1 := [(0, .ref P.1), (1, .int x1), (2, .int x2), (3, .int x3)]) (st1 := [.int x1, .ref (P.2.1 48)]) 1 rfl ?_
  refine me_iald rfl (g := 48) rfl rfl h.1 ?_
  replace h := h.2
  refine me_go (pc1 := 8) (lv1 := [(4, .int (μ.2.1 48 x1.toNatClampNeg)), (0, .ref P.1), (1, .int x1), (2, .int x2), (3, .int x3)]) (st1 := []) 1 rfl ?_
  refine me_lv [(0, .ref P.1), (1, .int x1), (2, .int x2), (3, .int x3), (4, .int (μ.2.1 48 x1.toNatClampNeg))] (fl_c rfl (fl_c rfl (fl_c rfl (fl_c rfl (fl_c rfl fl_0))))) ?_
  exact h
theorem v_findIn_8 {X : ev_X} {W : Nat → Prop} {d : Nat} {P : MP} {μ : MS} {R : Int32 → MS → Prop} {T : MS → Prop} (x1 : Int32) (x2 : Int32) (x3 : Int32) (x4 : Int32) (h : (MI x1 (μ.2.2 49) ∧ (((μ.2.1 49 x1.toNatClampNeg).toInt ≤ x4.toInt → R (-1) μ) ∧ (x4.toInt < (μ.2.1 49 x1.toNatClampNeg).toInt → (MI x4 (μ.2.2 44) ∧ ((¬ (μ.2.1 44 x4.toNatClampNeg) = x2 → ME X W true d 342 8 [(0, .ref P.1), (1, .int x1), (2, .int x2), (3, .int x3), (4, .int (x4 + 1))] [] P μ R T) ∧ ((μ.2.1 44 x4.toNatClampNeg) = x2 → ((¬ x3 = 0 → R x4 μ) ∧ (x3 = 0 → (MI x4 (μ.2.2 45) ∧ (((μ.2.1 45 x4.toNatClampNeg) = 2 → ME X W true d 342 8 [(0, .ref P.1), (1, .int x1), (2, .int x2), (3, .int x3), (4, .int (x4 + 1))] [] P μ R T) ∧ (¬ (μ.2.1 45 x4.toNatClampNeg) = 2 → R x4 μ)))))))))))) : ME X W true d 342 8 [(0, .ref P.1), (1, .int x1), (2, .int x2), (3, .int x3), (4, .int x4)] [] P μ R T := by
  refine me_go (pc1 := 11) (lv1 := [(0, .ref P.1), (1, .int x1), (2, .int x2), (3, .int x3), (4, .int x4)]) (st1 := [.ref P.1, .int x4]) 2 rfl ?_
  refine me_getf (v := .ref (P.2.1 49)) rfl rfl rfl ?_
  refine me_go (pc1 := 15) (lv1 := [(0, .ref P.1), (1, .int x1), (2, .int x2), (3, .int x3), (4, .int x4)]) (st1 := [.int x1, .ref (P.2.1 49), .int x4]) 1 rfl ?_
  refine me_iald rfl (g := 49) rfl rfl h.1 ?_
  replace h := h.2
  refine me_icmp rfl rfl (fun c => ?_) (fun c => ?_)
  · replace h := h.1 (ci_ge c)
    refine me_go (pc1 := 55) (lv1 := [(0, .ref P.1), (1, .int x1), (2, .int x2), (3, .int x3), (4, .int x4)]) (st1 := [.int (-1)]) 1 rfl ?_
    exact me_ret rfl rfl rfl h
  · replace h := h.2 (cn_ge c)
    refine me_go (pc1 := 20) (lv1 := [(0, .ref P.1), (1, .int x1), (2, .int x2), (3, .int x3), (4, .int x4)]) (st1 := [.ref P.1]) 1 rfl ?_
    refine me_getf (v := .ref (P.2.1 44)) rfl rfl rfl ?_
    refine me_go (pc1 := 25) (lv1 := [(0, .ref P.1), (1, .int x1), (2, .int x2), (3, .int x3), (4, .int x4)]) (st1 := [.int x4, .ref (P.2.1 44)]) 1 rfl ?_
    refine me_iald rfl (g := 44) rfl rfl h.1 ?_
    replace h := h.2
    refine me_go (pc1 := 27) (lv1 := [(0, .ref P.1), (1, .int x1), (2, .int x2), (3, .int x3), (4, .int x4)]) (st1 := [.int x2, .int (μ.2.1 44 x4.toNatClampNeg)]) 1 rfl ?_
    refine me_icmp rfl rfl (fun c => ?_) (fun c => ?_)
    · replace h := h.1 (ci_ne c)
      refine me_go (pc1 := 8) (lv1 := [(4, .int (x4 + 1)), (0, .ref P.1), (1, .int x1), (2, .int x2), (3, .int x3)]) (st1 := []) 2 rfl ?_
      refine me_lv [(0, .ref P.1), (1, .int x1), (2, .int x2), (3, .int x3), (4, .int (x4 + 1))] (fl_c rfl (fl_c rfl (fl_c rfl (fl_c rfl (fl_c rfl fl_0))))) ?_
      exact h
    · replace h := h.2 (cn_ne c)
      refine me_go (pc1 := 31) (lv1 := [(0, .ref P.1), (1, .int x1), (2, .int x2), (3, .int x3), (4, .int x4)]) (st1 := [.int x3]) 1 rfl ?_
      refine me_ifc rfl rfl (fun c => ?_) (fun c => ?_)
      · replace h := h.1 (ci_ne c)
        refine me_go (pc1 := 47) (lv1 := [(0, .ref P.1), (1, .int x1), (2, .int x2), (3, .int x3), (4, .int x4)]) (st1 := [.int x4]) 1 rfl ?_
        exact me_ret rfl rfl rfl h
      · replace h := h.2 (cn_ne c)
        refine me_go (pc1 := 35) (lv1 := [(0, .ref P.1), (1, .int x1), (2, .int x2), (3, .int x3), (4, .int x4)]) (st1 := [.ref P.1]) 1 rfl ?_
        refine me_getf (v := .ref (P.2.1 45)) rfl rfl rfl ?_
        refine me_go (pc1 := 40) (lv1 := [(0, .ref P.1), (1, .int x1), (2, .int x2), (3, .int x3), (4, .int x4)]) (st1 := [.int x4, .ref (P.2.1 45)]) 1 rfl ?_
        refine me_iald rfl (g := 45) rfl rfl h.1 ?_
        replace h := h.2
        refine me_go (pc1 := 42) (lv1 := [(0, .ref P.1), (1, .int x1), (2, .int x2), (3, .int x3), (4, .int x4)]) (st1 := [.int 2, .int (μ.2.1 45 x4.toNatClampNeg)]) 1 rfl ?_
        refine me_icmp rfl rfl (fun c => ?_) (fun c => ?_)
        · replace h := h.1 (ci_eq c)
          refine me_go (pc1 := 8) (lv1 := [(4, .int (x4 + 1)), (0, .ref P.1), (1, .int x1), (2, .int x2), (3, .int x3)]) (st1 := []) 2 rfl ?_
          refine me_lv [(0, .ref P.1), (1, .int x1), (2, .int x2), (3, .int x3), (4, .int (x4 + 1))] (fl_c rfl (fl_c rfl (fl_c rfl (fl_c rfl (fl_c rfl fl_0))))) ?_
          exact h
        · replace h := h.2 (cn_eq c)
          refine me_go (pc1 := 47) (lv1 := [(0, .ref P.1), (1, .int x1), (2, .int x2), (3, .int x3), (4, .int x4)]) (st1 := [.int x4]) 1 rfl ?_
          exact me_ret rfl rfl rfl h
theorem v_find_0 {X : ev_X} {W : Nat → Prop} {d : Nat} {P : MP} {μ : MS} {R : Int32 → MS → Prop} {T : MS → Prop} (x1 : Int32) (x2 : Int32) (h : MC X W true d 342 [.ref P.1, .int x1, .int x2, .int 1] P μ (fun r1 μ1 => (((0 : Int) ≤ r1.toInt → R r1 μ1) ∧ (r1.toInt < (0 : Int) → (MI x1 (μ1.2.2 50) ∧ (((0 : Int) ≤ (μ1.2.1 50 x1.toNatClampNeg).toInt → (MI x1 (μ1.2.2 50) ∧ MC X W true d 342 [.ref P.1, .int (μ1.2.1 50 x1.toNatClampNeg), .int x2, .int 0] P μ1 (fun r2 μ2 => R r2 μ2) (fun _ => False))) ∧ ((μ1.2.1 50 x1.toNatClampNeg).toInt < (0 : Int) → R r1 μ1)))))) (fun _ => False)) : ME X W true d 343 0 [(0, .ref P.1), (1, .int x1), (2, .int x2)] [] P μ R T := by
  refine me_go (pc1 := 4) (lv1 := [(0, .ref P.1), (1, .int x1), (2, .int x2)]) (st1 := [.int 1, .int x2, .int x1, .ref P.1]) 4 rfl ?_
  refine me_callN rfl rfl rfl (h.mono (fun r1 μ1 h => ?_) (fun _ h => h))
  refine me_go (pc1 := 9) (lv1 := [(3, .int r1), (0, .ref P.1), (1, .int x1), (2, .int x2)]) (st1 := [.int r1]) 2 rfl ?_
  refine me_ifc rfl rfl (fun c => ?_) (fun c => ?_)
  · replace h := h.1 (ci_ge c)
    refine me_go (pc1 := 37) (lv1 := [(3, .int r1), (0, .ref P.1), (1, .int x1), (2, .int x2)]) (st1 := [.int r1]) 2 rfl ?_
    exact me_ret rfl rfl rfl h
  · replace h := h.2 (cn_ge c)
    refine me_go (pc1 := 13) (lv1 := [(3, .int r1), (0, .ref P.1), (1, .int x1), (2, .int x2)]) (st1 := [.ref P.1]) 1 rfl ?_
    refine me_getf (v := .ref (P.2.1 50)) rfl rfl rfl ?_
    refine me_go (pc1 := 17) (lv1 := [(3, .int r1), (0, .ref P.1), (1, .int x1), (2, .int x2)]) (st1 := [.int x1, .ref (P.2.1 50)]) 1 rfl ?_
    refine me_iald rfl (g := 50) rfl rfl h.1 ?_
    replace h := h.2
    refine me_ifc rfl rfl (fun c => ?_) (fun c => ?_)
    · replace h := h.1 (ci_ge c)
      refine me_go (pc1 := 27) (lv1 := [(3, .int r1), (0, .ref P.1), (1, .int x1), (2, .int x2)]) (st1 := [.ref P.1, .ref P.1]) 2 rfl ?_
      refine me_getf (v := .ref (P.2.1 50)) rfl rfl rfl ?_
      refine me_go (pc1 := 31) (lv1 := [(3, .int r1), (0, .ref P.1), (1, .int x1), (2, .int x2)]) (st1 := [.int x1, .ref (P.2.1 50), .ref P.1]) 1 rfl ?_
      refine me_iald rfl (g := 50) rfl rfl h.1 ?_
      replace h := h.2
      refine me_go (pc1 := 34) (lv1 := [(3, .int r1), (0, .ref P.1), (1, .int x1), (2, .int x2)]) (st1 := [.int 0, .int x2, .int (μ1.2.1 50 x1.toNatClampNeg), .ref P.1]) 2 rfl ?_
      refine me_callN rfl rfl rfl (h.mono (fun r2 μ2 h => ?_) (fun _ h => h))
      exact me_ret rfl rfl rfl h
    · replace h := h.2 (cn_ge c)
      refine me_go (pc1 := 37) (lv1 := [(3, .int r1), (0, .ref P.1), (1, .int x1), (2, .int x2)]) (st1 := [.int r1]) 2 rfl ?_
      exact me_ret rfl rfl rfl h
theorem v_isThere_0 {X : ev_X} {W : Nat → Prop} {d : Nat} {P : MP} {μ : MS} {R : Int32 → MS → Prop} {T : MS → Prop} (x1 : Int32) (x2 : Int32) (x3 : Int32) (h : MC X W true d 342 [.ref P.1, .int x1, .int x2, .int 1] P μ (fun r1 μ1 => ((r1.toInt < (0 : Int) → (MI x1 (μ1.2.2 50) ∧ (((0 : Int) ≤ (μ1.2.1 50 x1.toNatClampNeg).toInt → (MI x1 (μ1.2.2 50) ∧ MC X W true d 342 [.ref P.1, .int (μ1.2.1 50 x1.toNatClampNeg), .int x2, .int 0] P μ1 (fun r2 μ2 => ((r2.toInt < (0 : Int) → R 0 μ2) ∧ ((0 : Int) ≤ r2.toInt → ((¬ x3 = 9 → R 1 μ2) ∧ (x3 = 9 → (MI r2 (μ2.2.2 45) ∧ (((μ2.2.1 45 r2.toNatClampNeg) = 9 → R 0 μ2) ∧ (¬ (μ2.2.1 45 r2.toNatClampNeg) = 9 → R 1 μ2)))))))) (fun _ => False))) ∧ ((μ1.2.1 50 x1.toNatClampNeg).toInt < (0 : Int) → R 0 μ1)))) ∧ ((0 : Int) ≤ r1.toInt → R 1 μ1))) (fun _ => False)) : ME X W true d 344 0 [(0, .ref P.1), (1, .int x1), (2, .int x2), (3, .int x3)] [] P μ R T := by
  refine me_go (pc1 := 4) (lv1 := [(0, .ref P.1), (1, .int x1), (2, .int x2), (3, .int x3)]) (st1 := [.int 1, .int x2, .int x1, .ref P.1]) 4 rfl ?_
  refine me_callN rfl rfl rfl (h.mono (fun r1 μ1 h => ?_) (fun _ h => h))
  refine me_ifc rfl rfl (fun c => ?_) (fun c => ?_)
  · replace h := h.1 (ci_lt c)
    refine me_go (pc1 := 13) (lv1 := [(0, .ref P.1), (1, .int x1), (2, .int x2), (3, .int x3)]) (st1 := [.ref P.1]) 1 rfl ?_
    refine me_getf (v := .ref (P.2.1 50)) rfl rfl rfl ?_
    refine me_go (pc1 := 17) (lv1 := [(0, .ref P.1), (1, .int x1), (2, .int x2), (3, .int x3)]) (st1 := [.int x1, .ref (P.2.1 50)]) 1 rfl ?_
    refine me_iald rfl (g := 50) rfl rfl h.1 ?_
    replace h := h.2
    refine me_ifc rfl rfl (fun c => ?_) (fun c => ?_)
    · replace h := h.1 (ci_ge c)
      refine me_go (pc1 := 27) (lv1 := [(0, .ref P.1), (1, .int x1), (2, .int x2), (3, .int x3)]) (st1 := [.ref P.1, .ref P.1]) 2 rfl ?_
      refine me_getf (v := .ref (P.2.1 50)) rfl rfl rfl ?_
      refine me_go (pc1 := 31) (lv1 := [(0, .ref P.1), (1, .int x1), (2, .int x2), (3, .int x3)]) (st1 := [.int x1, .ref (P.2.1 50), .ref P.1]) 1 rfl ?_
      refine me_iald rfl (g := 50) rfl rfl h.1 ?_
      replace h := h.2
      refine me_go (pc1 := 34) (lv1 := [(0, .ref P.1), (1, .int x1), (2, .int x2), (3, .int x3)]) (st1 := [.int 0, .int x2, .int (μ1.2.1 50 x1.toNatClampNeg), .ref P.1]) 2 rfl ?_
      refine me_callN rfl rfl rfl (h.mono (fun r2 μ2 h => ?_) (fun _ h => h))
      refine me_go (pc1 := 41) (lv1 := [(4, .int r2), (0, .ref P.1), (1, .int x1), (2, .int x2), (3, .int x3)]) (st1 := [.int r2]) 2 rfl ?_
      refine me_ifc rfl rfl (fun c => ?_) (fun c => ?_)
      · replace h := h.1 (ci_lt c)
        refine me_go (pc1 := 67) (lv1 := [(4, .int r2), (0, .ref P.1), (1, .int x1), (2, .int x2), (3, .int x3)]) (st1 := [.int 0]) 1 rfl ?_
        exact me_retB rfl rfl (by decide) h
      · replace h := h.2 (cn_lt c)
        refine me_go (pc1 := 47) (lv1 := [(4, .int r2), (0, .ref P.1), (1, .int x1), (2, .int x2), (3, .int x3)]) (st1 := [.int 9, .int x3]) 2 rfl ?_
        refine me_icmp rfl rfl (fun c => ?_) (fun c => ?_)
        · replace h := h.1 (ci_ne c)
          refine me_go (pc1 := 67) (lv1 := [(4, .int r2), (0, .ref P.1), (1, .int x1), (2, .int x2), (3, .int x3)]) (st1 := [.int 1]) 2 rfl ?_
          exact me_retB rfl rfl (by decide) h
        · replace h := h.2 (cn_ne c)
          refine me_go (pc1 := 51) (lv1 := [(4, .int r2), (0, .ref P.1), (1, .int x1), (2, .int x2), (3, .int x3)]) (st1 := [.ref P.1]) 1 rfl ?_
          refine me_getf (v := .ref (P.2.1 45)) rfl rfl rfl ?_
          refine me_go (pc1 := 56) (lv1 := [(4, .int r2), (0, .ref P.1), (1, .int x1), (2, .int x2), (3, .int x3)]) (st1 := [.int r2, .ref (P.2.1 45)]) 1 rfl ?_
          refine me_iald rfl (g := 45) rfl rfl h.1 ?_
          replace h := h.2
          refine me_go (pc1 := 59) (lv1 := [(4, .int r2), (0, .ref P.1), (1, .int x1), (2, .int x2), (3, .int x3)]) (st1 := [.int 9, .int (μ2.2.1 45 r2.toNatClampNeg)]) 1 rfl ?_
          refine me_icmp rfl rfl (fun c => ?_) (fun c => ?_)
          · replace h := h.1 (ci_eq c)
            refine me_go (pc1 := 67) (lv1 := [(4, .int r2), (0, .ref P.1), (1, .int x1), (2, .int x2), (3, .int x3)]) (st1 := [.int 0]) 1 rfl ?_
            exact me_retB rfl rfl (by decide) h
          · replace h := h.2 (cn_eq c)
            refine me_go (pc1 := 67) (lv1 := [(4, .int r2), (0, .ref P.1), (1, .int x1), (2, .int x2), (3, .int x3)]) (st1 := [.int 1]) 2 rfl ?_
            exact me_retB rfl rfl (by decide) h
    · replace h := h.2 (cn_ge c)
      refine me_go (pc1 := 41) (lv1 := [(4, .int (-1)), (0, .ref P.1), (1, .int x1), (2, .int x2), (3, .int x3)]) (st1 := [.int (-1)]) 4 rfl ?_
      refine me_ifc rfl rfl (fun _ => ?_) (fun c => absurd c (by decide))
      refine me_go (pc1 := 67) (lv1 := [(4, .int (-1)), (0, .ref P.1), (1, .int x1), (2, .int x2), (3, .int x3)]) (st1 := [.int 0]) 1 rfl ?_
      exact me_retB rfl rfl (by decide) h
  · replace h := h.2 (cn_lt c)
    refine me_go (pc1 := 11) (lv1 := [(0, .ref P.1), (1, .int x1), (2, .int x2), (3, .int x3)]) (st1 := [.int 1]) 1 rfl ?_
    exact me_retB rfl rfl (by decide) h
theorem v_declareAll_0 {X : ev_X} {W : Nat → Prop} {d : Nat} {P : MP} {μ : MS} {R : Int32 → MS → Prop} {T : MS → Prop}  (h : ME X W true d 345 27 [(0, .ref P.1), (1, .int 0)] [] P (mS1 (mS1 (mS1 (mS1 (mS1 μ 43 0) 52 0) 56 0) 59 0) 60 0) R T) : ME X W true d 345 0 [(0, .ref P.1)] [] P μ R T := by
  refine me_go (pc1 := 2) (lv1 := [(0, .ref P.1)]) (st1 := [.int 0, .ref P.1]) 2 rfl ?_
  refine me_put rfl rfl rfl ?_
  refine me_go (pc1 := 7) (lv1 := [(0, .ref P.1)]) (st1 := [.int 0, .ref P.1]) 2 rfl ?_
  refine me_put rfl rfl rfl ?_
  refine me_go (pc1 := 12) (lv1 := [(0, .ref P.1)]) (st1 := [.int 0, .ref P.1]) 2 rfl ?_
  refine me_put rfl rfl rfl ?_
  refine me_go (pc1 := 17) (lv1 := [(0, .ref P.1)]) (st1 := [.int 0, .ref P.1]) 2 rfl ?_
  refine me_put rfl rfl rfl ?_
  refine me_go (pc1 := 22) (lv1 := [(0, .ref P.1)]) (st1 := [.int 0, .ref P.1]) 2 rfl ?_
  refine me_put rfl rfl rfl ?_
  refine me_go (pc1 := 27) (lv1 := [(1, .int 0), (0, .ref P.1)]) (st1 := []) 2 rfl ?_
  refine me_lv [(0, .ref P.1), (1, .int 0)] (fl_c rfl (fl_c rfl fl_0)) ?_
  exact h
theorem v_declareAll_27 {X : ev_X} {W : Nat → Prop} {d : Nat} {P : MP} {μ : MS} {R : Int32 → MS → Prop} {T : MS → Prop} (x1 : Int32) (h : (((μ.1 41).toInt ≤ x1.toInt → R 0 μ) ∧ (x1.toInt < (μ.1 41).toInt → (MI x1 (μ.2.2 42) ∧ (MI (μ.2.1 42 x1.toNatClampNeg) (μ.2.2 26) ∧ ((¬ (μ.2.1 26 ((μ.2.1 42 x1.toNatClampNeg)).toNatClampNeg) = 1 → (MI x1 (μ.2.2 51) ∧ (MI x1 (μ.2.2 50) ∧ (MI x1 (μ.2.2 48) ∧ (MI x1 (μ.2.2 49) ∧ ME X W true d 345 92 [(0, .ref P.1), (1, .int x1), (2, .int (μ.2.1 42 x1.toNatClampNeg)), (3, .int 0)] [] P (mA1 (mA1 (mA1 (mA1 μ 51 x1.toNatClampNeg 0) 50 x1.toNatClampNeg (-1)) 48 x1.toNatClampNeg (μ.1 43)) 49 x1.toNatClampNeg (μ.1 43)) R T))))) ∧ ((μ.2.1 26 ((μ.2.1 42 x1.toNatClampNeg)).toNatClampNeg) = 1 → (MI x1 (μ.2.2 51) ∧ (MI x1 (μ.2.2 50) ∧ (MI x1 (μ.2.2 48) ∧ (MI x1 (μ.2.2 49) ∧ ME X W true d 345 92 [(0, .ref P.1), (1, .int x1), (2, .int (μ.2.1 42 x1.toNatClampNeg)), (3, .int 0)] [] P (mA1 (mA1 (mA1 (mA1 μ 51 x1.toNatClampNeg 1) 50 x1.toNatClampNeg (-1)) 48 x1.toNatClampNeg (μ.1 43)) 49 x1.toNatClampNeg (μ.1 43)) R T))))))))))) : ME X W true d 345 27 [(0, .ref P.1), (1, .int x1)] [] P μ R T := by
  refine me_go (pc1 := 29) (lv1 := [(0, .ref P.1), (1, .int x1)]) (st1 := [.ref P.1, .int x1]) 2 rfl ?_
  refine me_getf (v := .int (μ.1 41)) rfl rfl rfl ?_
  refine me_icmp rfl rfl (fun c => ?_) (fun c => ?_)
  · replace h := h.1 (ci_ge c)
    exact me_ret (v := none) (r := 0) rfl rfl rfl h
  · replace h := h.2 (cn_ge c)
    refine me_go (pc1 := 36) (lv1 := [(0, .ref P.1), (1, .int x1)]) (st1 := [.ref P.1]) 1 rfl ?_
    refine me_getf (v := .ref (P.2.1 42)) rfl rfl rfl ?_
    refine me_go (pc1 := 40) (lv1 := [(0, .ref P.1), (1, .int x1)]) (st1 := [.int x1, .ref (P.2.1 42)]) 1 rfl ?_
    refine me_iald rfl (g := 42) rfl rfl h.1 ?_
    replace h := h.2
    refine me_go (pc1 := 43) (lv1 := [(2, .int (μ.2.1 42 x1.toNatClampNeg)), (0, .ref P.1), (1, .int x1)]) (st1 := [.ref P.1]) 2 rfl ?_
    refine me_getf (v := .ref (P.2.1 51)) rfl rfl rfl ?_
    refine me_go (pc1 := 48) (lv1 := [(2, .int (μ.2.1 42 x1.toNatClampNeg)), (0, .ref P.1), (1, .int x1)]) (st1 := [.ref P.1, .int x1, .ref (P.2.1 51)]) 2 rfl ?_
    refine me_getf (v := .ref (P.2.1 26)) rfl rfl rfl ?_
    refine me_go (pc1 := 52) (lv1 := [(2, .int (μ.2.1 42 x1.toNatClampNeg)), (0, .ref P.1), (1, .int x1)]) (st1 := [.int (μ.2.1 42 x1.toNatClampNeg), .ref (P.2.1 26), .int x1, .ref (P.2.1 51)]) 1 rfl ?_
    refine me_iald rfl (g := 26) rfl rfl h.1 ?_
    replace h := h.2
    refine me_go (pc1 := 54) (lv1 := [(2, .int (μ.2.1 42 x1.toNatClampNeg)), (0, .ref P.1), (1, .int x1)]) (st1 := [.int 1, .int (μ.2.1 26 ((μ.2.1 42 x1.toNatClampNeg)).toNatClampNeg), .int x1, .ref (P.2.1 51)]) 1 rfl ?_
    refine me_icmp rfl rfl (fun c => ?_) (fun c => ?_)
    · replace h := h.1 (ci_ne c)
      refine me_go (pc1 := 62) (lv1 := [(2, .int (μ.2.1 42 x1.toNatClampNeg)), (0, .ref P.1), (1, .int x1)]) (st1 := [.int 0, .int x1, .ref (P.2.1 51)]) 1 rfl ?_
      have hi := h.1
      replace h := h.2
      refine me_zast rfl (g := 51) rfl rfl hi (by decide) ?_
      refine me_go (pc1 := 64) (lv1 := [(2, .int (μ.2.1 42 x1.toNatClampNeg)), (0, .ref P.1), (1, .int x1)]) (st1 := [.ref P.1]) 1 rfl ?_
      refine me_getf (v := .ref (P.2.1 50)) rfl rfl rfl ?_
      refine me_go (pc1 := 69) (lv1 := [(2, .int (μ.2.1 42 x1.toNatClampNeg)), (0, .ref P.1), (1, .int x1)]) (st1 := [.int (-1), .int x1, .ref (P.2.1 50)]) 2 rfl ?_
      have hi := h.1
      replace h := h.2
      refine me_iast rfl (g := 50) rfl rfl hi ?_
      refine me_go (pc1 := 71) (lv1 := [(2, .int (μ.2.1 42 x1.toNatClampNeg)), (0, .ref P.1), (1, .int x1)]) (st1 := [.ref P.1]) 1 rfl ?_
      refine me_getf (v := .ref (P.2.1 48)) rfl rfl rfl ?_
      refine me_go (pc1 := 76) (lv1 := [(2, .int (μ.2.1 42 x1.toNatClampNeg)), (0, .ref P.1), (1, .int x1)]) (st1 := [.ref P.1, .int x1, .ref (P.2.1 48)]) 2 rfl ?_
      refine me_getf (v := .int (μ.1 43)) rfl rfl rfl ?_
      have hi := h.1
      replace h := h.2
      refine me_iast rfl (g := 48) rfl rfl hi ?_
      refine me_go (pc1 := 81) (lv1 := [(2, .int (μ.2.1 42 x1.toNatClampNeg)), (0, .ref P.1), (1, .int x1)]) (st1 := [.ref P.1]) 1 rfl ?_
      refine me_getf (v := .ref (P.2.1 49)) rfl rfl rfl ?_
      refine me_go (pc1 := 86) (lv1 := [(2, .int (μ.2.1 42 x1.toNatClampNeg)), (0, .ref P.1), (1, .int x1)]) (st1 := [.ref P.1, .int x1, .ref (P.2.1 49)]) 2 rfl ?_
      refine me_getf (v := .int (μ.1 43)) rfl rfl rfl ?_
      have hi := h.1
      replace h := h.2
      refine me_iast rfl (g := 49) rfl rfl hi ?_
      refine me_go (pc1 := 92) (lv1 := [(3, .int 0), (2, .int (μ.2.1 42 x1.toNatClampNeg)), (0, .ref P.1), (1, .int x1)]) (st1 := []) 2 rfl ?_
      refine me_lv [(0, .ref P.1), (1, .int x1), (2, .int (μ.2.1 42 x1.toNatClampNeg)), (3, .int 0)] (fl_c rfl (fl_c rfl (fl_c rfl (fl_c rfl fl_0)))) ?_
      exact h
    · replace h := h.2 (cn_ne c)
      refine me_go (pc1 := 62) (lv1 := [(2, .int (μ.2.1 42 x1.toNatClampNeg)), (0, .ref P.1), (1, .int x1)]) (st1 := [.int 1, .int x1, .ref (P.2.1 51)]) 2 rfl ?_
      have hi := h.1
      replace h := h.2
      refine me_zast rfl (g := 51) rfl rfl hi (by decide) ?_
      refine me_go (pc1 := 64) (lv1 := [(2, .int (μ.2.1 42 x1.toNatClampNeg)), (0, .ref P.1), (1, .int x1)]) (st1 := [.ref P.1]) 1 rfl ?_
      refine me_getf (v := .ref (P.2.1 50)) rfl rfl rfl ?_
      refine me_go (pc1 := 69) (lv1 := [(2, .int (μ.2.1 42 x1.toNatClampNeg)), (0, .ref P.1), (1, .int x1)]) (st1 := [.int (-1), .int x1, .ref (P.2.1 50)]) 2 rfl ?_
      have hi := h.1
      replace h := h.2
      refine me_iast rfl (g := 50) rfl rfl hi ?_
      refine me_go (pc1 := 71) (lv1 := [(2, .int (μ.2.1 42 x1.toNatClampNeg)), (0, .ref P.1), (1, .int x1)]) (st1 := [.ref P.1]) 1 rfl ?_
      refine me_getf (v := .ref (P.2.1 48)) rfl rfl rfl ?_
      refine me_go (pc1 := 76) (lv1 := [(2, .int (μ.2.1 42 x1.toNatClampNeg)), (0, .ref P.1), (1, .int x1)]) (st1 := [.ref P.1, .int x1, .ref (P.2.1 48)]) 2 rfl ?_
      refine me_getf (v := .int (μ.1 43)) rfl rfl rfl ?_
      have hi := h.1
      replace h := h.2
      refine me_iast rfl (g := 48) rfl rfl hi ?_
      refine me_go (pc1 := 81) (lv1 := [(2, .int (μ.2.1 42 x1.toNatClampNeg)), (0, .ref P.1), (1, .int x1)]) (st1 := [.ref P.1]) 1 rfl ?_
      refine me_getf (v := .ref (P.2.1 49)) rfl rfl rfl ?_
      refine me_go (pc1 := 86) (lv1 := [(2, .int (μ.2.1 42 x1.toNatClampNeg)), (0, .ref P.1), (1, .int x1)]) (st1 := [.ref P.1, .int x1, .ref (P.2.1 49)]) 2 rfl ?_
      refine me_getf (v := .int (μ.1 43)) rfl rfl rfl ?_
      have hi := h.1
      replace h := h.2
      refine me_iast rfl (g := 49) rfl rfl hi ?_
      refine me_go (pc1 := 92) (lv1 := [(3, .int 0), (2, .int (μ.2.1 42 x1.toNatClampNeg)), (0, .ref P.1), (1, .int x1)]) (st1 := []) 2 rfl ?_
      refine me_lv [(0, .ref P.1), (1, .int x1), (2, .int (μ.2.1 42 x1.toNatClampNeg)), (3, .int 0)] (fl_c rfl (fl_c rfl (fl_c rfl (fl_c rfl fl_0)))) ?_
      exact h
theorem v_declareAll_92 {X : ev_X} {W : Nat → Prop} {d : Nat} {P : MP} {μ : MS} {R : Int32 → MS → Prop} {T : MS → Prop} (x1 : Int32) (x2 : Int32) (x3 : Int32) (h : ((x1.toInt ≤ x3.toInt → (MI x2 (μ.2.2 23) ∧ ME X W true d 345 187 [(0, .ref P.1), (1, .int x1), (2, .int x2), (3, .int (μ.2.1 23 x2.toNatClampNeg))] [] P μ R T)) ∧ (x3.toInt < x1.toInt → (MI x3 (μ.2.2 42) ∧ (MI (μ.2.1 42 x3.toNatClampNeg) (μ.2.2 22) ∧ (MI x2 (μ.2.2 22) ∧ (((μ.2.1 22 ((μ.2.1 42 x3.toNatClampNeg)).toNatClampNeg) = (μ.2.1 22 x2.toNatClampNeg) → (MI x3 (μ.2.2 51) ∧ (MI x1 (μ.2.2 51) ∧ (((μ.2.1 51 x3.toNatClampNeg) = (μ.2.1 51 x1.toNatClampNeg) → (MI x2 (μ.2.2 21) ∧ MC X W true d 290 [.ref P.1, .int 5, .int (μ.2.1 21 x2.toNatClampNeg)] P μ (fun r1 μ1 => ME X W true d 345 92 [(0, .ref P.1), (1, .int x1), (2, .int x2), (3, .int (x3 + 1))] [] P μ1 R T) (fun _ => False))) ∧ (¬ (μ.2.1 51 x3.toNatClampNeg) = (μ.2.1 51 x1.toNatClampNeg) → (MI x3 (μ.2.2 51) ∧ (((μ.2.1 51 x3.toNatClampNeg) = 0 → (MI x1 (μ.2.2 50) ∧ (((0 : Int) ≤ (μ.2.1 50 x1.toNatClampNeg).toInt → ME X W true d 345 92 [(0, .ref P.1), (1, .int x1), (2, .int x2), (3, .int (x3 + 1))] [] P μ R T) ∧ ((μ.2.1 50 x1.toNatClampNeg).toInt < (0 : Int) → (MI x1 (μ.2.2 50) ∧ ME X W true d 345 92 [(0, .ref P.1), (1, .int x1), (2, .int x2), (3, .int (x3 + 1))] [] P (mA1 μ 50 x1.toNatClampNeg x3) R T))))) ∧ (¬ (μ.2.1 51 x3.toNatClampNeg) = 0 → (MI x2 (μ.2.2 21) ∧ MC X W true d 290 [.ref P.1, .int 5, .int (μ.2.1 21 x2.toNatClampNeg)] P μ (fun r2 μ2 => ME X W true d 345 92 [(0, .ref P.1), (1, .int x1), (2, .int x2), (3, .int (x3 + 1))] [] P μ2 R T) (fun _ => False)))))))))) ∧ (¬ (μ.2.1 22 ((μ.2.1 42 x3.toNatClampNeg)).toNatClampNeg) = (μ.2.1 22 x2.toNatClampNeg) → ME X W true d 345 92 [(0, .ref P.1), (1, .int x1), (2, .int x2), (3, .int (x3 + 1))] [] P μ R T)))))))) : ME X W true d 345 92 [(0, .ref P.1), (1, .int x1), (2, .int x2), (3, .int x3)] [] P μ R T := by
  refine me_go (pc1 := 94) (lv1 := [(0, .ref P.1), (1, .int x1), (2, .int x2), (3, .int x3)]) (st1 := [.int x1, .int x3]) 2 rfl ?_
  refine me_icmp rfl rfl (fun c => ?_) (fun c => ?_)
  · replace h := h.1 (ci_ge c)
    refine me_go (pc1 := 181) (lv1 := [(0, .ref P.1), (1, .int x1), (2, .int x2), (3, .int x3)]) (st1 := [.ref P.1]) 1 rfl ?_
    refine me_getf (v := .ref (P.2.1 23)) rfl rfl rfl ?_
    refine me_go (pc1 := 185) (lv1 := [(0, .ref P.1), (1, .int x1), (2, .int x2), (3, .int x3)]) (st1 := [.int x2, .ref (P.2.1 23)]) 1 rfl ?_
    refine me_iald rfl (g := 23) rfl rfl h.1 ?_
    replace h := h.2
    refine me_go (pc1 := 187) (lv1 := [(3, .int (μ.2.1 23 x2.toNatClampNeg)), (0, .ref P.1), (1, .int x1), (2, .int x2)]) (st1 := []) 1 rfl ?_
    refine me_lv [(0, .ref P.1), (1, .int x1), (2, .int x2), (3, .int (μ.2.1 23 x2.toNatClampNeg))] (fl_c rfl (fl_c rfl (fl_c rfl (fl_c rfl fl_0)))) ?_
    exact h
  · replace h := h.2 (cn_ge c)
    refine me_go (pc1 := 98) (lv1 := [(0, .ref P.1), (1, .int x1), (2, .int x2), (3, .int x3)]) (st1 := [.ref P.1]) 1 rfl ?_
    refine me_getf (v := .ref (P.2.1 22)) rfl rfl rfl ?_
    refine me_go (pc1 := 102) (lv1 := [(0, .ref P.1), (1, .int x1), (2, .int x2), (3, .int x3)]) (st1 := [.ref P.1, .ref (P.2.1 22)]) 1 rfl ?_
    refine me_getf (v := .ref (P.2.1 42)) rfl rfl rfl ?_
    refine me_go (pc1 := 106) (lv1 := [(0, .ref P.1), (1, .int x1), (2, .int x2), (3, .int x3)]) (st1 := [.int x3, .ref (P.2.1 42), .ref (P.2.1 22)]) 1 rfl ?_
    refine me_iald rfl (g := 42) rfl rfl h.1 ?_
    replace h := h.2
    refine me_iald rfl (g := 22) rfl rfl h.1 ?_
    replace h := h.2
    refine me_go (pc1 := 109) (lv1 := [(0, .ref P.1), (1, .int x1), (2, .int x2), (3, .int x3)]) (st1 := [.ref P.1, .int (μ.2.1 22 ((μ.2.1 42 x3.toNatClampNeg)).toNatClampNeg)]) 1 rfl ?_
    refine me_getf (v := .ref (P.2.1 22)) rfl rfl rfl ?_
    refine me_go (pc1 := 113) (lv1 := [(0, .ref P.1), (1, .int x1), (2, .int x2), (3, .int x3)]) (st1 := [.int x2, .ref (P.2.1 22), .int (μ.2.1 22 ((μ.2.1 42 x3.toNatClampNeg)).toNatClampNeg)]) 1 rfl ?_
    refine me_iald rfl (g := 22) rfl rfl h.1 ?_
    replace h := h.2
    refine me_icmp rfl rfl (fun c => ?_) (fun c => ?_)
    · replace h := h.1 (ci_eq c)
      refine me_go (pc1 := 121) (lv1 := [(0, .ref P.1), (1, .int x1), (2, .int x2), (3, .int x3)]) (st1 := [.ref P.1]) 1 rfl ?_
      refine me_getf (v := .ref (P.2.1 51)) rfl rfl rfl ?_
      refine me_go (pc1 := 125) (lv1 := [(0, .ref P.1), (1, .int x1), (2, .int x2), (3, .int x3)]) (st1 := [.int x3, .ref (P.2.1 51)]) 1 rfl ?_
      refine me_bald rfl (g := 51) rfl (Or.inr rfl) h.1 ?_
      replace h := h.2
      refine me_go (pc1 := 127) (lv1 := [(0, .ref P.1), (1, .int x1), (2, .int x2), (3, .int x3)]) (st1 := [.ref P.1, .int (μ.2.1 51 x3.toNatClampNeg)]) 1 rfl ?_
      refine me_getf (v := .ref (P.2.1 51)) rfl rfl rfl ?_
      refine me_go (pc1 := 131) (lv1 := [(0, .ref P.1), (1, .int x1), (2, .int x2), (3, .int x3)]) (st1 := [.int x1, .ref (P.2.1 51), .int (μ.2.1 51 x3.toNatClampNeg)]) 1 rfl ?_
      refine me_bald rfl (g := 51) rfl (Or.inr rfl) h.1 ?_
      replace h := h.2
      refine me_icmp rfl rfl (fun c => ?_) (fun c => ?_)
      · replace h := h.1 (ci_eq c)
        refine me_go (pc1 := 147) (lv1 := [(0, .ref P.1), (1, .int x1), (2, .int x2), (3, .int x3)]) (st1 := [.ref P.1, .int 5, .ref P.1]) 3 rfl ?_
        refine me_getf (v := .ref (P.2.1 21)) rfl rfl rfl ?_
        refine me_go (pc1 := 151) (lv1 := [(0, .ref P.1), (1, .int x1), (2, .int x2), (3, .int x3)]) (st1 := [.int x2, .ref (P.2.1 21), .int 5, .ref P.1]) 1 rfl ?_
        refine me_iald rfl (g := 21) rfl rfl h.1 ?_
        replace h := h.2
        refine me_callN rfl rfl rfl (h.mono (fun r1 μ1 h => ?_) (fun _ h => h))
        refine me_go (pc1 := 92) (lv1 := [(3, .int (x3 + 1)), (0, .ref P.1), (1, .int x1), (2, .int x2)]) (st1 := []) 3 rfl ?_
        refine me_lv [(0, .ref P.1), (1, .int x1), (2, .int x2), (3, .int (x3 + 1))] (fl_c rfl (fl_c rfl (fl_c rfl (fl_c rfl fl_0)))) ?_
        exact h
      · replace h := h.2 (cn_eq c)
        refine me_go (pc1 := 136) (lv1 := [(0, .ref P.1), (1, .int x1), (2, .int x2), (3, .int x3)]) (st1 := [.ref P.1]) 1 rfl ?_
        refine me_getf (v := .ref (P.2.1 51)) rfl rfl rfl ?_
        refine me_go (pc1 := 140) (lv1 := [(0, .ref P.1), (1, .int x1), (2, .int x2), (3, .int x3)]) (st1 := [.int x3, .ref (P.2.1 51)]) 1 rfl ?_
        refine me_bald rfl (g := 51) rfl (Or.inr rfl) h.1 ?_
        replace h := h.2
        refine me_ifc rfl rfl (fun c => ?_) (fun c => ?_)
        · replace h := h.1 (ci_eq c)
          refine me_go (pc1 := 159) (lv1 := [(0, .ref P.1), (1, .int x1), (2, .int x2), (3, .int x3)]) (st1 := [.ref P.1]) 1 rfl ?_
          refine me_getf (v := .ref (P.2.1 50)) rfl rfl rfl ?_
          refine me_go (pc1 := 163) (lv1 := [(0, .ref P.1), (1, .int x1), (2, .int x2), (3, .int x3)]) (st1 := [.int x1, .ref (P.2.1 50)]) 1 rfl ?_
          refine me_iald rfl (g := 50) rfl rfl h.1 ?_
          replace h := h.2
          refine me_ifc rfl rfl (fun c => ?_) (fun c => ?_)
          · replace h := h.1 (ci_ge c)
            refine me_go (pc1 := 92) (lv1 := [(3, .int (x3 + 1)), (0, .ref P.1), (1, .int x1), (2, .int x2)]) (st1 := []) 2 rfl ?_
            refine me_lv [(0, .ref P.1), (1, .int x1), (2, .int x2), (3, .int (x3 + 1))] (fl_c rfl (fl_c rfl (fl_c rfl (fl_c rfl fl_0)))) ?_
            exact h
          · replace h := h.2 (cn_ge c)
            refine me_go (pc1 := 168) (lv1 := [(0, .ref P.1), (1, .int x1), (2, .int x2), (3, .int x3)]) (st1 := [.ref P.1]) 1 rfl ?_
            refine me_getf (v := .ref (P.2.1 50)) rfl rfl rfl ?_
            refine me_go (pc1 := 173) (lv1 := [(0, .ref P.1), (1, .int x1), (2, .int x2), (3, .int x3)]) (st1 := [.int x3, .int x1, .ref (P.2.1 50)]) 2 rfl ?_
            have hi := h.1
            replace h := h.2
            refine me_iast rfl (g := 50) rfl rfl hi ?_
            refine me_go (pc1 := 92) (lv1 := [(3, .int (x3 + 1)), (0, .ref P.1), (1, .int x1), (2, .int x2)]) (st1 := []) 2 rfl ?_
            refine me_lv [(0, .ref P.1), (1, .int x1), (2, .int x2), (3, .int (x3 + 1))] (fl_c rfl (fl_c rfl (fl_c rfl (fl_c rfl fl_0)))) ?_
            exact h
        · replace h := h.2 (cn_eq c)
          refine me_go (pc1 := 147) (lv1 := [(0, .ref P.1), (1, .int x1), (2, .int x2), (3, .int x3)]) (st1 := [.ref P.1, .int 5, .ref P.1]) 3 rfl ?_
          refine me_getf (v := .ref (P.2.1 21)) rfl rfl rfl ?_
          refine me_go (pc1 := 151) (lv1 := [(0, .ref P.1), (1, .int x1), (2, .int x2), (3, .int x3)]) (st1 := [.int x2, .ref (P.2.1 21), .int 5, .ref P.1]) 1 rfl ?_
          refine me_iald rfl (g := 21) rfl rfl h.1 ?_
          replace h := h.2
          refine me_callN rfl rfl rfl (h.mono (fun r2 μ2 h => ?_) (fun _ h => h))
          refine me_go (pc1 := 92) (lv1 := [(3, .int (x3 + 1)), (0, .ref P.1), (1, .int x1), (2, .int x2)]) (st1 := []) 3 rfl ?_
          refine me_lv [(0, .ref P.1), (1, .int x1), (2, .int x2), (3, .int (x3 + 1))] (fl_c rfl (fl_c rfl (fl_c rfl (fl_c rfl fl_0)))) ?_
          exact h
    · replace h := h.2 (cn_eq c)
      refine me_go (pc1 := 92) (lv1 := [(3, .int (x3 + 1)), (0, .ref P.1), (1, .int x1), (2, .int x2)]) (st1 := []) 3 rfl ?_
      refine me_lv [(0, .ref P.1), (1, .int x1), (2, .int x2), (3, .int (x3 + 1))] (fl_c rfl (fl_c rfl (fl_c rfl (fl_c rfl fl_0)))) ?_
      exact h
theorem v_declareAll_187 {X : ev_X} {W : Nat → Prop} {d : Nat} {P : MP} {μ : MS} {R : Int32 → MS → Prop} {T : MS → Prop} (x1 : Int32) (x2 : Int32) (x3 : Int32) (h : ((x3.toInt < (0 : Int) → (MI x2 (μ.2.2 24) ∧ ME X W true d 345 214 [(0, .ref P.1), (1, .int x1), (2, .int x2), (3, .int (μ.2.1 24 x2.toNatClampNeg))] [] P μ R T)) ∧ ((0 : Int) ≤ x3.toInt → MC X W true d 346 [.ref P.1, .int x1, .int x3] P μ (fun r1 μ1 => (MI x3 (μ1.2.2 27) ∧ ME X W true d 345 187 [(0, .ref P.1), (1, .int x1), (2, .int x2), (3, .int (μ1.2.1 27 x3.toNatClampNeg))] [] P μ1 R T)) (fun _ => False)))) : ME X W true d 345 187 [(0, .ref P.1), (1, .int x1), (2, .int x2), (3, .int x3)] [] P μ R T := by
  refine me_go (pc1 := 188) (lv1 := [(0, .ref P.1), (1, .int x1), (2, .int x2), (3, .int x3)]) (st1 := [.int x3]) 1 rfl ?_
  refine me_ifc rfl rfl (fun c => ?_) (fun c => ?_)
  · replace h := h.1 (ci_lt c)
    refine me_go (pc1 := 208) (lv1 := [(0, .ref P.1), (1, .int x1), (2, .int x2), (3, .int x3)]) (st1 := [.ref P.1]) 1 rfl ?_
    refine me_getf (v := .ref (P.2.1 24)) rfl rfl rfl ?_
    refine me_go (pc1 := 212) (lv1 := [(0, .ref P.1), (1, .int x1), (2, .int x2), (3, .int x3)]) (st1 := [.int x2, .ref (P.2.1 24)]) 1 rfl ?_
    refine me_iald rfl (g := 24) rfl rfl h.1 ?_
    replace h := h.2
    refine me_go (pc1 := 214) (lv1 := [(3, .int (μ.2.1 24 x2.toNatClampNeg)), (0, .ref P.1), (1, .int x1), (2, .int x2)]) (st1 := []) 1 rfl ?_
    refine me_lv [(0, .ref P.1), (1, .int x1), (2, .int x2), (3, .int (μ.2.1 24 x2.toNatClampNeg))] (fl_c rfl (fl_c rfl (fl_c rfl (fl_c rfl fl_0)))) ?_
    exact h
  · replace h := h.2 (cn_lt c)
    refine me_go (pc1 := 194) (lv1 := [(0, .ref P.1), (1, .int x1), (2, .int x2), (3, .int x3)]) (st1 := [.int x3, .int x1, .ref P.1]) 3 rfl ?_
    refine me_callN rfl rfl rfl (h.mono (fun r1 μ1 h => ?_) (fun _ h => h))
    refine me_go (pc1 := 198) (lv1 := [(0, .ref P.1), (1, .int x1), (2, .int x2), (3, .int x3)]) (st1 := [.ref P.1]) 1 rfl ?_
    refine me_getf (v := .ref (P.2.1 27)) rfl rfl rfl ?_
    refine me_go (pc1 := 202) (lv1 := [(0, .ref P.1), (1, .int x1), (2, .int x2), (3, .int x3)]) (st1 := [.int x3, .ref (P.2.1 27)]) 1 rfl ?_
    refine me_iald rfl (g := 27) rfl rfl h.1 ?_
    replace h := h.2
    refine me_go (pc1 := 187) (lv1 := [(3, .int (μ1.2.1 27 x3.toNatClampNeg)), (0, .ref P.1), (1, .int x1), (2, .int x2)]) (st1 := []) 2 rfl ?_
    refine me_lv [(0, .ref P.1), (1, .int x1), (2, .int x2), (3, .int (μ1.2.1 27 x3.toNatClampNeg))] (fl_c rfl (fl_c rfl (fl_c rfl (fl_c rfl fl_0)))) ?_
    exact h
theorem v_declareAll_214 {X : ev_X} {W : Nat → Prop} {d : Nat} {P : MP} {μ : MS} {R : Int32 → MS → Prop} {T : MS → Prop} (x1 : Int32) (x2 : Int32) (x3 : Int32) (h : ((x3.toInt < (0 : Int) → ME X W true d 345 27 [(0, .ref P.1), (1, .int (x1 + 1))] [] P μ R T) ∧ ((0 : Int) ≤ x3.toInt → MC X W true d 347 [.ref P.1, .int x1, .int x3] P μ (fun r1 μ1 => (MI x3 (μ1.2.2 27) ∧ ME X W true d 345 214 [(0, .ref P.1), (1, .int x1), (2, .int x2), (3, .int (μ1.2.1 27 x3.toNatClampNeg))] [] P μ1 R T)) (fun _ => False)))) : ME X W true d 345 214 [(0, .ref P.1), (1, .int x1), (2, .int x2), (3, .int x3)] [] P μ R T := by
  refine me_go (pc1 := 215) (lv1 := [(0, .ref P.1), (1, .int x1), (2, .int x2), (3, .int x3)]) (st1 := [.int x3]) 1 rfl ?_
  refine me_ifc rfl rfl (fun c => ?_) (fun c => ?_)
  · replace h := h.1 (ci_lt c)
    refine me_go (pc1 := 27) (lv1 := [(1, .int (x1 + 1)), (0, .ref P.1), (2, .int x2), (3, .int x3)]) (st1 := []) 2 rfl ?_
    refine me_lv [(0, .ref P.1), (1, .int (x1 + 1))] (fl_c rfl (fl_c rfl fl_0)) ?_
    exact h
  · replace h := h.2 (cn_lt c)
    refine me_go (pc1 := 221) (lv1 := [(0, .ref P.1), (1, .int x1), (2, .int x2), (3, .int x3)]) (st1 := [.int x3, .int x1, .ref P.1]) 3 rfl ?_
    refine me_callN rfl rfl rfl (h.mono (fun r1 μ1 h => ?_) (fun _ h => h))
    refine me_go (pc1 := 225) (lv1 := [(0, .ref P.1), (1, .int x1), (2, .int x2), (3, .int x3)]) (st1 := [.ref P.1]) 1 rfl ?_
    refine me_getf (v := .ref (P.2.1 27)) rfl rfl rfl ?_
    refine me_go (pc1 := 229) (lv1 := [(0, .ref P.1), (1, .int x1), (2, .int x2), (3, .int x3)]) (st1 := [.int x3, .ref (P.2.1 27)]) 1 rfl ?_
    refine me_iald rfl (g := 27) rfl rfl h.1 ?_
    replace h := h.2
    refine me_go (pc1 := 214) (lv1 := [(3, .int (μ1.2.1 27 x3.toNatClampNeg)), (0, .ref P.1), (1, .int x1), (2, .int x2)]) (st1 := []) 2 rfl ?_
    refine me_lv [(0, .ref P.1), (1, .int x1), (2, .int x2), (3, .int (μ1.2.1 27 x3.toNatClampNeg))] (fl_c rfl (fl_c rfl (fl_c rfl (fl_c rfl fl_0)))) ?_
    exact h
theorem v_imported_0 {X : ev_X} {W : Nat → Prop} {d : Nat} {P : MP} {μ : MS} {R : Int32 → MS → Prop} {T : MS → Prop} (x1 : Int32) (x2 : Int32) (h : (MI x2 (μ.2.2 22) ∧ (MI x1 (μ.2.2 42) ∧ (MI (μ.2.1 42 x1.toNatClampNeg) (μ.2.2 22) ∧ (((μ.2.1 22 x2.toNatClampNeg) = (μ.2.1 22 ((μ.2.1 42 x1.toNatClampNeg)).toNatClampNeg) → (MI x2 (μ.2.2 21) ∧ MC X W true d 290 [.ref P.1, .int 5, .int (μ.2.1 21 x2.toNatClampNeg)] P μ (fun r1 μ1 => ME X W true d 346 53 [(0, .ref P.1), (1, .int x1), (2, .int x2), (3, .int (-1)), (4, .int (x1 - 1))] [] P μ1 R T) (fun _ => False))) ∧ (¬ (μ.2.1 22 x2.toNatClampNeg) = (μ.2.1 22 ((μ.2.1 42 x1.toNatClampNeg)).toNatClampNeg) → (MI x2 (μ.2.2 22) ∧ MC X W true d 344 [.ref P.1, .int x1, .int (μ.2.1 22 x2.toNatClampNeg), .int 2] P μ (fun r2 μ2 => ((r2 = 0 → ME X W true d 346 53 [(0, .ref P.1), (1, .int x1), (2, .int x2), (3, .int (-1)), (4, .int (x1 - 1))] [] P μ2 R T) ∧ (¬ r2 = 0 → (MI x2 (μ2.2.2 21) ∧ MC X W true d 290 [.ref P.1, .int 5, .int (μ2.2.1 21 x2.toNatClampNeg)] P μ2 (fun r3 μ3 => ME X W true d 346 53 [(0, .ref P.1), (1, .int x1), (2, .int x2), (3, .int (-1)), (4, .int (x1 - 1))] [] P μ3 R T) (fun _ => False))))) (fun _ => False)))))))) : ME X W true d 346 0 [(0, .ref P.1), (1, .int x1), (2, .int x2)] [] P μ R T := by
  refine me_go (pc1 := 1) (lv1 := [(0, .ref P.1), (1, .int x1), (2, .int x2)]) (st1 := [.ref P.1]) 1 rfl ?_
  refine me_getf (v := .ref (P.2.1 22)) rfl rfl rfl ?_
  refine me_go (pc1 := 5) (lv1 := [(0, .ref P.1), (1, .int x1), (2, .int x2)]) (st1 := [.int x2, .ref (P.2.1 22)]) 1 rfl ?_
  refine me_iald rfl (g := 22) rfl rfl h.1 ?_
  replace h := h.2
  refine me_go (pc1 := 7) (lv1 := [(0, .ref P.1), (1, .int x1), (2, .int x2)]) (st1 := [.ref P.1, .int (μ.2.1 22 x2.toNatClampNeg)]) 1 rfl ?_
  refine me_getf (v := .ref (P.2.1 22)) rfl rfl rfl ?_
  refine me_go (pc1 := 11) (lv1 := [(0, .ref P.1), (1, .int x1), (2, .int x2)]) (st1 := [.ref P.1, .ref (P.2.1 22), .int (μ.2.1 22 x2.toNatClampNeg)]) 1 rfl ?_
  refine me_getf (v := .ref (P.2.1 42)) rfl rfl rfl ?_
  refine me_go (pc1 := 15) (lv1 := [(0, .ref P.1), (1, .int x1), (2, .int x2)]) (st1 := [.int x1, .ref (P.2.1 42), .ref (P.2.1 22), .int (μ.2.1 22 x2.toNatClampNeg)]) 1 rfl ?_
  refine me_iald rfl (g := 42) rfl rfl h.1 ?_
  replace h := h.2
  refine me_iald rfl (g := 22) rfl rfl h.1 ?_
  replace h := h.2
  refine me_icmp rfl rfl (fun c => ?_) (fun c => ?_)
  · replace h := h.1 (ci_eq c)
    refine me_go (pc1 := 38) (lv1 := [(0, .ref P.1), (1, .int x1), (2, .int x2)]) (st1 := [.ref P.1, .int 5, .ref P.1]) 3 rfl ?_
    refine me_getf (v := .ref (P.2.1 21)) rfl rfl rfl ?_
    refine me_go (pc1 := 42) (lv1 := [(0, .ref P.1), (1, .int x1), (2, .int x2)]) (st1 := [.int x2, .ref (P.2.1 21), .int 5, .ref P.1]) 1 rfl ?_
    refine me_iald rfl (g := 21) rfl rfl h.1 ?_
    replace h := h.2
    refine me_callN rfl rfl rfl (h.mono (fun r1 μ1 h => ?_) (fun _ h => h))
    refine me_go (pc1 := 53) (lv1 := [(4, .int (x1 - 1)), (3, .int (-1)), (0, .ref P.1), (1, .int x1), (2, .int x2)]) (st1 := []) 6 rfl ?_
    refine me_lv [(0, .ref P.1), (1, .int x1), (2, .int x2), (3, .int (-1)), (4, .int (x1 - 1))] (fl_c rfl (fl_c rfl (fl_c rfl (fl_c rfl (fl_c rfl fl_0))))) ?_
    exact h
  · replace h := h.2 (cn_eq c)
    refine me_go (pc1 := 23) (lv1 := [(0, .ref P.1), (1, .int x1), (2, .int x2)]) (st1 := [.ref P.1, .int x1, .ref P.1]) 3 rfl ?_
    refine me_getf (v := .ref (P.2.1 22)) rfl rfl rfl ?_
    refine me_go (pc1 := 27) (lv1 := [(0, .ref P.1), (1, .int x1), (2, .int x2)]) (st1 := [.int x2, .ref (P.2.1 22), .int x1, .ref P.1]) 1 rfl ?_
    refine me_iald rfl (g := 22) rfl rfl h.1 ?_
    replace h := h.2
    refine me_go (pc1 := 29) (lv1 := [(0, .ref P.1), (1, .int x1), (2, .int x2)]) (st1 := [.int 2, .int (μ.2.1 22 x2.toNatClampNeg), .int x1, .ref P.1]) 1 rfl ?_
    refine me_callN rfl rfl rfl (h.mono (fun r2 μ2 h => ?_) (fun _ h => h))
    refine me_ifc rfl rfl (fun c => ?_) (fun c => ?_)
    · replace h := h.1 (ci_eq c)
      refine me_go (pc1 := 53) (lv1 := [(4, .int (x1 - 1)), (3, .int (-1)), (0, .ref P.1), (1, .int x1), (2, .int x2)]) (st1 := []) 6 rfl ?_
      refine me_lv [(0, .ref P.1), (1, .int x1), (2, .int x2), (3, .int (-1)), (4, .int (x1 - 1))] (fl_c rfl (fl_c rfl (fl_c rfl (fl_c rfl (fl_c rfl fl_0))))) ?_
      exact h
    · replace h := h.2 (cn_eq c)
      refine me_go (pc1 := 38) (lv1 := [(0, .ref P.1), (1, .int x1), (2, .int x2)]) (st1 := [.ref P.1, .int 5, .ref P.1]) 3 rfl ?_
      refine me_getf (v := .ref (P.2.1 21)) rfl rfl rfl ?_
      refine me_go (pc1 := 42) (lv1 := [(0, .ref P.1), (1, .int x1), (2, .int x2)]) (st1 := [.int x2, .ref (P.2.1 21), .int 5, .ref P.1]) 1 rfl ?_
      refine me_iald rfl (g := 21) rfl rfl h.1 ?_
      replace h := h.2
      refine me_callN rfl rfl rfl (h.mono (fun r3 μ3 h => ?_) (fun _ h => h))
      refine me_go (pc1 := 53) (lv1 := [(4, .int (x1 - 1)), (3, .int (-1)), (0, .ref P.1), (1, .int x1), (2, .int x2)]) (st1 := []) 6 rfl ?_
      refine me_lv [(0, .ref P.1), (1, .int x1), (2, .int x2), (3, .int (-1)), (4, .int (x1 - 1))] (fl_c rfl (fl_c rfl (fl_c rfl (fl_c rfl (fl_c rfl fl_0))))) ?_
      exact h
theorem v_imported_53 {X : ev_X} {W : Nat → Prop} {d : Nat} {P : MP} {μ : MS} {R : Int32 → MS → Prop} {T : MS → Prop} (x1 : Int32) (x2 : Int32) (x3 : Int32) (x4 : Int32) (h : ((x4.toInt < (0 : Int) → (((0 : Int) ≤ x3.toInt → (MI x2 (μ.2.2 22) ∧ MC X W true d 340 [.ref P.1, .int (μ.2.1 22 x2.toNatClampNeg), .int 2, .int x2, .int x3] P μ (fun r1 μ1 => (MI x1 (μ1.2.2 49) ∧ R 0 (mA1 μ1 49 x1.toNatClampNeg (μ1.1 43)))) (fun _ => False))) ∧ (x3.toInt < (0 : Int) → (MI x2 (μ.2.2 22) ∧ (MI x1 (μ.2.2 42) ∧ (MI (μ.2.1 42 x1.toNatClampNeg) (μ.2.2 22) ∧ (((μ.2.1 22 x2.toNatClampNeg) = (μ.2.1 22 ((μ.2.1 42 x1.toNatClampNeg)).toNatClampNeg) → (MI x2 (μ.2.2 22) ∧ MC X W true d 340 [.ref P.1, .int (μ.2.1 22 x2.toNatClampNeg), .int 2, .int x2, .int x3] P μ (fun r2 μ2 => (MI x1 (μ2.2.2 49) ∧ R 0 (mA1 μ2 49 x1.toNatClampNeg (μ2.1 43)))) (fun _ => False))) ∧ (¬ (μ.2.1 22 x2.toNatClampNeg) = (μ.2.1 22 ((μ.2.1 42 x1.toNatClampNeg)).toNatClampNeg) → (MI x2 (μ.2.2 21) ∧ MC X W true d 290 [.ref P.1, .int 6, .int (μ.2.1 21 x2.toNatClampNeg)] P μ (fun r3 μ3 => (MI x2 (μ3.2.2 22) ∧ MC X W true d 340 [.ref P.1, .int (μ3.2.1 22 x2.toNatClampNeg), .int 2, .int x2, .int x3] P μ3 (fun r4 μ4 => (MI x1 (μ4.2.2 49) ∧ R 0 (mA1 μ4 49 x1.toNatClampNeg (μ4.1 43)))) (fun _ => False))) (fun _ => False)))))))))) ∧ ((0 : Int) ≤ x4.toInt → (MI x4 (μ.2.2 42) ∧ (MI (μ.2.1 42 x4.toNatClampNeg) (μ.2.2 22) ∧ (MI x2 (μ.2.2 22) ∧ ((¬ (μ.2.1 22 ((μ.2.1 42 x4.toNatClampNeg)).toNatClampNeg) = (μ.2.1 22 x2.toNatClampNeg) → ME X W true d 346 53 [(0, .ref P.1), (1, .int x1), (2, .int x2), (3, .int x3), (4, .int (x4 + (-1)))] [] P μ R T) ∧ ((μ.2.1 22 ((μ.2.1 42 x4.toNatClampNeg)).toNatClampNeg) = (μ.2.1 22 x2.toNatClampNeg) → (MI x4 (μ.2.2 51) ∧ ((¬ (μ.2.1 51 x4.toNatClampNeg) = 0 → ME X W true d 346 53 [(0, .ref P.1), (1, .int x1), (2, .int x2), (3, .int x3), (4, .int (x4 + (-1)))] [] P μ R T) ∧ ((μ.2.1 51 x4.toNatClampNeg) = 0 → ME X W true d 346 53 [(0, .ref P.1), (1, .int x1), (2, .int x2), (3, .int x4), (4, .int (x4 + (-1)))] [] P μ R T))))))))))) : ME X W true d 346 53 [(0, .ref P.1), (1, .int x1), (2, .int x2), (3, .int x3), (4, .int x4)] [] P μ R T := by
  refine me_go (pc1 := 55) (lv1 := [(0, .ref P.1), (1, .int x1), (2, .int x2), (3, .int x3), (4, .int x4)]) (st1 := [.int x4]) 1 rfl ?_
  refine me_ifc rfl rfl (fun c => ?_) (fun c => ?_)
  · replace h := h.1 (ci_lt c)
    refine me_go (pc1 := 103) (lv1 := [(0, .ref P.1), (1, .int x1), (2, .int x2), (3, .int x3), (4, .int x4)]) (st1 := [.int x3]) 1 rfl ?_
    refine me_ifc rfl rfl (fun c => ?_) (fun c => ?_)
    · replace h := h.1 (ci_ge c)
      refine me_go (pc1 := 140) (lv1 := [(0, .ref P.1), (1, .int x1), (2, .int x2), (3, .int x3), (4, .int x4)]) (st1 := [.ref P.1, .ref P.1]) 2 rfl ?_
      refine me_getf (v := .ref (P.2.1 22)) rfl rfl rfl ?_
      refine me_go (pc1 := 144) (lv1 := [(0, .ref P.1), (1, .int x1), (2, .int x2), (3, .int x3), (4, .int x4)]) (st1 := [.int x2, .ref (P.2.1 22), .ref P.1]) 1 rfl ?_
      refine me_iald rfl (g := 22) rfl rfl h.1 ?_
      replace h := h.2
      refine me_go (pc1 := 148) (lv1 := [(0, .ref P.1), (1, .int x1), (2, .int x2), (3, .int x3), (4, .int x4)]) (st1 := [.int x3, .int x2, .int 2, .int (μ.2.1 22 x2.toNatClampNeg), .ref P.1]) 3 rfl ?_
      refine me_callN rfl rfl rfl (h.mono (fun r1 μ1 h => ?_) (fun _ h => h))
      refine me_go (pc1 := 152) (lv1 := [(0, .ref P.1), (1, .int x1), (2, .int x2), (3, .int x3), (4, .int x4)]) (st1 := [.ref P.1]) 1 rfl ?_
      refine me_getf (v := .ref (P.2.1 49)) rfl rfl rfl ?_
      refine me_go (pc1 := 157) (lv1 := [(0, .ref P.1), (1, .int x1), (2, .int x2), (3, .int x3), (4, .int x4)]) (st1 := [.ref P.1, .int x1, .ref (P.2.1 49)]) 2 rfl ?_
      refine me_getf (v := .int (μ1.1 43)) rfl rfl rfl ?_
      have hi := h.1
      replace h := h.2
      refine me_iast rfl (g := 49) rfl rfl hi ?_
      exact me_ret (v := none) (r := 0) rfl rfl rfl h
    · replace h := h.2 (cn_ge c)
      refine me_go (pc1 := 107) (lv1 := [(0, .ref P.1), (1, .int x1), (2, .int x2), (3, .int x3), (4, .int x4)]) (st1 := [.ref P.1]) 1 rfl ?_
      refine me_getf (v := .ref (P.2.1 22)) rfl rfl rfl ?_
      refine me_go (pc1 := 111) (lv1 := [(0, .ref P.1), (1, .int x1), (2, .int x2), (3, .int x3), (4, .int x4)]) (st1 := [.int x2, .ref (P.2.1 22)]) 1 rfl ?_
      refine me_iald rfl (g := 22) rfl rfl h.1 ?_
      replace h := h.2
      refine me_go (pc1 := 113) (lv1 := [(0, .ref P.1), (1, .int x1), (2, .int x2), (3, .int x3), (4, .int x4)]) (st1 := [.ref P.1, .int (μ.2.1 22 x2.toNatClampNeg)]) 1 rfl ?_
      refine me_getf (v := .ref (P.2.1 22)) rfl rfl rfl ?_
      refine me_go (pc1 := 117) (lv1 := [(0, .ref P.1), (1, .int x1), (2, .int x2), (3, .int x3), (4, .int x4)]) (st1 := [.ref P.1, .ref (P.2.1 22), .int (μ.2.1 22 x2.toNatClampNeg)]) 1 rfl ?_
      refine me_getf (v := .ref (P.2.1 42)) rfl rfl rfl ?_
      refine me_go (pc1 := 121) (lv1 := [(0, .ref P.1), (1, .int x1), (2, .int x2), (3, .int x3), (4, .int x4)]) (st1 := [.int x1, .ref (P.2.1 42), .ref (P.2.1 22), .int (μ.2.1 22 x2.toNatClampNeg)]) 1 rfl ?_
      refine me_iald rfl (g := 42) rfl rfl h.1 ?_
      replace h := h.2
      refine me_iald rfl (g := 22) rfl rfl h.1 ?_
      replace h := h.2
      refine me_icmp rfl rfl (fun c => ?_) (fun c => ?_)
      · replace h := h.1 (ci_eq c)
        refine me_go (pc1 := 140) (lv1 := [(0, .ref P.1), (1, .int x1), (2, .int x2), (3, .int x3), (4, .int x4)]) (st1 := [.ref P.1, .ref P.1]) 2 rfl ?_
        refine me_getf (v := .ref (P.2.1 22)) rfl rfl rfl ?_
        refine me_go (pc1 := 144) (lv1 := [(0, .ref P.1), (1, .int x1), (2, .int x2), (3, .int x3), (4, .int x4)]) (st1 := [.int x2, .ref (P.2.1 22), .ref P.1]) 1 rfl ?_
        refine me_iald rfl (g := 22) rfl rfl h.1 ?_
        replace h := h.2
        refine me_go (pc1 := 148) (lv1 := [(0, .ref P.1), (1, .int x1), (2, .int x2), (3, .int x3), (4, .int x4)]) (st1 := [.int x3, .int x2, .int 2, .int (μ.2.1 22 x2.toNatClampNeg), .ref P.1]) 3 rfl ?_
        refine me_callN rfl rfl rfl (h.mono (fun r2 μ2 h => ?_) (fun _ h => h))
        refine me_go (pc1 := 152) (lv1 := [(0, .ref P.1), (1, .int x1), (2, .int x2), (3, .int x3), (4, .int x4)]) (st1 := [.ref P.1]) 1 rfl ?_
        refine me_getf (v := .ref (P.2.1 49)) rfl rfl rfl ?_
        refine me_go (pc1 := 157) (lv1 := [(0, .ref P.1), (1, .int x1), (2, .int x2), (3, .int x3), (4, .int x4)]) (st1 := [.ref P.1, .int x1, .ref (P.2.1 49)]) 2 rfl ?_
        refine me_getf (v := .int (μ2.1 43)) rfl rfl rfl ?_
        have hi := h.1
        replace h := h.2
        refine me_iast rfl (g := 49) rfl rfl hi ?_
        exact me_ret (v := none) (r := 0) rfl rfl rfl h
      · replace h := h.2 (cn_eq c)
        refine me_go (pc1 := 130) (lv1 := [(0, .ref P.1), (1, .int x1), (2, .int x2), (3, .int x3), (4, .int x4)]) (st1 := [.ref P.1, .int 6, .ref P.1]) 3 rfl ?_
        refine me_getf (v := .ref (P.2.1 21)) rfl rfl rfl ?_
        refine me_go (pc1 := 134) (lv1 := [(0, .ref P.1), (1, .int x1), (2, .int x2), (3, .int x3), (4, .int x4)]) (st1 := [.int x2, .ref (P.2.1 21), .int 6, .ref P.1]) 1 rfl ?_
        refine me_iald rfl (g := 21) rfl rfl h.1 ?_
        replace h := h.2
        refine me_callN rfl rfl rfl (h.mono (fun r3 μ3 h => ?_) (fun _ h => h))
        refine me_go (pc1 := 140) (lv1 := [(0, .ref P.1), (1, .int x1), (2, .int x2), (3, .int x3), (4, .int x4)]) (st1 := [.ref P.1, .ref P.1]) 2 rfl ?_
        refine me_getf (v := .ref (P.2.1 22)) rfl rfl rfl ?_
        refine me_go (pc1 := 144) (lv1 := [(0, .ref P.1), (1, .int x1), (2, .int x2), (3, .int x3), (4, .int x4)]) (st1 := [.int x2, .ref (P.2.1 22), .ref P.1]) 1 rfl ?_
        refine me_iald rfl (g := 22) rfl rfl h.1 ?_
        replace h := h.2
        refine me_go (pc1 := 148) (lv1 := [(0, .ref P.1), (1, .int x1), (2, .int x2), (3, .int x3), (4, .int x4)]) (st1 := [.int x3, .int x2, .int 2, .int (μ3.2.1 22 x2.toNatClampNeg), .ref P.1]) 3 rfl ?_
        refine me_callN rfl rfl rfl (h.mono (fun r4 μ4 h => ?_) (fun _ h => h))
        refine me_go (pc1 := 152) (lv1 := [(0, .ref P.1), (1, .int x1), (2, .int x2), (3, .int x3), (4, .int x4)]) (st1 := [.ref P.1]) 1 rfl ?_
        refine me_getf (v := .ref (P.2.1 49)) rfl rfl rfl ?_
        refine me_go (pc1 := 157) (lv1 := [(0, .ref P.1), (1, .int x1), (2, .int x2), (3, .int x3), (4, .int x4)]) (st1 := [.ref P.1, .int x1, .ref (P.2.1 49)]) 2 rfl ?_
        refine me_getf (v := .int (μ4.1 43)) rfl rfl rfl ?_
        have hi := h.1
        replace h := h.2
        refine me_iast rfl (g := 49) rfl rfl hi ?_
        exact me_ret (v := none) (r := 0) rfl rfl rfl h
  · replace h := h.2 (cn_lt c)
    refine me_go (pc1 := 59) (lv1 := [(0, .ref P.1), (1, .int x1), (2, .int x2), (3, .int x3), (4, .int x4)]) (st1 := [.ref P.1]) 1 rfl ?_
    refine me_getf (v := .ref (P.2.1 22)) rfl rfl rfl ?_
    refine me_go (pc1 := 63) (lv1 := [(0, .ref P.1), (1, .int x1), (2, .int x2), (3, .int x3), (4, .int x4)]) (st1 := [.ref P.1, .ref (P.2.1 22)]) 1 rfl ?_
    refine me_getf (v := .ref (P.2.1 42)) rfl rfl rfl ?_
    refine me_go (pc1 := 68) (lv1 := [(0, .ref P.1), (1, .int x1), (2, .int x2), (3, .int x3), (4, .int x4)]) (st1 := [.int x4, .ref (P.2.1 42), .ref (P.2.1 22)]) 1 rfl ?_
    refine me_iald rfl (g := 42) rfl rfl h.1 ?_
    replace h := h.2
    refine me_iald rfl (g := 22) rfl rfl h.1 ?_
    replace h := h.2
    refine me_go (pc1 := 71) (lv1 := [(0, .ref P.1), (1, .int x1), (2, .int x2), (3, .int x3), (4, .int x4)]) (st1 := [.ref P.1, .int (μ.2.1 22 ((μ.2.1 42 x4.toNatClampNeg)).toNatClampNeg)]) 1 rfl ?_
    refine me_getf (v := .ref (P.2.1 22)) rfl rfl rfl ?_
    refine me_go (pc1 := 75) (lv1 := [(0, .ref P.1), (1, .int x1), (2, .int x2), (3, .int x3), (4, .int x4)]) (st1 := [.int x2, .ref (P.2.1 22), .int (μ.2.1 22 ((μ.2.1 42 x4.toNatClampNeg)).toNatClampNeg)]) 1 rfl ?_
    refine me_iald rfl (g := 22) rfl rfl h.1 ?_
    replace h := h.2
    refine me_icmp rfl rfl (fun c => ?_) (fun c => ?_)
    · replace h := h.1 (ci_ne c)
      refine me_go (pc1 := 53) (lv1 := [(4, .int (x4 + (-1))), (3, .int x3), (0, .ref P.1), (1, .int x1), (2, .int x2)]) (st1 := []) 4 rfl ?_
      refine me_lv [(0, .ref P.1), (1, .int x1), (2, .int x2), (3, .int x3), (4, .int (x4 + (-1)))] (fl_c rfl (fl_c rfl (fl_c rfl (fl_c rfl (fl_c rfl fl_0))))) ?_
      exact h
    · replace h := h.2 (cn_ne c)
      refine me_go (pc1 := 80) (lv1 := [(0, .ref P.1), (1, .int x1), (2, .int x2), (3, .int x3), (4, .int x4)]) (st1 := [.ref P.1]) 1 rfl ?_
      refine me_getf (v := .ref (P.2.1 51)) rfl rfl rfl ?_
      refine me_go (pc1 := 85) (lv1 := [(0, .ref P.1), (1, .int x1), (2, .int x2), (3, .int x3), (4, .int x4)]) (st1 := [.int x4, .ref (P.2.1 51)]) 1 rfl ?_
      refine me_bald rfl (g := 51) rfl (Or.inr rfl) h.1 ?_
      replace h := h.2
      refine me_ifc rfl rfl (fun c => ?_) (fun c => ?_)
      · replace h := h.1 (ci_ne c)
        refine me_go (pc1 := 53) (lv1 := [(4, .int (x4 + (-1))), (3, .int x3), (0, .ref P.1), (1, .int x1), (2, .int x2)]) (st1 := []) 4 rfl ?_
        refine me_lv [(0, .ref P.1), (1, .int x1), (2, .int x2), (3, .int x3), (4, .int (x4 + (-1)))] (fl_c rfl (fl_c rfl (fl_c rfl (fl_c rfl (fl_c rfl fl_0))))) ?_
        exact h
      · replace h := h.2 (cn_ne c)
        refine me_go (pc1 := 53) (lv1 := [(4, .int (x4 + (-1))), (3, .int x4), (0, .ref P.1), (1, .int x1), (2, .int x2)]) (st1 := []) 5 rfl ?_
        refine me_lv [(0, .ref P.1), (1, .int x1), (2, .int x2), (3, .int x4), (4, .int (x4 + (-1)))] (fl_c rfl (fl_c rfl (fl_c rfl (fl_c rfl (fl_c rfl fl_0))))) ?_
        exact h
theorem v_declared_0 {X : ev_X} {W : Nat → Prop} {d : Nat} {P : MP} {μ : MS} {R : Int32 → MS → Prop} {T : MS → Prop} (x1 : Int32) (x2 : Int32) (h : (MI x2 (μ.2.2 20) ∧ ((((μ.2.1 20 x2.toNatClampNeg) = 3 ∨ (μ.2.1 20 x2.toNatClampNeg) = 4) → (MI x2 (μ.2.2 22) ∧ (MI x2 (μ.2.2 20) ∧ (MI x2 (μ.2.2 31) ∧ MC X W true d 348 [.ref P.1, .int x1, .int (μ.2.1 22 x2.toNatClampNeg), .int (μ.2.1 20 x2.toNatClampNeg), .int x2, .int (μ.1 60), .int (μ.2.1 31 x2.toNatClampNeg)] P μ (fun r1 μ1 => (MI (μ1.1 60) (μ1.2.2 61) ∧ ME X W true d 347 376 [(0, .ref P.1), (1, .int x1), (2, .int x2)] [] P (mS1 (mA1 μ1 61 (((μ1.1 60)).toNatClampNeg) x2) 60 ((μ1.1 60) + 1)) R T)) (fun _ => False))))) ∧ (((μ.2.1 20 x2.toNatClampNeg) = 7) → (MI x2 (μ.2.2 22) ∧ ME X W true d 347 143 [(0, .ref P.1), (1, .int x1), (2, .int x2), (3, .int (μ.2.1 22 x2.toNatClampNeg))] [] P μ R T)) ∧ (((μ.2.1 20 x2.toNatClampNeg) = 8) → (MI x2 (μ.2.2 22) ∧ (MI x2 (μ.2.2 31) ∧ MC X W true d 348 [.ref P.1, .int x1, .int (μ.2.1 22 x2.toNatClampNeg), .int 8, .int x2, .int (μ.1 59), .int (μ.2.1 31 x2.toNatClampNeg)] P μ (fun r2 μ2 => ME X W true d 347 376 [(0, .ref P.1), (1, .int x1), (2, .int x2)] [] P (mS1 μ2 59 ((μ2.1 59) + 1)) R T) (fun _ => False)))) ∧ (((μ.2.1 20 x2.toNatClampNeg) = 9) → (MI x1 (μ.2.2 50) ∧ (((0 : Int) ≤ (μ.2.1 50 x1.toNatClampNeg).toInt → (MI x1 (μ.2.2 50) ∧ (MI x2 (μ.2.2 22) ∧ MC X W true d 342 [.ref P.1, .int (μ.2.1 50 x1.toNatClampNeg), .int (μ.2.1 22 x2.toNatClampNeg), .int 0] P μ (fun r3 μ3 => ME X W true d 347 234 [(0, .ref P.1), (1, .int x1), (2, .int x2), (3, .int r3)] [] P μ3 R T) (fun _ => False)))) ∧ ((μ.2.1 50 x1.toNatClampNeg).toInt < (0 : Int) → ME X W true d 347 234 [(0, .ref P.1), (1, .int x1), (2, .int x2), (3, .int (-1))] [] P μ R T)))) ∧ ((∀ v ∈ [(3 : Int32), (4 : Int32), (7 : Int32), (8 : Int32), (9 : Int32)], ¬ (μ.2.1 20 x2.toNatClampNeg) = v) → ME X W true d 347 376 [(0, .ref P.1), (1, .int x1), (2, .int x2)] [] P μ R T)))) : ME X W true d 347 0 [(0, .ref P.1), (1, .int x1), (2, .int x2)] [] P μ R T := by
  refine me_go (pc1 := 1) (lv1 := [(0, .ref P.1), (1, .int x1), (2, .int x2)]) (st1 := [.ref P.1]) 1 rfl ?_
  refine me_getf (v := .ref (P.2.1 20)) rfl rfl rfl ?_
  refine me_go (pc1 := 5) (lv1 := [(0, .ref P.1), (1, .int x1), (2, .int x2)]) (st1 := [.int x2, .ref (P.2.1 20)]) 1 rfl ?_
  refine me_iald rfl (g := 20) rfl rfl h.1 ?_
  replace h := h.2
  have hD := h
  have q6_0 : ((μ.2.1 20 x2.toNatClampNeg) = 3 ∨ (μ.2.1 20 x2.toNatClampNeg) = 4) → ME X W true d 347 48 [(0, .ref P.1), (1, .int x1), (2, .int x2)] [] P μ R T := fun c => by
      replace h := hD.1 c
      refine me_go (pc1 := 51) (lv1 := [(0, .ref P.1), (1, .int x1), (2, .int x2)]) (st1 := [.ref P.1, .int x1, .ref P.1]) 3 rfl ?_
      refine me_getf (v := .ref (P.2.1 22)) rfl rfl rfl ?_
      refine me_go (pc1 := 55) (lv1 := [(0, .ref P.1), (1, .int x1), (2, .int x2)]) (st1 := [.int x2, .ref (P.2.1 22), .int x1, .ref P.1]) 1 rfl ?_
      refine me_iald rfl (g := 22) rfl rfl h.1 ?_
      replace h := h.2
      refine me_go (pc1 := 57) (lv1 := [(0, .ref P.1), (1, .int x1), (2, .int x2)]) (st1 := [.ref P.1, .int (μ.2.1 22 x2.toNatClampNeg), .int x1, .ref P.1]) 1 rfl ?_
      refine me_getf (v := .ref (P.2.1 20)) rfl rfl rfl ?_
      refine me_go (pc1 := 61) (lv1 := [(0, .ref P.1), (1, .int x1), (2, .int x2)]) (st1 := [.int x2, .ref (P.2.1 20), .int (μ.2.1 22 x2.toNatClampNeg), .int x1, .ref P.1]) 1 rfl ?_
      refine me_iald rfl (g := 20) rfl rfl h.1 ?_
      replace h := h.2
      refine me_go (pc1 := 64) (lv1 := [(0, .ref P.1), (1, .int x1), (2, .int x2)]) (st1 := [.ref P.1, .int x2, .int (μ.2.1 20 x2.toNatClampNeg), .int (μ.2.1 22 x2.toNatClampNeg), .int x1, .ref P.1]) 2 rfl ?_
      refine me_getf (v := .int (μ.1 60)) rfl rfl rfl ?_
      refine me_go (pc1 := 68) (lv1 := [(0, .ref P.1), (1, .int x1), (2, .int x2)]) (st1 := [.ref P.1, .int (μ.1 60), .int x2, .int (μ.2.1 20 x2.toNatClampNeg), .int (μ.2.1 22 x2.toNatClampNeg), .int x1, .ref P.1]) 1 rfl ?_
      refine me_getf (v := .ref (P.2.1 31)) rfl rfl rfl ?_
      refine me_go (pc1 := 72) (lv1 := [(0, .ref P.1), (1, .int x1), (2, .int x2)]) (st1 := [.int x2, .ref (P.2.1 31), .int (μ.1 60), .int x2, .int (μ.2.1 20 x2.toNatClampNeg), .int (μ.2.1 22 x2.toNatClampNeg), .int x1, .ref P.1]) 1 rfl ?_
      refine me_iald rfl (g := 31) rfl rfl h.1 ?_
      replace h := h.2
      refine me_callN rfl rfl rfl (h.mono (fun r1 μ1 h => ?_) (fun _ h => h))
      refine me_go (pc1 := 77) (lv1 := [(0, .ref P.1), (1, .int x1), (2, .int x2)]) (st1 := [.ref P.1]) 1 rfl ?_
      refine me_getf (v := .ref (P.2.1 61)) rfl rfl rfl ?_
      refine me_go (pc1 := 81) (lv1 := [(0, .ref P.1), (1, .int x1), (2, .int x2)]) (st1 := [.ref P.1, .ref (P.2.1 61)]) 1 rfl ?_
      refine me_getf (v := .int (μ1.1 60)) rfl rfl rfl ?_
      refine me_go (pc1 := 85) (lv1 := [(0, .ref P.1), (1, .int x1), (2, .int x2)]) (st1 := [.int x2, .int (μ1.1 60), .ref (P.2.1 61)]) 1 rfl ?_
      have hi := h.1
      replace h := h.2
      refine me_iast rfl (g := 61) rfl rfl hi ?_
      refine me_go (pc1 := 88) (lv1 := [(0, .ref P.1), (1, .int x1), (2, .int x2)]) (st1 := [.ref P.1, .ref P.1]) 2 rfl ?_
      refine me_getf (v := .int (μ1.1 60)) rfl rfl rfl ?_
      refine me_go (pc1 := 93) (lv1 := [(0, .ref P.1), (1, .int x1), (2, .int x2)]) (st1 := [.int ((μ1.1 60) + 1), .ref P.1]) 2 rfl ?_
      refine me_put rfl rfl rfl ?_
      refine me_go (pc1 := 376) (lv1 := [(0, .ref P.1), (1, .int x1), (2, .int x2)]) (st1 := []) 1 rfl ?_
      exact h
  have q6_1 : ((μ.2.1 20 x2.toNatClampNeg) = 7) → ME X W true d 347 136 [(0, .ref P.1), (1, .int x1), (2, .int x2)] [] P μ R T := fun c => by
      replace h := hD.2.1 c
      refine me_go (pc1 := 137) (lv1 := [(0, .ref P.1), (1, .int x1), (2, .int x2)]) (st1 := [.ref P.1]) 1 rfl ?_
      refine me_getf (v := .ref (P.2.1 22)) rfl rfl rfl ?_
      refine me_go (pc1 := 141) (lv1 := [(0, .ref P.1), (1, .int x1), (2, .int x2)]) (st1 := [.int x2, .ref (P.2.1 22)]) 1 rfl ?_
      refine me_iald rfl (g := 22) rfl rfl h.1 ?_
      replace h := h.2
      refine me_go (pc1 := 143) (lv1 := [(3, .int (μ.2.1 22 x2.toNatClampNeg)), (0, .ref P.1), (1, .int x1), (2, .int x2)]) (st1 := []) 1 rfl ?_
      refine me_lv [(0, .ref P.1), (1, .int x1), (2, .int x2), (3, .int (μ.2.1 22 x2.toNatClampNeg))] (fl_c rfl (fl_c rfl (fl_c rfl (fl_c rfl fl_0)))) ?_
      exact h
  have q6_2 : ((μ.2.1 20 x2.toNatClampNeg) = 8) → ME X W true d 347 99 [(0, .ref P.1), (1, .int x1), (2, .int x2)] [] P μ R T := fun c => by
      replace h := hD.2.2.1 c
      refine me_go (pc1 := 102) (lv1 := [(0, .ref P.1), (1, .int x1), (2, .int x2)]) (st1 := [.ref P.1, .int x1, .ref P.1]) 3 rfl ?_
      refine me_getf (v := .ref (P.2.1 22)) rfl rfl rfl ?_
      refine me_go (pc1 := 106) (lv1 := [(0, .ref P.1), (1, .int x1), (2, .int x2)]) (st1 := [.int x2, .ref (P.2.1 22), .int x1, .ref P.1]) 1 rfl ?_
      refine me_iald rfl (g := 22) rfl rfl h.1 ?_
      replace h := h.2
      refine me_go (pc1 := 111) (lv1 := [(0, .ref P.1), (1, .int x1), (2, .int x2)]) (st1 := [.ref P.1, .int x2, .int 8, .int (μ.2.1 22 x2.toNatClampNeg), .int x1, .ref P.1]) 3 rfl ?_
      refine me_getf (v := .int (μ.1 59)) rfl rfl rfl ?_
      refine me_go (pc1 := 115) (lv1 := [(0, .ref P.1), (1, .int x1), (2, .int x2)]) (st1 := [.ref P.1, .int (μ.1 59), .int x2, .int 8, .int (μ.2.1 22 x2.toNatClampNeg), .int x1, .ref P.1]) 1 rfl ?_
      refine me_getf (v := .ref (P.2.1 31)) rfl rfl rfl ?_
      refine me_go (pc1 := 119) (lv1 := [(0, .ref P.1), (1, .int x1), (2, .int x2)]) (st1 := [.int x2, .ref (P.2.1 31), .int (μ.1 59), .int x2, .int 8, .int (μ.2.1 22 x2.toNatClampNeg), .int x1, .ref P.1]) 1 rfl ?_
      refine me_iald rfl (g := 31) rfl rfl h.1 ?_
      replace h := h.2
      refine me_callN rfl rfl rfl (h.mono (fun r2 μ2 h => ?_) (fun _ h => h))
      refine me_go (pc1 := 125) (lv1 := [(0, .ref P.1), (1, .int x1), (2, .int x2)]) (st1 := [.ref P.1, .ref P.1]) 2 rfl ?_
      refine me_getf (v := .int (μ2.1 59)) rfl rfl rfl ?_
      refine me_go (pc1 := 130) (lv1 := [(0, .ref P.1), (1, .int x1), (2, .int x2)]) (st1 := [.int ((μ2.1 59) + 1), .ref P.1]) 2 rfl ?_
      refine me_put rfl rfl rfl ?_
      refine me_go (pc1 := 376) (lv1 := [(0, .ref P.1), (1, .int x1), (2, .int x2)]) (st1 := []) 1 rfl ?_
      exact h
  have q6_3 : ((μ.2.1 20 x2.toNatClampNeg) = 9) → ME X W true d 347 203 [(0, .ref P.1), (1, .int x1), (2, .int x2)] [] P μ R T := fun c => by
      replace h := hD.2.2.2.1 c
      refine me_go (pc1 := 204) (lv1 := [(0, .ref P.1), (1, .int x1), (2, .int x2)]) (st1 := [.ref P.1]) 1 rfl ?_
      refine me_getf (v := .ref (P.2.1 50)) rfl rfl rfl ?_
      refine me_go (pc1 := 208) (lv1 := [(0, .ref P.1), (1, .int x1), (2, .int x2)]) (st1 := [.int x1, .ref (P.2.1 50)]) 1 rfl ?_
      refine me_iald rfl (g := 50) rfl rfl h.1 ?_
      replace h := h.2
      refine me_ifc rfl rfl (fun c => ?_) (fun c => ?_)
      · replace h := h.1 (ci_ge c)
        refine me_go (pc1 := 218) (lv1 := [(0, .ref P.1), (1, .int x1), (2, .int x2)]) (st1 := [.ref P.1, .ref P.1]) 2 rfl ?_
        refine me_getf (v := .ref (P.2.1 50)) rfl rfl rfl ?_
        refine me_go (pc1 := 222) (lv1 := [(0, .ref P.1), (1, .int x1), (2, .int x2)]) (st1 := [.int x1, .ref (P.2.1 50), .ref P.1]) 1 rfl ?_
        refine me_iald rfl (g := 50) rfl rfl h.1 ?_
        replace h := h.2
        refine me_go (pc1 := 224) (lv1 := [(0, .ref P.1), (1, .int x1), (2, .int x2)]) (st1 := [.ref P.1, .int (μ.2.1 50 x1.toNatClampNeg), .ref P.1]) 1 rfl ?_
        refine me_getf (v := .ref (P.2.1 22)) rfl rfl rfl ?_
        refine me_go (pc1 := 228) (lv1 := [(0, .ref P.1), (1, .int x1), (2, .int x2)]) (st1 := [.int x2, .ref (P.2.1 22), .int (μ.2.1 50 x1.toNatClampNeg), .ref P.1]) 1 rfl ?_
        refine me_iald rfl (g := 22) rfl rfl h.1 ?_
        replace h := h.2
        refine me_go (pc1 := 230) (lv1 := [(0, .ref P.1), (1, .int x1), (2, .int x2)]) (st1 := [.int 0, .int (μ.2.1 22 x2.toNatClampNeg), .int (μ.2.1 50 x1.toNatClampNeg), .ref P.1]) 1 rfl ?_
        refine me_callN rfl rfl rfl (h.mono (fun r3 μ3 h => ?_) (fun _ h => h))
        refine me_go (pc1 := 234) (lv1 := [(3, .int r3), (0, .ref P.1), (1, .int x1), (2, .int x2)]) (st1 := []) 1 rfl ?_
        refine me_lv [(0, .ref P.1), (1, .int x1), (2, .int x2), (3, .int r3)] (fl_c rfl (fl_c rfl (fl_c rfl (fl_c rfl fl_0)))) ?_
        exact h
      · replace h := h.2 (cn_ge c)
        refine me_go (pc1 := 234) (lv1 := [(3, .int (-1)), (0, .ref P.1), (1, .int x1), (2, .int x2)]) (st1 := []) 3 rfl ?_
        refine me_lv [(0, .ref P.1), (1, .int x1), (2, .int x2), (3, .int (-1))] (fl_c rfl (fl_c rfl (fl_c rfl (fl_c rfl fl_0)))) ?_
        exact h
  by_cases c : (μ.2.1 20 x2.toNatClampNeg) = 3
  · exact me_sw rfl c (t := 48) rfl (q6_0 (Or.inl c))
  rename ¬ (μ.2.1 20 x2.toNatClampNeg) = 3 => n0
  by_cases c : (μ.2.1 20 x2.toNatClampNeg) = 4
  · exact me_sw rfl c (t := 48) rfl (q6_0 (Or.inr (c)))
  rename ¬ (μ.2.1 20 x2.toNatClampNeg) = 4 => n1
  by_cases c : (μ.2.1 20 x2.toNatClampNeg) = 7
  · exact me_sw rfl c (t := 136) rfl (q6_1 (c))
  rename ¬ (μ.2.1 20 x2.toNatClampNeg) = 7 => n2
  by_cases c : (μ.2.1 20 x2.toNatClampNeg) = 8
  · exact me_sw rfl c (t := 99) rfl (q6_2 (c))
  rename ¬ (μ.2.1 20 x2.toNatClampNeg) = 8 => n3
  by_cases c : (μ.2.1 20 x2.toNatClampNeg) = 9
  · exact me_sw rfl c (t := 203) rfl (q6_3 (c))
  rename ¬ (μ.2.1 20 x2.toNatClampNeg) = 9 => n4
  have hk : ∀ v ∈ [(3 : Int32), (4 : Int32), (7 : Int32), (8 : Int32), (9 : Int32)], ¬ (μ.2.1 20 x2.toNatClampNeg) = v := fun v hv => by
    simp only [List.mem_cons, List.not_mem_nil, or_false] at hv
    rcases hv with rfl | rfl | rfl | rfl | rfl <;> assumption
  refine me_tsD (t := 376) rfl _ rfl rfl hk ?_
  replace h := hD.2.2.2.2 hk
  exact h
theorem v_declared_143 {X : ev_X} {W : Nat → Prop} {d : Nat} {P : MP} {μ : MS} {R : Int32 → MS → Prop} {T : MS → Prop} (x1 : Int32) (x2 : Int32) (x3 : Int32) (h : ((x3.toInt < (0 : Int) → ME X W true d 347 376 [(0, .ref P.1), (1, .int x1), (2, .int x2)] [] P μ R T) ∧ ((0 : Int) ≤ x3.toInt → (MI x2 (μ.2.2 23) ∧ MC X W true d 341 [.ref P.1, .int 0, .int (μ.2.1 23 x2.toNatClampNeg)] P μ (fun r1 μ1 => (MI x3 (μ1.2.2 28) ∧ (MI x3 (μ1.2.2 22) ∧ (MI x3 (μ1.2.2 28) ∧ (MI x3 (μ1.2.2 21) ∧ MC X W true d 348 [.ref P.1, .int x1, .int (μ1.2.1 22 x3.toNatClampNeg), .int 7, .int x3, .int (upd (μ1.2.1 28) x3.toNatClampNeg r1 x3.toNatClampNeg), .int (μ1.2.1 21 x3.toNatClampNeg)] P (mA1 μ1 28 x3.toNatClampNeg r1) (fun r2 μ2 => (MI x3 (μ2.2.2 27) ∧ ME X W true d 347 143 [(0, .ref P.1), (1, .int x1), (2, .int x2), (3, .int (μ2.2.1 27 x3.toNatClampNeg))] [] P μ2 R T)) (fun _ => False)))))) (fun _ => False))))) : ME X W true d 347 143 [(0, .ref P.1), (1, .int x1), (2, .int x2), (3, .int x3)] [] P μ R T := by
  refine me_go (pc1 := 144) (lv1 := [(0, .ref P.1), (1, .int x1), (2, .int x2), (3, .int x3)]) (st1 := [.int x3]) 1 rfl ?_
  refine me_ifc rfl rfl (fun c => ?_) (fun c => ?_)
  · replace h := h.1 (ci_lt c)
    refine me_go (pc1 := 376) (lv1 := [(0, .ref P.1), (1, .int x1), (2, .int x2), (3, .int x3)]) (st1 := []) 1 rfl ?_
    refine me_lv [(0, .ref P.1), (1, .int x1), (2, .int x2)] (fl_c rfl (fl_c rfl (fl_c rfl fl_0))) ?_
    exact h
  · replace h := h.2 (cn_lt c)
    refine me_go (pc1 := 148) (lv1 := [(0, .ref P.1), (1, .int x1), (2, .int x2), (3, .int x3)]) (st1 := [.ref P.1]) 1 rfl ?_
    refine me_getf (v := .ref (P.2.1 28)) rfl rfl rfl ?_
    refine me_go (pc1 := 155) (lv1 := [(0, .ref P.1), (1, .int x1), (2, .int x2), (3, .int x3)]) (st1 := [.ref P.1, .int 0, .ref P.1, .int x3, .ref (P.2.1 28)]) 4 rfl ?_
    refine me_getf (v := .ref (P.2.1 23)) rfl rfl rfl ?_
    refine me_go (pc1 := 159) (lv1 := [(0, .ref P.1), (1, .int x1), (2, .int x2), (3, .int x3)]) (st1 := [.int x2, .ref (P.2.1 23), .int 0, .ref P.1, .int x3, .ref (P.2.1 28)]) 1 rfl ?_
    refine me_iald rfl (g := 23) rfl rfl h.1 ?_
    replace h := h.2
    refine me_callN rfl rfl rfl (h.mono (fun r1 μ1 h => ?_) (fun _ h => h))
    have hi := h.1
    replace h := h.2
    refine me_iast rfl (g := 28) rfl rfl hi ?_
    refine me_go (pc1 := 167) (lv1 := [(0, .ref P.1), (1, .int x1), (2, .int x2), (3, .int x3)]) (st1 := [.ref P.1, .int x1, .ref P.1]) 3 rfl ?_
    refine me_getf (v := .ref (P.2.1 22)) rfl rfl rfl ?_
    refine me_go (pc1 := 171) (lv1 := [(0, .ref P.1), (1, .int x1), (2, .int x2), (3, .int x3)]) (st1 := [.int x3, .ref (P.2.1 22), .int x1, .ref P.1]) 1 rfl ?_
    refine me_iald rfl (g := 22) rfl rfl h.1 ?_
    replace h := h.2
    refine me_go (pc1 := 176) (lv1 := [(0, .ref P.1), (1, .int x1), (2, .int x2), (3, .int x3)]) (st1 := [.ref P.1, .int x3, .int 7, .int (μ1.2.1 22 x3.toNatClampNeg), .int x1, .ref P.1]) 3 rfl ?_
    refine me_getf (v := .ref (P.2.1 28)) rfl rfl rfl ?_
    refine me_go (pc1 := 180) (lv1 := [(0, .ref P.1), (1, .int x1), (2, .int x2), (3, .int x3)]) (st1 := [.int x3, .ref (P.2.1 28), .int x3, .int 7, .int (μ1.2.1 22 x3.toNatClampNeg), .int x1, .ref P.1]) 1 rfl ?_
    refine me_iald rfl (g := 28) rfl rfl h.1 ?_
    replace h := h.2
    refine me_go (pc1 := 182) (lv1 := [(0, .ref P.1), (1, .int x1), (2, .int x2), (3, .int x3)]) (st1 := [.ref P.1, .int (upd (μ1.2.1 28) x3.toNatClampNeg r1 x3.toNatClampNeg), .int x3, .int 7, .int (μ1.2.1 22 x3.toNatClampNeg), .int x1, .ref P.1]) 1 rfl ?_
    refine me_getf (v := .ref (P.2.1 21)) rfl rfl rfl ?_
    refine me_go (pc1 := 186) (lv1 := [(0, .ref P.1), (1, .int x1), (2, .int x2), (3, .int x3)]) (st1 := [.int x3, .ref (P.2.1 21), .int (upd (μ1.2.1 28) x3.toNatClampNeg r1 x3.toNatClampNeg), .int x3, .int 7, .int (μ1.2.1 22 x3.toNatClampNeg), .int x1, .ref P.1]) 1 rfl ?_
    refine me_iald rfl (g := 21) rfl rfl h.1 ?_
    replace h := h.2
    refine me_callN rfl rfl rfl (h.mono (fun r2 μ2 h => ?_) (fun _ h => h))
    refine me_go (pc1 := 191) (lv1 := [(0, .ref P.1), (1, .int x1), (2, .int x2), (3, .int x3)]) (st1 := [.ref P.1]) 1 rfl ?_
    refine me_getf (v := .ref (P.2.1 27)) rfl rfl rfl ?_
    refine me_go (pc1 := 195) (lv1 := [(0, .ref P.1), (1, .int x1), (2, .int x2), (3, .int x3)]) (st1 := [.int x3, .ref (P.2.1 27)]) 1 rfl ?_
    refine me_iald rfl (g := 27) rfl rfl h.1 ?_
    replace h := h.2
    refine me_go (pc1 := 143) (lv1 := [(3, .int (μ2.2.1 27 x3.toNatClampNeg)), (0, .ref P.1), (1, .int x1), (2, .int x2)]) (st1 := []) 2 rfl ?_
    refine me_lv [(0, .ref P.1), (1, .int x1), (2, .int x2), (3, .int (μ2.2.1 27 x3.toNatClampNeg))] (fl_c rfl (fl_c rfl (fl_c rfl (fl_c rfl fl_0)))) ?_
    exact h
theorem v_declared_234 {X : ev_X} {W : Nat → Prop} {d : Nat} {P : MP} {μ : MS} {R : Int32 → MS → Prop} {T : MS → Prop} (x1 : Int32) (x2 : Int32) (x3 : Int32) (h : ((x3.toInt < (0 : Int) → ME X W true d 347 268 [(0, .ref P.1), (1, .int x1), (2, .int x2), (3, .int x3)] [] P μ R T) ∧ ((0 : Int) ≤ x3.toInt → (MI x3 (μ.2.2 45) ∧ ((¬ (μ.2.1 45 x3.toNatClampNeg) = 9 → ME X W true d 347 268 [(0, .ref P.1), (1, .int x1), (2, .int x2), (3, .int x3)] [] P μ R T) ∧ ((μ.2.1 45 x3.toNatClampNeg) = 9 → (MI x2 (μ.2.2 22) ∧ MC X W true d 342 [.ref P.1, .int x1, .int (μ.2.1 22 x2.toNatClampNeg), .int 1] P μ (fun r1 μ1 => (((0 : Int) ≤ r1.toInt → ME X W true d 347 268 [(0, .ref P.1), (1, .int x1), (2, .int x2), (3, .int x3)] [] P μ1 R T) ∧ (r1.toInt < (0 : Int) → ME X W true d 347 271 [(0, .ref P.1), (1, .int x1), (2, .int x2), (3, .int x3), (4, .int 1)] [] P μ1 R T))) (fun _ => False)))))))) : ME X W true d 347 234 [(0, .ref P.1), (1, .int x1), (2, .int x2), (3, .int x3)] [] P μ R T := by
  refine me_go (pc1 := 235) (lv1 := [(0, .ref P.1), (1, .int x1), (2, .int x2), (3, .int x3)]) (st1 := [.int x3]) 1 rfl ?_
  refine me_ifc rfl rfl (fun c => ?_) (fun c => ?_)
  · replace h := h.1 (ci_lt c)
    exact h
  · replace h := h.2 (cn_lt c)
    refine me_go (pc1 := 239) (lv1 := [(0, .ref P.1), (1, .int x1), (2, .int x2), (3, .int x3)]) (st1 := [.ref P.1]) 1 rfl ?_
    refine me_getf (v := .ref (P.2.1 45)) rfl rfl rfl ?_
    refine me_go (pc1 := 243) (lv1 := [(0, .ref P.1), (1, .int x1), (2, .int x2), (3, .int x3)]) (st1 := [.int x3, .ref (P.2.1 45)]) 1 rfl ?_
    refine me_iald rfl (g := 45) rfl rfl h.1 ?_
    replace h := h.2
    refine me_go (pc1 := 246) (lv1 := [(0, .ref P.1), (1, .int x1), (2, .int x2), (3, .int x3)]) (st1 := [.int 9, .int (μ.2.1 45 x3.toNatClampNeg)]) 1 rfl ?_
    refine me_icmp rfl rfl (fun c => ?_) (fun c => ?_)
    · replace h := h.1 (ci_ne c)
      exact h
    · replace h := h.2 (cn_ne c)
      refine me_go (pc1 := 252) (lv1 := [(0, .ref P.1), (1, .int x1), (2, .int x2), (3, .int x3)]) (st1 := [.ref P.1, .int x1, .ref P.1]) 3 rfl ?_
      refine me_getf (v := .ref (P.2.1 22)) rfl rfl rfl ?_
      refine me_go (pc1 := 256) (lv1 := [(0, .ref P.1), (1, .int x1), (2, .int x2), (3, .int x3)]) (st1 := [.int x2, .ref (P.2.1 22), .int x1, .ref P.1]) 1 rfl ?_
      refine me_iald rfl (g := 22) rfl rfl h.1 ?_
      replace h := h.2
      refine me_go (pc1 := 258) (lv1 := [(0, .ref P.1), (1, .int x1), (2, .int x2), (3, .int x3)]) (st1 := [.int 1, .int (μ.2.1 22 x2.toNatClampNeg), .int x1, .ref P.1]) 1 rfl ?_
      refine me_callN rfl rfl rfl (h.mono (fun r1 μ1 h => ?_) (fun _ h => h))
      refine me_ifc rfl rfl (fun c => ?_) (fun c => ?_)
      · replace h := h.1 (ci_ge c)
        exact h
      · replace h := h.2 (cn_ge c)
        refine me_go (pc1 := 271) (lv1 := [(4, .int 1), (0, .ref P.1), (1, .int x1), (2, .int x2), (3, .int x3)]) (st1 := []) 3 rfl ?_
        refine me_lv [(0, .ref P.1), (1, .int x1), (2, .int x2), (3, .int x3), (4, .int 1)] (fl_c rfl (fl_c rfl (fl_c rfl (fl_c rfl (fl_c rfl fl_0))))) ?_
        exact h
theorem v_declared_268 {X : ev_X} {W : Nat → Prop} {d : Nat} {P : MP} {μ : MS} {R : Int32 → MS → Prop} {T : MS → Prop} (x1 : Int32) (x2 : Int32) (x3 : Int32) (h : ME X W true d 347 271 [(0, .ref P.1), (1, .int x1), (2, .int x2), (3, .int x3), (4, .int 0)] [] P μ R T) : ME X W true d 347 268 [(0, .ref P.1), (1, .int x1), (2, .int x2), (3, .int x3)] [] P μ R T := by
  refine me_go (pc1 := 271) (lv1 := [(4, .int 0), (0, .ref P.1), (1, .int x1), (2, .int x2), (3, .int x3)]) (st1 := []) 2 rfl ?_
  refine me_lv [(0, .ref P.1), (1, .int x1), (2, .int x2), (3, .int x3), (4, .int 0)] (fl_c rfl (fl_c rfl (fl_c rfl (fl_c rfl (fl_c rfl fl_0))))) ?_
  exact h
theorem v_declared_271 {X : ev_X} {W : Nat → Prop} {d : Nat} {P : MP} {μ : MS} {R : Int32 → MS → Prop} {T : MS → Prop} (x1 : Int32) (x2 : Int32) (x3 : Int32) (x4 : Int32) (h : ((¬ x4 = 0 → ME X W true d 347 306 [(0, .ref P.1), (1, .int x1), (2, .int x2), (3, .int x3), (4, .int x4)] [] P μ R T) ∧ (x4 = 0 → (MI ((μ.1 56) + 1) (μ.2.2 57) ∧ (MI ((μ.1 56) + 1) (μ.2.2 58) ∧ ME X W true d 347 306 [(0, .ref P.1), (1, .int x1), (2, .int x2), (3, .int x3), (4, .int x4)] [] P (mA1 (mA1 (mS1 μ 56 ((μ.1 56) + 1)) 57 ((((μ.1 56) + 1)).toNatClampNeg) x2) 58 ((((μ.1 56) + 1)).toNatClampNeg) (-1)) R T))))) : ME X W true d 347 271 [(0, .ref P.1), (1, .int x1), (2, .int x2), (3, .int x3), (4, .int x4)] [] P μ R T := by
  refine me_go (pc1 := 273) (lv1 := [(0, .ref P.1), (1, .int x1), (2, .int x2), (3, .int x3), (4, .int x4)]) (st1 := [.int x4]) 1 rfl ?_
  refine me_ifc rfl rfl (fun c => ?_) (fun c => ?_)
  · replace h := h.1 (ci_ne c)
    exact h
  · replace h := h.2 (cn_ne c)
    refine me_go (pc1 := 278) (lv1 := [(0, .ref P.1), (1, .int x1), (2, .int x2), (3, .int x3), (4, .int x4)]) (st1 := [.ref P.1, .ref P.1]) 2 rfl ?_
    refine me_getf (v := .int (μ.1 56)) rfl rfl rfl ?_
    refine me_go (pc1 := 283) (lv1 := [(0, .ref P.1), (1, .int x1), (2, .int x2), (3, .int x3), (4, .int x4)]) (st1 := [.int ((μ.1 56) + 1), .ref P.1]) 2 rfl ?_
    refine me_put rfl rfl rfl ?_
    refine me_go (pc1 := 287) (lv1 := [(0, .ref P.1), (1, .int x1), (2, .int x2), (3, .int x3), (4, .int x4)]) (st1 := [.ref P.1]) 1 rfl ?_
    refine me_getf (v := .ref (P.2.1 57)) rfl rfl rfl ?_
    refine me_go (pc1 := 291) (lv1 := [(0, .ref P.1), (1, .int x1), (2, .int x2), (3, .int x3), (4, .int x4)]) (st1 := [.ref P.1, .ref (P.2.1 57)]) 1 rfl ?_
    refine me_getf (v := .int ((μ.1 56) + 1)) rfl rfl rfl ?_
    refine me_go (pc1 := 295) (lv1 := [(0, .ref P.1), (1, .int x1), (2, .int x2), (3, .int x3), (4, .int x4)]) (st1 := [.int x2, .int ((μ.1 56) + 1), .ref (P.2.1 57)]) 1 rfl ?_
    have hi := h.1
    replace h := h.2
    refine me_iast rfl (g := 57) rfl rfl hi ?_
    refine me_go (pc1 := 297) (lv1 := [(0, .ref P.1), (1, .int x1), (2, .int x2), (3, .int x3), (4, .int x4)]) (st1 := [.ref P.1]) 1 rfl ?_
    refine me_getf (v := .ref (P.2.1 58)) rfl rfl rfl ?_
    refine me_go (pc1 := 301) (lv1 := [(0, .ref P.1), (1, .int x1), (2, .int x2), (3, .int x3), (4, .int x4)]) (st1 := [.ref P.1, .ref (P.2.1 58)]) 1 rfl ?_
    refine me_getf (v := .int ((μ.1 56) + 1)) rfl rfl rfl ?_
    refine me_go (pc1 := 305) (lv1 := [(0, .ref P.1), (1, .int x1), (2, .int x2), (3, .int x3), (4, .int x4)]) (st1 := [.int (-1), .int ((μ.1 56) + 1), .ref (P.2.1 58)]) 1 rfl ?_
    have hi := h.1
    replace h := h.2
    refine me_iast rfl (g := 58) rfl rfl hi ?_
    exact h
theorem v_declared_306 {X : ev_X} {W : Nat → Prop} {d : Nat} {P : MP} {μ : MS} {R : Int32 → MS → Prop} {T : MS → Prop} (x1 : Int32) (x2 : Int32) (x3 : Int32) (x4 : Int32) (h : ((x4 = 0 → ME X W true d 347 326 [(0, .ref P.1), (1, .int x1), (2, .int x2), (3, .int x3), (4, .int x4), (5, .int (μ.1 56))] [] P μ R T) ∧ (¬ x4 = 0 → (MI x3 (μ.2.2 47) ∧ ME X W true d 347 326 [(0, .ref P.1), (1, .int x1), (2, .int x2), (3, .int x3), (4, .int x4), (5, .int (μ.2.1 47 x3.toNatClampNeg))] [] P μ R T)))) : ME X W true d 347 306 [(0, .ref P.1), (1, .int x1), (2, .int x2), (3, .int x3), (4, .int x4)] [] P μ R T := by
  refine me_go (pc1 := 308) (lv1 := [(0, .ref P.1), (1, .int x1), (2, .int x2), (3, .int x3), (4, .int x4)]) (st1 := [.int x4]) 1 rfl ?_
  refine me_ifc rfl rfl (fun c => ?_) (fun c => ?_)
  · replace h := h.1 (ci_eq c)
    refine me_go (pc1 := 321) (lv1 := [(0, .ref P.1), (1, .int x1), (2, .int x2), (3, .int x3), (4, .int x4)]) (st1 := [.ref P.1]) 1 rfl ?_
    refine me_getf (v := .int (μ.1 56)) rfl rfl rfl ?_
    refine me_go (pc1 := 326) (lv1 := [(5, .int (μ.1 56)), (0, .ref P.1), (1, .int x1), (2, .int x2), (3, .int x3), (4, .int x4)]) (st1 := []) 1 rfl ?_
    refine me_lv [(0, .ref P.1), (1, .int x1), (2, .int x2), (3, .int x3), (4, .int x4), (5, .int (μ.1 56))] (fl_c rfl (fl_c rfl (fl_c rfl (fl_c rfl (fl_c rfl (fl_c rfl fl_0)))))) ?_
    exact h
  · replace h := h.2 (cn_eq c)
    refine me_go (pc1 := 312) (lv1 := [(0, .ref P.1), (1, .int x1), (2, .int x2), (3, .int x3), (4, .int x4)]) (st1 := [.ref P.1]) 1 rfl ?_
    refine me_getf (v := .ref (P.2.1 47)) rfl rfl rfl ?_
    refine me_go (pc1 := 316) (lv1 := [(0, .ref P.1), (1, .int x1), (2, .int x2), (3, .int x3), (4, .int x4)]) (st1 := [.int x3, .ref (P.2.1 47)]) 1 rfl ?_
    refine me_iald rfl (g := 47) rfl rfl h.1 ?_
    replace h := h.2
    refine me_go (pc1 := 326) (lv1 := [(5, .int (μ.2.1 47 x3.toNatClampNeg)), (0, .ref P.1), (1, .int x1), (2, .int x2), (3, .int x3), (4, .int x4)]) (st1 := []) 2 rfl ?_
    refine me_lv [(0, .ref P.1), (1, .int x1), (2, .int x2), (3, .int x3), (4, .int x4), (5, .int (μ.2.1 47 x3.toNatClampNeg))] (fl_c rfl (fl_c rfl (fl_c rfl (fl_c rfl (fl_c rfl (fl_c rfl fl_0)))))) ?_
    exact h
theorem v_declared_326 {X : ev_X} {W : Nat → Prop} {d : Nat} {P : MP} {μ : MS} {R : Int32 → MS → Prop} {T : MS → Prop} (x1 : Int32) (x2 : Int32) (x3 : Int32) (x4 : Int32) (x5 : Int32) (h : (MI x1 (μ.2.2 51) ∧ (((μ.2.1 51 x1.toNatClampNeg) = 0 → ME X W true d 347 343 [(0, .ref P.1), (1, .int x1), (2, .int x2), (3, .int x3), (4, .int x4), (5, .int x5)] [] P μ R T) ∧ (¬ (μ.2.1 51 x1.toNatClampNeg) = 0 → (MI x5 (μ.2.2 58) ∧ ME X W true d 347 343 [(0, .ref P.1), (1, .int x1), (2, .int x2), (3, .int x3), (4, .int x4), (5, .int x5)] [] P (mA1 μ 58 x5.toNatClampNeg x2) R T))))) : ME X W true d 347 326 [(0, .ref P.1), (1, .int x1), (2, .int x2), (3, .int x3), (4, .int x4), (5, .int x5)] [] P μ R T := by
  refine me_go (pc1 := 327) (lv1 := [(0, .ref P.1), (1, .int x1), (2, .int x2), (3, .int x3), (4, .int x4), (5, .int x5)]) (st1 := [.ref P.1]) 1 rfl ?_
  refine me_getf (v := .ref (P.2.1 51)) rfl rfl rfl ?_
  refine me_go (pc1 := 331) (lv1 := [(0, .ref P.1), (1, .int x1), (2, .int x2), (3, .int x3), (4, .int x4), (5, .int x5)]) (st1 := [.int x1, .ref (P.2.1 51)]) 1 rfl ?_
  refine me_bald rfl (g := 51) rfl (Or.inr rfl) h.1 ?_
  replace h := h.2
  refine me_ifc rfl rfl (fun c => ?_) (fun c => ?_)
  · replace h := h.1 (ci_eq c)
    exact h
  · replace h := h.2 (cn_eq c)
    refine me_go (pc1 := 336) (lv1 := [(0, .ref P.1), (1, .int x1), (2, .int x2), (3, .int x3), (4, .int x4), (5, .int x5)]) (st1 := [.ref P.1]) 1 rfl ?_
    refine me_getf (v := .ref (P.2.1 58)) rfl rfl rfl ?_
    refine me_go (pc1 := 342) (lv1 := [(0, .ref P.1), (1, .int x1), (2, .int x2), (3, .int x3), (4, .int x4), (5, .int x5)]) (st1 := [.int x2, .int x5, .ref (P.2.1 58)]) 2 rfl ?_
    have hi := h.1
    replace h := h.2
    refine me_iast rfl (g := 58) rfl rfl hi ?_
    exact h
theorem v_declared_343 {X : ev_X} {W : Nat → Prop} {d : Nat} {P : MP} {μ : MS} {R : Int32 → MS → Prop} {T : MS → Prop} (x1 : Int32) (x2 : Int32) (x3 : Int32) (x4 : Int32) (x5 : Int32) (h : (MI x2 (μ.2.2 22) ∧ (MI x2 (μ.2.2 31) ∧ MC X W true d 348 [.ref P.1, .int x1, .int (μ.2.1 22 x2.toNatClampNeg), .int 9, .int x2, .int x5, .int (μ.2.1 31 x2.toNatClampNeg)] P μ (fun r1 μ1 => (MI x2 (μ1.2.2 28) ∧ ME X W true d 347 376 [(0, .ref P.1), (1, .int x1), (2, .int x2)] [] P (mA1 μ1 28 x2.toNatClampNeg x5) R T)) (fun _ => False)))) : ME X W true d 347 343 [(0, .ref P.1), (1, .int x1), (2, .int x2), (3, .int x3), (4, .int x4), (5, .int x5)] [] P μ R T := by
  refine me_go (pc1 := 346) (lv1 := [(0, .ref P.1), (1, .int x1), (2, .int x2), (3, .int x3), (4, .int x4), (5, .int x5)]) (st1 := [.ref P.1, .int x1, .ref P.1]) 3 rfl ?_
  refine me_getf (v := .ref (P.2.1 22)) rfl rfl rfl ?_
  refine me_go (pc1 := 350) (lv1 := [(0, .ref P.1), (1, .int x1), (2, .int x2), (3, .int x3), (4, .int x4), (5, .int x5)]) (st1 := [.int x2, .ref (P.2.1 22), .int x1, .ref P.1]) 1 rfl ?_
  refine me_iald rfl (g := 22) rfl rfl h.1 ?_
  replace h := h.2
  refine me_go (pc1 := 357) (lv1 := [(0, .ref P.1), (1, .int x1), (2, .int x2), (3, .int x3), (4, .int x4), (5, .int x5)]) (st1 := [.ref P.1, .int x5, .int x2, .int 9, .int (μ.2.1 22 x2.toNatClampNeg), .int x1, .ref P.1]) 4 rfl ?_
  refine me_getf (v := .ref (P.2.1 31)) rfl rfl rfl ?_
  refine me_go (pc1 := 361) (lv1 := [(0, .ref P.1), (1, .int x1), (2, .int x2), (3, .int x3), (4, .int x4), (5, .int x5)]) (st1 := [.int x2, .ref (P.2.1 31), .int x5, .int x2, .int 9, .int (μ.2.1 22 x2.toNatClampNeg), .int x1, .ref P.1]) 1 rfl ?_
  refine me_iald rfl (g := 31) rfl rfl h.1 ?_
  replace h := h.2
  refine me_callN rfl rfl rfl (h.mono (fun r1 μ1 h => ?_) (fun _ h => h))
  refine me_go (pc1 := 366) (lv1 := [(0, .ref P.1), (1, .int x1), (2, .int x2), (3, .int x3), (4, .int x4), (5, .int x5)]) (st1 := [.ref P.1]) 1 rfl ?_
  refine me_getf (v := .ref (P.2.1 28)) rfl rfl rfl ?_
  refine me_go (pc1 := 372) (lv1 := [(0, .ref P.1), (1, .int x1), (2, .int x2), (3, .int x3), (4, .int x4), (5, .int x5)]) (st1 := [.int x5, .int x2, .ref (P.2.1 28)]) 2 rfl ?_
  have hi := h.1
  replace h := h.2
  refine me_iast rfl (g := 28) rfl rfl hi ?_
  refine me_go (pc1 := 376) (lv1 := [(0, .ref P.1), (1, .int x1), (2, .int x2), (3, .int x3), (4, .int x4), (5, .int x5)]) (st1 := []) 1 rfl ?_
  refine me_lv [(0, .ref P.1), (1, .int x1), (2, .int x2)] (fl_c rfl (fl_c rfl (fl_c rfl fl_0))) ?_
  exact h
theorem v_declared_376 {X : ev_X} {W : Nat → Prop} {d : Nat} {P : MP} {μ : MS} {R : Int32 → MS → Prop} {T : MS → Prop} (x1 : Int32) (x2 : Int32) (h : R 0 μ) : ME X W true d 347 376 [(0, .ref P.1), (1, .int x1), (2, .int x2)] [] P μ R T := by
  exact me_ret (v := none) (r := 0) rfl rfl rfl h
theorem v_tell_0 {X : ev_X} {W : Nat → Prop} {d : Nat} {P : MP} {μ : MS} {R : Int32 → MS → Prop} {T : MS → Prop} (x1 : Int32) (x2 : Int32) (x3 : Int32) (x4 : Int32) (x5 : Int32) (x6 : Int32) (h : MC X W true d 344 [.ref P.1, .int x1, .int x2, .int x3] P μ (fun r1 μ1 => ((r1 = 0 → MC X W true d 340 [.ref P.1, .int x2, .int x3, .int x4, .int x5] P μ1 (fun r2 μ2 => (MI x1 (μ2.2.2 49) ∧ R 0 (mA1 μ2 49 x1.toNatClampNeg (μ2.1 43)))) (fun _ => False)) ∧ (¬ r1 = 0 → MC X W true d 290 [.ref P.1, .int 5, .int x6] P μ1 (fun r3 μ3 => MC X W true d 340 [.ref P.1, .int x2, .int x3, .int x4, .int x5] P μ3 (fun r4 μ4 => (MI x1 (μ4.2.2 49) ∧ R 0 (mA1 μ4 49 x1.toNatClampNeg (μ4.1 43)))) (fun _ => False)) (fun _ => False)))) (fun _ => False)) : ME X W true d 348 0 [(0, .ref P.1), (1, .int x1), (2, .int x2), (3, .int x3), (4, .int x4), (5, .int x5), (6, .int x6)] [] P μ R T := by
  refine me_go (pc1 := 4) (lv1 := [(0, .ref P.1), (1, .int x1), (2, .int x2), (3, .int x3), (4, .int x4), (5, .int x5), (6, .int x6)]) (st1 := [.int x3, .int x2, .int x1, .ref P.1]) 4 rfl ?_
  refine me_callN rfl rfl rfl (h.mono (fun r1 μ1 h => ?_) (fun _ h => h))
  refine me_ifc rfl rfl (fun c => ?_) (fun c => ?_)
  · replace h := h.1 (ci_eq c)
    refine me_go (pc1 := 24) (lv1 := [(0, .ref P.1), (1, .int x1), (2, .int x2), (3, .int x3), (4, .int x4), (5, .int x5), (6, .int x6)]) (st1 := [.int x5, .int x4, .int x3, .int x2, .ref P.1]) 5 rfl ?_
    refine me_callN rfl rfl rfl (h.mono (fun r2 μ2 h => ?_) (fun _ h => h))
    refine me_go (pc1 := 28) (lv1 := [(0, .ref P.1), (1, .int x1), (2, .int x2), (3, .int x3), (4, .int x4), (5, .int x5), (6, .int x6)]) (st1 := [.ref P.1]) 1 rfl ?_
    refine me_getf (v := .ref (P.2.1 49)) rfl rfl rfl ?_
    refine me_go (pc1 := 33) (lv1 := [(0, .ref P.1), (1, .int x1), (2, .int x2), (3, .int x3), (4, .int x4), (5, .int x5), (6, .int x6)]) (st1 := [.ref P.1, .int x1, .ref (P.2.1 49)]) 2 rfl ?_
    refine me_getf (v := .int (μ2.1 43)) rfl rfl rfl ?_
    have hi := h.1
    replace h := h.2
    refine me_iast rfl (g := 49) rfl rfl hi ?_
    exact me_ret (v := none) (r := 0) rfl rfl rfl h
  · replace h := h.2 (cn_eq c)
    refine me_go (pc1 := 14) (lv1 := [(0, .ref P.1), (1, .int x1), (2, .int x2), (3, .int x3), (4, .int x4), (5, .int x5), (6, .int x6)]) (st1 := [.int x6, .int 5, .ref P.1]) 3 rfl ?_
    refine me_callN rfl rfl rfl (h.mono (fun r3 μ3 h => ?_) (fun _ h => h))
    refine me_go (pc1 := 24) (lv1 := [(0, .ref P.1), (1, .int x1), (2, .int x2), (3, .int x3), (4, .int x4), (5, .int x5), (6, .int x6)]) (st1 := [.int x5, .int x4, .int x3, .int x2, .ref P.1]) 5 rfl ?_
    refine me_callN rfl rfl rfl (h.mono (fun r4 μ4 h => ?_) (fun _ h => h))
    refine me_go (pc1 := 28) (lv1 := [(0, .ref P.1), (1, .int x1), (2, .int x2), (3, .int x3), (4, .int x4), (5, .int x5), (6, .int x6)]) (st1 := [.ref P.1]) 1 rfl ?_
    refine me_getf (v := .ref (P.2.1 49)) rfl rfl rfl ?_
    refine me_go (pc1 := 33) (lv1 := [(0, .ref P.1), (1, .int x1), (2, .int x2), (3, .int x3), (4, .int x4), (5, .int x5), (6, .int x6)]) (st1 := [.ref P.1, .int x1, .ref (P.2.1 49)]) 2 rfl ?_
    refine me_getf (v := .int (μ4.1 43)) rfl rfl rfl ?_
    have hi := h.1
    replace h := h.2
    refine me_iast rfl (g := 49) rfl rfl hi ?_
    exact me_ret (v := none) (r := 0) rfl rfl rfl h
theorem v_nameRound_0 {X : ev_X} {W : Nat → Prop} {d : Nat} {P : MP} {μ : MS} {R : Int32 → MS → Prop} {T : MS → Prop}  (h : MC X W true d 345 [.ref P.1] P μ (fun r1 μ1 => ME X W true d 349 11 [(0, .ref P.1), (1, .int 0)] [] P (mS1 μ1 62 0) R T) (fun _ => False)) : ME X W true d 349 0 [(0, .ref P.1)] [] P μ R T := by
  refine me_go (pc1 := 1) (lv1 := [(0, .ref P.1)]) (st1 := [.ref P.1]) 1 rfl ?_
  refine me_callN rfl rfl rfl (h.mono (fun r1 μ1 h => ?_) (fun _ h => h))
  refine me_go (pc1 := 6) (lv1 := [(0, .ref P.1)]) (st1 := [.int 0, .ref P.1]) 2 rfl ?_
  refine me_put rfl rfl rfl ?_
  refine me_go (pc1 := 11) (lv1 := [(1, .int 0), (0, .ref P.1)]) (st1 := []) 2 rfl ?_
  refine me_lv [(0, .ref P.1), (1, .int 0)] (fl_c rfl (fl_c rfl fl_0)) ?_
  exact h
theorem v_nameRound_11 {X : ev_X} {W : Nat → Prop} {d : Nat} {P : MP} {μ : MS} {R : Int32 → MS → Prop} {T : MS → Prop} (x1 : Int32) (h : (((μ.1 41).toInt ≤ x1.toInt → R 0 μ) ∧ (x1.toInt < (μ.1 41).toInt → (MI x1 (μ.2.2 42) ∧ (MI (μ.2.1 42 x1.toNatClampNeg) (μ.2.2 24) ∧ ME X W true d 349 33 [(0, .ref P.1), (1, .int x1), (2, .int (μ.2.1 42 x1.toNatClampNeg)), (3, .int (μ.2.1 24 ((μ.2.1 42 x1.toNatClampNeg)).toNatClampNeg))] [] P μ R T))))) : ME X W true d 349 11 [(0, .ref P.1), (1, .int x1)] [] P μ R T := by
  refine me_go (pc1 := 13) (lv1 := [(0, .ref P.1), (1, .int x1)]) (st1 := [.ref P.1, .int x1]) 2 rfl ?_
  refine me_getf (v := .int (μ.1 41)) rfl rfl rfl ?_
  refine me_icmp rfl rfl (fun c => ?_) (fun c => ?_)
  · replace h := h.1 (ci_ge c)
    exact me_ret (v := none) (r := 0) rfl rfl rfl h
  · replace h := h.2 (cn_ge c)
    refine me_go (pc1 := 20) (lv1 := [(0, .ref P.1), (1, .int x1)]) (st1 := [.ref P.1]) 1 rfl ?_
    refine me_getf (v := .ref (P.2.1 42)) rfl rfl rfl ?_
    refine me_go (pc1 := 24) (lv1 := [(0, .ref P.1), (1, .int x1)]) (st1 := [.int x1, .ref (P.2.1 42)]) 1 rfl ?_
    refine me_iald rfl (g := 42) rfl rfl h.1 ?_
    replace h := h.2
    refine me_go (pc1 := 27) (lv1 := [(2, .int (μ.2.1 42 x1.toNatClampNeg)), (0, .ref P.1), (1, .int x1)]) (st1 := [.ref P.1]) 2 rfl ?_
    refine me_getf (v := .ref (P.2.1 24)) rfl rfl rfl ?_
    refine me_go (pc1 := 31) (lv1 := [(2, .int (μ.2.1 42 x1.toNatClampNeg)), (0, .ref P.1), (1, .int x1)]) (st1 := [.int (μ.2.1 42 x1.toNatClampNeg), .ref (P.2.1 24)]) 1 rfl ?_
    refine me_iald rfl (g := 24) rfl rfl h.1 ?_
    replace h := h.2
    refine me_go (pc1 := 33) (lv1 := [(3, .int (μ.2.1 24 ((μ.2.1 42 x1.toNatClampNeg)).toNatClampNeg)), (2, .int (μ.2.1 42 x1.toNatClampNeg)), (0, .ref P.1), (1, .int x1)]) (st1 := []) 1 rfl ?_
    refine me_lv [(0, .ref P.1), (1, .int x1), (2, .int (μ.2.1 42 x1.toNatClampNeg)), (3, .int (μ.2.1 24 ((μ.2.1 42 x1.toNatClampNeg)).toNatClampNeg))] (fl_c rfl (fl_c rfl (fl_c rfl (fl_c rfl fl_0)))) ?_
    exact h
theorem v_nameRound_33 {X : ev_X} {W : Nat → Prop} {d : Nat} {P : MP} {μ : MS} {R : Int32 → MS → Prop} {T : MS → Prop} (x1 : Int32) (x2 : Int32) (x3 : Int32) (h : ((x3.toInt < (0 : Int) → (MI x2 (μ.2.2 25) ∧ MC X W true d 359 [.ref P.1, .int (μ.2.1 25 x2.toNatClampNeg)] P μ (fun r1 μ1 => ME X W true d 349 11 [(0, .ref P.1), (1, .int (x1 + 1))] [] P μ1 R T) (fun _ => False))) ∧ ((0 : Int) ≤ x3.toInt → MC X W true d 356 [.ref P.1, .int x3] P μ (fun r2 μ2 => (MI x3 (μ2.2.2 27) ∧ ME X W true d 349 33 [(0, .ref P.1), (1, .int x1), (2, .int x2), (3, .int (μ2.2.1 27 x3.toNatClampNeg))] [] P μ2 R T)) (fun _ => False)))) : ME X W true d 349 33 [(0, .ref P.1), (1, .int x1), (2, .int x2), (3, .int x3)] [] P μ R T := by
  refine me_go (pc1 := 34) (lv1 := [(0, .ref P.1), (1, .int x1), (2, .int x2), (3, .int x3)]) (st1 := [.int x3]) 1 rfl ?_
  refine me_ifc rfl rfl (fun c => ?_) (fun c => ?_)
  · replace h := h.1 (ci_lt c)
    refine me_go (pc1 := 54) (lv1 := [(0, .ref P.1), (1, .int x1), (2, .int x2), (3, .int x3)]) (st1 := [.ref P.1, .ref P.1]) 2 rfl ?_
    refine me_getf (v := .ref (P.2.1 25)) rfl rfl rfl ?_
    refine me_go (pc1 := 58) (lv1 := [(0, .ref P.1), (1, .int x1), (2, .int x2), (3, .int x3)]) (st1 := [.int x2, .ref (P.2.1 25), .ref P.1]) 1 rfl ?_
    refine me_iald rfl (g := 25) rfl rfl h.1 ?_
    replace h := h.2
    refine me_callN rfl rfl rfl (h.mono (fun r1 μ1 h => ?_) (fun _ h => h))
    refine me_go (pc1 := 11) (lv1 := [(1, .int (x1 + 1)), (0, .ref P.1), (2, .int x2), (3, .int x3)]) (st1 := []) 2 rfl ?_
    refine me_lv [(0, .ref P.1), (1, .int (x1 + 1))] (fl_c rfl (fl_c rfl fl_0)) ?_
    exact h
  · replace h := h.2 (cn_lt c)
    refine me_go (pc1 := 39) (lv1 := [(0, .ref P.1), (1, .int x1), (2, .int x2), (3, .int x3)]) (st1 := [.int x3, .ref P.1]) 2 rfl ?_
    refine me_callN rfl rfl rfl (h.mono (fun r2 μ2 h => ?_) (fun _ h => h))
    refine me_go (pc1 := 43) (lv1 := [(0, .ref P.1), (1, .int x1), (2, .int x2), (3, .int x3)]) (st1 := [.ref P.1]) 1 rfl ?_
    refine me_getf (v := .ref (P.2.1 27)) rfl rfl rfl ?_
    refine me_go (pc1 := 47) (lv1 := [(0, .ref P.1), (1, .int x1), (2, .int x2), (3, .int x3)]) (st1 := [.int x3, .ref (P.2.1 27)]) 1 rfl ?_
    refine me_iald rfl (g := 27) rfl rfl h.1 ?_
    replace h := h.2
    refine me_go (pc1 := 33) (lv1 := [(3, .int (μ2.2.1 27 x3.toNatClampNeg)), (0, .ref P.1), (1, .int x1), (2, .int x2)]) (st1 := []) 2 rfl ?_
    refine me_lv [(0, .ref P.1), (1, .int x1), (2, .int x2), (3, .int (μ2.2.1 27 x3.toNatClampNeg))] (fl_c rfl (fl_c rfl (fl_c rfl (fl_c rfl fl_0)))) ?_
    exact h
theorem v_qualified_0 {X : ev_X} {W : Nat → Prop} {d : Nat} {P : MP} {μ : MS} {R : Int32 → MS → Prop} {T : MS → Prop} (x1 : Int32) (x2 : Int32) (x3 : Int32) (h : (MI x1 (μ.2.2 29) ∧ (MI x1 (μ.2.2 22) ∧ MC X W true d 343 [.ref P.1, .int (μ.2.1 29 x1.toNatClampNeg), .int (μ.2.1 22 x1.toNatClampNeg)] P μ (fun r1 μ1 => (((0 : Int) ≤ r1.toInt → (MI x1 (μ1.2.2 23) ∧ (((μ1.2.1 23 x1.toNatClampNeg).toInt < (0 : Int) → (MI r1 (μ1.2.2 45) ∧ (((μ1.2.1 45 r1.toNatClampNeg) = x2 → (MI x1 (μ1.2.2 28) ∧ R 0 (mA1 μ1 28 x1.toNatClampNeg r1))) ∧ (¬ (μ1.2.1 45 r1.toNatClampNeg) = x2 → (MI r1 (μ1.2.2 45) ∧ (((μ1.2.1 45 r1.toNatClampNeg) = x3 → (MI x1 (μ1.2.2 28) ∧ R 0 (mA1 μ1 28 x1.toNatClampNeg r1))) ∧ (¬ (μ1.2.1 45 r1.toNatClampNeg) = x3 → (MI x1 (μ1.2.2 21) ∧ MC X W true d 290 [.ref P.1, .int 7, .int (μ1.2.1 21 x1.toNatClampNeg)] P μ1 (fun r2 μ2 => R 0 μ2) (fun _ => False))))))))) ∧ ((0 : Int) ≤ (μ1.2.1 23 x1.toNatClampNeg).toInt → (MI r1 (μ1.2.2 45) ∧ (((μ1.2.1 45 r1.toNatClampNeg) = 2 → (MI r1 (μ1.2.2 47) ∧ (((0 : Int) ≤ (μ1.2.1 47 r1.toNatClampNeg).toInt → (MI r1 (μ1.2.2 47) ∧ (MI x1 (μ1.2.2 23) ∧ MC X W true d 342 [.ref P.1, .int (μ1.2.1 47 r1.toNatClampNeg), .int (μ1.2.1 23 x1.toNatClampNeg), .int 0] P μ1 (fun r3 μ3 => (((0 : Int) ≤ r3.toInt → (MI r3 (μ3.2.2 45) ∧ (((μ3.2.1 45 r3.toNatClampNeg) = x2 → (MI x1 (μ3.2.2 28) ∧ R 0 (mA1 μ3 28 x1.toNatClampNeg r3))) ∧ (¬ (μ3.2.1 45 r3.toNatClampNeg) = x2 → (MI r3 (μ3.2.2 45) ∧ (((μ3.2.1 45 r3.toNatClampNeg) = x3 → (MI x1 (μ3.2.2 28) ∧ R 0 (mA1 μ3 28 x1.toNatClampNeg r3))) ∧ (¬ (μ3.2.1 45 r3.toNatClampNeg) = x3 → (MI x1 (μ3.2.2 21) ∧ MC X W true d 290 [.ref P.1, .int 7, .int (μ3.2.1 21 x1.toNatClampNeg)] P μ3 (fun r4 μ4 => R 0 μ4) (fun _ => False))))))))) ∧ (r3.toInt < (0 : Int) → (MI x1 (μ3.2.2 21) ∧ MC X W true d 290 [.ref P.1, .int 6, .int (μ3.2.1 21 x1.toNatClampNeg)] P μ3 (fun r5 μ5 => R 0 μ5) (fun _ => False))))) (fun _ => False)))) ∧ ((μ1.2.1 47 r1.toNatClampNeg).toInt < (0 : Int) → R 0 μ1)))) ∧ (¬ (μ1.2.1 45 r1.toNatClampNeg) = 2 → (MI x1 (μ1.2.2 21) ∧ MC X W true d 290 [.ref P.1, .int 7, .int (μ1.2.1 21 x1.toNatClampNeg)] P μ1 (fun r6 μ6 => R 0 μ6) (fun _ => False))))))))) ∧ (r1.toInt < (0 : Int) → (MI x1 (μ1.2.2 21) ∧ MC X W true d 290 [.ref P.1, .int 6, .int (μ1.2.1 21 x1.toNatClampNeg)] P μ1 (fun r7 μ7 => R 0 μ7) (fun _ => False))))) (fun _ => False)))) : ME X W true d 350 0 [(0, .ref P.1), (1, .int x1), (2, .int x2), (3, .int x3)] [] P μ R T := by
  refine me_go (pc1 := 1) (lv1 := [(0, .ref P.1), (1, .int x1), (2, .int x2), (3, .int x3)]) (st1 := [.ref P.1]) 1 rfl ?_
  refine me_getf (v := .ref (P.2.1 29)) rfl rfl rfl ?_
  refine me_go (pc1 := 5) (lv1 := [(0, .ref P.1), (1, .int x1), (2, .int x2), (3, .int x3)]) (st1 := [.int x1, .ref (P.2.1 29)]) 1 rfl ?_
  refine me_iald rfl (g := 29) rfl rfl h.1 ?_
  replace h := h.2
  refine me_go (pc1 := 12) (lv1 := [(4, .int (μ.2.1 29 x1.toNatClampNeg)), (0, .ref P.1), (1, .int x1), (2, .int x2), (3, .int x3)]) (st1 := [.ref P.1, .int (μ.2.1 29 x1.toNatClampNeg), .ref P.1]) 4 rfl ?_
  refine me_getf (v := .ref (P.2.1 22)) rfl rfl rfl ?_
  refine me_go (pc1 := 16) (lv1 := [(4, .int (μ.2.1 29 x1.toNatClampNeg)), (0, .ref P.1), (1, .int x1), (2, .int x2), (3, .int x3)]) (st1 := [.int x1, .ref (P.2.1 22), .int (μ.2.1 29 x1.toNatClampNeg), .ref P.1]) 1 rfl ?_
  refine me_iald rfl (g := 22) rfl rfl h.1 ?_
  replace h := h.2
  refine me_callN rfl rfl rfl (h.mono (fun r1 μ1 h => ?_) (fun _ h => h))
  refine me_go (pc1 := 24) (lv1 := [(5, .int r1), (4, .int (μ.2.1 29 x1.toNatClampNeg)), (0, .ref P.1), (1, .int x1), (2, .int x2), (3, .int x3)]) (st1 := [.int r1]) 2 rfl ?_
  refine me_ifc rfl rfl (fun c => ?_) (fun c => ?_)
  · replace h := h.1 (ci_ge c)
    refine me_go (pc1 := 41) (lv1 := [(5, .int r1), (4, .int (μ.2.1 29 x1.toNatClampNeg)), (0, .ref P.1), (1, .int x1), (2, .int x2), (3, .int x3)]) (st1 := [.ref P.1]) 1 rfl ?_
    refine me_getf (v := .ref (P.2.1 23)) rfl rfl rfl ?_
    refine me_go (pc1 := 45) (lv1 := [(5, .int r1), (4, .int (μ.2.1 29 x1.toNatClampNeg)), (0, .ref P.1), (1, .int x1), (2, .int x2), (3, .int x3)]) (st1 := [.int x1, .ref (P.2.1 23)]) 1 rfl ?_
    refine me_iald rfl (g := 23) rfl rfl h.1 ?_
    replace h := h.2
    refine me_ifc rfl rfl (fun c => ?_) (fun c => ?_)
    · replace h := h.1 (ci_lt c)
      refine me_go (pc1 := 123) (lv1 := [(5, .int r1), (4, .int (μ.2.1 29 x1.toNatClampNeg)), (0, .ref P.1), (1, .int x1), (2, .int x2), (3, .int x3)]) (st1 := [.ref P.1]) 1 rfl ?_
      refine me_getf (v := .ref (P.2.1 45)) rfl rfl rfl ?_
      refine me_go (pc1 := 128) (lv1 := [(5, .int r1), (4, .int (μ.2.1 29 x1.toNatClampNeg)), (0, .ref P.1), (1, .int x1), (2, .int x2), (3, .int x3)]) (st1 := [.int r1, .ref (P.2.1 45)]) 1 rfl ?_
      refine me_iald rfl (g := 45) rfl rfl h.1 ?_
      replace h := h.2
      refine me_go (pc1 := 130) (lv1 := [(5, .int r1), (4, .int (μ.2.1 29 x1.toNatClampNeg)), (0, .ref P.1), (1, .int x1), (2, .int x2), (3, .int x3)]) (st1 := [.int x2, .int (μ1.2.1 45 r1.toNatClampNeg)]) 1 rfl ?_
      refine me_icmp rfl rfl (fun c => ?_) (fun c => ?_)
      · replace h := h.1 (ci_eq c)
        refine me_go (pc1 := 160) (lv1 := [(5, .int r1), (4, .int (μ.2.1 29 x1.toNatClampNeg)), (0, .ref P.1), (1, .int x1), (2, .int x2), (3, .int x3)]) (st1 := [.ref P.1]) 1 rfl ?_
        refine me_getf (v := .ref (P.2.1 28)) rfl rfl rfl ?_
        refine me_go (pc1 := 166) (lv1 := [(5, .int r1), (4, .int (μ.2.1 29 x1.toNatClampNeg)), (0, .ref P.1), (1, .int x1), (2, .int x2), (3, .int x3)]) (st1 := [.int r1, .int x1, .ref (P.2.1 28)]) 2 rfl ?_
        have hi := h.1
        replace h := h.2
        refine me_iast rfl (g := 28) rfl rfl hi ?_
        exact me_ret (v := none) (r := 0) rfl rfl rfl h
      · replace h := h.2 (cn_eq c)
        refine me_go (pc1 := 134) (lv1 := [(5, .int r1), (4, .int (μ.2.1 29 x1.toNatClampNeg)), (0, .ref P.1), (1, .int x1), (2, .int x2), (3, .int x3)]) (st1 := [.ref P.1]) 1 rfl ?_
        refine me_getf (v := .ref (P.2.1 45)) rfl rfl rfl ?_
        refine me_go (pc1 := 139) (lv1 := [(5, .int r1), (4, .int (μ.2.1 29 x1.toNatClampNeg)), (0, .ref P.1), (1, .int x1), (2, .int x2), (3, .int x3)]) (st1 := [.int r1, .ref (P.2.1 45)]) 1 rfl ?_
        refine me_iald rfl (g := 45) rfl rfl h.1 ?_
        replace h := h.2
        refine me_go (pc1 := 141) (lv1 := [(5, .int r1), (4, .int (μ.2.1 29 x1.toNatClampNeg)), (0, .ref P.1), (1, .int x1), (2, .int x2), (3, .int x3)]) (st1 := [.int x3, .int (μ1.2.1 45 r1.toNatClampNeg)]) 1 rfl ?_
        refine me_icmp rfl rfl (fun c => ?_) (fun c => ?_)
        · replace h := h.1 (ci_eq c)
          refine me_go (pc1 := 160) (lv1 := [(5, .int r1), (4, .int (μ.2.1 29 x1.toNatClampNeg)), (0, .ref P.1), (1, .int x1), (2, .int x2), (3, .int x3)]) (st1 := [.ref P.1]) 1 rfl ?_
          refine me_getf (v := .ref (P.2.1 28)) rfl rfl rfl ?_
          refine me_go (pc1 := 166) (lv1 := [(5, .int r1), (4, .int (μ.2.1 29 x1.toNatClampNeg)), (0, .ref P.1), (1, .int x1), (2, .int x2), (3, .int x3)]) (st1 := [.int r1, .int x1, .ref (P.2.1 28)]) 2 rfl ?_
          have hi := h.1
          replace h := h.2
          refine me_iast rfl (g := 28) rfl rfl hi ?_
          exact me_ret (v := none) (r := 0) rfl rfl rfl h
        · replace h := h.2 (cn_eq c)
          refine me_go (pc1 := 148) (lv1 := [(5, .int r1), (4, .int (μ.2.1 29 x1.toNatClampNeg)), (0, .ref P.1), (1, .int x1), (2, .int x2), (3, .int x3)]) (st1 := [.ref P.1, .int 7, .ref P.1]) 3 rfl ?_
          refine me_getf (v := .ref (P.2.1 21)) rfl rfl rfl ?_
          refine me_go (pc1 := 152) (lv1 := [(5, .int r1), (4, .int (μ.2.1 29 x1.toNatClampNeg)), (0, .ref P.1), (1, .int x1), (2, .int x2), (3, .int x3)]) (st1 := [.int x1, .ref (P.2.1 21), .int 7, .ref P.1]) 1 rfl ?_
          refine me_iald rfl (g := 21) rfl rfl h.1 ?_
          replace h := h.2
          refine me_callN rfl rfl rfl (h.mono (fun r2 μ2 h => ?_) (fun _ h => h))
          refine me_go (pc1 := 167) (lv1 := [(5, .int r1), (4, .int (μ.2.1 29 x1.toNatClampNeg)), (0, .ref P.1), (1, .int x1), (2, .int x2), (3, .int x3)]) (st1 := []) 1 rfl ?_
          exact me_ret (v := none) (r := 0) rfl rfl rfl h
    · replace h := h.2 (cn_lt c)
      refine me_go (pc1 := 50) (lv1 := [(5, .int r1), (4, .int (μ.2.1 29 x1.toNatClampNeg)), (0, .ref P.1), (1, .int x1), (2, .int x2), (3, .int x3)]) (st1 := [.ref P.1]) 1 rfl ?_
      refine me_getf (v := .ref (P.2.1 45)) rfl rfl rfl ?_
      refine me_go (pc1 := 55) (lv1 := [(5, .int r1), (4, .int (μ.2.1 29 x1.toNatClampNeg)), (0, .ref P.1), (1, .int x1), (2, .int x2), (3, .int x3)]) (st1 := [.int r1, .ref (P.2.1 45)]) 1 rfl ?_
      refine me_iald rfl (g := 45) rfl rfl h.1 ?_
      replace h := h.2
      refine me_go (pc1 := 57) (lv1 := [(5, .int r1), (4, .int (μ.2.1 29 x1.toNatClampNeg)), (0, .ref P.1), (1, .int x1), (2, .int x2), (3, .int x3)]) (st1 := [.int 2, .int (μ1.2.1 45 r1.toNatClampNeg)]) 1 rfl ?_
      refine me_icmp rfl rfl (fun c => ?_) (fun c => ?_)
      · replace h := h.1 (ci_eq c)
        refine me_go (pc1 := 74) (lv1 := [(5, .int r1), (4, .int (μ.2.1 29 x1.toNatClampNeg)), (0, .ref P.1), (1, .int x1), (2, .int x2), (3, .int x3)]) (st1 := [.ref P.1]) 1 rfl ?_
        refine me_getf (v := .ref (P.2.1 47)) rfl rfl rfl ?_
        refine me_go (pc1 := 79) (lv1 := [(5, .int r1), (4, .int (μ.2.1 29 x1.toNatClampNeg)), (0, .ref P.1), (1, .int x1), (2, .int x2), (3, .int x3)]) (st1 := [.int r1, .ref (P.2.1 47)]) 1 rfl ?_
        refine me_iald rfl (g := 47) rfl rfl h.1 ?_
        replace h := h.2
        refine me_ifc rfl rfl (fun c => ?_) (fun c => ?_)
        · replace h := h.1 (ci_ge c)
          refine me_go (pc1 := 86) (lv1 := [(5, .int r1), (4, .int (μ.2.1 29 x1.toNatClampNeg)), (0, .ref P.1), (1, .int x1), (2, .int x2), (3, .int x3)]) (st1 := [.ref P.1, .ref P.1]) 2 rfl ?_
          refine me_getf (v := .ref (P.2.1 47)) rfl rfl rfl ?_
          refine me_go (pc1 := 91) (lv1 := [(5, .int r1), (4, .int (μ.2.1 29 x1.toNatClampNeg)), (0, .ref P.1), (1, .int x1), (2, .int x2), (3, .int x3)]) (st1 := [.int r1, .ref (P.2.1 47), .ref P.1]) 1 rfl ?_
          refine me_iald rfl (g := 47) rfl rfl h.1 ?_
          replace h := h.2
          refine me_go (pc1 := 93) (lv1 := [(5, .int r1), (4, .int (μ.2.1 29 x1.toNatClampNeg)), (0, .ref P.1), (1, .int x1), (2, .int x2), (3, .int x3)]) (st1 := [.ref P.1, .int (μ1.2.1 47 r1.toNatClampNeg), .ref P.1]) 1 rfl ?_
          refine me_getf (v := .ref (P.2.1 23)) rfl rfl rfl ?_
          refine me_go (pc1 := 97) (lv1 := [(5, .int r1), (4, .int (μ.2.1 29 x1.toNatClampNeg)), (0, .ref P.1), (1, .int x1), (2, .int x2), (3, .int x3)]) (st1 := [.int x1, .ref (P.2.1 23), .int (μ1.2.1 47 r1.toNatClampNeg), .ref P.1]) 1 rfl ?_
          refine me_iald rfl (g := 23) rfl rfl h.1 ?_
          replace h := h.2
          refine me_go (pc1 := 99) (lv1 := [(5, .int r1), (4, .int (μ.2.1 29 x1.toNatClampNeg)), (0, .ref P.1), (1, .int x1), (2, .int x2), (3, .int x3)]) (st1 := [.int 0, .int (μ1.2.1 23 x1.toNatClampNeg), .int (μ1.2.1 47 r1.toNatClampNeg), .ref P.1]) 1 rfl ?_
          refine me_callN rfl rfl rfl (h.mono (fun r3 μ3 h => ?_) (fun _ h => h))
          refine me_go (pc1 := 106) (lv1 := [(5, .int r3), (4, .int (μ.2.1 29 x1.toNatClampNeg)), (0, .ref P.1), (1, .int x1), (2, .int x2), (3, .int x3)]) (st1 := [.int r3]) 2 rfl ?_
          refine me_ifc rfl rfl (fun c => ?_) (fun c => ?_)
          · replace h := h.1 (ci_ge c)
            refine me_go (pc1 := 123) (lv1 := [(5, .int r3), (4, .int (μ.2.1 29 x1.toNatClampNeg)), (0, .ref P.1), (1, .int x1), (2, .int x2), (3, .int x3)]) (st1 := [.ref P.1]) 1 rfl ?_
            refine me_getf (v := .ref (P.2.1 45)) rfl rfl rfl ?_
            refine me_go (pc1 := 128) (lv1 := [(5, .int r3), (4, .int (μ.2.1 29 x1.toNatClampNeg)), (0, .ref P.1), (1, .int x1), (2, .int x2), (3, .int x3)]) (st1 := [.int r3, .ref (P.2.1 45)]) 1 rfl ?_
            refine me_iald rfl (g := 45) rfl rfl h.1 ?_
            replace h := h.2
            refine me_go (pc1 := 130) (lv1 := [(5, .int r3), (4, .int (μ.2.1 29 x1.toNatClampNeg)), (0, .ref P.1), (1, .int x1), (2, .int x2), (3, .int x3)]) (st1 := [.int x2, .int (μ3.2.1 45 r3.toNatClampNeg)]) 1 rfl ?_
            refine me_icmp rfl rfl (fun c => ?_) (fun c => ?_)
            · replace h := h.1 (ci_eq c)
              refine me_go (pc1 := 160) (lv1 := [(5, .int r3), (4, .int (μ.2.1 29 x1.toNatClampNeg)), (0, .ref P.1), (1, .int x1), (2, .int x2), (3, .int x3)]) (st1 := [.ref P.1]) 1 rfl ?_
              refine me_getf (v := .ref (P.2.1 28)) rfl rfl rfl ?_
              refine me_go (pc1 := 166) (lv1 := [(5, .int r3), (4, .int (μ.2.1 29 x1.toNatClampNeg)), (0, .ref P.1), (1, .int x1), (2, .int x2), (3, .int x3)]) (st1 := [.int r3, .int x1, .ref (P.2.1 28)]) 2 rfl ?_
              have hi := h.1
              replace h := h.2
              refine me_iast rfl (g := 28) rfl rfl hi ?_
              exact me_ret (v := none) (r := 0) rfl rfl rfl h
            · replace h := h.2 (cn_eq c)
              refine me_go (pc1 := 134) (lv1 := [(5, .int r3), (4, .int (μ.2.1 29 x1.toNatClampNeg)), (0, .ref P.1), (1, .int x1), (2, .int x2), (3, .int x3)]) (st1 := [.ref P.1]) 1 rfl ?_
              refine me_getf (v := .ref (P.2.1 45)) rfl rfl rfl ?_
              refine me_go (pc1 := 139) (lv1 := [(5, .int r3), (4, .int (μ.2.1 29 x1.toNatClampNeg)), (0, .ref P.1), (1, .int x1), (2, .int x2), (3, .int x3)]) (st1 := [.int r3, .ref (P.2.1 45)]) 1 rfl ?_
              refine me_iald rfl (g := 45) rfl rfl h.1 ?_
              replace h := h.2
              refine me_go (pc1 := 141) (lv1 := [(5, .int r3), (4, .int (μ.2.1 29 x1.toNatClampNeg)), (0, .ref P.1), (1, .int x1), (2, .int x2), (3, .int x3)]) (st1 := [.int x3, .int (μ3.2.1 45 r3.toNatClampNeg)]) 1 rfl ?_
              refine me_icmp rfl rfl (fun c => ?_) (fun c => ?_)
              · replace h := h.1 (ci_eq c)
                refine me_go (pc1 := 160) (lv1 := [(5, .int r3), (4, .int (μ.2.1 29 x1.toNatClampNeg)), (0, .ref P.1), (1, .int x1), (2, .int x2), (3, .int x3)]) (st1 := [.ref P.1]) 1 rfl ?_
                refine me_getf (v := .ref (P.2.1 28)) rfl rfl rfl ?_
                refine me_go (pc1 := 166) (lv1 := [(5, .int r3), (4, .int (μ.2.1 29 x1.toNatClampNeg)), (0, .ref P.1), (1, .int x1), (2, .int x2), (3, .int x3)]) (st1 := [.int r3, .int x1, .ref (P.2.1 28)]) 2 rfl ?_
                have hi := h.1
                replace h := h.2
                refine me_iast rfl (g := 28) rfl rfl hi ?_
                exact me_ret (v := none) (r := 0) rfl rfl rfl h
              · replace h := h.2 (cn_eq c)
                refine me_go (pc1 := 148) (lv1 := [(5, .int r3), (4, .int (μ.2.1 29 x1.toNatClampNeg)), (0, .ref P.1), (1, .int x1), (2, .int x2), (3, .int x3)]) (st1 := [.ref P.1, .int 7, .ref P.1]) 3 rfl ?_
                refine me_getf (v := .ref (P.2.1 21)) rfl rfl rfl ?_
                refine me_go (pc1 := 152) (lv1 := [(5, .int r3), (4, .int (μ.2.1 29 x1.toNatClampNeg)), (0, .ref P.1), (1, .int x1), (2, .int x2), (3, .int x3)]) (st1 := [.int x1, .ref (P.2.1 21), .int 7, .ref P.1]) 1 rfl ?_
                refine me_iald rfl (g := 21) rfl rfl h.1 ?_
                replace h := h.2
                refine me_callN rfl rfl rfl (h.mono (fun r4 μ4 h => ?_) (fun _ h => h))
                refine me_go (pc1 := 167) (lv1 := [(5, .int r3), (4, .int (μ.2.1 29 x1.toNatClampNeg)), (0, .ref P.1), (1, .int x1), (2, .int x2), (3, .int x3)]) (st1 := []) 1 rfl ?_
                exact me_ret (v := none) (r := 0) rfl rfl rfl h
          · replace h := h.2 (cn_ge c)
            refine me_go (pc1 := 113) (lv1 := [(5, .int r3), (4, .int (μ.2.1 29 x1.toNatClampNeg)), (0, .ref P.1), (1, .int x1), (2, .int x2), (3, .int x3)]) (st1 := [.ref P.1, .int 6, .ref P.1]) 3 rfl ?_
            refine me_getf (v := .ref (P.2.1 21)) rfl rfl rfl ?_
            refine me_go (pc1 := 117) (lv1 := [(5, .int r3), (4, .int (μ.2.1 29 x1.toNatClampNeg)), (0, .ref P.1), (1, .int x1), (2, .int x2), (3, .int x3)]) (st1 := [.int x1, .ref (P.2.1 21), .int 6, .ref P.1]) 1 rfl ?_
            refine me_iald rfl (g := 21) rfl rfl h.1 ?_
            replace h := h.2
            refine me_callN rfl rfl rfl (h.mono (fun r5 μ5 h => ?_) (fun _ h => h))
            exact me_ret (v := none) (r := 0) rfl rfl rfl h
        · replace h := h.2 (cn_ge c)
          exact me_ret (v := none) (r := 0) rfl rfl rfl h
      · replace h := h.2 (cn_eq c)
        refine me_go (pc1 := 64) (lv1 := [(5, .int r1), (4, .int (μ.2.1 29 x1.toNatClampNeg)), (0, .ref P.1), (1, .int x1), (2, .int x2), (3, .int x3)]) (st1 := [.ref P.1, .int 7, .ref P.1]) 3 rfl ?_
        refine me_getf (v := .ref (P.2.1 21)) rfl rfl rfl ?_
        refine me_go (pc1 := 68) (lv1 := [(5, .int r1), (4, .int (μ.2.1 29 x1.toNatClampNeg)), (0, .ref P.1), (1, .int x1), (2, .int x2), (3, .int x3)]) (st1 := [.int x1, .ref (P.2.1 21), .int 7, .ref P.1]) 1 rfl ?_
        refine me_iald rfl (g := 21) rfl rfl h.1 ?_
        replace h := h.2
        refine me_callN rfl rfl rfl (h.mono (fun r6 μ6 h => ?_) (fun _ h => h))
        exact me_ret (v := none) (r := 0) rfl rfl rfl h
  · replace h := h.2 (cn_ge c)
    refine me_go (pc1 := 31) (lv1 := [(5, .int r1), (4, .int (μ.2.1 29 x1.toNatClampNeg)), (0, .ref P.1), (1, .int x1), (2, .int x2), (3, .int x3)]) (st1 := [.ref P.1, .int 6, .ref P.1]) 3 rfl ?_
    refine me_getf (v := .ref (P.2.1 21)) rfl rfl rfl ?_
    refine me_go (pc1 := 35) (lv1 := [(5, .int r1), (4, .int (μ.2.1 29 x1.toNatClampNeg)), (0, .ref P.1), (1, .int x1), (2, .int x2), (3, .int x3)]) (st1 := [.int x1, .ref (P.2.1 21), .int 6, .ref P.1]) 1 rfl ?_
    refine me_iald rfl (g := 21) rfl rfl h.1 ?_
    replace h := h.2
    refine me_callN rfl rfl rfl (h.mono (fun r7 μ7 h => ?_) (fun _ h => h))
    exact me_ret (v := none) (r := 0) rfl rfl rfl h
theorem v_nameType_0 {X : ev_X} {W : Nat → Prop} {d : Nat} {P : MP} {μ : MS} {R : Int32 → MS → Prop} {T : MS → Prop} (x1 : Int32) (h : (MI x1 (μ.2.2 20) ∧ ((((μ.2.1 20 x1.toNatClampNeg) = 20) → (MI x1 (μ.2.2 22) ∧ MC X W true d 350 [.ref P.1, .int (μ.2.1 22 x1.toNatClampNeg), .int 3, .int 4] P μ (fun r1 μ1 => R 0 μ1) (fun _ => False))) ∧ (((μ.2.1 20 x1.toNatClampNeg) = 28) → (MI x1 (μ.2.2 24) ∧ MC X W true d 351 [.ref P.1, .int (μ.2.1 24 x1.toNatClampNeg)] P μ (fun r2 μ2 => R 0 μ2) (fun _ => False))) ∧ (((μ.2.1 20 x1.toNatClampNeg) = 29) → (MI x1 (μ.2.2 22) ∧ MC X W true d 353 [.ref P.1, .int (μ.2.1 22 x1.toNatClampNeg), .int (-1)] P μ (fun r3 μ3 => R 0 μ3) (fun _ => False))) ∧ (((μ.2.1 20 x1.toNatClampNeg) = 30) → (MI x1 (μ.2.2 22) ∧ MC X W true d 351 [.ref P.1, .int (μ.2.1 22 x1.toNatClampNeg)] P μ (fun r4 μ4 => R 0 μ4) (fun _ => False))) ∧ (((μ.2.1 20 x1.toNatClampNeg) = 31) → (MI x1 (μ.2.2 22) ∧ MC X W true d 355 [.ref P.1, .int (μ.2.1 22 x1.toNatClampNeg)] P μ (fun r5 μ5 => R 0 μ5) (fun _ => False))) ∧ (((μ.2.1 20 x1.toNatClampNeg) = 32) → (MI x1 (μ.2.2 22) ∧ (((μ.2.1 22 x1.toNatClampNeg).toInt < (0 : Int) → (MI x1 (μ.2.2 23) ∧ (MI x1 (μ.2.2 24) ∧ MC X W true d 353 [.ref P.1, .int (μ.2.1 23 x1.toNatClampNeg), .int (μ.2.1 24 x1.toNatClampNeg)] P μ (fun r6 μ6 => (MI x1 (μ6.2.2 24) ∧ MC X W true d 354 [.ref P.1, .int (μ6.2.1 24 x1.toNatClampNeg)] P μ6 (fun r7 μ7 => (MI x1 (μ7.2.2 25) ∧ MC X W true d 352 [.ref P.1, .int (μ7.2.1 25 x1.toNatClampNeg)] P μ7 (fun r8 μ8 => (MI x1 (μ8.2.2 25) ∧ MC X W true d 354 [.ref P.1, .int (μ8.2.1 25 x1.toNatClampNeg)] P μ8 (fun r9 μ9 => R 0 μ9) (fun _ => False))) (fun _ => False))) (fun _ => False))) (fun _ => False)))) ∧ ((0 : Int) ≤ (μ.2.1 22 x1.toNatClampNeg).toInt → (MI x1 (μ.2.2 22) ∧ MC X W true d 351 [.ref P.1, .int (μ.2.1 22 x1.toNatClampNeg)] P μ (fun r10 μ10 => (MI x1 (μ10.2.2 23) ∧ (MI x1 (μ10.2.2 24) ∧ MC X W true d 353 [.ref P.1, .int (μ10.2.1 23 x1.toNatClampNeg), .int (μ10.2.1 24 x1.toNatClampNeg)] P μ10 (fun r11 μ11 => (MI x1 (μ11.2.2 24) ∧ MC X W true d 354 [.ref P.1, .int (μ11.2.1 24 x1.toNatClampNeg)] P μ11 (fun r12 μ12 => (MI x1 (μ12.2.2 25) ∧ MC X W true d 352 [.ref P.1, .int (μ12.2.1 25 x1.toNatClampNeg)] P μ12 (fun r13 μ13 => (MI x1 (μ13.2.2 25) ∧ MC X W true d 354 [.ref P.1, .int (μ13.2.1 25 x1.toNatClampNeg)] P μ13 (fun r14 μ14 => R 0 μ14) (fun _ => False))) (fun _ => False))) (fun _ => False))) (fun _ => False)))) (fun _ => False)))))) ∧ ((∀ v ∈ [(20 : Int32), (28 : Int32), (29 : Int32), (30 : Int32), (31 : Int32), (32 : Int32)], ¬ (μ.2.1 20 x1.toNatClampNeg) = v) → R 0 μ)))) : ME X W true d 351 0 [(0, .ref P.1), (1, .int x1)] [] P μ R T := by
  refine me_go (pc1 := 1) (lv1 := [(0, .ref P.1), (1, .int x1)]) (st1 := [.ref P.1]) 1 rfl ?_
  refine me_getf (v := .ref (P.2.1 20)) rfl rfl rfl ?_
  refine me_go (pc1 := 5) (lv1 := [(0, .ref P.1), (1, .int x1)]) (st1 := [.int x1, .ref (P.2.1 20)]) 1 rfl ?_
  refine me_iald rfl (g := 20) rfl rfl h.1 ?_
  replace h := h.2
  have hD := h
  have q6_0 : ((μ.2.1 20 x1.toNatClampNeg) = 20) → ME X W true d 351 72 [(0, .ref P.1), (1, .int x1)] [] P μ R T := fun c => by
      replace h := hD.1 c
      refine me_go (pc1 := 74) (lv1 := [(0, .ref P.1), (1, .int x1)]) (st1 := [.ref P.1, .ref P.1]) 2 rfl ?_
      refine me_getf (v := .ref (P.2.1 22)) rfl rfl rfl ?_
      refine me_go (pc1 := 78) (lv1 := [(0, .ref P.1), (1, .int x1)]) (st1 := [.int x1, .ref (P.2.1 22), .ref P.1]) 1 rfl ?_
      refine me_iald rfl (g := 22) rfl rfl h.1 ?_
      replace h := h.2
      refine me_go (pc1 := 81) (lv1 := [(0, .ref P.1), (1, .int x1)]) (st1 := [.int 4, .int 3, .int (μ.2.1 22 x1.toNatClampNeg), .ref P.1]) 2 rfl ?_
      refine me_callN rfl rfl rfl (h.mono (fun r1 μ1 h => ?_) (fun _ h => h))
      refine me_go (pc1 := 208) (lv1 := [(0, .ref P.1), (1, .int x1)]) (st1 := []) 1 rfl ?_
      exact me_ret (v := none) (r := 0) rfl rfl rfl h
  have q6_1 : ((μ.2.1 20 x1.toNatClampNeg) = 28) → ME X W true d 351 87 [(0, .ref P.1), (1, .int x1)] [] P μ R T := fun c => by
      replace h := hD.2.1 c
      refine me_go (pc1 := 89) (lv1 := [(0, .ref P.1), (1, .int x1)]) (st1 := [.ref P.1, .ref P.1]) 2 rfl ?_
      refine me_getf (v := .ref (P.2.1 24)) rfl rfl rfl ?_
      refine me_go (pc1 := 93) (lv1 := [(0, .ref P.1), (1, .int x1)]) (st1 := [.int x1, .ref (P.2.1 24), .ref P.1]) 1 rfl ?_
      refine me_iald rfl (g := 24) rfl rfl h.1 ?_
      replace h := h.2
      refine me_callN rfl rfl rfl (h.mono (fun r2 μ2 h => ?_) (fun _ h => h))
      refine me_go (pc1 := 208) (lv1 := [(0, .ref P.1), (1, .int x1)]) (st1 := []) 1 rfl ?_
      exact me_ret (v := none) (r := 0) rfl rfl rfl h
  have q6_2 : ((μ.2.1 20 x1.toNatClampNeg) = 29) → ME X W true d 351 100 [(0, .ref P.1), (1, .int x1)] [] P μ R T := fun c => by
      replace h := hD.2.2.1 c
      refine me_go (pc1 := 102) (lv1 := [(0, .ref P.1), (1, .int x1)]) (st1 := [.ref P.1, .ref P.1]) 2 rfl ?_
      refine me_getf (v := .ref (P.2.1 22)) rfl rfl rfl ?_
      refine me_go (pc1 := 106) (lv1 := [(0, .ref P.1), (1, .int x1)]) (st1 := [.int x1, .ref (P.2.1 22), .ref P.1]) 1 rfl ?_
      refine me_iald rfl (g := 22) rfl rfl h.1 ?_
      replace h := h.2
      refine me_go (pc1 := 108) (lv1 := [(0, .ref P.1), (1, .int x1)]) (st1 := [.int (-1), .int (μ.2.1 22 x1.toNatClampNeg), .ref P.1]) 1 rfl ?_
      refine me_callN rfl rfl rfl (h.mono (fun r3 μ3 h => ?_) (fun _ h => h))
      refine me_go (pc1 := 208) (lv1 := [(0, .ref P.1), (1, .int x1)]) (st1 := []) 1 rfl ?_
      exact me_ret (v := none) (r := 0) rfl rfl rfl h
  have q6_3 : ((μ.2.1 20 x1.toNatClampNeg) = 30) → ME X W true d 351 114 [(0, .ref P.1), (1, .int x1)] [] P μ R T := fun c => by
      replace h := hD.2.2.2.1 c
      refine me_go (pc1 := 116) (lv1 := [(0, .ref P.1), (1, .int x1)]) (st1 := [.ref P.1, .ref P.1]) 2 rfl ?_
      refine me_getf (v := .ref (P.2.1 22)) rfl rfl rfl ?_
      refine me_go (pc1 := 120) (lv1 := [(0, .ref P.1), (1, .int x1)]) (st1 := [.int x1, .ref (P.2.1 22), .ref P.1]) 1 rfl ?_
      refine me_iald rfl (g := 22) rfl rfl h.1 ?_
      replace h := h.2
      refine me_callN rfl rfl rfl (h.mono (fun r4 μ4 h => ?_) (fun _ h => h))
      refine me_go (pc1 := 208) (lv1 := [(0, .ref P.1), (1, .int x1)]) (st1 := []) 1 rfl ?_
      exact me_ret (v := none) (r := 0) rfl rfl rfl h
  have q6_4 : ((μ.2.1 20 x1.toNatClampNeg) = 31) → ME X W true d 351 127 [(0, .ref P.1), (1, .int x1)] [] P μ R T := fun c => by
      replace h := hD.2.2.2.2.1 c
      refine me_go (pc1 := 129) (lv1 := [(0, .ref P.1), (1, .int x1)]) (st1 := [.ref P.1, .ref P.1]) 2 rfl ?_
      refine me_getf (v := .ref (P.2.1 22)) rfl rfl rfl ?_
      refine me_go (pc1 := 133) (lv1 := [(0, .ref P.1), (1, .int x1)]) (st1 := [.int x1, .ref (P.2.1 22), .ref P.1]) 1 rfl ?_
      refine me_iald rfl (g := 22) rfl rfl h.1 ?_
      replace h := h.2
      refine me_callN rfl rfl rfl (h.mono (fun r5 μ5 h => ?_) (fun _ h => h))
      refine me_go (pc1 := 208) (lv1 := [(0, .ref P.1), (1, .int x1)]) (st1 := []) 1 rfl ?_
      exact me_ret (v := none) (r := 0) rfl rfl rfl h
  have q6_5 : ((μ.2.1 20 x1.toNatClampNeg) = 32) → ME X W true d 351 140 [(0, .ref P.1), (1, .int x1)] [] P μ R T := fun c => by
      replace h := hD.2.2.2.2.2.1 c
      refine me_go (pc1 := 141) (lv1 := [(0, .ref P.1), (1, .int x1)]) (st1 := [.ref P.1]) 1 rfl ?_
      refine me_getf (v := .ref (P.2.1 22)) rfl rfl rfl ?_
      refine me_go (pc1 := 145) (lv1 := [(0, .ref P.1), (1, .int x1)]) (st1 := [.int x1, .ref (P.2.1 22)]) 1 rfl ?_
      refine me_iald rfl (g := 22) rfl rfl h.1 ?_
      replace h := h.2
      refine me_ifc rfl rfl (fun c => ?_) (fun c => ?_)
      · replace h := h.1 (ci_lt c)
        refine me_go (pc1 := 161) (lv1 := [(0, .ref P.1), (1, .int x1)]) (st1 := [.ref P.1, .ref P.1]) 2 rfl ?_
        refine me_getf (v := .ref (P.2.1 23)) rfl rfl rfl ?_
        refine me_go (pc1 := 165) (lv1 := [(0, .ref P.1), (1, .int x1)]) (st1 := [.int x1, .ref (P.2.1 23), .ref P.1]) 1 rfl ?_
        refine me_iald rfl (g := 23) rfl rfl h.1 ?_
        replace h := h.2
        refine me_go (pc1 := 167) (lv1 := [(0, .ref P.1), (1, .int x1)]) (st1 := [.ref P.1, .int (μ.2.1 23 x1.toNatClampNeg), .ref P.1]) 1 rfl ?_
        refine me_getf (v := .ref (P.2.1 24)) rfl rfl rfl ?_
        refine me_go (pc1 := 171) (lv1 := [(0, .ref P.1), (1, .int x1)]) (st1 := [.int x1, .ref (P.2.1 24), .int (μ.2.1 23 x1.toNatClampNeg), .ref P.1]) 1 rfl ?_
        refine me_iald rfl (g := 24) rfl rfl h.1 ?_
        replace h := h.2
        refine me_callN rfl rfl rfl (h.mono (fun r6 μ6 h => ?_) (fun _ h => h))
        refine me_go (pc1 := 177) (lv1 := [(0, .ref P.1), (1, .int x1)]) (st1 := [.ref P.1, .ref P.1]) 2 rfl ?_
        refine me_getf (v := .ref (P.2.1 24)) rfl rfl rfl ?_
        refine me_go (pc1 := 181) (lv1 := [(0, .ref P.1), (1, .int x1)]) (st1 := [.int x1, .ref (P.2.1 24), .ref P.1]) 1 rfl ?_
        refine me_iald rfl (g := 24) rfl rfl h.1 ?_
        replace h := h.2
        refine me_callN rfl rfl rfl (h.mono (fun r7 μ7 h => ?_) (fun _ h => h))
        refine me_go (pc1 := 187) (lv1 := [(0, .ref P.1), (1, .int x1)]) (st1 := [.ref P.1, .ref P.1]) 2 rfl ?_
        refine me_getf (v := .ref (P.2.1 25)) rfl rfl rfl ?_
        refine me_go (pc1 := 191) (lv1 := [(0, .ref P.1), (1, .int x1)]) (st1 := [.int x1, .ref (P.2.1 25), .ref P.1]) 1 rfl ?_
        refine me_iald rfl (g := 25) rfl rfl h.1 ?_
        replace h := h.2
        refine me_callN rfl rfl rfl (h.mono (fun r8 μ8 h => ?_) (fun _ h => h))
        refine me_go (pc1 := 197) (lv1 := [(0, .ref P.1), (1, .int x1)]) (st1 := [.ref P.1, .ref P.1]) 2 rfl ?_
        refine me_getf (v := .ref (P.2.1 25)) rfl rfl rfl ?_
        refine me_go (pc1 := 201) (lv1 := [(0, .ref P.1), (1, .int x1)]) (st1 := [.int x1, .ref (P.2.1 25), .ref P.1]) 1 rfl ?_
        refine me_iald rfl (g := 25) rfl rfl h.1 ?_
        replace h := h.2
        refine me_callN rfl rfl rfl (h.mono (fun r9 μ9 h => ?_) (fun _ h => h))
        refine me_go (pc1 := 208) (lv1 := [(0, .ref P.1), (1, .int x1)]) (st1 := []) 1 rfl ?_
        exact me_ret (v := none) (r := 0) rfl rfl rfl h
      · replace h := h.2 (cn_lt c)
        refine me_go (pc1 := 151) (lv1 := [(0, .ref P.1), (1, .int x1)]) (st1 := [.ref P.1, .ref P.1]) 2 rfl ?_
        refine me_getf (v := .ref (P.2.1 22)) rfl rfl rfl ?_
        refine me_go (pc1 := 155) (lv1 := [(0, .ref P.1), (1, .int x1)]) (st1 := [.int x1, .ref (P.2.1 22), .ref P.1]) 1 rfl ?_
        refine me_iald rfl (g := 22) rfl rfl h.1 ?_
        replace h := h.2
        refine me_callN rfl rfl rfl (h.mono (fun r10 μ10 h => ?_) (fun _ h => h))
        refine me_go (pc1 := 161) (lv1 := [(0, .ref P.1), (1, .int x1)]) (st1 := [.ref P.1, .ref P.1]) 2 rfl ?_
        refine me_getf (v := .ref (P.2.1 23)) rfl rfl rfl ?_
        refine me_go (pc1 := 165) (lv1 := [(0, .ref P.1), (1, .int x1)]) (st1 := [.int x1, .ref (P.2.1 23), .ref P.1]) 1 rfl ?_
        refine me_iald rfl (g := 23) rfl rfl h.1 ?_
        replace h := h.2
        refine me_go (pc1 := 167) (lv1 := [(0, .ref P.1), (1, .int x1)]) (st1 := [.ref P.1, .int (μ10.2.1 23 x1.toNatClampNeg), .ref P.1]) 1 rfl ?_
        refine me_getf (v := .ref (P.2.1 24)) rfl rfl rfl ?_
        refine me_go (pc1 := 171) (lv1 := [(0, .ref P.1), (1, .int x1)]) (st1 := [.int x1, .ref (P.2.1 24), .int (μ10.2.1 23 x1.toNatClampNeg), .ref P.1]) 1 rfl ?_
        refine me_iald rfl (g := 24) rfl rfl h.1 ?_
        replace h := h.2
        refine me_callN rfl rfl rfl (h.mono (fun r11 μ11 h => ?_) (fun _ h => h))
        refine me_go (pc1 := 177) (lv1 := [(0, .ref P.1), (1, .int x1)]) (st1 := [.ref P.1, .ref P.1]) 2 rfl ?_
        refine me_getf (v := .ref (P.2.1 24)) rfl rfl rfl ?_
        refine me_go (pc1 := 181) (lv1 := [(0, .ref P.1), (1, .int x1)]) (st1 := [.int x1, .ref (P.2.1 24), .ref P.1]) 1 rfl ?_
        refine me_iald rfl (g := 24) rfl rfl h.1 ?_
        replace h := h.2
        refine me_callN rfl rfl rfl (h.mono (fun r12 μ12 h => ?_) (fun _ h => h))
        refine me_go (pc1 := 187) (lv1 := [(0, .ref P.1), (1, .int x1)]) (st1 := [.ref P.1, .ref P.1]) 2 rfl ?_
        refine me_getf (v := .ref (P.2.1 25)) rfl rfl rfl ?_
        refine me_go (pc1 := 191) (lv1 := [(0, .ref P.1), (1, .int x1)]) (st1 := [.int x1, .ref (P.2.1 25), .ref P.1]) 1 rfl ?_
        refine me_iald rfl (g := 25) rfl rfl h.1 ?_
        replace h := h.2
        refine me_callN rfl rfl rfl (h.mono (fun r13 μ13 h => ?_) (fun _ h => h))
        refine me_go (pc1 := 197) (lv1 := [(0, .ref P.1), (1, .int x1)]) (st1 := [.ref P.1, .ref P.1]) 2 rfl ?_
        refine me_getf (v := .ref (P.2.1 25)) rfl rfl rfl ?_
        refine me_go (pc1 := 201) (lv1 := [(0, .ref P.1), (1, .int x1)]) (st1 := [.int x1, .ref (P.2.1 25), .ref P.1]) 1 rfl ?_
        refine me_iald rfl (g := 25) rfl rfl h.1 ?_
        replace h := h.2
        refine me_callN rfl rfl rfl (h.mono (fun r14 μ14 h => ?_) (fun _ h => h))
        refine me_go (pc1 := 208) (lv1 := [(0, .ref P.1), (1, .int x1)]) (st1 := []) 1 rfl ?_
        exact me_ret (v := none) (r := 0) rfl rfl rfl h
  by_cases c : (μ.2.1 20 x1.toNatClampNeg) = 20
  · exact me_sw rfl c (t := 72) rfl (q6_0 (c))
  rename ¬ (μ.2.1 20 x1.toNatClampNeg) = 20 => n0
  by_cases c : (μ.2.1 20 x1.toNatClampNeg) = 28
  · exact me_sw rfl c (t := 87) rfl (q6_1 (c))
  rename ¬ (μ.2.1 20 x1.toNatClampNeg) = 28 => n1
  by_cases c : (μ.2.1 20 x1.toNatClampNeg) = 29
  · exact me_sw rfl c (t := 100) rfl (q6_2 (c))
  rename ¬ (μ.2.1 20 x1.toNatClampNeg) = 29 => n2
  by_cases c : (μ.2.1 20 x1.toNatClampNeg) = 30
  · exact me_sw rfl c (t := 114) rfl (q6_3 (c))
  rename ¬ (μ.2.1 20 x1.toNatClampNeg) = 30 => n3
  by_cases c : (μ.2.1 20 x1.toNatClampNeg) = 31
  · exact me_sw rfl c (t := 127) rfl (q6_4 (c))
  rename ¬ (μ.2.1 20 x1.toNatClampNeg) = 31 => n4
  by_cases c : (μ.2.1 20 x1.toNatClampNeg) = 32
  · exact me_sw rfl c (t := 140) rfl (q6_5 (c))
  rename ¬ (μ.2.1 20 x1.toNatClampNeg) = 32 => n5
  have hk : ∀ v ∈ [(20 : Int32), (28 : Int32), (29 : Int32), (30 : Int32), (31 : Int32), (32 : Int32)], ¬ (μ.2.1 20 x1.toNatClampNeg) = v := fun v hv => by
    simp only [List.mem_cons, List.not_mem_nil, or_false] at hv
    rcases hv with rfl | rfl | rfl | rfl | rfl | rfl <;> assumption
  refine me_tsD (t := 208) rfl _ rfl rfl hk ?_
  replace h := hD.2.2.2.2.2.2 hk
  exact me_ret (v := none) (r := 0) rfl rfl rfl h
theorem v_again_0 {X : ev_X} {W : Nat → Prop} {d : Nat} {P : MP} {μ : MS} {R : Int32 → MS → Prop} {T : MS → Prop} (x1 : Int32) (h : ME X W true d 352 2 [(0, .ref P.1), (1, .int x1), (2, .int x1)] [] P μ R T) : ME X W true d 352 0 [(0, .ref P.1), (1, .int x1)] [] P μ R T := by
  refine me_go (pc1 := 2) (lv1 := [(2, .int x1), (0, .ref P.1), (1, .int x1)]) (st1 := []) 2 rfl ?_
  refine me_lv [(0, .ref P.1), (1, .int x1), (2, .int x1)] (fl_c rfl (fl_c rfl (fl_c rfl fl_0))) ?_
  exact h
theorem v_again_2 {X : ev_X} {W : Nat → Prop} {d : Nat} {P : MP} {μ : MS} {R : Int32 → MS → Prop} {T : MS → Prop} (x1 : Int32) (x2 : Int32) (h : ((x2.toInt < (0 : Int) → R 0 μ) ∧ ((0 : Int) ≤ x2.toInt → ME X W true d 352 11 [(0, .ref P.1), (1, .int x1), (2, .int x2), (3, .int 0), (4, .int x1)] [] P μ R T))) : ME X W true d 352 2 [(0, .ref P.1), (1, .int x1), (2, .int x2)] [] P μ R T := by
  refine me_go (pc1 := 3) (lv1 := [(0, .ref P.1), (1, .int x1), (2, .int x2)]) (st1 := [.int x2]) 1 rfl ?_
  refine me_ifc rfl rfl (fun c => ?_) (fun c => ?_)
  · replace h := h.1 (ci_lt c)
    exact me_ret (v := none) (r := 0) rfl rfl rfl h
  · replace h := h.2 (cn_lt c)
    refine me_go (pc1 := 11) (lv1 := [(4, .int x1), (3, .int 0), (0, .ref P.1), (1, .int x1), (2, .int x2)]) (st1 := []) 4 rfl ?_
    refine me_lv [(0, .ref P.1), (1, .int x1), (2, .int x2), (3, .int 0), (4, .int x1)] (fl_c rfl (fl_c rfl (fl_c rfl (fl_c rfl (fl_c rfl fl_0))))) ?_
    exact h
theorem v_again_11 {X : ev_X} {W : Nat → Prop} {d : Nat} {P : MP} {μ : MS} {R : Int32 → MS → Prop} {T : MS → Prop} (x1 : Int32) (x2 : Int32) (x3 : Int32) (x4 : Int32) (h : ((x4 = x2 → ((x3 = 0 → (MI x2 (μ.2.2 27) ∧ ME X W true d 352 2 [(0, .ref P.1), (1, .int x1), (2, .int (μ.2.1 27 x2.toNatClampNeg))] [] P μ R T)) ∧ (¬ x3 = 0 → (MI x2 (μ.2.2 21) ∧ MC X W true d 290 [.ref P.1, .int 5, .int (μ.2.1 21 x2.toNatClampNeg)] P μ (fun r1 μ1 => (MI x2 (μ1.2.2 27) ∧ ME X W true d 352 2 [(0, .ref P.1), (1, .int x1), (2, .int (μ1.2.1 27 x2.toNatClampNeg))] [] P μ1 R T)) (fun _ => False))))) ∧ (¬ x4 = x2 → ((¬ x3 = 0 → (MI x4 (μ.2.2 27) ∧ ME X W true d 352 11 [(0, .ref P.1), (1, .int x1), (2, .int x2), (3, .int 1), (4, .int (μ.2.1 27 x4.toNatClampNeg))] [] P μ R T)) ∧ (x3 = 0 → (MI x4 (μ.2.2 22) ∧ (MI x2 (μ.2.2 22) ∧ ((¬ (μ.2.1 22 x4.toNatClampNeg) = (μ.2.1 22 x2.toNatClampNeg) → (MI x4 (μ.2.2 27) ∧ ME X W true d 352 11 [(0, .ref P.1), (1, .int x1), (2, .int x2), (3, .int 0), (4, .int (μ.2.1 27 x4.toNatClampNeg))] [] P μ R T)) ∧ ((μ.2.1 22 x4.toNatClampNeg) = (μ.2.1 22 x2.toNatClampNeg) → (MI x4 (μ.2.2 27) ∧ ME X W true d 352 11 [(0, .ref P.1), (1, .int x1), (2, .int x2), (3, .int 1), (4, .int (μ.2.1 27 x4.toNatClampNeg))] [] P μ R T)))))))))) : ME X W true d 352 11 [(0, .ref P.1), (1, .int x1), (2, .int x2), (3, .int x3), (4, .int x4)] [] P μ R T := by
  refine me_go (pc1 := 14) (lv1 := [(0, .ref P.1), (1, .int x1), (2, .int x2), (3, .int x3), (4, .int x4)]) (st1 := [.int x2, .int x4]) 2 rfl ?_
  refine me_icmp rfl rfl (fun c => ?_) (fun c => ?_)
  · replace h := h.1 (ci_eq c)
    refine me_go (pc1 := 56) (lv1 := [(0, .ref P.1), (1, .int x1), (2, .int x2), (3, .int x3), (4, .int x4)]) (st1 := [.int x3]) 1 rfl ?_
    refine me_ifc rfl rfl (fun c => ?_) (fun c => ?_)
    · replace h := h.1 (ci_eq c)
      refine me_go (pc1 := 71) (lv1 := [(0, .ref P.1), (1, .int x1), (2, .int x2), (3, .int x3), (4, .int x4)]) (st1 := [.ref P.1]) 1 rfl ?_
      refine me_getf (v := .ref (P.2.1 27)) rfl rfl rfl ?_
      refine me_go (pc1 := 75) (lv1 := [(0, .ref P.1), (1, .int x1), (2, .int x2), (3, .int x3), (4, .int x4)]) (st1 := [.int x2, .ref (P.2.1 27)]) 1 rfl ?_
      refine me_iald rfl (g := 27) rfl rfl h.1 ?_
      replace h := h.2
      refine me_go (pc1 := 2) (lv1 := [(2, .int (μ.2.1 27 x2.toNatClampNeg)), (0, .ref P.1), (1, .int x1), (3, .int x3), (4, .int x4)]) (st1 := []) 2 rfl ?_
      refine me_lv [(0, .ref P.1), (1, .int x1), (2, .int (μ.2.1 27 x2.toNatClampNeg))] (fl_c rfl (fl_c rfl (fl_c rfl fl_0))) ?_
      exact h
    · replace h := h.2 (cn_eq c)
      refine me_go (pc1 := 62) (lv1 := [(0, .ref P.1), (1, .int x1), (2, .int x2), (3, .int x3), (4, .int x4)]) (st1 := [.ref P.1, .int 5, .ref P.1]) 3 rfl ?_
      refine me_getf (v := .ref (P.2.1 21)) rfl rfl rfl ?_
      refine me_go (pc1 := 66) (lv1 := [(0, .ref P.1), (1, .int x1), (2, .int x2), (3, .int x3), (4, .int x4)]) (st1 := [.int x2, .ref (P.2.1 21), .int 5, .ref P.1]) 1 rfl ?_
      refine me_iald rfl (g := 21) rfl rfl h.1 ?_
      replace h := h.2
      refine me_callN rfl rfl rfl (h.mono (fun r1 μ1 h => ?_) (fun _ h => h))
      refine me_go (pc1 := 71) (lv1 := [(0, .ref P.1), (1, .int x1), (2, .int x2), (3, .int x3), (4, .int x4)]) (st1 := [.ref P.1]) 1 rfl ?_
      refine me_getf (v := .ref (P.2.1 27)) rfl rfl rfl ?_
      refine me_go (pc1 := 75) (lv1 := [(0, .ref P.1), (1, .int x1), (2, .int x2), (3, .int x3), (4, .int x4)]) (st1 := [.int x2, .ref (P.2.1 27)]) 1 rfl ?_
      refine me_iald rfl (g := 27) rfl rfl h.1 ?_
      replace h := h.2
      refine me_go (pc1 := 2) (lv1 := [(2, .int (μ1.2.1 27 x2.toNatClampNeg)), (0, .ref P.1), (1, .int x1), (3, .int x3), (4, .int x4)]) (st1 := []) 2 rfl ?_
      refine me_lv [(0, .ref P.1), (1, .int x1), (2, .int (μ1.2.1 27 x2.toNatClampNeg))] (fl_c rfl (fl_c rfl (fl_c rfl fl_0))) ?_
      exact h
  · replace h := h.2 (cn_eq c)
    refine me_go (pc1 := 18) (lv1 := [(0, .ref P.1), (1, .int x1), (2, .int x2), (3, .int x3), (4, .int x4)]) (st1 := [.int x3]) 1 rfl ?_
    refine me_ifc rfl rfl (fun c => ?_) (fun c => ?_)
    · replace h := h.1 (ci_ne c)
      refine me_go (pc1 := 44) (lv1 := [(3, .int 1), (0, .ref P.1), (1, .int x1), (2, .int x2), (4, .int x4)]) (st1 := [.ref P.1]) 4 rfl ?_
      refine me_getf (v := .ref (P.2.1 27)) rfl rfl rfl ?_
      refine me_go (pc1 := 49) (lv1 := [(3, .int 1), (0, .ref P.1), (1, .int x1), (2, .int x2), (4, .int x4)]) (st1 := [.int x4, .ref (P.2.1 27)]) 1 rfl ?_
      refine me_iald rfl (g := 27) rfl rfl h.1 ?_
      replace h := h.2
      refine me_go (pc1 := 11) (lv1 := [(4, .int (μ.2.1 27 x4.toNatClampNeg)), (3, .int 1), (0, .ref P.1), (1, .int x1), (2, .int x2)]) (st1 := []) 2 rfl ?_
      refine me_lv [(0, .ref P.1), (1, .int x1), (2, .int x2), (3, .int 1), (4, .int (μ.2.1 27 x4.toNatClampNeg))] (fl_c rfl (fl_c rfl (fl_c rfl (fl_c rfl (fl_c rfl fl_0))))) ?_
      exact h
    · replace h := h.2 (cn_ne c)
      refine me_go (pc1 := 22) (lv1 := [(0, .ref P.1), (1, .int x1), (2, .int x2), (3, .int x3), (4, .int x4)]) (st1 := [.ref P.1]) 1 rfl ?_
      refine me_getf (v := .ref (P.2.1 22)) rfl rfl rfl ?_
      refine me_go (pc1 := 27) (lv1 := [(0, .ref P.1), (1, .int x1), (2, .int x2), (3, .int x3), (4, .int x4)]) (st1 := [.int x4, .ref (P.2.1 22)]) 1 rfl ?_
      refine me_iald rfl (g := 22) rfl rfl h.1 ?_
      replace h := h.2
      refine me_go (pc1 := 29) (lv1 := [(0, .ref P.1), (1, .int x1), (2, .int x2), (3, .int x3), (4, .int x4)]) (st1 := [.ref P.1, .int (μ.2.1 22 x4.toNatClampNeg)]) 1 rfl ?_
      refine me_getf (v := .ref (P.2.1 22)) rfl rfl rfl ?_
      refine me_go (pc1 := 33) (lv1 := [(0, .ref P.1), (1, .int x1), (2, .int x2), (3, .int x3), (4, .int x4)]) (st1 := [.int x2, .ref (P.2.1 22), .int (μ.2.1 22 x4.toNatClampNeg)]) 1 rfl ?_
      refine me_iald rfl (g := 22) rfl rfl h.1 ?_
      replace h := h.2
      refine me_icmp rfl rfl (fun c => ?_) (fun c => ?_)
      · replace h := h.1 (ci_ne c)
        refine me_go (pc1 := 44) (lv1 := [(3, .int 0), (0, .ref P.1), (1, .int x1), (2, .int x2), (4, .int x4)]) (st1 := [.ref P.1]) 3 rfl ?_
        refine me_getf (v := .ref (P.2.1 27)) rfl rfl rfl ?_
        refine me_go (pc1 := 49) (lv1 := [(3, .int 0), (0, .ref P.1), (1, .int x1), (2, .int x2), (4, .int x4)]) (st1 := [.int x4, .ref (P.2.1 27)]) 1 rfl ?_
        refine me_iald rfl (g := 27) rfl rfl h.1 ?_
        replace h := h.2
        refine me_go (pc1 := 11) (lv1 := [(4, .int (μ.2.1 27 x4.toNatClampNeg)), (3, .int 0), (0, .ref P.1), (1, .int x1), (2, .int x2)]) (st1 := []) 2 rfl ?_
        refine me_lv [(0, .ref P.1), (1, .int x1), (2, .int x2), (3, .int 0), (4, .int (μ.2.1 27 x4.toNatClampNeg))] (fl_c rfl (fl_c rfl (fl_c rfl (fl_c rfl (fl_c rfl fl_0))))) ?_
        exact h
      · replace h := h.2 (cn_ne c)
        refine me_go (pc1 := 44) (lv1 := [(3, .int 1), (0, .ref P.1), (1, .int x1), (2, .int x2), (4, .int x4)]) (st1 := [.ref P.1]) 4 rfl ?_
        refine me_getf (v := .ref (P.2.1 27)) rfl rfl rfl ?_
        refine me_go (pc1 := 49) (lv1 := [(3, .int 1), (0, .ref P.1), (1, .int x1), (2, .int x2), (4, .int x4)]) (st1 := [.int x4, .ref (P.2.1 27)]) 1 rfl ?_
        refine me_iald rfl (g := 27) rfl rfl h.1 ?_
        replace h := h.2
        refine me_go (pc1 := 11) (lv1 := [(4, .int (μ.2.1 27 x4.toNatClampNeg)), (3, .int 1), (0, .ref P.1), (1, .int x1), (2, .int x2)]) (st1 := []) 2 rfl ?_
        refine me_lv [(0, .ref P.1), (1, .int x1), (2, .int x2), (3, .int 1), (4, .int (μ.2.1 27 x4.toNatClampNeg))] (fl_c rfl (fl_c rfl (fl_c rfl (fl_c rfl (fl_c rfl fl_0))))) ?_
        exact h
theorem v_nameFields_0 {X : ev_X} {W : Nat → Prop} {d : Nat} {P : MP} {μ : MS} {R : Int32 → MS → Prop} {T : MS → Prop} (x1 : Int32) (x2 : Int32) (h : MC X W true d 352 [.ref P.1, .int x1] P μ (fun r1 μ1 => MC X W true d 352 [.ref P.1, .int x2] P μ1 (fun r2 μ2 => ME X W true d 353 15 [(0, .ref P.1), (1, .int x1), (2, .int x2), (3, .int (-1)), (4, .int x1)] [] P μ2 R T) (fun _ => False)) (fun _ => False)) : ME X W true d 353 0 [(0, .ref P.1), (1, .int x1), (2, .int x2)] [] P μ R T := by
  refine me_go (pc1 := 2) (lv1 := [(0, .ref P.1), (1, .int x1), (2, .int x2)]) (st1 := [.int x1, .ref P.1]) 2 rfl ?_
  refine me_callN rfl rfl rfl (h.mono (fun r1 μ1 h => ?_) (fun _ h => h))
  refine me_go (pc1 := 7) (lv1 := [(0, .ref P.1), (1, .int x1), (2, .int x2)]) (st1 := [.int x2, .ref P.1]) 2 rfl ?_
  refine me_callN rfl rfl rfl (h.mono (fun r2 μ2 h => ?_) (fun _ h => h))
  refine me_go (pc1 := 15) (lv1 := [(4, .int x1), (3, .int (-1)), (0, .ref P.1), (1, .int x1), (2, .int x2)]) (st1 := []) 4 rfl ?_
  refine me_lv [(0, .ref P.1), (1, .int x1), (2, .int x2), (3, .int (-1)), (4, .int x1)] (fl_c rfl (fl_c rfl (fl_c rfl (fl_c rfl (fl_c rfl fl_0))))) ?_
  exact h
theorem v_nameFields_15 {X : ev_X} {W : Nat → Prop} {d : Nat} {P : MP} {μ : MS} {R : Int32 → MS → Prop} {T : MS → Prop} (x1 : Int32) (x2 : Int32) (x3 : Int32) (x4 : Int32) (h : ((x4.toInt < (0 : Int) → R 0 μ) ∧ ((0 : Int) ≤ x4.toInt → (MI x4 (μ.2.2 23) ∧ (((μ.2.1 23 x4.toNatClampNeg) = x3 → (MI x4 (μ.2.2 23) ∧ ME X W true d 353 53 [(0, .ref P.1), (1, .int x1), (2, .int x2), (3, .int (μ.2.1 23 x4.toNatClampNeg)), (4, .int x4), (5, .int x2)] [] P μ R T)) ∧ (¬ (μ.2.1 23 x4.toNatClampNeg) = x3 → (MI x4 (μ.2.2 23) ∧ MC X W true d 351 [.ref P.1, .int (μ.2.1 23 x4.toNatClampNeg)] P μ (fun r1 μ1 => (MI x4 (μ1.2.2 23) ∧ ME X W true d 353 53 [(0, .ref P.1), (1, .int x1), (2, .int x2), (3, .int (μ1.2.1 23 x4.toNatClampNeg)), (4, .int x4), (5, .int x2)] [] P μ1 R T)) (fun _ => False)))))))) : ME X W true d 353 15 [(0, .ref P.1), (1, .int x1), (2, .int x2), (3, .int x3), (4, .int x4)] [] P μ R T := by
  refine me_go (pc1 := 17) (lv1 := [(0, .ref P.1), (1, .int x1), (2, .int x2), (3, .int x3), (4, .int x4)]) (st1 := [.int x4]) 1 rfl ?_
  refine me_ifc rfl rfl (fun c => ?_) (fun c => ?_)
  · replace h := h.1 (ci_lt c)
    exact me_ret (v := none) (r := 0) rfl rfl rfl h
  · replace h := h.2 (cn_lt c)
    refine me_go (pc1 := 21) (lv1 := [(0, .ref P.1), (1, .int x1), (2, .int x2), (3, .int x3), (4, .int x4)]) (st1 := [.ref P.1]) 1 rfl ?_
    refine me_getf (v := .ref (P.2.1 23)) rfl rfl rfl ?_
    refine me_go (pc1 := 26) (lv1 := [(0, .ref P.1), (1, .int x1), (2, .int x2), (3, .int x3), (4, .int x4)]) (st1 := [.int x4, .ref (P.2.1 23)]) 1 rfl ?_
    refine me_iald rfl (g := 23) rfl rfl h.1 ?_
    replace h := h.2
    refine me_go (pc1 := 28) (lv1 := [(0, .ref P.1), (1, .int x1), (2, .int x2), (3, .int x3), (4, .int x4)]) (st1 := [.int x3, .int (μ.2.1 23 x4.toNatClampNeg)]) 1 rfl ?_
    refine me_icmp rfl rfl (fun c => ?_) (fun c => ?_)
    · replace h := h.1 (ci_eq c)
      refine me_go (pc1 := 43) (lv1 := [(0, .ref P.1), (1, .int x1), (2, .int x2), (3, .int x3), (4, .int x4)]) (st1 := [.ref P.1]) 1 rfl ?_
      refine me_getf (v := .ref (P.2.1 23)) rfl rfl rfl ?_
      refine me_go (pc1 := 48) (lv1 := [(0, .ref P.1), (1, .int x1), (2, .int x2), (3, .int x3), (4, .int x4)]) (st1 := [.int x4, .ref (P.2.1 23)]) 1 rfl ?_
      refine me_iald rfl (g := 23) rfl rfl h.1 ?_
      replace h := h.2
      refine me_go (pc1 := 53) (lv1 := [(5, .int x2), (3, .int (μ.2.1 23 x4.toNatClampNeg)), (0, .ref P.1), (1, .int x1), (2, .int x2), (4, .int x4)]) (st1 := []) 3 rfl ?_
      refine me_lv [(0, .ref P.1), (1, .int x1), (2, .int x2), (3, .int (μ.2.1 23 x4.toNatClampNeg)), (4, .int x4), (5, .int x2)] (fl_c rfl (fl_c rfl (fl_c rfl (fl_c rfl (fl_c rfl (fl_c rfl fl_0)))))) ?_
      exact h
    · replace h := h.2 (cn_eq c)
      refine me_go (pc1 := 33) (lv1 := [(0, .ref P.1), (1, .int x1), (2, .int x2), (3, .int x3), (4, .int x4)]) (st1 := [.ref P.1, .ref P.1]) 2 rfl ?_
      refine me_getf (v := .ref (P.2.1 23)) rfl rfl rfl ?_
      refine me_go (pc1 := 38) (lv1 := [(0, .ref P.1), (1, .int x1), (2, .int x2), (3, .int x3), (4, .int x4)]) (st1 := [.int x4, .ref (P.2.1 23), .ref P.1]) 1 rfl ?_
      refine me_iald rfl (g := 23) rfl rfl h.1 ?_
      replace h := h.2
      refine me_callN rfl rfl rfl (h.mono (fun r1 μ1 h => ?_) (fun _ h => h))
      refine me_go (pc1 := 43) (lv1 := [(0, .ref P.1), (1, .int x1), (2, .int x2), (3, .int x3), (4, .int x4)]) (st1 := [.ref P.1]) 1 rfl ?_
      refine me_getf (v := .ref (P.2.1 23)) rfl rfl rfl ?_
      refine me_go (pc1 := 48) (lv1 := [(0, .ref P.1), (1, .int x1), (2, .int x2), (3, .int x3), (4, .int x4)]) (st1 := [.int x4, .ref (P.2.1 23)]) 1 rfl ?_
      refine me_iald rfl (g := 23) rfl rfl h.1 ?_
      replace h := h.2
      refine me_go (pc1 := 53) (lv1 := [(5, .int x2), (3, .int (μ1.2.1 23 x4.toNatClampNeg)), (0, .ref P.1), (1, .int x1), (2, .int x2), (4, .int x4)]) (st1 := []) 3 rfl ?_
      refine me_lv [(0, .ref P.1), (1, .int x1), (2, .int x2), (3, .int (μ1.2.1 23 x4.toNatClampNeg)), (4, .int x4), (5, .int x2)] (fl_c rfl (fl_c rfl (fl_c rfl (fl_c rfl (fl_c rfl (fl_c rfl fl_0)))))) ?_
      exact h
theorem v_nameFields_53 {X : ev_X} {W : Nat → Prop} {d : Nat} {P : MP} {μ : MS} {R : Int32 → MS → Prop} {T : MS → Prop} (x1 : Int32) (x2 : Int32) (x3 : Int32) (x4 : Int32) (x5 : Int32) (h : ((x5.toInt < (0 : Int) → (MI x4 (μ.2.2 27) ∧ ME X W true d 353 15 [(0, .ref P.1), (1, .int x1), (2, .int x2), (3, .int x3), (4, .int (μ.2.1 27 x4.toNatClampNeg))] [] P μ R T)) ∧ ((0 : Int) ≤ x5.toInt → (MI x5 (μ.2.2 22) ∧ (MI x4 (μ.2.2 22) ∧ ((¬ (μ.2.1 22 x5.toNatClampNeg) = (μ.2.1 22 x4.toNatClampNeg) → (MI x5 (μ.2.2 27) ∧ ME X W true d 353 53 [(0, .ref P.1), (1, .int x1), (2, .int x2), (3, .int x3), (4, .int x4), (5, .int (μ.2.1 27 x5.toNatClampNeg))] [] P μ R T)) ∧ ((μ.2.1 22 x5.toNatClampNeg) = (μ.2.1 22 x4.toNatClampNeg) → (MI x5 (μ.2.2 21) ∧ MC X W true d 290 [.ref P.1, .int 5, .int (μ.2.1 21 x5.toNatClampNeg)] P μ (fun r1 μ1 => (MI x5 (μ1.2.2 27) ∧ ME X W true d 353 53 [(0, .ref P.1), (1, .int x1), (2, .int x2), (3, .int x3), (4, .int x4), (5, .int (μ1.2.1 27 x5.toNatClampNeg))] [] P μ1 R T)) (fun _ => False))))))))) : ME X W true d 353 53 [(0, .ref P.1), (1, .int x1), (2, .int x2), (3, .int x3), (4, .int x4), (5, .int x5)] [] P μ R T := by
  refine me_go (pc1 := 55) (lv1 := [(0, .ref P.1), (1, .int x1), (2, .int x2), (3, .int x3), (4, .int x4), (5, .int x5)]) (st1 := [.int x5]) 1 rfl ?_
  refine me_ifc rfl rfl (fun c => ?_) (fun c => ?_)
  · replace h := h.1 (ci_lt c)
    refine me_go (pc1 := 100) (lv1 := [(0, .ref P.1), (1, .int x1), (2, .int x2), (3, .int x3), (4, .int x4), (5, .int x5)]) (st1 := [.ref P.1]) 1 rfl ?_
    refine me_getf (v := .ref (P.2.1 27)) rfl rfl rfl ?_
    refine me_go (pc1 := 105) (lv1 := [(0, .ref P.1), (1, .int x1), (2, .int x2), (3, .int x3), (4, .int x4), (5, .int x5)]) (st1 := [.int x4, .ref (P.2.1 27)]) 1 rfl ?_
    refine me_iald rfl (g := 27) rfl rfl h.1 ?_
    replace h := h.2
    refine me_go (pc1 := 15) (lv1 := [(4, .int (μ.2.1 27 x4.toNatClampNeg)), (0, .ref P.1), (1, .int x1), (2, .int x2), (3, .int x3), (5, .int x5)]) (st1 := []) 2 rfl ?_
    refine me_lv [(0, .ref P.1), (1, .int x1), (2, .int x2), (3, .int x3), (4, .int (μ.2.1 27 x4.toNatClampNeg))] (fl_c rfl (fl_c rfl (fl_c rfl (fl_c rfl (fl_c rfl fl_0))))) ?_
    exact h
  · replace h := h.2 (cn_lt c)
    refine me_go (pc1 := 59) (lv1 := [(0, .ref P.1), (1, .int x1), (2, .int x2), (3, .int x3), (4, .int x4), (5, .int x5)]) (st1 := [.ref P.1]) 1 rfl ?_
    refine me_getf (v := .ref (P.2.1 22)) rfl rfl rfl ?_
    refine me_go (pc1 := 64) (lv1 := [(0, .ref P.1), (1, .int x1), (2, .int x2), (3, .int x3), (4, .int x4), (5, .int x5)]) (st1 := [.int x5, .ref (P.2.1 22)]) 1 rfl ?_
    refine me_iald rfl (g := 22) rfl rfl h.1 ?_
    replace h := h.2
    refine me_go (pc1 := 66) (lv1 := [(0, .ref P.1), (1, .int x1), (2, .int x2), (3, .int x3), (4, .int x4), (5, .int x5)]) (st1 := [.ref P.1, .int (μ.2.1 22 x5.toNatClampNeg)]) 1 rfl ?_
    refine me_getf (v := .ref (P.2.1 22)) rfl rfl rfl ?_
    refine me_go (pc1 := 71) (lv1 := [(0, .ref P.1), (1, .int x1), (2, .int x2), (3, .int x3), (4, .int x4), (5, .int x5)]) (st1 := [.int x4, .ref (P.2.1 22), .int (μ.2.1 22 x5.toNatClampNeg)]) 1 rfl ?_
    refine me_iald rfl (g := 22) rfl rfl h.1 ?_
    replace h := h.2
    refine me_icmp rfl rfl (fun c => ?_) (fun c => ?_)
    · replace h := h.1 (ci_ne c)
      refine me_go (pc1 := 88) (lv1 := [(0, .ref P.1), (1, .int x1), (2, .int x2), (3, .int x3), (4, .int x4), (5, .int x5)]) (st1 := [.ref P.1]) 1 rfl ?_
      refine me_getf (v := .ref (P.2.1 27)) rfl rfl rfl ?_
      refine me_go (pc1 := 93) (lv1 := [(0, .ref P.1), (1, .int x1), (2, .int x2), (3, .int x3), (4, .int x4), (5, .int x5)]) (st1 := [.int x5, .ref (P.2.1 27)]) 1 rfl ?_
      refine me_iald rfl (g := 27) rfl rfl h.1 ?_
      replace h := h.2
      refine me_go (pc1 := 53) (lv1 := [(5, .int (μ.2.1 27 x5.toNatClampNeg)), (0, .ref P.1), (1, .int x1), (2, .int x2), (3, .int x3), (4, .int x4)]) (st1 := []) 2 rfl ?_
      refine me_lv [(0, .ref P.1), (1, .int x1), (2, .int x2), (3, .int x3), (4, .int x4), (5, .int (μ.2.1 27 x5.toNatClampNeg))] (fl_c rfl (fl_c rfl (fl_c rfl (fl_c rfl (fl_c rfl (fl_c rfl fl_0)))))) ?_
      exact h
    · replace h := h.2 (cn_ne c)
      refine me_go (pc1 := 78) (lv1 := [(0, .ref P.1), (1, .int x1), (2, .int x2), (3, .int x3), (4, .int x4), (5, .int x5)]) (st1 := [.ref P.1, .int 5, .ref P.1]) 3 rfl ?_
      refine me_getf (v := .ref (P.2.1 21)) rfl rfl rfl ?_
      refine me_go (pc1 := 83) (lv1 := [(0, .ref P.1), (1, .int x1), (2, .int x2), (3, .int x3), (4, .int x4), (5, .int x5)]) (st1 := [.int x5, .ref (P.2.1 21), .int 5, .ref P.1]) 1 rfl ?_
      refine me_iald rfl (g := 21) rfl rfl h.1 ?_
      replace h := h.2
      refine me_callN rfl rfl rfl (h.mono (fun r1 μ1 h => ?_) (fun _ h => h))
      refine me_go (pc1 := 88) (lv1 := [(0, .ref P.1), (1, .int x1), (2, .int x2), (3, .int x3), (4, .int x4), (5, .int x5)]) (st1 := [.ref P.1]) 1 rfl ?_
      refine me_getf (v := .ref (P.2.1 27)) rfl rfl rfl ?_
      refine me_go (pc1 := 93) (lv1 := [(0, .ref P.1), (1, .int x1), (2, .int x2), (3, .int x3), (4, .int x4), (5, .int x5)]) (st1 := [.int x5, .ref (P.2.1 27)]) 1 rfl ?_
      refine me_iald rfl (g := 27) rfl rfl h.1 ?_
      replace h := h.2
      refine me_go (pc1 := 53) (lv1 := [(5, .int (μ1.2.1 27 x5.toNatClampNeg)), (0, .ref P.1), (1, .int x1), (2, .int x2), (3, .int x3), (4, .int x4)]) (st1 := []) 2 rfl ?_
      refine me_lv [(0, .ref P.1), (1, .int x1), (2, .int x2), (3, .int x3), (4, .int x4), (5, .int (μ1.2.1 27 x5.toNatClampNeg))] (fl_c rfl (fl_c rfl (fl_c rfl (fl_c rfl (fl_c rfl (fl_c rfl fl_0)))))) ?_
      exact h
theorem v_nameMembers_0 {X : ev_X} {W : Nat → Prop} {d : Nat} {P : MP} {μ : MS} {R : Int32 → MS → Prop} {T : MS → Prop} (x1 : Int32) (h : ME X W true d 354 2 [(0, .ref P.1), (1, .int x1), (2, .int x1)] [] P μ R T) : ME X W true d 354 0 [(0, .ref P.1), (1, .int x1)] [] P μ R T := by
  refine me_go (pc1 := 2) (lv1 := [(2, .int x1), (0, .ref P.1), (1, .int x1)]) (st1 := []) 2 rfl ?_
  refine me_lv [(0, .ref P.1), (1, .int x1), (2, .int x1)] (fl_c rfl (fl_c rfl (fl_c rfl fl_0))) ?_
  exact h
theorem v_nameMembers_2 {X : ev_X} {W : Nat → Prop} {d : Nat} {P : MP} {μ : MS} {R : Int32 → MS → Prop} {T : MS → Prop} (x1 : Int32) (x2 : Int32) (h : ((x2.toInt < (0 : Int) → R 0 μ) ∧ ((0 : Int) ≤ x2.toInt → (MI x2 (μ.2.2 20) ∧ ((¬ (μ.2.1 20 x2.toNatClampNeg) = 34 → (MI x2 (μ.2.2 24) ∧ (((μ.2.1 24 x2.toNatClampNeg).toInt < (0 : Int) → (MI x2 (μ.2.2 27) ∧ ME X W true d 354 2 [(0, .ref P.1), (1, .int x1), (2, .int (μ.2.1 27 x2.toNatClampNeg))] [] P μ R T)) ∧ ((0 : Int) ≤ (μ.2.1 24 x2.toNatClampNeg).toInt → (MI x2 (μ.2.2 24) ∧ MC X W true d 350 [.ref P.1, .int (μ.2.1 24 x2.toNatClampNeg), .int 9, .int 9] P μ (fun r1 μ1 => (MI x2 (μ1.2.2 27) ∧ ME X W true d 354 2 [(0, .ref P.1), (1, .int x1), (2, .int (μ1.2.1 27 x2.toNatClampNeg))] [] P μ1 R T)) (fun _ => False)))))) ∧ ((μ.2.1 20 x2.toNatClampNeg) = 34 → (MI x2 (μ.2.2 23) ∧ MC X W true d 355 [.ref P.1, .int (μ.2.1 23 x2.toNatClampNeg)] P μ (fun r2 μ2 => (MI x2 (μ2.2.2 24) ∧ (((μ2.2.1 24 x2.toNatClampNeg).toInt < (0 : Int) → (MI x2 (μ2.2.2 27) ∧ ME X W true d 354 2 [(0, .ref P.1), (1, .int x1), (2, .int (μ2.2.1 27 x2.toNatClampNeg))] [] P μ2 R T)) ∧ ((0 : Int) ≤ (μ2.2.1 24 x2.toNatClampNeg).toInt → (MI x2 (μ2.2.2 24) ∧ MC X W true d 350 [.ref P.1, .int (μ2.2.1 24 x2.toNatClampNeg), .int 9, .int 9] P μ2 (fun r3 μ3 => (MI x2 (μ3.2.2 27) ∧ ME X W true d 354 2 [(0, .ref P.1), (1, .int x1), (2, .int (μ3.2.1 27 x2.toNatClampNeg))] [] P μ3 R T)) (fun _ => False)))))) (fun _ => False)))))))) : ME X W true d 354 2 [(0, .ref P.1), (1, .int x1), (2, .int x2)] [] P μ R T := by
  refine me_go (pc1 := 3) (lv1 := [(0, .ref P.1), (1, .int x1), (2, .int x2)]) (st1 := [.int x2]) 1 rfl ?_
  refine me_ifc rfl rfl (fun c => ?_) (fun c => ?_)
  · replace h := h.1 (ci_lt c)
    exact me_ret (v := none) (r := 0) rfl rfl rfl h
  · replace h := h.2 (cn_lt c)
    refine me_go (pc1 := 7) (lv1 := [(0, .ref P.1), (1, .int x1), (2, .int x2)]) (st1 := [.ref P.1]) 1 rfl ?_
    refine me_getf (v := .ref (P.2.1 20)) rfl rfl rfl ?_
    refine me_go (pc1 := 11) (lv1 := [(0, .ref P.1), (1, .int x1), (2, .int x2)]) (st1 := [.int x2, .ref (P.2.1 20)]) 1 rfl ?_
    refine me_iald rfl (g := 20) rfl rfl h.1 ?_
    replace h := h.2
    refine me_go (pc1 := 14) (lv1 := [(0, .ref P.1), (1, .int x1), (2, .int x2)]) (st1 := [.int 34, .int (μ.2.1 20 x2.toNatClampNeg)]) 1 rfl ?_
    refine me_icmp rfl rfl (fun c => ?_) (fun c => ?_)
    · replace h := h.1 (ci_ne c)
      refine me_go (pc1 := 28) (lv1 := [(0, .ref P.1), (1, .int x1), (2, .int x2)]) (st1 := [.ref P.1]) 1 rfl ?_
      refine me_getf (v := .ref (P.2.1 24)) rfl rfl rfl ?_
      refine me_go (pc1 := 32) (lv1 := [(0, .ref P.1), (1, .int x1), (2, .int x2)]) (st1 := [.int x2, .ref (P.2.1 24)]) 1 rfl ?_
      refine me_iald rfl (g := 24) rfl rfl h.1 ?_
      replace h := h.2
      refine me_ifc rfl rfl (fun c => ?_) (fun c => ?_)
      · replace h := h.1 (ci_lt c)
        refine me_go (pc1 := 51) (lv1 := [(0, .ref P.1), (1, .int x1), (2, .int x2)]) (st1 := [.ref P.1]) 1 rfl ?_
        refine me_getf (v := .ref (P.2.1 27)) rfl rfl rfl ?_
        refine me_go (pc1 := 55) (lv1 := [(0, .ref P.1), (1, .int x1), (2, .int x2)]) (st1 := [.int x2, .ref (P.2.1 27)]) 1 rfl ?_
        refine me_iald rfl (g := 27) rfl rfl h.1 ?_
        replace h := h.2
        refine me_go (pc1 := 2) (lv1 := [(2, .int (μ.2.1 27 x2.toNatClampNeg)), (0, .ref P.1), (1, .int x1)]) (st1 := []) 2 rfl ?_
        refine me_lv [(0, .ref P.1), (1, .int x1), (2, .int (μ.2.1 27 x2.toNatClampNeg))] (fl_c rfl (fl_c rfl (fl_c rfl fl_0))) ?_
        exact h
      · replace h := h.2 (cn_lt c)
        refine me_go (pc1 := 38) (lv1 := [(0, .ref P.1), (1, .int x1), (2, .int x2)]) (st1 := [.ref P.1, .ref P.1]) 2 rfl ?_
        refine me_getf (v := .ref (P.2.1 24)) rfl rfl rfl ?_
        refine me_go (pc1 := 42) (lv1 := [(0, .ref P.1), (1, .int x1), (2, .int x2)]) (st1 := [.int x2, .ref (P.2.1 24), .ref P.1]) 1 rfl ?_
        refine me_iald rfl (g := 24) rfl rfl h.1 ?_
        replace h := h.2
        refine me_go (pc1 := 47) (lv1 := [(0, .ref P.1), (1, .int x1), (2, .int x2)]) (st1 := [.int 9, .int 9, .int (μ.2.1 24 x2.toNatClampNeg), .ref P.1]) 2 rfl ?_
        refine me_callN rfl rfl rfl (h.mono (fun r1 μ1 h => ?_) (fun _ h => h))
        refine me_go (pc1 := 51) (lv1 := [(0, .ref P.1), (1, .int x1), (2, .int x2)]) (st1 := [.ref P.1]) 1 rfl ?_
        refine me_getf (v := .ref (P.2.1 27)) rfl rfl rfl ?_
        refine me_go (pc1 := 55) (lv1 := [(0, .ref P.1), (1, .int x1), (2, .int x2)]) (st1 := [.int x2, .ref (P.2.1 27)]) 1 rfl ?_
        refine me_iald rfl (g := 27) rfl rfl h.1 ?_
        replace h := h.2
        refine me_go (pc1 := 2) (lv1 := [(2, .int (μ1.2.1 27 x2.toNatClampNeg)), (0, .ref P.1), (1, .int x1)]) (st1 := []) 2 rfl ?_
        refine me_lv [(0, .ref P.1), (1, .int x1), (2, .int (μ1.2.1 27 x2.toNatClampNeg))] (fl_c rfl (fl_c rfl (fl_c rfl fl_0))) ?_
        exact h
    · replace h := h.2 (cn_ne c)
      refine me_go (pc1 := 19) (lv1 := [(0, .ref P.1), (1, .int x1), (2, .int x2)]) (st1 := [.ref P.1, .ref P.1]) 2 rfl ?_
      refine me_getf (v := .ref (P.2.1 23)) rfl rfl rfl ?_
      refine me_go (pc1 := 23) (lv1 := [(0, .ref P.1), (1, .int x1), (2, .int x2)]) (st1 := [.int x2, .ref (P.2.1 23), .ref P.1]) 1 rfl ?_
      refine me_iald rfl (g := 23) rfl rfl h.1 ?_
      replace h := h.2
      refine me_callN rfl rfl rfl (h.mono (fun r2 μ2 h => ?_) (fun _ h => h))
      refine me_go (pc1 := 28) (lv1 := [(0, .ref P.1), (1, .int x1), (2, .int x2)]) (st1 := [.ref P.1]) 1 rfl ?_
      refine me_getf (v := .ref (P.2.1 24)) rfl rfl rfl ?_
      refine me_go (pc1 := 32) (lv1 := [(0, .ref P.1), (1, .int x1), (2, .int x2)]) (st1 := [.int x2, .ref (P.2.1 24)]) 1 rfl ?_
      refine me_iald rfl (g := 24) rfl rfl h.1 ?_
      replace h := h.2
      refine me_ifc rfl rfl (fun c => ?_) (fun c => ?_)
      · replace h := h.1 (ci_lt c)
        refine me_go (pc1 := 51) (lv1 := [(0, .ref P.1), (1, .int x1), (2, .int x2)]) (st1 := [.ref P.1]) 1 rfl ?_
        refine me_getf (v := .ref (P.2.1 27)) rfl rfl rfl ?_
        refine me_go (pc1 := 55) (lv1 := [(0, .ref P.1), (1, .int x1), (2, .int x2)]) (st1 := [.int x2, .ref (P.2.1 27)]) 1 rfl ?_
        refine me_iald rfl (g := 27) rfl rfl h.1 ?_
        replace h := h.2
        refine me_go (pc1 := 2) (lv1 := [(2, .int (μ2.2.1 27 x2.toNatClampNeg)), (0, .ref P.1), (1, .int x1)]) (st1 := []) 2 rfl ?_
        refine me_lv [(0, .ref P.1), (1, .int x1), (2, .int (μ2.2.1 27 x2.toNatClampNeg))] (fl_c rfl (fl_c rfl (fl_c rfl fl_0))) ?_
        exact h
      · replace h := h.2 (cn_lt c)
        refine me_go (pc1 := 38) (lv1 := [(0, .ref P.1), (1, .int x1), (2, .int x2)]) (st1 := [.ref P.1, .ref P.1]) 2 rfl ?_
        refine me_getf (v := .ref (P.2.1 24)) rfl rfl rfl ?_
        refine me_go (pc1 := 42) (lv1 := [(0, .ref P.1), (1, .int x1), (2, .int x2)]) (st1 := [.int x2, .ref (P.2.1 24), .ref P.1]) 1 rfl ?_
        refine me_iald rfl (g := 24) rfl rfl h.1 ?_
        replace h := h.2
        refine me_go (pc1 := 47) (lv1 := [(0, .ref P.1), (1, .int x1), (2, .int x2)]) (st1 := [.int 9, .int 9, .int (μ2.2.1 24 x2.toNatClampNeg), .ref P.1]) 2 rfl ?_
        refine me_callN rfl rfl rfl (h.mono (fun r3 μ3 h => ?_) (fun _ h => h))
        refine me_go (pc1 := 51) (lv1 := [(0, .ref P.1), (1, .int x1), (2, .int x2)]) (st1 := [.ref P.1]) 1 rfl ?_
        refine me_getf (v := .ref (P.2.1 27)) rfl rfl rfl ?_
        refine me_go (pc1 := 55) (lv1 := [(0, .ref P.1), (1, .int x1), (2, .int x2)]) (st1 := [.int x2, .ref (P.2.1 27)]) 1 rfl ?_
        refine me_iald rfl (g := 27) rfl rfl h.1 ?_
        replace h := h.2
        refine me_go (pc1 := 2) (lv1 := [(2, .int (μ3.2.1 27 x2.toNatClampNeg)), (0, .ref P.1), (1, .int x1)]) (st1 := []) 2 rfl ?_
        refine me_lv [(0, .ref P.1), (1, .int x1), (2, .int (μ3.2.1 27 x2.toNatClampNeg))] (fl_c rfl (fl_c rfl (fl_c rfl fl_0))) ?_
        exact h
theorem v_nameSignature_0 {X : ev_X} {W : Nat → Prop} {d : Nat} {P : MP} {μ : MS} {R : Int32 → MS → Prop} {T : MS → Prop} (x1 : Int32) (h : (MI x1 (μ.2.2 22) ∧ MC X W true d 352 [.ref P.1, .int (μ.2.1 22 x1.toNatClampNeg)] P μ (fun r1 μ1 => (MI x1 (μ1.2.2 22) ∧ ME X W true d 355 19 [(0, .ref P.1), (1, .int x1), (2, .int (-1)), (3, .int (μ1.2.1 22 x1.toNatClampNeg))] [] P μ1 R T)) (fun _ => False))) : ME X W true d 355 0 [(0, .ref P.1), (1, .int x1)] [] P μ R T := by
  refine me_go (pc1 := 2) (lv1 := [(0, .ref P.1), (1, .int x1)]) (st1 := [.ref P.1, .ref P.1]) 2 rfl ?_
  refine me_getf (v := .ref (P.2.1 22)) rfl rfl rfl ?_
  refine me_go (pc1 := 6) (lv1 := [(0, .ref P.1), (1, .int x1)]) (st1 := [.int x1, .ref (P.2.1 22), .ref P.1]) 1 rfl ?_
  refine me_iald rfl (g := 22) rfl rfl h.1 ?_
  replace h := h.2
  refine me_callN rfl rfl rfl (h.mono (fun r1 μ1 h => ?_) (fun _ h => h))
  refine me_go (pc1 := 13) (lv1 := [(2, .int (-1)), (0, .ref P.1), (1, .int x1)]) (st1 := [.ref P.1]) 3 rfl ?_
  refine me_getf (v := .ref (P.2.1 22)) rfl rfl rfl ?_
  refine me_go (pc1 := 17) (lv1 := [(2, .int (-1)), (0, .ref P.1), (1, .int x1)]) (st1 := [.int x1, .ref (P.2.1 22)]) 1 rfl ?_
  refine me_iald rfl (g := 22) rfl rfl h.1 ?_
  replace h := h.2
  refine me_go (pc1 := 19) (lv1 := [(3, .int (μ1.2.1 22 x1.toNatClampNeg)), (2, .int (-1)), (0, .ref P.1), (1, .int x1)]) (st1 := []) 1 rfl ?_
  refine me_lv [(0, .ref P.1), (1, .int x1), (2, .int (-1)), (3, .int (μ1.2.1 22 x1.toNatClampNeg))] (fl_c rfl (fl_c rfl (fl_c rfl (fl_c rfl fl_0)))) ?_
  exact h
theorem v_nameSignature_19 {X : ev_X} {W : Nat → Prop} {d : Nat} {P : MP} {μ : MS} {R : Int32 → MS → Prop} {T : MS → Prop} (x1 : Int32) (x2 : Int32) (x3 : Int32) (h : ((x3.toInt < (0 : Int) → (MI x1 (μ.2.2 23) ∧ (((μ.2.1 23 x1.toNatClampNeg).toInt < (0 : Int) → (MI x1 (μ.2.2 24) ∧ ME X W true d 355 86 [(0, .ref P.1), (1, .int x1), (2, .int x2), (3, .int (μ.2.1 24 x1.toNatClampNeg))] [] P μ R T)) ∧ ((0 : Int) ≤ (μ.2.1 23 x1.toNatClampNeg).toInt → (MI x1 (μ.2.2 23) ∧ MC X W true d 351 [.ref P.1, .int (μ.2.1 23 x1.toNatClampNeg)] P μ (fun r1 μ1 => (MI x1 (μ1.2.2 24) ∧ ME X W true d 355 86 [(0, .ref P.1), (1, .int x1), (2, .int x2), (3, .int (μ1.2.1 24 x1.toNatClampNeg))] [] P μ1 R T)) (fun _ => False)))))) ∧ ((0 : Int) ≤ x3.toInt → (MI x3 (μ.2.2 23) ∧ (((μ.2.1 23 x3.toNatClampNeg) = x2 → (MI x3 (μ.2.2 23) ∧ (MI x3 (μ.2.2 27) ∧ ME X W true d 355 19 [(0, .ref P.1), (1, .int x1), (2, .int (μ.2.1 23 x3.toNatClampNeg)), (3, .int (μ.2.1 27 x3.toNatClampNeg))] [] P μ R T))) ∧ (¬ (μ.2.1 23 x3.toNatClampNeg) = x2 → (MI x3 (μ.2.2 23) ∧ MC X W true d 351 [.ref P.1, .int (μ.2.1 23 x3.toNatClampNeg)] P μ (fun r2 μ2 => (MI x3 (μ2.2.2 23) ∧ (MI x3 (μ2.2.2 27) ∧ ME X W true d 355 19 [(0, .ref P.1), (1, .int x1), (2, .int (μ2.2.1 23 x3.toNatClampNeg)), (3, .int (μ2.2.1 27 x3.toNatClampNeg))] [] P μ2 R T))) (fun _ => False)))))))) : ME X W true d 355 19 [(0, .ref P.1), (1, .int x1), (2, .int x2), (3, .int x3)] [] P μ R T := by
  refine me_go (pc1 := 20) (lv1 := [(0, .ref P.1), (1, .int x1), (2, .int x2), (3, .int x3)]) (st1 := [.int x3]) 1 rfl ?_
  refine me_ifc rfl rfl (fun c => ?_) (fun c => ?_)
  · replace h := h.1 (ci_lt c)
    refine me_go (pc1 := 61) (lv1 := [(0, .ref P.1), (1, .int x1), (2, .int x2), (3, .int x3)]) (st1 := [.ref P.1]) 1 rfl ?_
    refine me_getf (v := .ref (P.2.1 23)) rfl rfl rfl ?_
    refine me_go (pc1 := 65) (lv1 := [(0, .ref P.1), (1, .int x1), (2, .int x2), (3, .int x3)]) (st1 := [.int x1, .ref (P.2.1 23)]) 1 rfl ?_
    refine me_iald rfl (g := 23) rfl rfl h.1 ?_
    replace h := h.2
    refine me_ifc rfl rfl (fun c => ?_) (fun c => ?_)
    · replace h := h.1 (ci_lt c)
      refine me_go (pc1 := 80) (lv1 := [(0, .ref P.1), (1, .int x1), (2, .int x2), (3, .int x3)]) (st1 := [.ref P.1]) 1 rfl ?_
      refine me_getf (v := .ref (P.2.1 24)) rfl rfl rfl ?_
      refine me_go (pc1 := 84) (lv1 := [(0, .ref P.1), (1, .int x1), (2, .int x2), (3, .int x3)]) (st1 := [.int x1, .ref (P.2.1 24)]) 1 rfl ?_
      refine me_iald rfl (g := 24) rfl rfl h.1 ?_
      replace h := h.2
      refine me_go (pc1 := 86) (lv1 := [(3, .int (μ.2.1 24 x1.toNatClampNeg)), (0, .ref P.1), (1, .int x1), (2, .int x2)]) (st1 := []) 1 rfl ?_
      refine me_lv [(0, .ref P.1), (1, .int x1), (2, .int x2), (3, .int (μ.2.1 24 x1.toNatClampNeg))] (fl_c rfl (fl_c rfl (fl_c rfl (fl_c rfl fl_0)))) ?_
      exact h
    · replace h := h.2 (cn_lt c)
      refine me_go (pc1 := 71) (lv1 := [(0, .ref P.1), (1, .int x1), (2, .int x2), (3, .int x3)]) (st1 := [.ref P.1, .ref P.1]) 2 rfl ?_
      refine me_getf (v := .ref (P.2.1 23)) rfl rfl rfl ?_
      refine me_go (pc1 := 75) (lv1 := [(0, .ref P.1), (1, .int x1), (2, .int x2), (3, .int x3)]) (st1 := [.int x1, .ref (P.2.1 23), .ref P.1]) 1 rfl ?_
      refine me_iald rfl (g := 23) rfl rfl h.1 ?_
      replace h := h.2
      refine me_callN rfl rfl rfl (h.mono (fun r1 μ1 h => ?_) (fun _ h => h))
      refine me_go (pc1 := 80) (lv1 := [(0, .ref P.1), (1, .int x1), (2, .int x2), (3, .int x3)]) (st1 := [.ref P.1]) 1 rfl ?_
      refine me_getf (v := .ref (P.2.1 24)) rfl rfl rfl ?_
      refine me_go (pc1 := 84) (lv1 := [(0, .ref P.1), (1, .int x1), (2, .int x2), (3, .int x3)]) (st1 := [.int x1, .ref (P.2.1 24)]) 1 rfl ?_
      refine me_iald rfl (g := 24) rfl rfl h.1 ?_
      replace h := h.2
      refine me_go (pc1 := 86) (lv1 := [(3, .int (μ1.2.1 24 x1.toNatClampNeg)), (0, .ref P.1), (1, .int x1), (2, .int x2)]) (st1 := []) 1 rfl ?_
      refine me_lv [(0, .ref P.1), (1, .int x1), (2, .int x2), (3, .int (μ1.2.1 24 x1.toNatClampNeg))] (fl_c rfl (fl_c rfl (fl_c rfl (fl_c rfl fl_0)))) ?_
      exact h
  · replace h := h.2 (cn_lt c)
    refine me_go (pc1 := 24) (lv1 := [(0, .ref P.1), (1, .int x1), (2, .int x2), (3, .int x3)]) (st1 := [.ref P.1]) 1 rfl ?_
    refine me_getf (v := .ref (P.2.1 23)) rfl rfl rfl ?_
    refine me_go (pc1 := 28) (lv1 := [(0, .ref P.1), (1, .int x1), (2, .int x2), (3, .int x3)]) (st1 := [.int x3, .ref (P.2.1 23)]) 1 rfl ?_
    refine me_iald rfl (g := 23) rfl rfl h.1 ?_
    replace h := h.2
    refine me_go (pc1 := 30) (lv1 := [(0, .ref P.1), (1, .int x1), (2, .int x2), (3, .int x3)]) (st1 := [.int x2, .int (μ.2.1 23 x3.toNatClampNeg)]) 1 rfl ?_
    refine me_icmp rfl rfl (fun c => ?_) (fun c => ?_)
    · replace h := h.1 (ci_eq c)
      refine me_go (pc1 := 44) (lv1 := [(0, .ref P.1), (1, .int x1), (2, .int x2), (3, .int x3)]) (st1 := [.ref P.1]) 1 rfl ?_
      refine me_getf (v := .ref (P.2.1 23)) rfl rfl rfl ?_
      refine me_go (pc1 := 48) (lv1 := [(0, .ref P.1), (1, .int x1), (2, .int x2), (3, .int x3)]) (st1 := [.int x3, .ref (P.2.1 23)]) 1 rfl ?_
      refine me_iald rfl (g := 23) rfl rfl h.1 ?_
      replace h := h.2
      refine me_go (pc1 := 51) (lv1 := [(2, .int (μ.2.1 23 x3.toNatClampNeg)), (0, .ref P.1), (1, .int x1), (3, .int x3)]) (st1 := [.ref P.1]) 2 rfl ?_
      refine me_getf (v := .ref (P.2.1 27)) rfl rfl rfl ?_
      refine me_go (pc1 := 55) (lv1 := [(2, .int (μ.2.1 23 x3.toNatClampNeg)), (0, .ref P.1), (1, .int x1), (3, .int x3)]) (st1 := [.int x3, .ref (P.2.1 27)]) 1 rfl ?_
      refine me_iald rfl (g := 27) rfl rfl h.1 ?_
      replace h := h.2
      refine me_go (pc1 := 19) (lv1 := [(3, .int (μ.2.1 27 x3.toNatClampNeg)), (2, .int (μ.2.1 23 x3.toNatClampNeg)), (0, .ref P.1), (1, .int x1)]) (st1 := []) 2 rfl ?_
      refine me_lv [(0, .ref P.1), (1, .int x1), (2, .int (μ.2.1 23 x3.toNatClampNeg)), (3, .int (μ.2.1 27 x3.toNatClampNeg))] (fl_c rfl (fl_c rfl (fl_c rfl (fl_c rfl fl_0)))) ?_
      exact h
    · replace h := h.2 (cn_eq c)
      refine me_go (pc1 := 35) (lv1 := [(0, .ref P.1), (1, .int x1), (2, .int x2), (3, .int x3)]) (st1 := [.ref P.1, .ref P.1]) 2 rfl ?_
      refine me_getf (v := .ref (P.2.1 23)) rfl rfl rfl ?_
      refine me_go (pc1 := 39) (lv1 := [(0, .ref P.1), (1, .int x1), (2, .int x2), (3, .int x3)]) (st1 := [.int x3, .ref (P.2.1 23), .ref P.1]) 1 rfl ?_
      refine me_iald rfl (g := 23) rfl rfl h.1 ?_
      replace h := h.2
      refine me_callN rfl rfl rfl (h.mono (fun r2 μ2 h => ?_) (fun _ h => h))
      refine me_go (pc1 := 44) (lv1 := [(0, .ref P.1), (1, .int x1), (2, .int x2), (3, .int x3)]) (st1 := [.ref P.1]) 1 rfl ?_
      refine me_getf (v := .ref (P.2.1 23)) rfl rfl rfl ?_
      refine me_go (pc1 := 48) (lv1 := [(0, .ref P.1), (1, .int x1), (2, .int x2), (3, .int x3)]) (st1 := [.int x3, .ref (P.2.1 23)]) 1 rfl ?_
      refine me_iald rfl (g := 23) rfl rfl h.1 ?_
      replace h := h.2
      refine me_go (pc1 := 51) (lv1 := [(2, .int (μ2.2.1 23 x3.toNatClampNeg)), (0, .ref P.1), (1, .int x1), (3, .int x3)]) (st1 := [.ref P.1]) 2 rfl ?_
      refine me_getf (v := .ref (P.2.1 27)) rfl rfl rfl ?_
      refine me_go (pc1 := 55) (lv1 := [(2, .int (μ2.2.1 23 x3.toNatClampNeg)), (0, .ref P.1), (1, .int x1), (3, .int x3)]) (st1 := [.int x3, .ref (P.2.1 27)]) 1 rfl ?_
      refine me_iald rfl (g := 27) rfl rfl h.1 ?_
      replace h := h.2
      refine me_go (pc1 := 19) (lv1 := [(3, .int (μ2.2.1 27 x3.toNatClampNeg)), (2, .int (μ2.2.1 23 x3.toNatClampNeg)), (0, .ref P.1), (1, .int x1)]) (st1 := []) 2 rfl ?_
      refine me_lv [(0, .ref P.1), (1, .int x1), (2, .int (μ2.2.1 23 x3.toNatClampNeg)), (3, .int (μ2.2.1 27 x3.toNatClampNeg))] (fl_c rfl (fl_c rfl (fl_c rfl (fl_c rfl fl_0)))) ?_
      exact h
theorem v_nameSignature_86 {X : ev_X} {W : Nat → Prop} {d : Nat} {P : MP} {μ : MS} {R : Int32 → MS → Prop} {T : MS → Prop} (x1 : Int32) (x2 : Int32) (x3 : Int32) (h : ((x3.toInt < (0 : Int) → R 0 μ) ∧ ((0 : Int) ≤ x3.toInt → MC X W true d 350 [.ref P.1, .int x3, .int 8, .int 8] P μ (fun r1 μ1 => (MI x3 (μ1.2.2 27) ∧ ME X W true d 355 86 [(0, .ref P.1), (1, .int x1), (2, .int x2), (3, .int (μ1.2.1 27 x3.toNatClampNeg))] [] P μ1 R T)) (fun _ => False)))) : ME X W true d 355 86 [(0, .ref P.1), (1, .int x1), (2, .int x2), (3, .int x3)] [] P μ R T := by
  refine me_go (pc1 := 87) (lv1 := [(0, .ref P.1), (1, .int x1), (2, .int x2), (3, .int x3)]) (st1 := [.int x3]) 1 rfl ?_
  refine me_ifc rfl rfl (fun c => ?_) (fun c => ?_)
  · replace h := h.1 (ci_lt c)
    exact me_ret (v := none) (r := 0) rfl rfl rfl h
  · replace h := h.2 (cn_lt c)
    refine me_go (pc1 := 96) (lv1 := [(0, .ref P.1), (1, .int x1), (2, .int x2), (3, .int x3)]) (st1 := [.int 8, .int 8, .int x3, .ref P.1]) 4 rfl ?_
    refine me_callN rfl rfl rfl (h.mono (fun r1 μ1 h => ?_) (fun _ h => h))
    refine me_go (pc1 := 100) (lv1 := [(0, .ref P.1), (1, .int x1), (2, .int x2), (3, .int x3)]) (st1 := [.ref P.1]) 1 rfl ?_
    refine me_getf (v := .ref (P.2.1 27)) rfl rfl rfl ?_
    refine me_go (pc1 := 104) (lv1 := [(0, .ref P.1), (1, .int x1), (2, .int x2), (3, .int x3)]) (st1 := [.int x3, .ref (P.2.1 27)]) 1 rfl ?_
    refine me_iald rfl (g := 27) rfl rfl h.1 ?_
    replace h := h.2
    refine me_go (pc1 := 86) (lv1 := [(3, .int (μ1.2.1 27 x3.toNatClampNeg)), (0, .ref P.1), (1, .int x1), (2, .int x2)]) (st1 := []) 2 rfl ?_
    refine me_lv [(0, .ref P.1), (1, .int x1), (2, .int x2), (3, .int (μ1.2.1 27 x3.toNatClampNeg))] (fl_c rfl (fl_c rfl (fl_c rfl (fl_c rfl fl_0)))) ?_
    exact h
theorem v_nameDeclaration_0 {X : ev_X} {W : Nat → Prop} {d : Nat} {P : MP} {μ : MS} {R : Int32 → MS → Prop} {T : MS → Prop} (x1 : Int32) (h : (MI x1 (μ.2.2 20) ∧ ((((μ.2.1 20 x1.toNatClampNeg) = 3 ∨ (μ.2.1 20 x1.toNatClampNeg) = 4) → (MI x1 (μ.2.2 23) ∧ MC X W true d 351 [.ref P.1, .int (μ.2.1 23 x1.toNatClampNeg)] P μ (fun r1 μ1 => R 0 μ1) (fun _ => False))) ∧ (((μ.2.1 20 x1.toNatClampNeg) = 5 ∨ (μ.2.1 20 x1.toNatClampNeg) = 6) → (MI x1 (μ.2.2 22) ∧ MC X W true d 350 [.ref P.1, .int (μ.2.1 22 x1.toNatClampNeg), .int 3, .int 4] P μ (fun r2 μ2 => (MI x1 (μ2.2.2 23) ∧ MC X W true d 351 [.ref P.1, .int (μ2.2.1 23 x1.toNatClampNeg)] P μ2 (fun r3 μ3 => R 0 μ3) (fun _ => False))) (fun _ => False))) ∧ (((μ.2.1 20 x1.toNatClampNeg) = 7) → (MI x1 (μ.2.2 23) ∧ MC X W true d 351 [.ref P.1, .int (μ.2.1 23 x1.toNatClampNeg)] P μ (fun r4 μ4 => R 0 μ4) (fun _ => False))) ∧ (((μ.2.1 20 x1.toNatClampNeg) = 9) → (MI x1 (μ.2.2 23) ∧ MC X W true d 355 [.ref P.1, .int (μ.2.1 23 x1.toNatClampNeg)] P μ (fun r5 μ5 => (MI x1 (μ5.2.2 26) ∧ (((μ5.2.1 26 x1.toNatClampNeg).toInt < (0 : Int) → R 0 μ5) ∧ ((0 : Int) ≤ (μ5.2.1 26 x1.toNatClampNeg).toInt → MC X W true d 357 [.ref P.1, .int x1] P μ5 (fun r6 μ6 => R 0 μ6) (fun _ => False))))) (fun _ => False))) ∧ ((∀ v ∈ [(3 : Int32), (4 : Int32), (5 : Int32), (6 : Int32), (7 : Int32), (9 : Int32)], ¬ (μ.2.1 20 x1.toNatClampNeg) = v) → R 0 μ)))) : ME X W true d 356 0 [(0, .ref P.1), (1, .int x1)] [] P μ R T := by
  refine me_go (pc1 := 1) (lv1 := [(0, .ref P.1), (1, .int x1)]) (st1 := [.ref P.1]) 1 rfl ?_
  refine me_getf (v := .ref (P.2.1 20)) rfl rfl rfl ?_
  refine me_go (pc1 := 5) (lv1 := [(0, .ref P.1), (1, .int x1)]) (st1 := [.int x1, .ref (P.2.1 20)]) 1 rfl ?_
  refine me_iald rfl (g := 20) rfl rfl h.1 ?_
  replace h := h.2
  have hD := h
  have q6_0 : ((μ.2.1 20 x1.toNatClampNeg) = 3 ∨ (μ.2.1 20 x1.toNatClampNeg) = 4) → ME X W true d 356 48 [(0, .ref P.1), (1, .int x1)] [] P μ R T := fun c => by
      replace h := hD.1 c
      refine me_go (pc1 := 50) (lv1 := [(0, .ref P.1), (1, .int x1)]) (st1 := [.ref P.1, .ref P.1]) 2 rfl ?_
      refine me_getf (v := .ref (P.2.1 23)) rfl rfl rfl ?_
      refine me_go (pc1 := 54) (lv1 := [(0, .ref P.1), (1, .int x1)]) (st1 := [.int x1, .ref (P.2.1 23), .ref P.1]) 1 rfl ?_
      refine me_iald rfl (g := 23) rfl rfl h.1 ?_
      replace h := h.2
      refine me_callN rfl rfl rfl (h.mono (fun r1 μ1 h => ?_) (fun _ h => h))
      refine me_go (pc1 := 126) (lv1 := [(0, .ref P.1), (1, .int x1)]) (st1 := []) 1 rfl ?_
      exact me_ret (v := none) (r := 0) rfl rfl rfl h
  have q6_1 : ((μ.2.1 20 x1.toNatClampNeg) = 5 ∨ (μ.2.1 20 x1.toNatClampNeg) = 6) → ME X W true d 356 61 [(0, .ref P.1), (1, .int x1)] [] P μ R T := fun c => by
      replace h := hD.2.1 c
      refine me_go (pc1 := 63) (lv1 := [(0, .ref P.1), (1, .int x1)]) (st1 := [.ref P.1, .ref P.1]) 2 rfl ?_
      refine me_getf (v := .ref (P.2.1 22)) rfl rfl rfl ?_
      refine me_go (pc1 := 67) (lv1 := [(0, .ref P.1), (1, .int x1)]) (st1 := [.int x1, .ref (P.2.1 22), .ref P.1]) 1 rfl ?_
      refine me_iald rfl (g := 22) rfl rfl h.1 ?_
      replace h := h.2
      refine me_go (pc1 := 70) (lv1 := [(0, .ref P.1), (1, .int x1)]) (st1 := [.int 4, .int 3, .int (μ.2.1 22 x1.toNatClampNeg), .ref P.1]) 2 rfl ?_
      refine me_callN rfl rfl rfl (h.mono (fun r2 μ2 h => ?_) (fun _ h => h))
      refine me_go (pc1 := 75) (lv1 := [(0, .ref P.1), (1, .int x1)]) (st1 := [.ref P.1, .ref P.1]) 2 rfl ?_
      refine me_getf (v := .ref (P.2.1 23)) rfl rfl rfl ?_
      refine me_go (pc1 := 79) (lv1 := [(0, .ref P.1), (1, .int x1)]) (st1 := [.int x1, .ref (P.2.1 23), .ref P.1]) 1 rfl ?_
      refine me_iald rfl (g := 23) rfl rfl h.1 ?_
      replace h := h.2
      refine me_callN rfl rfl rfl (h.mono (fun r3 μ3 h => ?_) (fun _ h => h))
      refine me_go (pc1 := 126) (lv1 := [(0, .ref P.1), (1, .int x1)]) (st1 := []) 1 rfl ?_
      exact me_ret (v := none) (r := 0) rfl rfl rfl h
  have q6_2 : ((μ.2.1 20 x1.toNatClampNeg) = 7) → ME X W true d 356 86 [(0, .ref P.1), (1, .int x1)] [] P μ R T := fun c => by
      replace h := hD.2.2.1 c
      refine me_go (pc1 := 88) (lv1 := [(0, .ref P.1), (1, .int x1)]) (st1 := [.ref P.1, .ref P.1]) 2 rfl ?_
      refine me_getf (v := .ref (P.2.1 23)) rfl rfl rfl ?_
      refine me_go (pc1 := 92) (lv1 := [(0, .ref P.1), (1, .int x1)]) (st1 := [.int x1, .ref (P.2.1 23), .ref P.1]) 1 rfl ?_
      refine me_iald rfl (g := 23) rfl rfl h.1 ?_
      replace h := h.2
      refine me_callN rfl rfl rfl (h.mono (fun r4 μ4 h => ?_) (fun _ h => h))
      refine me_go (pc1 := 126) (lv1 := [(0, .ref P.1), (1, .int x1)]) (st1 := []) 1 rfl ?_
      exact me_ret (v := none) (r := 0) rfl rfl rfl h
  have q6_3 : ((μ.2.1 20 x1.toNatClampNeg) = 9) → ME X W true d 356 99 [(0, .ref P.1), (1, .int x1)] [] P μ R T := fun c => by
      replace h := hD.2.2.2.1 c
      refine me_go (pc1 := 101) (lv1 := [(0, .ref P.1), (1, .int x1)]) (st1 := [.ref P.1, .ref P.1]) 2 rfl ?_
      refine me_getf (v := .ref (P.2.1 23)) rfl rfl rfl ?_
      refine me_go (pc1 := 105) (lv1 := [(0, .ref P.1), (1, .int x1)]) (st1 := [.int x1, .ref (P.2.1 23), .ref P.1]) 1 rfl ?_
      refine me_iald rfl (g := 23) rfl rfl h.1 ?_
      replace h := h.2
      refine me_callN rfl rfl rfl (h.mono (fun r5 μ5 h => ?_) (fun _ h => h))
      refine me_go (pc1 := 110) (lv1 := [(0, .ref P.1), (1, .int x1)]) (st1 := [.ref P.1]) 1 rfl ?_
      refine me_getf (v := .ref (P.2.1 26)) rfl rfl rfl ?_
      refine me_go (pc1 := 114) (lv1 := [(0, .ref P.1), (1, .int x1)]) (st1 := [.int x1, .ref (P.2.1 26)]) 1 rfl ?_
      refine me_iald rfl (g := 26) rfl rfl h.1 ?_
      replace h := h.2
      refine me_ifc rfl rfl (fun c => ?_) (fun c => ?_)
      · replace h := h.1 (ci_lt c)
        exact me_ret (v := none) (r := 0) rfl rfl rfl h
      · replace h := h.2 (cn_lt c)
        refine me_go (pc1 := 120) (lv1 := [(0, .ref P.1), (1, .int x1)]) (st1 := [.int x1, .ref P.1]) 2 rfl ?_
        refine me_callN rfl rfl rfl (h.mono (fun r6 μ6 h => ?_) (fun _ h => h))
        refine me_go (pc1 := 126) (lv1 := [(0, .ref P.1), (1, .int x1)]) (st1 := []) 1 rfl ?_
        exact me_ret (v := none) (r := 0) rfl rfl rfl h
  by_cases c : (μ.2.1 20 x1.toNatClampNeg) = 3
  · exact me_sw rfl c (t := 48) rfl (q6_0 (Or.inl c))
  rename ¬ (μ.2.1 20 x1.toNatClampNeg) = 3 => n0
  by_cases c : (μ.2.1 20 x1.toNatClampNeg) = 4
  · exact me_sw rfl c (t := 48) rfl (q6_0 (Or.inr (c)))
  rename ¬ (μ.2.1 20 x1.toNatClampNeg) = 4 => n1
  by_cases c : (μ.2.1 20 x1.toNatClampNeg) = 5
  · exact me_sw rfl c (t := 61) rfl (q6_1 (Or.inl c))
  rename ¬ (μ.2.1 20 x1.toNatClampNeg) = 5 => n2
  by_cases c : (μ.2.1 20 x1.toNatClampNeg) = 6
  · exact me_sw rfl c (t := 61) rfl (q6_1 (Or.inr (c)))
  rename ¬ (μ.2.1 20 x1.toNatClampNeg) = 6 => n3
  by_cases c : (μ.2.1 20 x1.toNatClampNeg) = 7
  · exact me_sw rfl c (t := 86) rfl (q6_2 (c))
  rename ¬ (μ.2.1 20 x1.toNatClampNeg) = 7 => n4
  by_cases c : (μ.2.1 20 x1.toNatClampNeg) = 9
  · exact me_sw rfl c (t := 99) rfl (q6_3 (c))
  rename ¬ (μ.2.1 20 x1.toNatClampNeg) = 9 => n5
  have hk : ∀ v ∈ [(3 : Int32), (4 : Int32), (5 : Int32), (6 : Int32), (7 : Int32), (9 : Int32)], ¬ (μ.2.1 20 x1.toNatClampNeg) = v := fun v hv => by
    simp only [List.mem_cons, List.not_mem_nil, or_false] at hv
    rcases hv with rfl | rfl | rfl | rfl | rfl | rfl <;> assumption
  refine me_tsD (t := 126) rfl _ rfl rfl hk ?_
  replace h := hD.2.2.2.2 hk
  exact me_ret (v := none) (r := 0) rfl rfl rfl h
theorem v_nameBody_0 {X : ev_X} {W : Nat → Prop} {d : Nat} {P : MP} {μ : MS} {R : Int32 → MS → Prop} {T : MS → Prop} (x1 : Int32) (h : (MI x1 (μ.2.2 23) ∧ (MI (μ.2.1 23 x1.toNatClampNeg) (μ.2.2 22) ∧ ME X W true d 357 20 [(0, .ref P.1), (1, .int x1), (2, .int (μ.1 62)), (3, .int (μ.2.1 23 x1.toNatClampNeg)), (4, .int (μ.2.1 22 ((μ.2.1 23 x1.toNatClampNeg)).toNatClampNeg))] [] P μ R T))) : ME X W true d 357 0 [(0, .ref P.1), (1, .int x1)] [] P μ R T := by
  refine me_go (pc1 := 1) (lv1 := [(0, .ref P.1), (1, .int x1)]) (st1 := [.ref P.1]) 1 rfl ?_
  refine me_getf (v := .int (μ.1 62)) rfl rfl rfl ?_
  refine me_go (pc1 := 6) (lv1 := [(2, .int (μ.1 62)), (0, .ref P.1), (1, .int x1)]) (st1 := [.ref P.1]) 2 rfl ?_
  refine me_getf (v := .ref (P.2.1 23)) rfl rfl rfl ?_
  refine me_go (pc1 := 10) (lv1 := [(2, .int (μ.1 62)), (0, .ref P.1), (1, .int x1)]) (st1 := [.int x1, .ref (P.2.1 23)]) 1 rfl ?_
  refine me_iald rfl (g := 23) rfl rfl h.1 ?_
  replace h := h.2
  refine me_go (pc1 := 13) (lv1 := [(3, .int (μ.2.1 23 x1.toNatClampNeg)), (2, .int (μ.1 62)), (0, .ref P.1), (1, .int x1)]) (st1 := [.ref P.1]) 2 rfl ?_
  refine me_getf (v := .ref (P.2.1 22)) rfl rfl rfl ?_
  refine me_go (pc1 := 17) (lv1 := [(3, .int (μ.2.1 23 x1.toNatClampNeg)), (2, .int (μ.1 62)), (0, .ref P.1), (1, .int x1)]) (st1 := [.int (μ.2.1 23 x1.toNatClampNeg), .ref (P.2.1 22)]) 1 rfl ?_
  refine me_iald rfl (g := 22) rfl rfl h.1 ?_
  replace h := h.2
  refine me_go (pc1 := 20) (lv1 := [(4, .int (μ.2.1 22 ((μ.2.1 23 x1.toNatClampNeg)).toNatClampNeg)), (3, .int (μ.2.1 23 x1.toNatClampNeg)), (2, .int (μ.1 62)), (0, .ref P.1), (1, .int x1)]) (st1 := []) 1 rfl ?_
  refine me_lv [(0, .ref P.1), (1, .int x1), (2, .int (μ.1 62)), (3, .int (μ.2.1 23 x1.toNatClampNeg)), (4, .int (μ.2.1 22 ((μ.2.1 23 x1.toNatClampNeg)).toNatClampNeg))] (fl_c rfl (fl_c rfl (fl_c rfl (fl_c rfl (fl_c rfl fl_0))))) ?_
  exact h
theorem v_nameBody_20 {X : ev_X} {W : Nat → Prop} {d : Nat} {P : MP} {μ : MS} {R : Int32 → MS → Prop} {T : MS → Prop} (x1 : Int32) (x2 : Int32) (x3 : Int32) (x4 : Int32) (h : ((x4.toInt < (0 : Int) → (MI x1 (μ.2.2 24) ∧ ME X W true d 357 97 [(0, .ref P.1), (1, .int x1), (2, .int x2), (3, .int x3), (4, .int (μ.2.1 24 x1.toNatClampNeg))] [] P μ R T)) ∧ ((0 : Int) ≤ x4.toInt → (MI x4 (μ.2.2 24) ∧ ((¬ (μ.2.1 24 x4.toNatClampNeg) = 1 → (MI x4 (μ.2.2 23) ∧ MC X W true d 341 [.ref P.1, .int 1, .int (μ.2.1 23 x4.toNatClampNeg)] P μ (fun r1 μ1 => (MI x4 (μ1.2.2 28) ∧ (MI x4 (μ1.2.2 22) ∧ (MI x4 (μ1.2.2 28) ∧ MC X W true d 358 [.ref P.1, .int (μ1.2.1 22 x4.toNatClampNeg), .int (upd (μ1.2.1 28) x4.toNatClampNeg r1 x4.toNatClampNeg)] P (mA1 μ1 28 x4.toNatClampNeg r1) (fun r2 μ2 => (MI x4 (μ2.2.2 27) ∧ ME X W true d 357 20 [(0, .ref P.1), (1, .int x1), (2, .int x2), (3, .int x3), (4, .int (μ2.2.1 27 x4.toNatClampNeg))] [] P μ2 R T)) (fun _ => False))))) (fun _ => False))) ∧ ((μ.2.1 24 x4.toNatClampNeg) = 1 → (MI x4 (μ.2.2 23) ∧ MC X W true d 341 [.ref P.1, .int 2, .int (μ.2.1 23 x4.toNatClampNeg)] P μ (fun r3 μ3 => (MI x4 (μ3.2.2 28) ∧ (MI x4 (μ3.2.2 22) ∧ (MI x4 (μ3.2.2 28) ∧ MC X W true d 358 [.ref P.1, .int (μ3.2.1 22 x4.toNatClampNeg), .int (upd (μ3.2.1 28) x4.toNatClampNeg r3 x4.toNatClampNeg)] P (mA1 μ3 28 x4.toNatClampNeg r3) (fun r4 μ4 => (MI x4 (μ4.2.2 27) ∧ ME X W true d 357 20 [(0, .ref P.1), (1, .int x1), (2, .int x2), (3, .int x3), (4, .int (μ4.2.1 27 x4.toNatClampNeg))] [] P μ4 R T)) (fun _ => False))))) (fun _ => False)))))))) : ME X W true d 357 20 [(0, .ref P.1), (1, .int x1), (2, .int x2), (3, .int x3), (4, .int x4)] [] P μ R T := by
  refine me_go (pc1 := 22) (lv1 := [(0, .ref P.1), (1, .int x1), (2, .int x2), (3, .int x3), (4, .int x4)]) (st1 := [.int x4]) 1 rfl ?_
  refine me_ifc rfl rfl (fun c => ?_) (fun c => ?_)
  · replace h := h.1 (ci_lt c)
    refine me_go (pc1 := 90) (lv1 := [(0, .ref P.1), (1, .int x1), (2, .int x2), (3, .int x3), (4, .int x4)]) (st1 := [.ref P.1]) 1 rfl ?_
    refine me_getf (v := .ref (P.2.1 24)) rfl rfl rfl ?_
    refine me_go (pc1 := 94) (lv1 := [(0, .ref P.1), (1, .int x1), (2, .int x2), (3, .int x3), (4, .int x4)]) (st1 := [.int x1, .ref (P.2.1 24)]) 1 rfl ?_
    refine me_iald rfl (g := 24) rfl rfl h.1 ?_
    replace h := h.2
    refine me_go (pc1 := 97) (lv1 := [(4, .int (μ.2.1 24 x1.toNatClampNeg)), (0, .ref P.1), (1, .int x1), (2, .int x2), (3, .int x3)]) (st1 := []) 1 rfl ?_
    refine me_lv [(0, .ref P.1), (1, .int x1), (2, .int x2), (3, .int x3), (4, .int (μ.2.1 24 x1.toNatClampNeg))] (fl_c rfl (fl_c rfl (fl_c rfl (fl_c rfl (fl_c rfl fl_0))))) ?_
    exact h
  · replace h := h.2 (cn_lt c)
    refine me_go (pc1 := 26) (lv1 := [(0, .ref P.1), (1, .int x1), (2, .int x2), (3, .int x3), (4, .int x4)]) (st1 := [.ref P.1]) 1 rfl ?_
    refine me_getf (v := .ref (P.2.1 28)) rfl rfl rfl ?_
    refine me_go (pc1 := 33) (lv1 := [(0, .ref P.1), (1, .int x1), (2, .int x2), (3, .int x3), (4, .int x4)]) (st1 := [.ref P.1, .ref P.1, .int x4, .ref (P.2.1 28)]) 3 rfl ?_
    refine me_getf (v := .ref (P.2.1 24)) rfl rfl rfl ?_
    refine me_go (pc1 := 38) (lv1 := [(0, .ref P.1), (1, .int x1), (2, .int x2), (3, .int x3), (4, .int x4)]) (st1 := [.int x4, .ref (P.2.1 24), .ref P.1, .int x4, .ref (P.2.1 28)]) 1 rfl ?_
    refine me_iald rfl (g := 24) rfl rfl h.1 ?_
    replace h := h.2
    refine me_go (pc1 := 40) (lv1 := [(0, .ref P.1), (1, .int x1), (2, .int x2), (3, .int x3), (4, .int x4)]) (st1 := [.int 1, .int (μ.2.1 24 x4.toNatClampNeg), .ref P.1, .int x4, .ref (P.2.1 28)]) 1 rfl ?_
    refine me_icmp rfl rfl (fun c => ?_) (fun c => ?_)
    · replace h := h.1 (ci_ne c)
      refine me_go (pc1 := 49) (lv1 := [(0, .ref P.1), (1, .int x1), (2, .int x2), (3, .int x3), (4, .int x4)]) (st1 := [.ref P.1, .int 1, .ref P.1, .int x4, .ref (P.2.1 28)]) 2 rfl ?_
      refine me_getf (v := .ref (P.2.1 23)) rfl rfl rfl ?_
      refine me_go (pc1 := 54) (lv1 := [(0, .ref P.1), (1, .int x1), (2, .int x2), (3, .int x3), (4, .int x4)]) (st1 := [.int x4, .ref (P.2.1 23), .int 1, .ref P.1, .int x4, .ref (P.2.1 28)]) 1 rfl ?_
      refine me_iald rfl (g := 23) rfl rfl h.1 ?_
      replace h := h.2
      refine me_callN rfl rfl rfl (h.mono (fun r1 μ1 h => ?_) (fun _ h => h))
      have hi := h.1
      replace h := h.2
      refine me_iast rfl (g := 28) rfl rfl hi ?_
      refine me_go (pc1 := 61) (lv1 := [(0, .ref P.1), (1, .int x1), (2, .int x2), (3, .int x3), (4, .int x4)]) (st1 := [.ref P.1, .ref P.1]) 2 rfl ?_
      refine me_getf (v := .ref (P.2.1 22)) rfl rfl rfl ?_
      refine me_go (pc1 := 66) (lv1 := [(0, .ref P.1), (1, .int x1), (2, .int x2), (3, .int x3), (4, .int x4)]) (st1 := [.int x4, .ref (P.2.1 22), .ref P.1]) 1 rfl ?_
      refine me_iald rfl (g := 22) rfl rfl h.1 ?_
      replace h := h.2
      refine me_go (pc1 := 68) (lv1 := [(0, .ref P.1), (1, .int x1), (2, .int x2), (3, .int x3), (4, .int x4)]) (st1 := [.ref P.1, .int (μ1.2.1 22 x4.toNatClampNeg), .ref P.1]) 1 rfl ?_
      refine me_getf (v := .ref (P.2.1 28)) rfl rfl rfl ?_
      refine me_go (pc1 := 73) (lv1 := [(0, .ref P.1), (1, .int x1), (2, .int x2), (3, .int x3), (4, .int x4)]) (st1 := [.int x4, .ref (P.2.1 28), .int (μ1.2.1 22 x4.toNatClampNeg), .ref P.1]) 1 rfl ?_
      refine me_iald rfl (g := 28) rfl rfl h.1 ?_
      replace h := h.2
      refine me_callN rfl rfl rfl (h.mono (fun r2 μ2 h => ?_) (fun _ h => h))
      refine me_go (pc1 := 78) (lv1 := [(0, .ref P.1), (1, .int x1), (2, .int x2), (3, .int x3), (4, .int x4)]) (st1 := [.ref P.1]) 1 rfl ?_
      refine me_getf (v := .ref (P.2.1 27)) rfl rfl rfl ?_
      refine me_go (pc1 := 83) (lv1 := [(0, .ref P.1), (1, .int x1), (2, .int x2), (3, .int x3), (4, .int x4)]) (st1 := [.int x4, .ref (P.2.1 27)]) 1 rfl ?_
      refine me_iald rfl (g := 27) rfl rfl h.1 ?_
      replace h := h.2
      refine me_go (pc1 := 20) (lv1 := [(4, .int (μ2.2.1 27 x4.toNatClampNeg)), (0, .ref P.1), (1, .int x1), (2, .int x2), (3, .int x3)]) (st1 := []) 2 rfl ?_
      refine me_lv [(0, .ref P.1), (1, .int x1), (2, .int x2), (3, .int x3), (4, .int (μ2.2.1 27 x4.toNatClampNeg))] (fl_c rfl (fl_c rfl (fl_c rfl (fl_c rfl (fl_c rfl fl_0))))) ?_
      exact h
    · replace h := h.2 (cn_ne c)
      refine me_go (pc1 := 49) (lv1 := [(0, .ref P.1), (1, .int x1), (2, .int x2), (3, .int x3), (4, .int x4)]) (st1 := [.ref P.1, .int 2, .ref P.1, .int x4, .ref (P.2.1 28)]) 3 rfl ?_
      refine me_getf (v := .ref (P.2.1 23)) rfl rfl rfl ?_
      refine me_go (pc1 := 54) (lv1 := [(0, .ref P.1), (1, .int x1), (2, .int x2), (3, .int x3), (4, .int x4)]) (st1 := [.int x4, .ref (P.2.1 23), .int 2, .ref P.1, .int x4, .ref (P.2.1 28)]) 1 rfl ?_
      refine me_iald rfl (g := 23) rfl rfl h.1 ?_
      replace h := h.2
      refine me_callN rfl rfl rfl (h.mono (fun r3 μ3 h => ?_) (fun _ h => h))
      have hi := h.1
      replace h := h.2
      refine me_iast rfl (g := 28) rfl rfl hi ?_
      refine me_go (pc1 := 61) (lv1 := [(0, .ref P.1), (1, .int x1), (2, .int x2), (3, .int x3), (4, .int x4)]) (st1 := [.ref P.1, .ref P.1]) 2 rfl ?_
      refine me_getf (v := .ref (P.2.1 22)) rfl rfl rfl ?_
      refine me_go (pc1 := 66) (lv1 := [(0, .ref P.1), (1, .int x1), (2, .int x2), (3, .int x3), (4, .int x4)]) (st1 := [.int x4, .ref (P.2.1 22), .ref P.1]) 1 rfl ?_
      refine me_iald rfl (g := 22) rfl rfl h.1 ?_
      replace h := h.2
      refine me_go (pc1 := 68) (lv1 := [(0, .ref P.1), (1, .int x1), (2, .int x2), (3, .int x3), (4, .int x4)]) (st1 := [.ref P.1, .int (μ3.2.1 22 x4.toNatClampNeg), .ref P.1]) 1 rfl ?_
      refine me_getf (v := .ref (P.2.1 28)) rfl rfl rfl ?_
      refine me_go (pc1 := 73) (lv1 := [(0, .ref P.1), (1, .int x1), (2, .int x2), (3, .int x3), (4, .int x4)]) (st1 := [.int x4, .ref (P.2.1 28), .int (μ3.2.1 22 x4.toNatClampNeg), .ref P.1]) 1 rfl ?_
      refine me_iald rfl (g := 28) rfl rfl h.1 ?_
      replace h := h.2
      refine me_callN rfl rfl rfl (h.mono (fun r4 μ4 h => ?_) (fun _ h => h))
      refine me_go (pc1 := 78) (lv1 := [(0, .ref P.1), (1, .int x1), (2, .int x2), (3, .int x3), (4, .int x4)]) (st1 := [.ref P.1]) 1 rfl ?_
      refine me_getf (v := .ref (P.2.1 27)) rfl rfl rfl ?_
      refine me_go (pc1 := 83) (lv1 := [(0, .ref P.1), (1, .int x1), (2, .int x2), (3, .int x3), (4, .int x4)]) (st1 := [.int x4, .ref (P.2.1 27)]) 1 rfl ?_
      refine me_iald rfl (g := 27) rfl rfl h.1 ?_
      replace h := h.2
      refine me_go (pc1 := 20) (lv1 := [(4, .int (μ4.2.1 27 x4.toNatClampNeg)), (0, .ref P.1), (1, .int x1), (2, .int x2), (3, .int x3)]) (st1 := []) 2 rfl ?_
      refine me_lv [(0, .ref P.1), (1, .int x1), (2, .int x2), (3, .int x3), (4, .int (μ4.2.1 27 x4.toNatClampNeg))] (fl_c rfl (fl_c rfl (fl_c rfl (fl_c rfl (fl_c rfl fl_0))))) ?_
      exact h
theorem v_nameBody_97 {X : ev_X} {W : Nat → Prop} {d : Nat} {P : MP} {μ : MS} {R : Int32 → MS → Prop} {T : MS → Prop} (x1 : Int32) (x2 : Int32) (x3 : Int32) (x4 : Int32) (h : ((x4.toInt < (0 : Int) → (MI x1 (μ.2.2 25) ∧ MC X W true d 359 [.ref P.1, .int (μ.2.1 25 x1.toNatClampNeg)] P μ (fun r1 μ1 => R 0 (mS1 μ1 62 x2)) (fun _ => False))) ∧ ((0 : Int) ≤ x4.toInt → (MI x4 (μ.2.2 23) ∧ MC X W true d 351 [.ref P.1, .int (μ.2.1 23 x4.toNatClampNeg)] P μ (fun r2 μ2 => (MI x4 (μ2.2.2 22) ∧ ME X W true d 357 122 [(0, .ref P.1), (1, .int x1), (2, .int x2), (3, .int x3), (4, .int x4), (5, .int (μ2.2.1 22 x4.toNatClampNeg))] [] P μ2 R T)) (fun _ => False))))) : ME X W true d 357 97 [(0, .ref P.1), (1, .int x1), (2, .int x2), (3, .int x3), (4, .int x4)] [] P μ R T := by
  refine me_go (pc1 := 99) (lv1 := [(0, .ref P.1), (1, .int x1), (2, .int x2), (3, .int x3), (4, .int x4)]) (st1 := [.int x4]) 1 rfl ?_
  refine me_ifc rfl rfl (fun c => ?_) (fun c => ?_)
  · replace h := h.1 (ci_lt c)
    refine me_go (pc1 := 237) (lv1 := [(0, .ref P.1), (1, .int x1), (2, .int x2), (3, .int x3), (4, .int x4)]) (st1 := [.ref P.1, .ref P.1]) 2 rfl ?_
    refine me_getf (v := .ref (P.2.1 25)) rfl rfl rfl ?_
    refine me_go (pc1 := 241) (lv1 := [(0, .ref P.1), (1, .int x1), (2, .int x2), (3, .int x3), (4, .int x4)]) (st1 := [.int x1, .ref (P.2.1 25), .ref P.1]) 1 rfl ?_
    refine me_iald rfl (g := 25) rfl rfl h.1 ?_
    replace h := h.2
    refine me_callN rfl rfl rfl (h.mono (fun r1 μ1 h => ?_) (fun _ h => h))
    refine me_go (pc1 := 247) (lv1 := [(0, .ref P.1), (1, .int x1), (2, .int x2), (3, .int x3), (4, .int x4)]) (st1 := [.int x2, .ref P.1]) 2 rfl ?_
    refine me_put rfl rfl rfl ?_
    exact me_ret (v := none) (r := 0) rfl rfl rfl h
  · replace h := h.2 (cn_lt c)
    refine me_go (pc1 := 104) (lv1 := [(0, .ref P.1), (1, .int x1), (2, .int x2), (3, .int x3), (4, .int x4)]) (st1 := [.ref P.1, .ref P.1]) 2 rfl ?_
    refine me_getf (v := .ref (P.2.1 23)) rfl rfl rfl ?_
    refine me_go (pc1 := 109) (lv1 := [(0, .ref P.1), (1, .int x1), (2, .int x2), (3, .int x3), (4, .int x4)]) (st1 := [.int x4, .ref (P.2.1 23), .ref P.1]) 1 rfl ?_
    refine me_iald rfl (g := 23) rfl rfl h.1 ?_
    replace h := h.2
    refine me_callN rfl rfl rfl (h.mono (fun r2 μ2 h => ?_) (fun _ h => h))
    refine me_go (pc1 := 114) (lv1 := [(0, .ref P.1), (1, .int x1), (2, .int x2), (3, .int x3), (4, .int x4)]) (st1 := [.ref P.1]) 1 rfl ?_
    refine me_getf (v := .ref (P.2.1 22)) rfl rfl rfl ?_
    refine me_go (pc1 := 119) (lv1 := [(0, .ref P.1), (1, .int x1), (2, .int x2), (3, .int x3), (4, .int x4)]) (st1 := [.int x4, .ref (P.2.1 22)]) 1 rfl ?_
    refine me_iald rfl (g := 22) rfl rfl h.1 ?_
    replace h := h.2
    refine me_go (pc1 := 122) (lv1 := [(5, .int (μ2.2.1 22 x4.toNatClampNeg)), (0, .ref P.1), (1, .int x1), (2, .int x2), (3, .int x3), (4, .int x4)]) (st1 := []) 1 rfl ?_
    refine me_lv [(0, .ref P.1), (1, .int x1), (2, .int x2), (3, .int x3), (4, .int x4), (5, .int (μ2.2.1 22 x4.toNatClampNeg))] (fl_c rfl (fl_c rfl (fl_c rfl (fl_c rfl (fl_c rfl (fl_c rfl fl_0)))))) ?_
    exact h
theorem v_nameBody_122 {X : ev_X} {W : Nat → Prop} {d : Nat} {P : MP} {μ : MS} {R : Int32 → MS → Prop} {T : MS → Prop} (x1 : Int32) (x2 : Int32) (x3 : Int32) (x4 : Int32) (x5 : Int32) (h : ((x5.toInt < (0 : Int) → (MI x4 (μ.2.2 27) ∧ ME X W true d 357 97 [(0, .ref P.1), (1, .int x1), (2, .int x2), (3, .int x3), (4, .int (μ.2.1 27 x4.toNatClampNeg))] [] P μ R T)) ∧ ((0 : Int) ≤ x5.toInt → ME X W true d 357 130 [(0, .ref P.1), (1, .int x1), (2, .int x2), (3, .int x3), (4, .int x4), (5, .int x5), (6, .int x2)] [] P μ R T))) : ME X W true d 357 122 [(0, .ref P.1), (1, .int x1), (2, .int x2), (3, .int x3), (4, .int x4), (5, .int x5)] [] P μ R T := by
  refine me_go (pc1 := 124) (lv1 := [(0, .ref P.1), (1, .int x1), (2, .int x2), (3, .int x3), (4, .int x4), (5, .int x5)]) (st1 := [.int x5]) 1 rfl ?_
  refine me_ifc rfl rfl (fun c => ?_) (fun c => ?_)
  · replace h := h.1 (ci_lt c)
    refine me_go (pc1 := 224) (lv1 := [(0, .ref P.1), (1, .int x1), (2, .int x2), (3, .int x3), (4, .int x4), (5, .int x5)]) (st1 := [.ref P.1]) 1 rfl ?_
    refine me_getf (v := .ref (P.2.1 27)) rfl rfl rfl ?_
    refine me_go (pc1 := 229) (lv1 := [(0, .ref P.1), (1, .int x1), (2, .int x2), (3, .int x3), (4, .int x4), (5, .int x5)]) (st1 := [.int x4, .ref (P.2.1 27)]) 1 rfl ?_
    refine me_iald rfl (g := 27) rfl rfl h.1 ?_
    replace h := h.2
    refine me_go (pc1 := 97) (lv1 := [(4, .int (μ.2.1 27 x4.toNatClampNeg)), (0, .ref P.1), (1, .int x1), (2, .int x2), (3, .int x3), (5, .int x5)]) (st1 := []) 2 rfl ?_
    refine me_lv [(0, .ref P.1), (1, .int x1), (2, .int x2), (3, .int x3), (4, .int (μ.2.1 27 x4.toNatClampNeg))] (fl_c rfl (fl_c rfl (fl_c rfl (fl_c rfl (fl_c rfl fl_0))))) ?_
    exact h
  · replace h := h.2 (cn_lt c)
    refine me_go (pc1 := 130) (lv1 := [(6, .int x2), (0, .ref P.1), (1, .int x1), (2, .int x2), (3, .int x3), (4, .int x4), (5, .int x5)]) (st1 := []) 2 rfl ?_
    refine me_lv [(0, .ref P.1), (1, .int x1), (2, .int x2), (3, .int x3), (4, .int x4), (5, .int x5), (6, .int x2)] (fl_c rfl (fl_c rfl (fl_c rfl (fl_c rfl (fl_c rfl (fl_c rfl (fl_c rfl fl_0))))))) ?_
    exact h
theorem v_nameBody_130 {X : ev_X} {W : Nat → Prop} {d : Nat} {P : MP} {μ : MS} {R : Int32 → MS → Prop} {T : MS → Prop} (x1 : Int32) (x2 : Int32) (x3 : Int32) (x4 : Int32) (x5 : Int32) (x6 : Int32) (h : (((μ.1 62).toInt ≤ x6.toInt → (MI x4 (μ.2.2 23) ∧ MC X W true d 341 [.ref P.1, .int 3, .int (μ.2.1 23 x4.toNatClampNeg)] P μ (fun r1 μ1 => (MI x5 (μ1.2.2 28) ∧ (MI x5 (μ1.2.2 22) ∧ (MI x5 (μ1.2.2 28) ∧ MC X W true d 358 [.ref P.1, .int (μ1.2.1 22 x5.toNatClampNeg), .int (upd (μ1.2.1 28) x5.toNatClampNeg r1 x5.toNatClampNeg)] P (mA1 μ1 28 x5.toNatClampNeg r1) (fun r2 μ2 => (MI x5 (μ2.2.2 27) ∧ ME X W true d 357 122 [(0, .ref P.1), (1, .int x1), (2, .int x2), (3, .int x3), (4, .int x4), (5, .int (μ2.2.1 27 x5.toNatClampNeg))] [] P μ2 R T)) (fun _ => False))))) (fun _ => False))) ∧ (x6.toInt < (μ.1 62).toInt → (MI x6 (μ.2.2 63) ∧ (MI x5 (μ.2.2 22) ∧ ((¬ (μ.2.1 63 x6.toNatClampNeg) = (μ.2.1 22 x5.toNatClampNeg) → ME X W true d 357 130 [(0, .ref P.1), (1, .int x1), (2, .int x2), (3, .int x3), (4, .int x4), (5, .int x5), (6, .int (x6 + 1))] [] P μ R T) ∧ ((μ.2.1 63 x6.toNatClampNeg) = (μ.2.1 22 x5.toNatClampNeg) → (MI x5 (μ.2.2 21) ∧ MC X W true d 290 [.ref P.1, .int 5, .int (μ.2.1 21 x5.toNatClampNeg)] P μ (fun r3 μ3 => ME X W true d 357 130 [(0, .ref P.1), (1, .int x1), (2, .int x2), (3, .int x3), (4, .int x4), (5, .int x5), (6, .int (x6 + 1))] [] P μ3 R T) (fun _ => False))))))))) : ME X W true d 357 130 [(0, .ref P.1), (1, .int x1), (2, .int x2), (3, .int x3), (4, .int x4), (5, .int x5), (6, .int x6)] [] P μ R T := by
  refine me_go (pc1 := 133) (lv1 := [(0, .ref P.1), (1, .int x1), (2, .int x2), (3, .int x3), (4, .int x4), (5, .int x5), (6, .int x6)]) (st1 := [.ref P.1, .int x6]) 2 rfl ?_
  refine me_getf (v := .int (μ.1 62)) rfl rfl rfl ?_
  refine me_icmp rfl rfl (fun c => ?_) (fun c => ?_)
  · replace h := h.1 (ci_ge c)
    refine me_go (pc1 := 175) (lv1 := [(0, .ref P.1), (1, .int x1), (2, .int x2), (3, .int x3), (4, .int x4), (5, .int x5), (6, .int x6)]) (st1 := [.ref P.1]) 1 rfl ?_
    refine me_getf (v := .ref (P.2.1 28)) rfl rfl rfl ?_
    refine me_go (pc1 := 183) (lv1 := [(0, .ref P.1), (1, .int x1), (2, .int x2), (3, .int x3), (4, .int x4), (5, .int x5), (6, .int x6)]) (st1 := [.ref P.1, .int 3, .ref P.1, .int x5, .ref (P.2.1 28)]) 4 rfl ?_
    refine me_getf (v := .ref (P.2.1 23)) rfl rfl rfl ?_
    refine me_go (pc1 := 188) (lv1 := [(0, .ref P.1), (1, .int x1), (2, .int x2), (3, .int x3), (4, .int x4), (5, .int x5), (6, .int x6)]) (st1 := [.int x4, .ref (P.2.1 23), .int 3, .ref P.1, .int x5, .ref (P.2.1 28)]) 1 rfl ?_
    refine me_iald rfl (g := 23) rfl rfl h.1 ?_
    replace h := h.2
    refine me_callN rfl rfl rfl (h.mono (fun r1 μ1 h => ?_) (fun _ h => h))
    have hi := h.1
    replace h := h.2
    refine me_iast rfl (g := 28) rfl rfl hi ?_
    refine me_go (pc1 := 195) (lv1 := [(0, .ref P.1), (1, .int x1), (2, .int x2), (3, .int x3), (4, .int x4), (5, .int x5), (6, .int x6)]) (st1 := [.ref P.1, .ref P.1]) 2 rfl ?_
    refine me_getf (v := .ref (P.2.1 22)) rfl rfl rfl ?_
    refine me_go (pc1 := 200) (lv1 := [(0, .ref P.1), (1, .int x1), (2, .int x2), (3, .int x3), (4, .int x4), (5, .int x5), (6, .int x6)]) (st1 := [.int x5, .ref (P.2.1 22), .ref P.1]) 1 rfl ?_
    refine me_iald rfl (g := 22) rfl rfl h.1 ?_
    replace h := h.2
    refine me_go (pc1 := 202) (lv1 := [(0, .ref P.1), (1, .int x1), (2, .int x2), (3, .int x3), (4, .int x4), (5, .int x5), (6, .int x6)]) (st1 := [.ref P.1, .int (μ1.2.1 22 x5.toNatClampNeg), .ref P.1]) 1 rfl ?_
    refine me_getf (v := .ref (P.2.1 28)) rfl rfl rfl ?_
    refine me_go (pc1 := 207) (lv1 := [(0, .ref P.1), (1, .int x1), (2, .int x2), (3, .int x3), (4, .int x4), (5, .int x5), (6, .int x6)]) (st1 := [.int x5, .ref (P.2.1 28), .int (μ1.2.1 22 x5.toNatClampNeg), .ref P.1]) 1 rfl ?_
    refine me_iald rfl (g := 28) rfl rfl h.1 ?_
    replace h := h.2
    refine me_callN rfl rfl rfl (h.mono (fun r2 μ2 h => ?_) (fun _ h => h))
    refine me_go (pc1 := 212) (lv1 := [(0, .ref P.1), (1, .int x1), (2, .int x2), (3, .int x3), (4, .int x4), (5, .int x5), (6, .int x6)]) (st1 := [.ref P.1]) 1 rfl ?_
    refine me_getf (v := .ref (P.2.1 27)) rfl rfl rfl ?_
    refine me_go (pc1 := 217) (lv1 := [(0, .ref P.1), (1, .int x1), (2, .int x2), (3, .int x3), (4, .int x4), (5, .int x5), (6, .int x6)]) (st1 := [.int x5, .ref (P.2.1 27)]) 1 rfl ?_
    refine me_iald rfl (g := 27) rfl rfl h.1 ?_
    replace h := h.2
    refine me_go (pc1 := 122) (lv1 := [(5, .int (μ2.2.1 27 x5.toNatClampNeg)), (0, .ref P.1), (1, .int x1), (2, .int x2), (3, .int x3), (4, .int x4), (6, .int x6)]) (st1 := []) 2 rfl ?_
    refine me_lv [(0, .ref P.1), (1, .int x1), (2, .int x2), (3, .int x3), (4, .int x4), (5, .int (μ2.2.1 27 x5.toNatClampNeg))] (fl_c rfl (fl_c rfl (fl_c rfl (fl_c rfl (fl_c rfl (fl_c rfl fl_0)))))) ?_
    exact h
  · replace h := h.2 (cn_ge c)
    refine me_go (pc1 := 140) (lv1 := [(0, .ref P.1), (1, .int x1), (2, .int x2), (3, .int x3), (4, .int x4), (5, .int x5), (6, .int x6)]) (st1 := [.ref P.1]) 1 rfl ?_
    refine me_getf (v := .ref (P.2.1 63)) rfl rfl rfl ?_
    refine me_go (pc1 := 145) (lv1 := [(0, .ref P.1), (1, .int x1), (2, .int x2), (3, .int x3), (4, .int x4), (5, .int x5), (6, .int x6)]) (st1 := [.int x6, .ref (P.2.1 63)]) 1 rfl ?_
    refine me_iald rfl (g := 63) rfl rfl h.1 ?_
    replace h := h.2
    refine me_go (pc1 := 147) (lv1 := [(0, .ref P.1), (1, .int x1), (2, .int x2), (3, .int x3), (4, .int x4), (5, .int x5), (6, .int x6)]) (st1 := [.ref P.1, .int (μ.2.1 63 x6.toNatClampNeg)]) 1 rfl ?_
    refine me_getf (v := .ref (P.2.1 22)) rfl rfl rfl ?_
    refine me_go (pc1 := 152) (lv1 := [(0, .ref P.1), (1, .int x1), (2, .int x2), (3, .int x3), (4, .int x4), (5, .int x5), (6, .int x6)]) (st1 := [.int x5, .ref (P.2.1 22), .int (μ.2.1 63 x6.toNatClampNeg)]) 1 rfl ?_
    refine me_iald rfl (g := 22) rfl rfl h.1 ?_
    replace h := h.2
    refine me_icmp rfl rfl (fun c => ?_) (fun c => ?_)
    · replace h := h.1 (ci_ne c)
      refine me_go (pc1 := 130) (lv1 := [(6, .int (x6 + 1)), (0, .ref P.1), (1, .int x1), (2, .int x2), (3, .int x3), (4, .int x4), (5, .int x5)]) (st1 := []) 2 rfl ?_
      refine me_lv [(0, .ref P.1), (1, .int x1), (2, .int x2), (3, .int x3), (4, .int x4), (5, .int x5), (6, .int (x6 + 1))] (fl_c rfl (fl_c rfl (fl_c rfl (fl_c rfl (fl_c rfl (fl_c rfl (fl_c rfl fl_0))))))) ?_
      exact h
    · replace h := h.2 (cn_ne c)
      refine me_go (pc1 := 159) (lv1 := [(0, .ref P.1), (1, .int x1), (2, .int x2), (3, .int x3), (4, .int x4), (5, .int x5), (6, .int x6)]) (st1 := [.ref P.1, .int 5, .ref P.1]) 3 rfl ?_
      refine me_getf (v := .ref (P.2.1 21)) rfl rfl rfl ?_
      refine me_go (pc1 := 164) (lv1 := [(0, .ref P.1), (1, .int x1), (2, .int x2), (3, .int x3), (4, .int x4), (5, .int x5), (6, .int x6)]) (st1 := [.int x5, .ref (P.2.1 21), .int 5, .ref P.1]) 1 rfl ?_
      refine me_iald rfl (g := 21) rfl rfl h.1 ?_
      replace h := h.2
      refine me_callN rfl rfl rfl (h.mono (fun r3 μ3 h => ?_) (fun _ h => h))
      refine me_go (pc1 := 130) (lv1 := [(6, .int (x6 + 1)), (0, .ref P.1), (1, .int x1), (2, .int x2), (3, .int x3), (4, .int x4), (5, .int x5)]) (st1 := []) 2 rfl ?_
      refine me_lv [(0, .ref P.1), (1, .int x1), (2, .int x2), (3, .int x3), (4, .int x4), (5, .int x5), (6, .int (x6 + 1))] (fl_c rfl (fl_c rfl (fl_c rfl (fl_c rfl (fl_c rfl (fl_c rfl (fl_c rfl fl_0))))))) ?_
      exact h
theorem v_see__0 {X : ev_X} {W : Nat → Prop} {d : Nat} {P : MP} {μ : MS} {R : Int32 → MS → Prop} {T : MS → Prop} (x1 : Int32) (x2 : Int32) (h : (MI (μ.1 62) (μ.2.2 63) ∧ (MI (μ.1 62) (μ.2.2 64) ∧ R 0 (mS1 (mA1 (mA1 μ 63 (((μ.1 62)).toNatClampNeg) x1) 64 (((μ.1 62)).toNatClampNeg) x2) 62 ((μ.1 62) + 1))))) : ME X W true d 358 0 [(0, .ref P.1), (1, .int x1), (2, .int x2)] [] P μ R T := by
  refine me_go (pc1 := 1) (lv1 := [(0, .ref P.1), (1, .int x1), (2, .int x2)]) (st1 := [.ref P.1]) 1 rfl ?_
  refine me_getf (v := .ref (P.2.1 63)) rfl rfl rfl ?_
  refine me_go (pc1 := 5) (lv1 := [(0, .ref P.1), (1, .int x1), (2, .int x2)]) (st1 := [.ref P.1, .ref (P.2.1 63)]) 1 rfl ?_
  refine me_getf (v := .int (μ.1 62)) rfl rfl rfl ?_
  refine me_go (pc1 := 9) (lv1 := [(0, .ref P.1), (1, .int x1), (2, .int x2)]) (st1 := [.int x1, .int (μ.1 62), .ref (P.2.1 63)]) 1 rfl ?_
  have hi := h.1
  replace h := h.2
  refine me_iast rfl (g := 63) rfl rfl hi ?_
  refine me_go (pc1 := 11) (lv1 := [(0, .ref P.1), (1, .int x1), (2, .int x2)]) (st1 := [.ref P.1]) 1 rfl ?_
  refine me_getf (v := .ref (P.2.1 64)) rfl rfl rfl ?_
  refine me_go (pc1 := 15) (lv1 := [(0, .ref P.1), (1, .int x1), (2, .int x2)]) (st1 := [.ref P.1, .ref (P.2.1 64)]) 1 rfl ?_
  refine me_getf (v := .int (μ.1 62)) rfl rfl rfl ?_
  refine me_go (pc1 := 19) (lv1 := [(0, .ref P.1), (1, .int x1), (2, .int x2)]) (st1 := [.int x2, .int (μ.1 62), .ref (P.2.1 64)]) 1 rfl ?_
  have hi := h.1
  replace h := h.2
  refine me_iast rfl (g := 64) rfl rfl hi ?_
  refine me_go (pc1 := 22) (lv1 := [(0, .ref P.1), (1, .int x1), (2, .int x2)]) (st1 := [.ref P.1, .ref P.1]) 2 rfl ?_
  refine me_getf (v := .int (μ.1 62)) rfl rfl rfl ?_
  refine me_go (pc1 := 27) (lv1 := [(0, .ref P.1), (1, .int x1), (2, .int x2)]) (st1 := [.int ((μ.1 62) + 1), .ref P.1]) 2 rfl ?_
  refine me_put rfl rfl rfl ?_
  exact me_ret (v := none) (r := 0) rfl rfl rfl h
theorem v_nameStatements_0 {X : ev_X} {W : Nat → Prop} {d : Nat} {P : MP} {μ : MS} {R : Int32 → MS → Prop} {T : MS → Prop} (x1 : Int32) (h : ME X W true d 359 2 [(0, .ref P.1), (1, .int x1), (2, .int x1)] [] P μ R T) : ME X W true d 359 0 [(0, .ref P.1), (1, .int x1)] [] P μ R T := by
  refine me_go (pc1 := 2) (lv1 := [(2, .int x1), (0, .ref P.1), (1, .int x1)]) (st1 := []) 2 rfl ?_
  refine me_lv [(0, .ref P.1), (1, .int x1), (2, .int x1)] (fl_c rfl (fl_c rfl (fl_c rfl fl_0))) ?_
  exact h
theorem v_nameStatements_2 {X : ev_X} {W : Nat → Prop} {d : Nat} {P : MP} {μ : MS} {R : Int32 → MS → Prop} {T : MS → Prop} (x1 : Int32) (x2 : Int32) (h : ((x2.toInt < (0 : Int) → R 0 μ) ∧ ((0 : Int) ≤ x2.toInt → MC X W true d 360 [.ref P.1, .int x2] P μ (fun r1 μ1 => (MI x2 (μ1.2.2 27) ∧ ME X W true d 359 2 [(0, .ref P.1), (1, .int x1), (2, .int (μ1.2.1 27 x2.toNatClampNeg))] [] P μ1 R T)) (fun _ => False)))) : ME X W true d 359 2 [(0, .ref P.1), (1, .int x1), (2, .int x2)] [] P μ R T := by
  refine me_go (pc1 := 3) (lv1 := [(0, .ref P.1), (1, .int x1), (2, .int x2)]) (st1 := [.int x2]) 1 rfl ?_
  refine me_ifc rfl rfl (fun c => ?_) (fun c => ?_)
  · replace h := h.1 (ci_lt c)
    exact me_ret (v := none) (r := 0) rfl rfl rfl h
  · replace h := h.2 (cn_lt c)
    refine me_go (pc1 := 8) (lv1 := [(0, .ref P.1), (1, .int x1), (2, .int x2)]) (st1 := [.int x2, .ref P.1]) 2 rfl ?_
    refine me_callN rfl rfl rfl (h.mono (fun r1 μ1 h => ?_) (fun _ h => h))
    refine me_go (pc1 := 12) (lv1 := [(0, .ref P.1), (1, .int x1), (2, .int x2)]) (st1 := [.ref P.1]) 1 rfl ?_
    refine me_getf (v := .ref (P.2.1 27)) rfl rfl rfl ?_
    refine me_go (pc1 := 16) (lv1 := [(0, .ref P.1), (1, .int x1), (2, .int x2)]) (st1 := [.int x2, .ref (P.2.1 27)]) 1 rfl ?_
    refine me_iald rfl (g := 27) rfl rfl h.1 ?_
    replace h := h.2
    refine me_go (pc1 := 2) (lv1 := [(2, .int (μ1.2.1 27 x2.toNatClampNeg)), (0, .ref P.1), (1, .int x1)]) (st1 := []) 2 rfl ?_
    refine me_lv [(0, .ref P.1), (1, .int x1), (2, .int (μ1.2.1 27 x2.toNatClampNeg))] (fl_c rfl (fl_c rfl (fl_c rfl fl_0))) ?_
    exact h
theorem v_nameStatement_0 {X : ev_X} {W : Nat → Prop} {d : Nat} {P : MP} {μ : MS} {R : Int32 → MS → Prop} {T : MS → Prop} (x1 : Int32) (h : (MI x1 (μ.2.2 20) ∧ ((((μ.2.1 20 x1.toNatClampNeg) = 40) → (MI x1 (μ.2.2 22) ∧ MC X W true d 363 [.ref P.1, .int (μ.2.1 22 x1.toNatClampNeg)] P μ (fun r1 μ1 => (MI x1 (μ1.2.2 23) ∧ MC X W true d 362 [.ref P.1, .int (μ1.2.1 23 x1.toNatClampNeg)] P μ1 (fun r2 μ2 => ME X W true d 360 581 [(0, .ref P.1), (1, .int x1)] [] P μ2 R T) (fun _ => False))) (fun _ => False))) ∧ (((μ.2.1 20 x1.toNatClampNeg) = 41 ∨ (μ.2.1 20 x1.toNatClampNeg) = 42) → (MI x1 (μ.2.2 22) ∧ (((μ.2.1 22 x1.toNatClampNeg).toInt < (0 : Int) → ME X W true d 360 146 [(0, .ref P.1), (1, .int x1)] [] P μ R T) ∧ ((0 : Int) ≤ (μ.2.1 22 x1.toNatClampNeg).toInt → (MI x1 (μ.2.2 22) ∧ MC X W true d 363 [.ref P.1, .int (μ.2.1 22 x1.toNatClampNeg)] P μ (fun r3 μ3 => ME X W true d 360 146 [(0, .ref P.1), (1, .int x1)] [] P μ3 R T) (fun _ => False)))))) ∧ (((μ.2.1 20 x1.toNatClampNeg) = 44) → (MI x1 (μ.2.2 22) ∧ ME X W true d 360 202 [(0, .ref P.1), (1, .int x1), (2, .int (μ.2.1 22 x1.toNatClampNeg))] [] P μ R T)) ∧ (((μ.2.1 20 x1.toNatClampNeg) = 46 ∨ (μ.2.1 20 x1.toNatClampNeg) = 54) → (MI x1 (μ.2.2 22) ∧ MC X W true d 362 [.ref P.1, .int (μ.2.1 22 x1.toNatClampNeg)] P μ (fun r4 μ4 => (MI x1 (μ4.2.2 23) ∧ MC X W true d 359 [.ref P.1, .int (μ4.2.1 23 x1.toNatClampNeg)] P μ4 (fun r5 μ5 => ME X W true d 360 581 [(0, .ref P.1), (1, .int x1)] [] P μ5 R T) (fun _ => False))) (fun _ => False))) ∧ (((μ.2.1 20 x1.toNatClampNeg) = 47) → (MI x1 (μ.2.2 23) ∧ MC X W true d 359 [.ref P.1, .int (μ.2.1 23 x1.toNatClampNeg)] P μ (fun r6 μ6 => ME X W true d 360 581 [(0, .ref P.1), (1, .int x1)] [] P μ6 R T) (fun _ => False))) ∧ (((μ.2.1 20 x1.toNatClampNeg) = 48) → (MI x1 (μ.2.2 23) ∧ MC X W true d 362 [.ref P.1, .int (μ.2.1 23 x1.toNatClampNeg)] P μ (fun r7 μ7 => (MI x1 (μ7.2.2 24) ∧ MC X W true d 362 [.ref P.1, .int (μ7.2.1 24 x1.toNatClampNeg)] P μ7 (fun r8 μ8 => (MI x1 (μ8.2.2 22) ∧ (MI x1 (μ8.2.2 25) ∧ MC X W true d 361 [.ref P.1, .int (μ8.2.1 22 x1.toNatClampNeg), .int 4, .int (-1), .int (μ8.2.1 25 x1.toNatClampNeg)] P μ8 (fun r9 μ9 => ME X W true d 360 581 [(0, .ref P.1), (1, .int x1)] [] P μ9 R T) (fun _ => False)))) (fun _ => False))) (fun _ => False))) ∧ (((μ.2.1 20 x1.toNatClampNeg) = 50) → (MI x1 (μ.2.2 22) ∧ MC X W true d 350 [.ref P.1, .int (μ.2.1 22 x1.toNatClampNeg), .int 8, .int 8] P μ (fun r10 μ10 => (MI x1 (μ10.2.2 23) ∧ MC X W true d 362 [.ref P.1, .int (μ10.2.1 23 x1.toNatClampNeg)] P μ10 (fun r11 μ11 => ME X W true d 360 581 [(0, .ref P.1), (1, .int x1)] [] P μ11 R T) (fun _ => False))) (fun _ => False))) ∧ (((μ.2.1 20 x1.toNatClampNeg) = 51) → (MI x1 (μ.2.2 22) ∧ MC X W true d 359 [.ref P.1, .int (μ.2.1 22 x1.toNatClampNeg)] P μ (fun r12 μ12 => (MI x1 (μ12.2.2 23) ∧ ME X W true d 360 369 [(0, .ref P.1), (1, .int x1), (2, .int (μ12.2.1 23 x1.toNatClampNeg))] [] P μ12 R T)) (fun _ => False))) ∧ (((μ.2.1 20 x1.toNatClampNeg) = 53) → (MI x1 (μ.2.2 22) ∧ MC X W true d 359 [.ref P.1, .int (μ.2.1 22 x1.toNatClampNeg)] P μ (fun r13 μ13 => (MI x1 (μ13.2.2 23) ∧ MC X W true d 359 [.ref P.1, .int (μ13.2.1 23 x1.toNatClampNeg)] P μ13 (fun r14 μ14 => ME X W true d 360 581 [(0, .ref P.1), (1, .int x1)] [] P μ14 R T) (fun _ => False))) (fun _ => False))) ∧ (((μ.2.1 20 x1.toNatClampNeg) = 55) → (MI x1 (μ.2.2 22) ∧ MC X W true d 362 [.ref P.1, .int (μ.2.1 22 x1.toNatClampNeg)] P μ (fun r15 μ15 => (MI x1 (μ15.2.2 23) ∧ MC X W true d 362 [.ref P.1, .int (μ15.2.1 23 x1.toNatClampNeg)] P μ15 (fun r16 μ16 => ME X W true d 360 581 [(0, .ref P.1), (1, .int x1)] [] P μ16 R T) (fun _ => False))) (fun _ => False))) ∧ (((μ.2.1 20 x1.toNatClampNeg) = 60) → (MI x1 (μ.2.2 22) ∧ MC X W true d 362 [.ref P.1, .int (μ.2.1 22 x1.toNatClampNeg)] P μ (fun r17 μ17 => (MI x1 (μ17.2.2 23) ∧ ME X W true d 360 491 [(0, .ref P.1), (1, .int x1), (2, .int (μ17.2.1 23 x1.toNatClampNeg))] [] P μ17 R T)) (fun _ => False))) ∧ ((∀ v ∈ [(40 : Int32), (41 : Int32), (42 : Int32), (44 : Int32), (46 : Int32), (47 : Int32), (48 : Int32), (50 : Int32), (51 : Int32), (53 : Int32), (54 : Int32), (55 : Int32), (60 : Int32)], ¬ (μ.2.1 20 x1.toNatClampNeg) = v) → (MI x1 (μ.2.2 20) ∧ (((μ.2.1 20 x1.toNatClampNeg) = 43 → ME X W true d 360 581 [(0, .ref P.1), (1, .int x1)] [] P μ R T) ∧ (¬ (μ.2.1 20 x1.toNatClampNeg) = 43 → (MI x1 (μ.2.2 22) ∧ (((μ.2.1 22 x1.toNatClampNeg).toInt < (0 : Int) → ME X W true d 360 581 [(0, .ref P.1), (1, .int x1)] [] P μ R T) ∧ ((0 : Int) ≤ (μ.2.1 22 x1.toNatClampNeg).toInt → (MI x1 (μ.2.2 22) ∧ MC X W true d 362 [.ref P.1, .int (μ.2.1 22 x1.toNatClampNeg)] P μ (fun r18 μ18 => ME X W true d 360 581 [(0, .ref P.1), (1, .int x1)] [] P μ18 R T) (fun _ => False)))))))))))) : ME X W true d 360 0 [(0, .ref P.1), (1, .int x1)] [] P μ R T := by
  refine me_go (pc1 := 1) (lv1 := [(0, .ref P.1), (1, .int x1)]) (st1 := [.ref P.1]) 1 rfl ?_
  refine me_getf (v := .ref (P.2.1 20)) rfl rfl rfl ?_
  refine me_go (pc1 := 5) (lv1 := [(0, .ref P.1), (1, .int x1)]) (st1 := [.int x1, .ref (P.2.1 20)]) 1 rfl ?_
  refine me_iald rfl (g := 20) rfl rfl h.1 ?_
  replace h := h.2
  have hD := h
  have q6_0 : ((μ.2.1 20 x1.toNatClampNeg) = 40) → ME X W true d 360 104 [(0, .ref P.1), (1, .int x1)] [] P μ R T := fun c => by
      replace h := hD.1 c
      refine me_go (pc1 := 106) (lv1 := [(0, .ref P.1), (1, .int x1)]) (st1 := [.ref P.1, .ref P.1]) 2 rfl ?_
      refine me_getf (v := .ref (P.2.1 22)) rfl rfl rfl ?_
      refine me_go (pc1 := 110) (lv1 := [(0, .ref P.1), (1, .int x1)]) (st1 := [.int x1, .ref (P.2.1 22), .ref P.1]) 1 rfl ?_
      refine me_iald rfl (g := 22) rfl rfl h.1 ?_
      replace h := h.2
      refine me_callN rfl rfl rfl (h.mono (fun r1 μ1 h => ?_) (fun _ h => h))
      refine me_go (pc1 := 116) (lv1 := [(0, .ref P.1), (1, .int x1)]) (st1 := [.ref P.1, .ref P.1]) 2 rfl ?_
      refine me_getf (v := .ref (P.2.1 23)) rfl rfl rfl ?_
      refine me_go (pc1 := 120) (lv1 := [(0, .ref P.1), (1, .int x1)]) (st1 := [.int x1, .ref (P.2.1 23), .ref P.1]) 1 rfl ?_
      refine me_iald rfl (g := 23) rfl rfl h.1 ?_
      replace h := h.2
      refine me_callN rfl rfl rfl (h.mono (fun r2 μ2 h => ?_) (fun _ h => h))
      refine me_go (pc1 := 581) (lv1 := [(0, .ref P.1), (1, .int x1)]) (st1 := []) 1 rfl ?_
      exact h
  have q6_1 : ((μ.2.1 20 x1.toNatClampNeg) = 41 ∨ (μ.2.1 20 x1.toNatClampNeg) = 42) → ME X W true d 360 127 [(0, .ref P.1), (1, .int x1)] [] P μ R T := fun c => by
      replace h := hD.2.1 c
      refine me_go (pc1 := 128) (lv1 := [(0, .ref P.1), (1, .int x1)]) (st1 := [.ref P.1]) 1 rfl ?_
      refine me_getf (v := .ref (P.2.1 22)) rfl rfl rfl ?_
      refine me_go (pc1 := 132) (lv1 := [(0, .ref P.1), (1, .int x1)]) (st1 := [.int x1, .ref (P.2.1 22)]) 1 rfl ?_
      refine me_iald rfl (g := 22) rfl rfl h.1 ?_
      replace h := h.2
      refine me_ifc rfl rfl (fun c => ?_) (fun c => ?_)
      · replace h := h.1 (ci_lt c)
        exact h
      · replace h := h.2 (cn_lt c)
        refine me_go (pc1 := 138) (lv1 := [(0, .ref P.1), (1, .int x1)]) (st1 := [.ref P.1, .ref P.1]) 2 rfl ?_
        refine me_getf (v := .ref (P.2.1 22)) rfl rfl rfl ?_
        refine me_go (pc1 := 142) (lv1 := [(0, .ref P.1), (1, .int x1)]) (st1 := [.int x1, .ref (P.2.1 22), .ref P.1]) 1 rfl ?_
        refine me_iald rfl (g := 22) rfl rfl h.1 ?_
        replace h := h.2
        refine me_callN rfl rfl rfl (h.mono (fun r3 μ3 h => ?_) (fun _ h => h))
        exact h
  have q6_2 : ((μ.2.1 20 x1.toNatClampNeg) = 44) → ME X W true d 360 195 [(0, .ref P.1), (1, .int x1)] [] P μ R T := fun c => by
      replace h := hD.2.2.1 c
      refine me_go (pc1 := 196) (lv1 := [(0, .ref P.1), (1, .int x1)]) (st1 := [.ref P.1]) 1 rfl ?_
      refine me_getf (v := .ref (P.2.1 22)) rfl rfl rfl ?_
      refine me_go (pc1 := 200) (lv1 := [(0, .ref P.1), (1, .int x1)]) (st1 := [.int x1, .ref (P.2.1 22)]) 1 rfl ?_
      refine me_iald rfl (g := 22) rfl rfl h.1 ?_
      replace h := h.2
      refine me_go (pc1 := 202) (lv1 := [(2, .int (μ.2.1 22 x1.toNatClampNeg)), (0, .ref P.1), (1, .int x1)]) (st1 := []) 1 rfl ?_
      refine me_lv [(0, .ref P.1), (1, .int x1), (2, .int (μ.2.1 22 x1.toNatClampNeg))] (fl_c rfl (fl_c rfl (fl_c rfl fl_0))) ?_
      exact h
  have q6_3 : ((μ.2.1 20 x1.toNatClampNeg) = 46 ∨ (μ.2.1 20 x1.toNatClampNeg) = 54) → ME X W true d 360 248 [(0, .ref P.1), (1, .int x1)] [] P μ R T := fun c => by
      replace h := hD.2.2.2.1 c
      refine me_go (pc1 := 250) (lv1 := [(0, .ref P.1), (1, .int x1)]) (st1 := [.ref P.1, .ref P.1]) 2 rfl ?_
      refine me_getf (v := .ref (P.2.1 22)) rfl rfl rfl ?_
      refine me_go (pc1 := 254) (lv1 := [(0, .ref P.1), (1, .int x1)]) (st1 := [.int x1, .ref (P.2.1 22), .ref P.1]) 1 rfl ?_
      refine me_iald rfl (g := 22) rfl rfl h.1 ?_
      replace h := h.2
      refine me_callN rfl rfl rfl (h.mono (fun r4 μ4 h => ?_) (fun _ h => h))
      refine me_go (pc1 := 260) (lv1 := [(0, .ref P.1), (1, .int x1)]) (st1 := [.ref P.1, .ref P.1]) 2 rfl ?_
      refine me_getf (v := .ref (P.2.1 23)) rfl rfl rfl ?_
      refine me_go (pc1 := 264) (lv1 := [(0, .ref P.1), (1, .int x1)]) (st1 := [.int x1, .ref (P.2.1 23), .ref P.1]) 1 rfl ?_
      refine me_iald rfl (g := 23) rfl rfl h.1 ?_
      replace h := h.2
      refine me_callN rfl rfl rfl (h.mono (fun r5 μ5 h => ?_) (fun _ h => h))
      refine me_go (pc1 := 581) (lv1 := [(0, .ref P.1), (1, .int x1)]) (st1 := []) 1 rfl ?_
      exact h
  have q6_4 : ((μ.2.1 20 x1.toNatClampNeg) = 47) → ME X W true d 360 271 [(0, .ref P.1), (1, .int x1)] [] P μ R T := fun c => by
      replace h := hD.2.2.2.2.1 c
      refine me_go (pc1 := 273) (lv1 := [(0, .ref P.1), (1, .int x1)]) (st1 := [.ref P.1, .ref P.1]) 2 rfl ?_
      refine me_getf (v := .ref (P.2.1 23)) rfl rfl rfl ?_
      refine me_go (pc1 := 277) (lv1 := [(0, .ref P.1), (1, .int x1)]) (st1 := [.int x1, .ref (P.2.1 23), .ref P.1]) 1 rfl ?_
      refine me_iald rfl (g := 23) rfl rfl h.1 ?_
      replace h := h.2
      refine me_callN rfl rfl rfl (h.mono (fun r6 μ6 h => ?_) (fun _ h => h))
      refine me_go (pc1 := 581) (lv1 := [(0, .ref P.1), (1, .int x1)]) (st1 := []) 1 rfl ?_
      exact h
  have q6_5 : ((μ.2.1 20 x1.toNatClampNeg) = 48) → ME X W true d 360 284 [(0, .ref P.1), (1, .int x1)] [] P μ R T := fun c => by
      replace h := hD.2.2.2.2.2.1 c
      refine me_go (pc1 := 286) (lv1 := [(0, .ref P.1), (1, .int x1)]) (st1 := [.ref P.1, .ref P.1]) 2 rfl ?_
      refine me_getf (v := .ref (P.2.1 23)) rfl rfl rfl ?_
      refine me_go (pc1 := 290) (lv1 := [(0, .ref P.1), (1, .int x1)]) (st1 := [.int x1, .ref (P.2.1 23), .ref P.1]) 1 rfl ?_
      refine me_iald rfl (g := 23) rfl rfl h.1 ?_
      replace h := h.2
      refine me_callN rfl rfl rfl (h.mono (fun r7 μ7 h => ?_) (fun _ h => h))
      refine me_go (pc1 := 296) (lv1 := [(0, .ref P.1), (1, .int x1)]) (st1 := [.ref P.1, .ref P.1]) 2 rfl ?_
      refine me_getf (v := .ref (P.2.1 24)) rfl rfl rfl ?_
      refine me_go (pc1 := 300) (lv1 := [(0, .ref P.1), (1, .int x1)]) (st1 := [.int x1, .ref (P.2.1 24), .ref P.1]) 1 rfl ?_
      refine me_iald rfl (g := 24) rfl rfl h.1 ?_
      replace h := h.2
      refine me_callN rfl rfl rfl (h.mono (fun r8 μ8 h => ?_) (fun _ h => h))
      refine me_go (pc1 := 306) (lv1 := [(0, .ref P.1), (1, .int x1)]) (st1 := [.ref P.1, .ref P.1]) 2 rfl ?_
      refine me_getf (v := .ref (P.2.1 22)) rfl rfl rfl ?_
      refine me_go (pc1 := 310) (lv1 := [(0, .ref P.1), (1, .int x1)]) (st1 := [.int x1, .ref (P.2.1 22), .ref P.1]) 1 rfl ?_
      refine me_iald rfl (g := 22) rfl rfl h.1 ?_
      replace h := h.2
      refine me_go (pc1 := 314) (lv1 := [(0, .ref P.1), (1, .int x1)]) (st1 := [.ref P.1, .int (-1), .int 4, .int (μ8.2.1 22 x1.toNatClampNeg), .ref P.1]) 3 rfl ?_
      refine me_getf (v := .ref (P.2.1 25)) rfl rfl rfl ?_
      refine me_go (pc1 := 318) (lv1 := [(0, .ref P.1), (1, .int x1)]) (st1 := [.int x1, .ref (P.2.1 25), .int (-1), .int 4, .int (μ8.2.1 22 x1.toNatClampNeg), .ref P.1]) 1 rfl ?_
      refine me_iald rfl (g := 25) rfl rfl h.1 ?_
      replace h := h.2
      refine me_callN rfl rfl rfl (h.mono (fun r9 μ9 h => ?_) (fun _ h => h))
      refine me_go (pc1 := 581) (lv1 := [(0, .ref P.1), (1, .int x1)]) (st1 := []) 1 rfl ?_
      exact h
  have q6_6 : ((μ.2.1 20 x1.toNatClampNeg) = 50) → ME X W true d 360 325 [(0, .ref P.1), (1, .int x1)] [] P μ R T := fun c => by
      replace h := hD.2.2.2.2.2.2.1 c
      refine me_go (pc1 := 327) (lv1 := [(0, .ref P.1), (1, .int x1)]) (st1 := [.ref P.1, .ref P.1]) 2 rfl ?_
      refine me_getf (v := .ref (P.2.1 22)) rfl rfl rfl ?_
      refine me_go (pc1 := 331) (lv1 := [(0, .ref P.1), (1, .int x1)]) (st1 := [.int x1, .ref (P.2.1 22), .ref P.1]) 1 rfl ?_
      refine me_iald rfl (g := 22) rfl rfl h.1 ?_
      replace h := h.2
      refine me_go (pc1 := 336) (lv1 := [(0, .ref P.1), (1, .int x1)]) (st1 := [.int 8, .int 8, .int (μ.2.1 22 x1.toNatClampNeg), .ref P.1]) 2 rfl ?_
      refine me_callN rfl rfl rfl (h.mono (fun r10 μ10 h => ?_) (fun _ h => h))
      refine me_go (pc1 := 341) (lv1 := [(0, .ref P.1), (1, .int x1)]) (st1 := [.ref P.1, .ref P.1]) 2 rfl ?_
      refine me_getf (v := .ref (P.2.1 23)) rfl rfl rfl ?_
      refine me_go (pc1 := 345) (lv1 := [(0, .ref P.1), (1, .int x1)]) (st1 := [.int x1, .ref (P.2.1 23), .ref P.1]) 1 rfl ?_
      refine me_iald rfl (g := 23) rfl rfl h.1 ?_
      replace h := h.2
      refine me_callN rfl rfl rfl (h.mono (fun r11 μ11 h => ?_) (fun _ h => h))
      refine me_go (pc1 := 581) (lv1 := [(0, .ref P.1), (1, .int x1)]) (st1 := []) 1 rfl ?_
      exact h
  have q6_7 : ((μ.2.1 20 x1.toNatClampNeg) = 51) → ME X W true d 360 352 [(0, .ref P.1), (1, .int x1)] [] P μ R T := fun c => by
      replace h := hD.2.2.2.2.2.2.2.1 c
      refine me_go (pc1 := 354) (lv1 := [(0, .ref P.1), (1, .int x1)]) (st1 := [.ref P.1, .ref P.1]) 2 rfl ?_
      refine me_getf (v := .ref (P.2.1 22)) rfl rfl rfl ?_
      refine me_go (pc1 := 358) (lv1 := [(0, .ref P.1), (1, .int x1)]) (st1 := [.int x1, .ref (P.2.1 22), .ref P.1]) 1 rfl ?_
      refine me_iald rfl (g := 22) rfl rfl h.1 ?_
      replace h := h.2
      refine me_callN rfl rfl rfl (h.mono (fun r12 μ12 h => ?_) (fun _ h => h))
      refine me_go (pc1 := 363) (lv1 := [(0, .ref P.1), (1, .int x1)]) (st1 := [.ref P.1]) 1 rfl ?_
      refine me_getf (v := .ref (P.2.1 23)) rfl rfl rfl ?_
      refine me_go (pc1 := 367) (lv1 := [(0, .ref P.1), (1, .int x1)]) (st1 := [.int x1, .ref (P.2.1 23)]) 1 rfl ?_
      refine me_iald rfl (g := 23) rfl rfl h.1 ?_
      replace h := h.2
      refine me_go (pc1 := 369) (lv1 := [(2, .int (μ12.2.1 23 x1.toNatClampNeg)), (0, .ref P.1), (1, .int x1)]) (st1 := []) 1 rfl ?_
      refine me_lv [(0, .ref P.1), (1, .int x1), (2, .int (μ12.2.1 23 x1.toNatClampNeg))] (fl_c rfl (fl_c rfl (fl_c rfl fl_0))) ?_
      exact h
  have q6_8 : ((μ.2.1 20 x1.toNatClampNeg) = 53) → ME X W true d 360 428 [(0, .ref P.1), (1, .int x1)] [] P μ R T := fun c => by
      replace h := hD.2.2.2.2.2.2.2.2.1 c
      refine me_go (pc1 := 430) (lv1 := [(0, .ref P.1), (1, .int x1)]) (st1 := [.ref P.1, .ref P.1]) 2 rfl ?_
      refine me_getf (v := .ref (P.2.1 22)) rfl rfl rfl ?_
      refine me_go (pc1 := 434) (lv1 := [(0, .ref P.1), (1, .int x1)]) (st1 := [.int x1, .ref (P.2.1 22), .ref P.1]) 1 rfl ?_
      refine me_iald rfl (g := 22) rfl rfl h.1 ?_
      replace h := h.2
      refine me_callN rfl rfl rfl (h.mono (fun r13 μ13 h => ?_) (fun _ h => h))
      refine me_go (pc1 := 440) (lv1 := [(0, .ref P.1), (1, .int x1)]) (st1 := [.ref P.1, .ref P.1]) 2 rfl ?_
      refine me_getf (v := .ref (P.2.1 23)) rfl rfl rfl ?_
      refine me_go (pc1 := 444) (lv1 := [(0, .ref P.1), (1, .int x1)]) (st1 := [.int x1, .ref (P.2.1 23), .ref P.1]) 1 rfl ?_
      refine me_iald rfl (g := 23) rfl rfl h.1 ?_
      replace h := h.2
      refine me_callN rfl rfl rfl (h.mono (fun r14 μ14 h => ?_) (fun _ h => h))
      refine me_go (pc1 := 581) (lv1 := [(0, .ref P.1), (1, .int x1)]) (st1 := []) 1 rfl ?_
      exact h
  have q6_9 : ((μ.2.1 20 x1.toNatClampNeg) = 55) → ME X W true d 360 451 [(0, .ref P.1), (1, .int x1)] [] P μ R T := fun c => by
      replace h := hD.2.2.2.2.2.2.2.2.2.1 c
      refine me_go (pc1 := 453) (lv1 := [(0, .ref P.1), (1, .int x1)]) (st1 := [.ref P.1, .ref P.1]) 2 rfl ?_
      refine me_getf (v := .ref (P.2.1 22)) rfl rfl rfl ?_
      refine me_go (pc1 := 457) (lv1 := [(0, .ref P.1), (1, .int x1)]) (st1 := [.int x1, .ref (P.2.1 22), .ref P.1]) 1 rfl ?_
      refine me_iald rfl (g := 22) rfl rfl h.1 ?_
      replace h := h.2
      refine me_callN rfl rfl rfl (h.mono (fun r15 μ15 h => ?_) (fun _ h => h))
      refine me_go (pc1 := 463) (lv1 := [(0, .ref P.1), (1, .int x1)]) (st1 := [.ref P.1, .ref P.1]) 2 rfl ?_
      refine me_getf (v := .ref (P.2.1 23)) rfl rfl rfl ?_
      refine me_go (pc1 := 467) (lv1 := [(0, .ref P.1), (1, .int x1)]) (st1 := [.int x1, .ref (P.2.1 23), .ref P.1]) 1 rfl ?_
      refine me_iald rfl (g := 23) rfl rfl h.1 ?_
      replace h := h.2
      refine me_callN rfl rfl rfl (h.mono (fun r16 μ16 h => ?_) (fun _ h => h))
      refine me_go (pc1 := 581) (lv1 := [(0, .ref P.1), (1, .int x1)]) (st1 := []) 1 rfl ?_
      exact h
  have q6_10 : ((μ.2.1 20 x1.toNatClampNeg) = 60) → ME X W true d 360 474 [(0, .ref P.1), (1, .int x1)] [] P μ R T := fun c => by
      replace h := hD.2.2.2.2.2.2.2.2.2.2.1 c
      refine me_go (pc1 := 476) (lv1 := [(0, .ref P.1), (1, .int x1)]) (st1 := [.ref P.1, .ref P.1]) 2 rfl ?_
      refine me_getf (v := .ref (P.2.1 22)) rfl rfl rfl ?_
      refine me_go (pc1 := 480) (lv1 := [(0, .ref P.1), (1, .int x1)]) (st1 := [.int x1, .ref (P.2.1 22), .ref P.1]) 1 rfl ?_
      refine me_iald rfl (g := 22) rfl rfl h.1 ?_
      replace h := h.2
      refine me_callN rfl rfl rfl (h.mono (fun r17 μ17 h => ?_) (fun _ h => h))
      refine me_go (pc1 := 485) (lv1 := [(0, .ref P.1), (1, .int x1)]) (st1 := [.ref P.1]) 1 rfl ?_
      refine me_getf (v := .ref (P.2.1 23)) rfl rfl rfl ?_
      refine me_go (pc1 := 489) (lv1 := [(0, .ref P.1), (1, .int x1)]) (st1 := [.int x1, .ref (P.2.1 23)]) 1 rfl ?_
      refine me_iald rfl (g := 23) rfl rfl h.1 ?_
      replace h := h.2
      refine me_go (pc1 := 491) (lv1 := [(2, .int (μ17.2.1 23 x1.toNatClampNeg)), (0, .ref P.1), (1, .int x1)]) (st1 := []) 1 rfl ?_
      refine me_lv [(0, .ref P.1), (1, .int x1), (2, .int (μ17.2.1 23 x1.toNatClampNeg))] (fl_c rfl (fl_c rfl (fl_c rfl fl_0))) ?_
      exact h
  by_cases c : (μ.2.1 20 x1.toNatClampNeg) = 40
  · exact me_sw rfl c (t := 104) rfl (q6_0 (c))
  rename ¬ (μ.2.1 20 x1.toNatClampNeg) = 40 => n0
  by_cases c : (μ.2.1 20 x1.toNatClampNeg) = 41
  · exact me_sw rfl c (t := 127) rfl (q6_1 (Or.inl c))
  rename ¬ (μ.2.1 20 x1.toNatClampNeg) = 41 => n1
  by_cases c : (μ.2.1 20 x1.toNatClampNeg) = 42
  · exact me_sw rfl c (t := 127) rfl (q6_1 (Or.inr (c)))
  rename ¬ (μ.2.1 20 x1.toNatClampNeg) = 42 => n2
  by_cases c : (μ.2.1 20 x1.toNatClampNeg) = 44
  · exact me_sw rfl c (t := 195) rfl (q6_2 (c))
  rename ¬ (μ.2.1 20 x1.toNatClampNeg) = 44 => n3
  by_cases c : (μ.2.1 20 x1.toNatClampNeg) = 46
  · exact me_sw rfl c (t := 248) rfl (q6_3 (Or.inl c))
  rename ¬ (μ.2.1 20 x1.toNatClampNeg) = 46 => n4
  by_cases c : (μ.2.1 20 x1.toNatClampNeg) = 54
  · exact me_sw rfl c (t := 248) rfl (q6_3 (Or.inr (c)))
  rename ¬ (μ.2.1 20 x1.toNatClampNeg) = 54 => n10
  by_cases c : (μ.2.1 20 x1.toNatClampNeg) = 47
  · exact me_sw rfl c (t := 271) rfl (q6_4 (c))
  rename ¬ (μ.2.1 20 x1.toNatClampNeg) = 47 => n5
  by_cases c : (μ.2.1 20 x1.toNatClampNeg) = 48
  · exact me_sw rfl c (t := 284) rfl (q6_5 (c))
  rename ¬ (μ.2.1 20 x1.toNatClampNeg) = 48 => n6
  by_cases c : (μ.2.1 20 x1.toNatClampNeg) = 50
  · exact me_sw rfl c (t := 325) rfl (q6_6 (c))
  rename ¬ (μ.2.1 20 x1.toNatClampNeg) = 50 => n7
  by_cases c : (μ.2.1 20 x1.toNatClampNeg) = 51
  · exact me_sw rfl c (t := 352) rfl (q6_7 (c))
  rename ¬ (μ.2.1 20 x1.toNatClampNeg) = 51 => n8
  by_cases c : (μ.2.1 20 x1.toNatClampNeg) = 53
  · exact me_sw rfl c (t := 428) rfl (q6_8 (c))
  rename ¬ (μ.2.1 20 x1.toNatClampNeg) = 53 => n9
  by_cases c : (μ.2.1 20 x1.toNatClampNeg) = 55
  · exact me_sw rfl c (t := 451) rfl (q6_9 (c))
  rename ¬ (μ.2.1 20 x1.toNatClampNeg) = 55 => n11
  by_cases c : (μ.2.1 20 x1.toNatClampNeg) = 60
  · exact me_sw rfl c (t := 474) rfl (q6_10 (c))
  rename ¬ (μ.2.1 20 x1.toNatClampNeg) = 60 => n12
  have hk : ∀ v ∈ [(40 : Int32), (41 : Int32), (42 : Int32), (44 : Int32), (46 : Int32), (47 : Int32), (48 : Int32), (50 : Int32), (51 : Int32), (53 : Int32), (54 : Int32), (55 : Int32), (60 : Int32)], ¬ (μ.2.1 20 x1.toNatClampNeg) = v := fun v hv => by
    simp only [List.mem_cons, List.not_mem_nil, or_false] at hv
    rcases hv with rfl | rfl | rfl | rfl | rfl | rfl | rfl | rfl | rfl | rfl | rfl | rfl | rfl <;> assumption
  refine me_tsD (t := 551) rfl _ rfl rfl hk ?_
  replace h := hD.2.2.2.2.2.2.2.2.2.2.2 hk
  refine me_go (pc1 := 552) (lv1 := [(0, .ref P.1), (1, .int x1)]) (st1 := [.ref P.1]) 1 rfl ?_
  refine me_getf (v := .ref (P.2.1 20)) rfl rfl rfl ?_
  refine me_go (pc1 := 556) (lv1 := [(0, .ref P.1), (1, .int x1)]) (st1 := [.int x1, .ref (P.2.1 20)]) 1 rfl ?_
  refine me_iald rfl (g := 20) rfl rfl h.1 ?_
  replace h := h.2
  refine me_go (pc1 := 559) (lv1 := [(0, .ref P.1), (1, .int x1)]) (st1 := [.int 43, .int (μ.2.1 20 x1.toNatClampNeg)]) 1 rfl ?_
  refine me_icmp rfl rfl (fun c => ?_) (fun c => ?_)
  · replace h := h.1 (ci_eq c)
    exact h
  · replace h := h.2 (cn_eq c)
    refine me_go (pc1 := 563) (lv1 := [(0, .ref P.1), (1, .int x1)]) (st1 := [.ref P.1]) 1 rfl ?_
    refine me_getf (v := .ref (P.2.1 22)) rfl rfl rfl ?_
    refine me_go (pc1 := 567) (lv1 := [(0, .ref P.1), (1, .int x1)]) (st1 := [.int x1, .ref (P.2.1 22)]) 1 rfl ?_
    refine me_iald rfl (g := 22) rfl rfl h.1 ?_
    replace h := h.2
    refine me_ifc rfl rfl (fun c => ?_) (fun c => ?_)
    · replace h := h.1 (ci_lt c)
      exact h
    · replace h := h.2 (cn_lt c)
      refine me_go (pc1 := 573) (lv1 := [(0, .ref P.1), (1, .int x1)]) (st1 := [.ref P.1, .ref P.1]) 2 rfl ?_
      refine me_getf (v := .ref (P.2.1 22)) rfl rfl rfl ?_
      refine me_go (pc1 := 577) (lv1 := [(0, .ref P.1), (1, .int x1)]) (st1 := [.int x1, .ref (P.2.1 22), .ref P.1]) 1 rfl ?_
      refine me_iald rfl (g := 22) rfl rfl h.1 ?_
      replace h := h.2
      refine me_callN rfl rfl rfl (h.mono (fun r18 μ18 h => ?_) (fun _ h => h))
      exact h
theorem v_nameStatement_146 {X : ev_X} {W : Nat → Prop} {d : Nat} {P : MP} {μ : MS} {R : Int32 → MS → Prop} {T : MS → Prop} (x1 : Int32) (h : (MI x1 (μ.2.2 23) ∧ (MI (μ.2.1 23 x1.toNatClampNeg) (μ.2.2 22) ∧ MC X W true d 363 [.ref P.1, .int (μ.2.1 22 ((μ.2.1 23 x1.toNatClampNeg)).toNatClampNeg)] P μ (fun r1 μ1 => (MI x1 (μ1.2.2 23) ∧ (MI (μ1.2.1 23 x1.toNatClampNeg) (μ1.2.2 23) ∧ ME X W true d 360 173 [(0, .ref P.1), (1, .int x1), (2, .int (μ1.2.1 23 ((μ1.2.1 23 x1.toNatClampNeg)).toNatClampNeg))] [] P μ1 R T))) (fun _ => False)))) : ME X W true d 360 146 [(0, .ref P.1), (1, .int x1)] [] P μ R T := by
  refine me_go (pc1 := 148) (lv1 := [(0, .ref P.1), (1, .int x1)]) (st1 := [.ref P.1, .ref P.1]) 2 rfl ?_
  refine me_getf (v := .ref (P.2.1 22)) rfl rfl rfl ?_
  refine me_go (pc1 := 152) (lv1 := [(0, .ref P.1), (1, .int x1)]) (st1 := [.ref P.1, .ref (P.2.1 22), .ref P.1]) 1 rfl ?_
  refine me_getf (v := .ref (P.2.1 23)) rfl rfl rfl ?_
  refine me_go (pc1 := 156) (lv1 := [(0, .ref P.1), (1, .int x1)]) (st1 := [.int x1, .ref (P.2.1 23), .ref (P.2.1 22), .ref P.1]) 1 rfl ?_
  refine me_iald rfl (g := 23) rfl rfl h.1 ?_
  replace h := h.2
  refine me_iald rfl (g := 22) rfl rfl h.1 ?_
  replace h := h.2
  refine me_callN rfl rfl rfl (h.mono (fun r1 μ1 h => ?_) (fun _ h => h))
  refine me_go (pc1 := 162) (lv1 := [(0, .ref P.1), (1, .int x1)]) (st1 := [.ref P.1]) 1 rfl ?_
  refine me_getf (v := .ref (P.2.1 23)) rfl rfl rfl ?_
  refine me_go (pc1 := 166) (lv1 := [(0, .ref P.1), (1, .int x1)]) (st1 := [.ref P.1, .ref (P.2.1 23)]) 1 rfl ?_
  refine me_getf (v := .ref (P.2.1 23)) rfl rfl rfl ?_
  refine me_go (pc1 := 170) (lv1 := [(0, .ref P.1), (1, .int x1)]) (st1 := [.int x1, .ref (P.2.1 23), .ref (P.2.1 23)]) 1 rfl ?_
  refine me_iald rfl (g := 23) rfl rfl h.1 ?_
  replace h := h.2
  refine me_iald rfl (g := 23) rfl rfl h.1 ?_
  replace h := h.2
  refine me_go (pc1 := 173) (lv1 := [(2, .int (μ1.2.1 23 ((μ1.2.1 23 x1.toNatClampNeg)).toNatClampNeg)), (0, .ref P.1), (1, .int x1)]) (st1 := []) 1 rfl ?_
  refine me_lv [(0, .ref P.1), (1, .int x1), (2, .int (μ1.2.1 23 ((μ1.2.1 23 x1.toNatClampNeg)).toNatClampNeg))] (fl_c rfl (fl_c rfl (fl_c rfl fl_0))) ?_
  exact h
theorem v_nameStatement_173 {X : ev_X} {W : Nat → Prop} {d : Nat} {P : MP} {μ : MS} {R : Int32 → MS → Prop} {T : MS → Prop} (x1 : Int32) (x2 : Int32) (h : ((x2.toInt < (0 : Int) → ME X W true d 360 581 [(0, .ref P.1), (1, .int x1)] [] P μ R T) ∧ ((0 : Int) ≤ x2.toInt → MC X W true d 362 [.ref P.1, .int x2] P μ (fun r1 μ1 => (MI x2 (μ1.2.2 27) ∧ ME X W true d 360 173 [(0, .ref P.1), (1, .int x1), (2, .int (μ1.2.1 27 x2.toNatClampNeg))] [] P μ1 R T)) (fun _ => False)))) : ME X W true d 360 173 [(0, .ref P.1), (1, .int x1), (2, .int x2)] [] P μ R T := by
  refine me_go (pc1 := 174) (lv1 := [(0, .ref P.1), (1, .int x1), (2, .int x2)]) (st1 := [.int x2]) 1 rfl ?_
  refine me_ifc rfl rfl (fun c => ?_) (fun c => ?_)
  · replace h := h.1 (ci_lt c)
    refine me_go (pc1 := 581) (lv1 := [(0, .ref P.1), (1, .int x1), (2, .int x2)]) (st1 := []) 1 rfl ?_
    refine me_lv [(0, .ref P.1), (1, .int x1)] (fl_c rfl (fl_c rfl fl_0)) ?_
    exact h
  · replace h := h.2 (cn_lt c)
    refine me_go (pc1 := 179) (lv1 := [(0, .ref P.1), (1, .int x1), (2, .int x2)]) (st1 := [.int x2, .ref P.1]) 2 rfl ?_
    refine me_callN rfl rfl rfl (h.mono (fun r1 μ1 h => ?_) (fun _ h => h))
    refine me_go (pc1 := 183) (lv1 := [(0, .ref P.1), (1, .int x1), (2, .int x2)]) (st1 := [.ref P.1]) 1 rfl ?_
    refine me_getf (v := .ref (P.2.1 27)) rfl rfl rfl ?_
    refine me_go (pc1 := 187) (lv1 := [(0, .ref P.1), (1, .int x1), (2, .int x2)]) (st1 := [.int x2, .ref (P.2.1 27)]) 1 rfl ?_
    refine me_iald rfl (g := 27) rfl rfl h.1 ?_
    replace h := h.2
    refine me_go (pc1 := 173) (lv1 := [(2, .int (μ1.2.1 27 x2.toNatClampNeg)), (0, .ref P.1), (1, .int x1)]) (st1 := []) 2 rfl ?_
    refine me_lv [(0, .ref P.1), (1, .int x1), (2, .int (μ1.2.1 27 x2.toNatClampNeg))] (fl_c rfl (fl_c rfl (fl_c rfl fl_0))) ?_
    exact h
theorem v_nameStatement_202 {X : ev_X} {W : Nat → Prop} {d : Nat} {P : MP} {μ : MS} {R : Int32 → MS → Prop} {T : MS → Prop} (x1 : Int32) (x2 : Int32) (h : ((x2.toInt < (0 : Int) → ME X W true d 360 581 [(0, .ref P.1), (1, .int x1)] [] P μ R T) ∧ ((0 : Int) ≤ x2.toInt → (MI x2 (μ.2.2 22) ∧ (((μ.2.1 22 x2.toNatClampNeg).toInt < (0 : Int) → ME X W true d 360 225 [(0, .ref P.1), (1, .int x1), (2, .int x2)] [] P μ R T) ∧ ((0 : Int) ≤ (μ.2.1 22 x2.toNatClampNeg).toInt → (MI x2 (μ.2.2 22) ∧ MC X W true d 362 [.ref P.1, .int (μ.2.1 22 x2.toNatClampNeg)] P μ (fun r1 μ1 => ME X W true d 360 225 [(0, .ref P.1), (1, .int x1), (2, .int x2)] [] P μ1 R T) (fun _ => False)))))))) : ME X W true d 360 202 [(0, .ref P.1), (1, .int x1), (2, .int x2)] [] P μ R T := by
  refine me_go (pc1 := 203) (lv1 := [(0, .ref P.1), (1, .int x1), (2, .int x2)]) (st1 := [.int x2]) 1 rfl ?_
  refine me_ifc rfl rfl (fun c => ?_) (fun c => ?_)
  · replace h := h.1 (ci_lt c)
    refine me_go (pc1 := 581) (lv1 := [(0, .ref P.1), (1, .int x1), (2, .int x2)]) (st1 := []) 1 rfl ?_
    refine me_lv [(0, .ref P.1), (1, .int x1)] (fl_c rfl (fl_c rfl fl_0)) ?_
    exact h
  · replace h := h.2 (cn_lt c)
    refine me_go (pc1 := 207) (lv1 := [(0, .ref P.1), (1, .int x1), (2, .int x2)]) (st1 := [.ref P.1]) 1 rfl ?_
    refine me_getf (v := .ref (P.2.1 22)) rfl rfl rfl ?_
    refine me_go (pc1 := 211) (lv1 := [(0, .ref P.1), (1, .int x1), (2, .int x2)]) (st1 := [.int x2, .ref (P.2.1 22)]) 1 rfl ?_
    refine me_iald rfl (g := 22) rfl rfl h.1 ?_
    replace h := h.2
    refine me_ifc rfl rfl (fun c => ?_) (fun c => ?_)
    · replace h := h.1 (ci_lt c)
      exact h
    · replace h := h.2 (cn_lt c)
      refine me_go (pc1 := 217) (lv1 := [(0, .ref P.1), (1, .int x1), (2, .int x2)]) (st1 := [.ref P.1, .ref P.1]) 2 rfl ?_
      refine me_getf (v := .ref (P.2.1 22)) rfl rfl rfl ?_
      refine me_go (pc1 := 221) (lv1 := [(0, .ref P.1), (1, .int x1), (2, .int x2)]) (st1 := [.int x2, .ref (P.2.1 22), .ref P.1]) 1 rfl ?_
      refine me_iald rfl (g := 22) rfl rfl h.1 ?_
      replace h := h.2
      refine me_callN rfl rfl rfl (h.mono (fun r1 μ1 h => ?_) (fun _ h => h))
      exact h
theorem v_nameStatement_225 {X : ev_X} {W : Nat → Prop} {d : Nat} {P : MP} {μ : MS} {R : Int32 → MS → Prop} {T : MS → Prop} (x1 : Int32) (x2 : Int32) (h : (MI x2 (μ.2.2 23) ∧ MC X W true d 359 [.ref P.1, .int (μ.2.1 23 x2.toNatClampNeg)] P μ (fun r1 μ1 => (MI x2 (μ1.2.2 27) ∧ ME X W true d 360 202 [(0, .ref P.1), (1, .int x1), (2, .int (μ1.2.1 27 x2.toNatClampNeg))] [] P μ1 R T)) (fun _ => False))) : ME X W true d 360 225 [(0, .ref P.1), (1, .int x1), (2, .int x2)] [] P μ R T := by
  refine me_go (pc1 := 227) (lv1 := [(0, .ref P.1), (1, .int x1), (2, .int x2)]) (st1 := [.ref P.1, .ref P.1]) 2 rfl ?_
  refine me_getf (v := .ref (P.2.1 23)) rfl rfl rfl ?_
  refine me_go (pc1 := 231) (lv1 := [(0, .ref P.1), (1, .int x1), (2, .int x2)]) (st1 := [.int x2, .ref (P.2.1 23), .ref P.1]) 1 rfl ?_
  refine me_iald rfl (g := 23) rfl rfl h.1 ?_
  replace h := h.2
  refine me_callN rfl rfl rfl (h.mono (fun r1 μ1 h => ?_) (fun _ h => h))
  refine me_go (pc1 := 236) (lv1 := [(0, .ref P.1), (1, .int x1), (2, .int x2)]) (st1 := [.ref P.1]) 1 rfl ?_
  refine me_getf (v := .ref (P.2.1 27)) rfl rfl rfl ?_
  refine me_go (pc1 := 240) (lv1 := [(0, .ref P.1), (1, .int x1), (2, .int x2)]) (st1 := [.int x2, .ref (P.2.1 27)]) 1 rfl ?_
  refine me_iald rfl (g := 27) rfl rfl h.1 ?_
  replace h := h.2
  refine me_go (pc1 := 202) (lv1 := [(2, .int (μ1.2.1 27 x2.toNatClampNeg)), (0, .ref P.1), (1, .int x1)]) (st1 := []) 2 rfl ?_
  refine me_lv [(0, .ref P.1), (1, .int x1), (2, .int (μ1.2.1 27 x2.toNatClampNeg))] (fl_c rfl (fl_c rfl (fl_c rfl fl_0))) ?_
  exact h
theorem v_nameStatement_369 {X : ev_X} {W : Nat → Prop} {d : Nat} {P : MP} {μ : MS} {R : Int32 → MS → Prop} {T : MS → Prop} (x1 : Int32) (x2 : Int32) (h : ((x2.toInt < (0 : Int) → (MI x1 (μ.2.2 24) ∧ MC X W true d 359 [.ref P.1, .int (μ.2.1 24 x1.toNatClampNeg)] P μ (fun r1 μ1 => ME X W true d 360 581 [(0, .ref P.1), (1, .int x1)] [] P μ1 R T) (fun _ => False))) ∧ ((0 : Int) ≤ x2.toInt → (MI x2 (μ.2.2 22) ∧ MC X W true d 350 [.ref P.1, .int (μ.2.1 22 x2.toNatClampNeg), .int 8, .int 8] P μ (fun r2 μ2 => (MI x2 (μ2.2.2 23) ∧ (MI x2 (μ2.2.2 24) ∧ MC X W true d 361 [.ref P.1, .int (μ2.2.1 23 x2.toNatClampNeg), .int 5, .int (-1), .int (μ2.2.1 24 x2.toNatClampNeg)] P μ2 (fun r3 μ3 => (MI x2 (μ3.2.2 27) ∧ ME X W true d 360 369 [(0, .ref P.1), (1, .int x1), (2, .int (μ3.2.1 27 x2.toNatClampNeg))] [] P μ3 R T)) (fun _ => False)))) (fun _ => False))))) : ME X W true d 360 369 [(0, .ref P.1), (1, .int x1), (2, .int x2)] [] P μ R T := by
  refine me_go (pc1 := 370) (lv1 := [(0, .ref P.1), (1, .int x1), (2, .int x2)]) (st1 := [.int x2]) 1 rfl ?_
  refine me_ifc rfl rfl (fun c => ?_) (fun c => ?_)
  · replace h := h.1 (ci_lt c)
    refine me_go (pc1 := 417) (lv1 := [(0, .ref P.1), (1, .int x1), (2, .int x2)]) (st1 := [.ref P.1, .ref P.1]) 2 rfl ?_
    refine me_getf (v := .ref (P.2.1 24)) rfl rfl rfl ?_
    refine me_go (pc1 := 421) (lv1 := [(0, .ref P.1), (1, .int x1), (2, .int x2)]) (st1 := [.int x1, .ref (P.2.1 24), .ref P.1]) 1 rfl ?_
    refine me_iald rfl (g := 24) rfl rfl h.1 ?_
    replace h := h.2
    refine me_callN rfl rfl rfl (h.mono (fun r1 μ1 h => ?_) (fun _ h => h))
    refine me_go (pc1 := 581) (lv1 := [(0, .ref P.1), (1, .int x1), (2, .int x2)]) (st1 := []) 1 rfl ?_
    refine me_lv [(0, .ref P.1), (1, .int x1)] (fl_c rfl (fl_c rfl fl_0)) ?_
    exact h
  · replace h := h.2 (cn_lt c)
    refine me_go (pc1 := 375) (lv1 := [(0, .ref P.1), (1, .int x1), (2, .int x2)]) (st1 := [.ref P.1, .ref P.1]) 2 rfl ?_
    refine me_getf (v := .ref (P.2.1 22)) rfl rfl rfl ?_
    refine me_go (pc1 := 379) (lv1 := [(0, .ref P.1), (1, .int x1), (2, .int x2)]) (st1 := [.int x2, .ref (P.2.1 22), .ref P.1]) 1 rfl ?_
    refine me_iald rfl (g := 22) rfl rfl h.1 ?_
    replace h := h.2
    refine me_go (pc1 := 384) (lv1 := [(0, .ref P.1), (1, .int x1), (2, .int x2)]) (st1 := [.int 8, .int 8, .int (μ.2.1 22 x2.toNatClampNeg), .ref P.1]) 2 rfl ?_
    refine me_callN rfl rfl rfl (h.mono (fun r2 μ2 h => ?_) (fun _ h => h))
    refine me_go (pc1 := 389) (lv1 := [(0, .ref P.1), (1, .int x1), (2, .int x2)]) (st1 := [.ref P.1, .ref P.1]) 2 rfl ?_
    refine me_getf (v := .ref (P.2.1 23)) rfl rfl rfl ?_
    refine me_go (pc1 := 393) (lv1 := [(0, .ref P.1), (1, .int x1), (2, .int x2)]) (st1 := [.int x2, .ref (P.2.1 23), .ref P.1]) 1 rfl ?_
    refine me_iald rfl (g := 23) rfl rfl h.1 ?_
    replace h := h.2
    refine me_go (pc1 := 397) (lv1 := [(0, .ref P.1), (1, .int x1), (2, .int x2)]) (st1 := [.ref P.1, .int (-1), .int 5, .int (μ2.2.1 23 x2.toNatClampNeg), .ref P.1]) 3 rfl ?_
    refine me_getf (v := .ref (P.2.1 24)) rfl rfl rfl ?_
    refine me_go (pc1 := 401) (lv1 := [(0, .ref P.1), (1, .int x1), (2, .int x2)]) (st1 := [.int x2, .ref (P.2.1 24), .int (-1), .int 5, .int (μ2.2.1 23 x2.toNatClampNeg), .ref P.1]) 1 rfl ?_
    refine me_iald rfl (g := 24) rfl rfl h.1 ?_
    replace h := h.2
    refine me_callN rfl rfl rfl (h.mono (fun r3 μ3 h => ?_) (fun _ h => h))
    refine me_go (pc1 := 406) (lv1 := [(0, .ref P.1), (1, .int x1), (2, .int x2)]) (st1 := [.ref P.1]) 1 rfl ?_
    refine me_getf (v := .ref (P.2.1 27)) rfl rfl rfl ?_
    refine me_go (pc1 := 410) (lv1 := [(0, .ref P.1), (1, .int x1), (2, .int x2)]) (st1 := [.int x2, .ref (P.2.1 27)]) 1 rfl ?_
    refine me_iald rfl (g := 27) rfl rfl h.1 ?_
    replace h := h.2
    refine me_go (pc1 := 369) (lv1 := [(2, .int (μ3.2.1 27 x2.toNatClampNeg)), (0, .ref P.1), (1, .int x1)]) (st1 := []) 2 rfl ?_
    refine me_lv [(0, .ref P.1), (1, .int x1), (2, .int (μ3.2.1 27 x2.toNatClampNeg))] (fl_c rfl (fl_c rfl (fl_c rfl fl_0))) ?_
    exact h
theorem v_nameStatement_491 {X : ev_X} {W : Nat → Prop} {d : Nat} {P : MP} {μ : MS} {R : Int32 → MS → Prop} {T : MS → Prop} (x1 : Int32) (x2 : Int32) (h : ((x2.toInt < (0 : Int) → (MI x1 (μ.2.2 24) ∧ MC X W true d 359 [.ref P.1, .int (μ.2.1 24 x1.toNatClampNeg)] P μ (fun r1 μ1 => ME X W true d 360 581 [(0, .ref P.1), (1, .int x1)] [] P μ1 R T) (fun _ => False))) ∧ ((0 : Int) ≤ x2.toInt → (MI x2 (μ.2.2 22) ∧ MC X W true d 351 [.ref P.1, .int (μ.2.1 22 x2.toNatClampNeg)] P μ (fun r2 μ2 => (MI x2 (μ2.2.2 23) ∧ (MI x2 (μ2.2.2 22) ∧ (MI x2 (μ2.2.2 24) ∧ MC X W true d 361 [.ref P.1, .int (μ2.2.1 23 x2.toNatClampNeg), .int 5, .int (μ2.2.1 22 x2.toNatClampNeg), .int (μ2.2.1 24 x2.toNatClampNeg)] P μ2 (fun r3 μ3 => (MI x2 (μ3.2.2 27) ∧ ME X W true d 360 491 [(0, .ref P.1), (1, .int x1), (2, .int (μ3.2.1 27 x2.toNatClampNeg))] [] P μ3 R T)) (fun _ => False))))) (fun _ => False))))) : ME X W true d 360 491 [(0, .ref P.1), (1, .int x1), (2, .int x2)] [] P μ R T := by
  refine me_go (pc1 := 492) (lv1 := [(0, .ref P.1), (1, .int x1), (2, .int x2)]) (st1 := [.int x2]) 1 rfl ?_
  refine me_ifc rfl rfl (fun c => ?_) (fun c => ?_)
  · replace h := h.1 (ci_lt c)
    refine me_go (pc1 := 540) (lv1 := [(0, .ref P.1), (1, .int x1), (2, .int x2)]) (st1 := [.ref P.1, .ref P.1]) 2 rfl ?_
    refine me_getf (v := .ref (P.2.1 24)) rfl rfl rfl ?_
    refine me_go (pc1 := 544) (lv1 := [(0, .ref P.1), (1, .int x1), (2, .int x2)]) (st1 := [.int x1, .ref (P.2.1 24), .ref P.1]) 1 rfl ?_
    refine me_iald rfl (g := 24) rfl rfl h.1 ?_
    replace h := h.2
    refine me_callN rfl rfl rfl (h.mono (fun r1 μ1 h => ?_) (fun _ h => h))
    refine me_go (pc1 := 581) (lv1 := [(0, .ref P.1), (1, .int x1), (2, .int x2)]) (st1 := []) 1 rfl ?_
    refine me_lv [(0, .ref P.1), (1, .int x1)] (fl_c rfl (fl_c rfl fl_0)) ?_
    exact h
  · replace h := h.2 (cn_lt c)
    refine me_go (pc1 := 497) (lv1 := [(0, .ref P.1), (1, .int x1), (2, .int x2)]) (st1 := [.ref P.1, .ref P.1]) 2 rfl ?_
    refine me_getf (v := .ref (P.2.1 22)) rfl rfl rfl ?_
    refine me_go (pc1 := 501) (lv1 := [(0, .ref P.1), (1, .int x1), (2, .int x2)]) (st1 := [.int x2, .ref (P.2.1 22), .ref P.1]) 1 rfl ?_
    refine me_iald rfl (g := 22) rfl rfl h.1 ?_
    replace h := h.2
    refine me_callN rfl rfl rfl (h.mono (fun r2 μ2 h => ?_) (fun _ h => h))
    refine me_go (pc1 := 507) (lv1 := [(0, .ref P.1), (1, .int x1), (2, .int x2)]) (st1 := [.ref P.1, .ref P.1]) 2 rfl ?_
    refine me_getf (v := .ref (P.2.1 23)) rfl rfl rfl ?_
    refine me_go (pc1 := 511) (lv1 := [(0, .ref P.1), (1, .int x1), (2, .int x2)]) (st1 := [.int x2, .ref (P.2.1 23), .ref P.1]) 1 rfl ?_
    refine me_iald rfl (g := 23) rfl rfl h.1 ?_
    replace h := h.2
    refine me_go (pc1 := 514) (lv1 := [(0, .ref P.1), (1, .int x1), (2, .int x2)]) (st1 := [.ref P.1, .int 5, .int (μ2.2.1 23 x2.toNatClampNeg), .ref P.1]) 2 rfl ?_
    refine me_getf (v := .ref (P.2.1 22)) rfl rfl rfl ?_
    refine me_go (pc1 := 518) (lv1 := [(0, .ref P.1), (1, .int x1), (2, .int x2)]) (st1 := [.int x2, .ref (P.2.1 22), .int 5, .int (μ2.2.1 23 x2.toNatClampNeg), .ref P.1]) 1 rfl ?_
    refine me_iald rfl (g := 22) rfl rfl h.1 ?_
    replace h := h.2
    refine me_go (pc1 := 520) (lv1 := [(0, .ref P.1), (1, .int x1), (2, .int x2)]) (st1 := [.ref P.1, .int (μ2.2.1 22 x2.toNatClampNeg), .int 5, .int (μ2.2.1 23 x2.toNatClampNeg), .ref P.1]) 1 rfl ?_
    refine me_getf (v := .ref (P.2.1 24)) rfl rfl rfl ?_
    refine me_go (pc1 := 524) (lv1 := [(0, .ref P.1), (1, .int x1), (2, .int x2)]) (st1 := [.int x2, .ref (P.2.1 24), .int (μ2.2.1 22 x2.toNatClampNeg), .int 5, .int (μ2.2.1 23 x2.toNatClampNeg), .ref P.1]) 1 rfl ?_
    refine me_iald rfl (g := 24) rfl rfl h.1 ?_
    replace h := h.2
    refine me_callN rfl rfl rfl (h.mono (fun r3 μ3 h => ?_) (fun _ h => h))
    refine me_go (pc1 := 529) (lv1 := [(0, .ref P.1), (1, .int x1), (2, .int x2)]) (st1 := [.ref P.1]) 1 rfl ?_
    refine me_getf (v := .ref (P.2.1 27)) rfl rfl rfl ?_
    refine me_go (pc1 := 533) (lv1 := [(0, .ref P.1), (1, .int x1), (2, .int x2)]) (st1 := [.int x2, .ref (P.2.1 27)]) 1 rfl ?_
    refine me_iald rfl (g := 27) rfl rfl h.1 ?_
    replace h := h.2
    refine me_go (pc1 := 491) (lv1 := [(2, .int (μ3.2.1 27 x2.toNatClampNeg)), (0, .ref P.1), (1, .int x1)]) (st1 := []) 2 rfl ?_
    refine me_lv [(0, .ref P.1), (1, .int x1), (2, .int (μ3.2.1 27 x2.toNatClampNeg))] (fl_c rfl (fl_c rfl (fl_c rfl fl_0))) ?_
    exact h
theorem v_nameStatement_581 {X : ev_X} {W : Nat → Prop} {d : Nat} {P : MP} {μ : MS} {R : Int32 → MS → Prop} {T : MS → Prop} (x1 : Int32) (h : R 0 μ) : ME X W true d 360 581 [(0, .ref P.1), (1, .int x1)] [] P μ R T := by
  exact me_ret (v := none) (r := 0) rfl rfl rfl h
theorem v_within_0 {X : ev_X} {W : Nat → Prop} {d : Nat} {P : MP} {μ : MS} {R : Int32 → MS → Prop} {T : MS → Prop} (x1 : Int32) (x2 : Int32) (x3 : Int32) (x4 : Int32) (h : MC X W true d 341 [.ref P.1, .int x2, .int x3] P μ (fun r1 μ1 => (MI x1 (μ1.2.2 28) ∧ (MI x1 (μ1.2.2 22) ∧ (MI x1 (μ1.2.2 28) ∧ MC X W true d 358 [.ref P.1, .int (μ1.2.1 22 x1.toNatClampNeg), .int (upd (μ1.2.1 28) x1.toNatClampNeg r1 x1.toNatClampNeg)] P (mA1 μ1 28 x1.toNatClampNeg r1) (fun r2 μ2 => MC X W true d 359 [.ref P.1, .int x4] P μ2 (fun r3 μ3 => R 0 (mS1 μ3 62 ((μ3.1 62) - 1))) (fun _ => False)) (fun _ => False))))) (fun _ => False)) : ME X W true d 361 0 [(0, .ref P.1), (1, .int x1), (2, .int x2), (3, .int x3), (4, .int x4)] [] P μ R T := by
  refine me_go (pc1 := 1) (lv1 := [(0, .ref P.1), (1, .int x1), (2, .int x2), (3, .int x3), (4, .int x4)]) (st1 := [.ref P.1]) 1 rfl ?_
  refine me_getf (v := .ref (P.2.1 28)) rfl rfl rfl ?_
  refine me_go (pc1 := 8) (lv1 := [(0, .ref P.1), (1, .int x1), (2, .int x2), (3, .int x3), (4, .int x4)]) (st1 := [.int x3, .int x2, .ref P.1, .int x1, .ref (P.2.1 28)]) 4 rfl ?_
  refine me_callN rfl rfl rfl (h.mono (fun r1 μ1 h => ?_) (fun _ h => h))
  have hi := h.1
  replace h := h.2
  refine me_iast rfl (g := 28) rfl rfl hi ?_
  refine me_go (pc1 := 14) (lv1 := [(0, .ref P.1), (1, .int x1), (2, .int x2), (3, .int x3), (4, .int x4)]) (st1 := [.ref P.1, .ref P.1]) 2 rfl ?_
  refine me_getf (v := .ref (P.2.1 22)) rfl rfl rfl ?_
  refine me_go (pc1 := 18) (lv1 := [(0, .ref P.1), (1, .int x1), (2, .int x2), (3, .int x3), (4, .int x4)]) (st1 := [.int x1, .ref (P.2.1 22), .ref P.1]) 1 rfl ?_
  refine me_iald rfl (g := 22) rfl rfl h.1 ?_
  replace h := h.2
  refine me_go (pc1 := 20) (lv1 := [(0, .ref P.1), (1, .int x1), (2, .int x2), (3, .int x3), (4, .int x4)]) (st1 := [.ref P.1, .int (μ1.2.1 22 x1.toNatClampNeg), .ref P.1]) 1 rfl ?_
  refine me_getf (v := .ref (P.2.1 28)) rfl rfl rfl ?_
  refine me_go (pc1 := 24) (lv1 := [(0, .ref P.1), (1, .int x1), (2, .int x2), (3, .int x3), (4, .int x4)]) (st1 := [.int x1, .ref (P.2.1 28), .int (μ1.2.1 22 x1.toNatClampNeg), .ref P.1]) 1 rfl ?_
  refine me_iald rfl (g := 28) rfl rfl h.1 ?_
  replace h := h.2
  refine me_callN rfl rfl rfl (h.mono (fun r2 μ2 h => ?_) (fun _ h => h))
  refine me_go (pc1 := 31) (lv1 := [(0, .ref P.1), (1, .int x1), (2, .int x2), (3, .int x3), (4, .int x4)]) (st1 := [.int x4, .ref P.1]) 2 rfl ?_
  refine me_callN rfl rfl rfl (h.mono (fun r3 μ3 h => ?_) (fun _ h => h))
  refine me_go (pc1 := 36) (lv1 := [(0, .ref P.1), (1, .int x1), (2, .int x2), (3, .int x3), (4, .int x4)]) (st1 := [.ref P.1, .ref P.1]) 2 rfl ?_
  refine me_getf (v := .int (μ3.1 62)) rfl rfl rfl ?_
  refine me_go (pc1 := 41) (lv1 := [(0, .ref P.1), (1, .int x1), (2, .int x2), (3, .int x3), (4, .int x4)]) (st1 := [.int ((μ3.1 62) - 1), .ref P.1]) 2 rfl ?_
  refine me_put rfl rfl rfl ?_
  exact me_ret (v := none) (r := 0) rfl rfl rfl h
theorem v_nameE_0 {X : ev_X} {W : Nat → Prop} {d : Nat} {P : MP} {μ : MS} {R : Int32 → MS → Prop} {T : MS → Prop} (x1 : Int32) (h : (MI x1 (μ.2.2 20) ∧ ((((μ.2.1 20 x1.toNatClampNeg) = 70) → MC X W true d 363 [.ref P.1, .int x1] P μ (fun r1 μ1 => R 0 μ1) (fun _ => False)) ∧ (((μ.2.1 20 x1.toNatClampNeg) = 79) → (MI x1 (μ.2.2 22) ∧ MC X W true d 351 [.ref P.1, .int (μ.2.1 22 x1.toNatClampNeg)] P μ (fun r2 μ2 => R 0 μ2) (fun _ => False))) ∧ (((μ.2.1 20 x1.toNatClampNeg) = 80 ∨ (μ.2.1 20 x1.toNatClampNeg) = 81) → (MI x1 (μ.2.2 22) ∧ MC X W true d 362 [.ref P.1, .int (μ.2.1 22 x1.toNatClampNeg)] P μ (fun r3 μ3 => (MI x1 (μ3.2.2 23) ∧ MC X W true d 351 [.ref P.1, .int (μ3.2.1 23 x1.toNatClampNeg)] P μ3 (fun r4 μ4 => R 0 μ4) (fun _ => False))) (fun _ => False))) ∧ (((μ.2.1 20 x1.toNatClampNeg) = 82) → (MI x1 (μ.2.2 22) ∧ MC X W true d 362 [.ref P.1, .int (μ.2.1 22 x1.toNatClampNeg)] P μ (fun r5 μ5 => (MI x1 (μ5.2.2 23) ∧ ME X W true d 362 149 [(0, .ref P.1), (1, .int x1), (2, .int (μ5.2.1 23 x1.toNatClampNeg))] [] P μ5 R T)) (fun _ => False))) ∧ (((μ.2.1 20 x1.toNatClampNeg) = 84) → (MI x1 (μ.2.2 22) ∧ MC X W true d 362 [.ref P.1, .int (μ.2.1 22 x1.toNatClampNeg)] P μ (fun r6 μ6 => (MI x1 (μ6.2.2 23) ∧ MC X W true d 362 [.ref P.1, .int (μ6.2.1 23 x1.toNatClampNeg)] P μ6 (fun r7 μ7 => R 0 μ7) (fun _ => False))) (fun _ => False))) ∧ (((μ.2.1 20 x1.toNatClampNeg) = 85 ∨ (μ.2.1 20 x1.toNatClampNeg) = 86) → (MI x1 (μ.2.2 22) ∧ MC X W true d 362 [.ref P.1, .int (μ.2.1 22 x1.toNatClampNeg)] P μ (fun r8 μ8 => R 0 μ8) (fun _ => False))) ∧ ((∀ v ∈ [(70 : Int32), (79 : Int32), (80 : Int32), (81 : Int32), (82 : Int32), (84 : Int32), (85 : Int32), (86 : Int32)], ¬ (μ.2.1 20 x1.toNatClampNeg) = v) → R 0 μ)))) : ME X W true d 362 0 [(0, .ref P.1), (1, .int x1)] [] P μ R T := by
  refine me_go (pc1 := 1) (lv1 := [(0, .ref P.1), (1, .int x1)]) (st1 := [.ref P.1]) 1 rfl ?_
  refine me_getf (v := .ref (P.2.1 20)) rfl rfl rfl ?_
  refine me_go (pc1 := 5) (lv1 := [(0, .ref P.1), (1, .int x1)]) (st1 := [.int x1, .ref (P.2.1 20)]) 1 rfl ?_
  refine me_iald rfl (g := 20) rfl rfl h.1 ?_
  replace h := h.2
  have hD := h
  have q6_0 : ((μ.2.1 20 x1.toNatClampNeg) = 70) → ME X W true d 362 88 [(0, .ref P.1), (1, .int x1)] [] P μ R T := fun c => by
      replace h := hD.1 c
      refine me_go (pc1 := 90) (lv1 := [(0, .ref P.1), (1, .int x1)]) (st1 := [.int x1, .ref P.1]) 2 rfl ?_
      refine me_callN rfl rfl rfl (h.mono (fun r1 μ1 h => ?_) (fun _ h => h))
      refine me_go (pc1 := 212) (lv1 := [(0, .ref P.1), (1, .int x1)]) (st1 := []) 1 rfl ?_
      exact me_ret (v := none) (r := 0) rfl rfl rfl h
  have q6_1 : ((μ.2.1 20 x1.toNatClampNeg) = 79) → ME X W true d 362 96 [(0, .ref P.1), (1, .int x1)] [] P μ R T := fun c => by
      replace h := hD.2.1 c
      refine me_go (pc1 := 98) (lv1 := [(0, .ref P.1), (1, .int x1)]) (st1 := [.ref P.1, .ref P.1]) 2 rfl ?_
      refine me_getf (v := .ref (P.2.1 22)) rfl rfl rfl ?_
      refine me_go (pc1 := 102) (lv1 := [(0, .ref P.1), (1, .int x1)]) (st1 := [.int x1, .ref (P.2.1 22), .ref P.1]) 1 rfl ?_
      refine me_iald rfl (g := 22) rfl rfl h.1 ?_
      replace h := h.2
      refine me_callN rfl rfl rfl (h.mono (fun r2 μ2 h => ?_) (fun _ h => h))
      refine me_go (pc1 := 212) (lv1 := [(0, .ref P.1), (1, .int x1)]) (st1 := []) 1 rfl ?_
      exact me_ret (v := none) (r := 0) rfl rfl rfl h
  have q6_2 : ((μ.2.1 20 x1.toNatClampNeg) = 80 ∨ (μ.2.1 20 x1.toNatClampNeg) = 81) → ME X W true d 362 109 [(0, .ref P.1), (1, .int x1)] [] P μ R T := fun c => by
      replace h := hD.2.2.1 c
      refine me_go (pc1 := 111) (lv1 := [(0, .ref P.1), (1, .int x1)]) (st1 := [.ref P.1, .ref P.1]) 2 rfl ?_
      refine me_getf (v := .ref (P.2.1 22)) rfl rfl rfl ?_
      refine me_go (pc1 := 115) (lv1 := [(0, .ref P.1), (1, .int x1)]) (st1 := [.int x1, .ref (P.2.1 22), .ref P.1]) 1 rfl ?_
      refine me_iald rfl (g := 22) rfl rfl h.1 ?_
      replace h := h.2
      refine me_callN rfl rfl rfl (h.mono (fun r3 μ3 h => ?_) (fun _ h => h))
      refine me_go (pc1 := 121) (lv1 := [(0, .ref P.1), (1, .int x1)]) (st1 := [.ref P.1, .ref P.1]) 2 rfl ?_
      refine me_getf (v := .ref (P.2.1 23)) rfl rfl rfl ?_
      refine me_go (pc1 := 125) (lv1 := [(0, .ref P.1), (1, .int x1)]) (st1 := [.int x1, .ref (P.2.1 23), .ref P.1]) 1 rfl ?_
      refine me_iald rfl (g := 23) rfl rfl h.1 ?_
      replace h := h.2
      refine me_callN rfl rfl rfl (h.mono (fun r4 μ4 h => ?_) (fun _ h => h))
      refine me_go (pc1 := 212) (lv1 := [(0, .ref P.1), (1, .int x1)]) (st1 := []) 1 rfl ?_
      exact me_ret (v := none) (r := 0) rfl rfl rfl h
  have q6_3 : ((μ.2.1 20 x1.toNatClampNeg) = 82) → ME X W true d 362 132 [(0, .ref P.1), (1, .int x1)] [] P μ R T := fun c => by
      replace h := hD.2.2.2.1 c
      refine me_go (pc1 := 134) (lv1 := [(0, .ref P.1), (1, .int x1)]) (st1 := [.ref P.1, .ref P.1]) 2 rfl ?_
      refine me_getf (v := .ref (P.2.1 22)) rfl rfl rfl ?_
      refine me_go (pc1 := 138) (lv1 := [(0, .ref P.1), (1, .int x1)]) (st1 := [.int x1, .ref (P.2.1 22), .ref P.1]) 1 rfl ?_
      refine me_iald rfl (g := 22) rfl rfl h.1 ?_
      replace h := h.2
      refine me_callN rfl rfl rfl (h.mono (fun r5 μ5 h => ?_) (fun _ h => h))
      refine me_go (pc1 := 143) (lv1 := [(0, .ref P.1), (1, .int x1)]) (st1 := [.ref P.1]) 1 rfl ?_
      refine me_getf (v := .ref (P.2.1 23)) rfl rfl rfl ?_
      refine me_go (pc1 := 147) (lv1 := [(0, .ref P.1), (1, .int x1)]) (st1 := [.int x1, .ref (P.2.1 23)]) 1 rfl ?_
      refine me_iald rfl (g := 23) rfl rfl h.1 ?_
      replace h := h.2
      refine me_go (pc1 := 149) (lv1 := [(2, .int (μ5.2.1 23 x1.toNatClampNeg)), (0, .ref P.1), (1, .int x1)]) (st1 := []) 1 rfl ?_
      refine me_lv [(0, .ref P.1), (1, .int x1), (2, .int (μ5.2.1 23 x1.toNatClampNeg))] (fl_c rfl (fl_c rfl (fl_c rfl fl_0))) ?_
      exact h
  have q6_4 : ((μ.2.1 20 x1.toNatClampNeg) = 84) → ME X W true d 362 176 [(0, .ref P.1), (1, .int x1)] [] P μ R T := fun c => by
      replace h := hD.2.2.2.2.1 c
      refine me_go (pc1 := 178) (lv1 := [(0, .ref P.1), (1, .int x1)]) (st1 := [.ref P.1, .ref P.1]) 2 rfl ?_
      refine me_getf (v := .ref (P.2.1 22)) rfl rfl rfl ?_
      refine me_go (pc1 := 182) (lv1 := [(0, .ref P.1), (1, .int x1)]) (st1 := [.int x1, .ref (P.2.1 22), .ref P.1]) 1 rfl ?_
      refine me_iald rfl (g := 22) rfl rfl h.1 ?_
      replace h := h.2
      refine me_callN rfl rfl rfl (h.mono (fun r6 μ6 h => ?_) (fun _ h => h))
      refine me_go (pc1 := 188) (lv1 := [(0, .ref P.1), (1, .int x1)]) (st1 := [.ref P.1, .ref P.1]) 2 rfl ?_
      refine me_getf (v := .ref (P.2.1 23)) rfl rfl rfl ?_
      refine me_go (pc1 := 192) (lv1 := [(0, .ref P.1), (1, .int x1)]) (st1 := [.int x1, .ref (P.2.1 23), .ref P.1]) 1 rfl ?_
      refine me_iald rfl (g := 23) rfl rfl h.1 ?_
      replace h := h.2
      refine me_callN rfl rfl rfl (h.mono (fun r7 μ7 h => ?_) (fun _ h => h))
      refine me_go (pc1 := 212) (lv1 := [(0, .ref P.1), (1, .int x1)]) (st1 := []) 1 rfl ?_
      exact me_ret (v := none) (r := 0) rfl rfl rfl h
  have q6_5 : ((μ.2.1 20 x1.toNatClampNeg) = 85 ∨ (μ.2.1 20 x1.toNatClampNeg) = 86) → ME X W true d 362 199 [(0, .ref P.1), (1, .int x1)] [] P μ R T := fun c => by
      replace h := hD.2.2.2.2.2.1 c
      refine me_go (pc1 := 201) (lv1 := [(0, .ref P.1), (1, .int x1)]) (st1 := [.ref P.1, .ref P.1]) 2 rfl ?_
      refine me_getf (v := .ref (P.2.1 22)) rfl rfl rfl ?_
      refine me_go (pc1 := 205) (lv1 := [(0, .ref P.1), (1, .int x1)]) (st1 := [.int x1, .ref (P.2.1 22), .ref P.1]) 1 rfl ?_
      refine me_iald rfl (g := 22) rfl rfl h.1 ?_
      replace h := h.2
      refine me_callN rfl rfl rfl (h.mono (fun r8 μ8 h => ?_) (fun _ h => h))
      refine me_go (pc1 := 212) (lv1 := [(0, .ref P.1), (1, .int x1)]) (st1 := []) 1 rfl ?_
      exact me_ret (v := none) (r := 0) rfl rfl rfl h
  by_cases c : (μ.2.1 20 x1.toNatClampNeg) = 70
  · exact me_sw rfl c (t := 88) rfl (q6_0 (c))
  rename ¬ (μ.2.1 20 x1.toNatClampNeg) = 70 => n0
  by_cases c : (μ.2.1 20 x1.toNatClampNeg) = 79
  · exact me_sw rfl c (t := 96) rfl (q6_1 (c))
  rename ¬ (μ.2.1 20 x1.toNatClampNeg) = 79 => n1
  by_cases c : (μ.2.1 20 x1.toNatClampNeg) = 80
  · exact me_sw rfl c (t := 109) rfl (q6_2 (Or.inl c))
  rename ¬ (μ.2.1 20 x1.toNatClampNeg) = 80 => n2
  by_cases c : (μ.2.1 20 x1.toNatClampNeg) = 81
  · exact me_sw rfl c (t := 109) rfl (q6_2 (Or.inr (c)))
  rename ¬ (μ.2.1 20 x1.toNatClampNeg) = 81 => n3
  by_cases c : (μ.2.1 20 x1.toNatClampNeg) = 82
  · exact me_sw rfl c (t := 132) rfl (q6_3 (c))
  rename ¬ (μ.2.1 20 x1.toNatClampNeg) = 82 => n4
  by_cases c : (μ.2.1 20 x1.toNatClampNeg) = 84
  · exact me_sw rfl c (t := 176) rfl (q6_4 (c))
  rename ¬ (μ.2.1 20 x1.toNatClampNeg) = 84 => n5
  by_cases c : (μ.2.1 20 x1.toNatClampNeg) = 85
  · exact me_sw rfl c (t := 199) rfl (q6_5 (Or.inl c))
  rename ¬ (μ.2.1 20 x1.toNatClampNeg) = 85 => n6
  by_cases c : (μ.2.1 20 x1.toNatClampNeg) = 86
  · exact me_sw rfl c (t := 199) rfl (q6_5 (Or.inr (c)))
  rename ¬ (μ.2.1 20 x1.toNatClampNeg) = 86 => n7
  have hk : ∀ v ∈ [(70 : Int32), (79 : Int32), (80 : Int32), (81 : Int32), (82 : Int32), (84 : Int32), (85 : Int32), (86 : Int32)], ¬ (μ.2.1 20 x1.toNatClampNeg) = v := fun v hv => by
    simp only [List.mem_cons, List.not_mem_nil, or_false] at hv
    rcases hv with rfl | rfl | rfl | rfl | rfl | rfl | rfl | rfl <;> assumption
  refine me_tsD (t := 212) rfl _ rfl rfl hk ?_
  replace h := hD.2.2.2.2.2.2 hk
  exact me_ret (v := none) (r := 0) rfl rfl rfl h
theorem v_nameE_149 {X : ev_X} {W : Nat → Prop} {d : Nat} {P : MP} {μ : MS} {R : Int32 → MS → Prop} {T : MS → Prop} (x1 : Int32) (x2 : Int32) (h : ((x2.toInt < (0 : Int) → R 0 μ) ∧ ((0 : Int) ≤ x2.toInt → (MI x2 (μ.2.2 23) ∧ MC X W true d 362 [.ref P.1, .int (μ.2.1 23 x2.toNatClampNeg)] P μ (fun r1 μ1 => (MI x2 (μ1.2.2 27) ∧ ME X W true d 362 149 [(0, .ref P.1), (1, .int x1), (2, .int (μ1.2.1 27 x2.toNatClampNeg))] [] P μ1 R T)) (fun _ => False))))) : ME X W true d 362 149 [(0, .ref P.1), (1, .int x1), (2, .int x2)] [] P μ R T := by
  refine me_go (pc1 := 150) (lv1 := [(0, .ref P.1), (1, .int x1), (2, .int x2)]) (st1 := [.int x2]) 1 rfl ?_
  refine me_ifc rfl rfl (fun c => ?_) (fun c => ?_)
  · replace h := h.1 (ci_lt c)
    refine me_go (pc1 := 212) (lv1 := [(0, .ref P.1), (1, .int x1), (2, .int x2)]) (st1 := []) 1 rfl ?_
    exact me_ret (v := none) (r := 0) rfl rfl rfl h
  · replace h := h.2 (cn_lt c)
    refine me_go (pc1 := 155) (lv1 := [(0, .ref P.1), (1, .int x1), (2, .int x2)]) (st1 := [.ref P.1, .ref P.1]) 2 rfl ?_
    refine me_getf (v := .ref (P.2.1 23)) rfl rfl rfl ?_
    refine me_go (pc1 := 159) (lv1 := [(0, .ref P.1), (1, .int x1), (2, .int x2)]) (st1 := [.int x2, .ref (P.2.1 23), .ref P.1]) 1 rfl ?_
    refine me_iald rfl (g := 23) rfl rfl h.1 ?_
    replace h := h.2
    refine me_callN rfl rfl rfl (h.mono (fun r1 μ1 h => ?_) (fun _ h => h))
    refine me_go (pc1 := 164) (lv1 := [(0, .ref P.1), (1, .int x1), (2, .int x2)]) (st1 := [.ref P.1]) 1 rfl ?_
    refine me_getf (v := .ref (P.2.1 27)) rfl rfl rfl ?_
    refine me_go (pc1 := 168) (lv1 := [(0, .ref P.1), (1, .int x1), (2, .int x2)]) (st1 := [.int x2, .ref (P.2.1 27)]) 1 rfl ?_
    refine me_iald rfl (g := 27) rfl rfl h.1 ?_
    replace h := h.2
    refine me_go (pc1 := 149) (lv1 := [(2, .int (μ1.2.1 27 x2.toNatClampNeg)), (0, .ref P.1), (1, .int x1)]) (st1 := []) 2 rfl ?_
    refine me_lv [(0, .ref P.1), (1, .int x1), (2, .int (μ1.2.1 27 x2.toNatClampNeg))] (fl_c rfl (fl_c rfl (fl_c rfl fl_0))) ?_
    exact h
theorem v_namePlace_0 {X : ev_X} {W : Nat → Prop} {d : Nat} {P : MP} {μ : MS} {R : Int32 → MS → Prop} {T : MS → Prop} (x1 : Int32) (h : (MI x1 (μ.2.2 23) ∧ ME X W true d 363 7 [(0, .ref P.1), (1, .int x1), (2, .int (μ.2.1 23 x1.toNatClampNeg))] [] P μ R T)) : ME X W true d 363 0 [(0, .ref P.1), (1, .int x1)] [] P μ R T := by
  refine me_go (pc1 := 1) (lv1 := [(0, .ref P.1), (1, .int x1)]) (st1 := [.ref P.1]) 1 rfl ?_
  refine me_getf (v := .ref (P.2.1 23)) rfl rfl rfl ?_
  refine me_go (pc1 := 5) (lv1 := [(0, .ref P.1), (1, .int x1)]) (st1 := [.int x1, .ref (P.2.1 23)]) 1 rfl ?_
  refine me_iald rfl (g := 23) rfl rfl h.1 ?_
  replace h := h.2
  refine me_go (pc1 := 7) (lv1 := [(2, .int (μ.2.1 23 x1.toNatClampNeg)), (0, .ref P.1), (1, .int x1)]) (st1 := []) 1 rfl ?_
  refine me_lv [(0, .ref P.1), (1, .int x1), (2, .int (μ.2.1 23 x1.toNatClampNeg))] (fl_c rfl (fl_c rfl (fl_c rfl fl_0))) ?_
  exact h
theorem v_namePlace_7 {X : ev_X} {W : Nat → Prop} {d : Nat} {P : MP} {μ : MS} {R : Int32 → MS → Prop} {T : MS → Prop} (x1 : Int32) (x2 : Int32) (h : ((x2.toInt < (0 : Int) → (MI x1 (μ.2.2 23) ∧ (MI x1 (μ.2.2 26) ∧ (MI x1 (μ.2.2 24) ∧ ME X W true d 363 68 [(0, .ref P.1), (1, .int x1), (2, .int ((μ.1 62) - 1))] [] P (mA1 (mA1 μ 26 x1.toNatClampNeg (μ.2.1 23 x1.toNatClampNeg)) 24 x1.toNatClampNeg 0) R T)))) ∧ ((0 : Int) ≤ x2.toInt → (MI x2 (μ.2.2 20) ∧ ((¬ (μ.2.1 20 x2.toNatClampNeg) = 72 → ME X W true d 363 32 [(0, .ref P.1), (1, .int x1), (2, .int x2)] [] P μ R T) ∧ ((μ.2.1 20 x2.toNatClampNeg) = 72 → (MI x2 (μ.2.2 22) ∧ MC X W true d 362 [.ref P.1, .int (μ.2.1 22 x2.toNatClampNeg)] P μ (fun r1 μ1 => ME X W true d 363 32 [(0, .ref P.1), (1, .int x1), (2, .int x2)] [] P μ1 R T) (fun _ => False)))))))) : ME X W true d 363 7 [(0, .ref P.1), (1, .int x1), (2, .int x2)] [] P μ R T := by
  refine me_go (pc1 := 8) (lv1 := [(0, .ref P.1), (1, .int x1), (2, .int x2)]) (st1 := [.int x2]) 1 rfl ?_
  refine me_ifc rfl rfl (fun c => ?_) (fun c => ?_)
  · replace h := h.1 (ci_lt c)
    refine me_go (pc1 := 43) (lv1 := [(0, .ref P.1), (1, .int x1), (2, .int x2)]) (st1 := [.ref P.1]) 1 rfl ?_
    refine me_getf (v := .ref (P.2.1 26)) rfl rfl rfl ?_
    refine me_go (pc1 := 48) (lv1 := [(0, .ref P.1), (1, .int x1), (2, .int x2)]) (st1 := [.ref P.1, .int x1, .ref (P.2.1 26)]) 2 rfl ?_
    refine me_getf (v := .ref (P.2.1 23)) rfl rfl rfl ?_
    refine me_go (pc1 := 52) (lv1 := [(0, .ref P.1), (1, .int x1), (2, .int x2)]) (st1 := [.int x1, .ref (P.2.1 23), .int x1, .ref (P.2.1 26)]) 1 rfl ?_
    refine me_iald rfl (g := 23) rfl rfl h.1 ?_
    replace h := h.2
    have hi := h.1
    replace h := h.2
    refine me_iast rfl (g := 26) rfl rfl hi ?_
    refine me_go (pc1 := 55) (lv1 := [(0, .ref P.1), (1, .int x1), (2, .int x2)]) (st1 := [.ref P.1]) 1 rfl ?_
    refine me_getf (v := .ref (P.2.1 24)) rfl rfl rfl ?_
    refine me_go (pc1 := 60) (lv1 := [(0, .ref P.1), (1, .int x1), (2, .int x2)]) (st1 := [.int 0, .int x1, .ref (P.2.1 24)]) 2 rfl ?_
    have hi := h.1
    replace h := h.2
    refine me_iast rfl (g := 24) rfl rfl hi ?_
    refine me_go (pc1 := 62) (lv1 := [(0, .ref P.1), (1, .int x1), (2, .int x2)]) (st1 := [.ref P.1]) 1 rfl ?_
    refine me_getf (v := .int (μ.1 62)) rfl rfl rfl ?_
    refine me_go (pc1 := 68) (lv1 := [(2, .int ((μ.1 62) - 1)), (0, .ref P.1), (1, .int x1)]) (st1 := []) 3 rfl ?_
    refine me_lv [(0, .ref P.1), (1, .int x1), (2, .int ((μ.1 62) - 1))] (fl_c rfl (fl_c rfl (fl_c rfl fl_0))) ?_
    exact h
  · replace h := h.2 (cn_lt c)
    refine me_go (pc1 := 12) (lv1 := [(0, .ref P.1), (1, .int x1), (2, .int x2)]) (st1 := [.ref P.1]) 1 rfl ?_
    refine me_getf (v := .ref (P.2.1 20)) rfl rfl rfl ?_
    refine me_go (pc1 := 16) (lv1 := [(0, .ref P.1), (1, .int x1), (2, .int x2)]) (st1 := [.int x2, .ref (P.2.1 20)]) 1 rfl ?_
    refine me_iald rfl (g := 20) rfl rfl h.1 ?_
    replace h := h.2
    refine me_go (pc1 := 19) (lv1 := [(0, .ref P.1), (1, .int x1), (2, .int x2)]) (st1 := [.int 72, .int (μ.2.1 20 x2.toNatClampNeg)]) 1 rfl ?_
    refine me_icmp rfl rfl (fun c => ?_) (fun c => ?_)
    · replace h := h.1 (ci_ne c)
      exact h
    · replace h := h.2 (cn_ne c)
      refine me_go (pc1 := 24) (lv1 := [(0, .ref P.1), (1, .int x1), (2, .int x2)]) (st1 := [.ref P.1, .ref P.1]) 2 rfl ?_
      refine me_getf (v := .ref (P.2.1 22)) rfl rfl rfl ?_
      refine me_go (pc1 := 28) (lv1 := [(0, .ref P.1), (1, .int x1), (2, .int x2)]) (st1 := [.int x2, .ref (P.2.1 22), .ref P.1]) 1 rfl ?_
      refine me_iald rfl (g := 22) rfl rfl h.1 ?_
      replace h := h.2
      refine me_callN rfl rfl rfl (h.mono (fun r1 μ1 h => ?_) (fun _ h => h))
      exact h
theorem v_namePlace_32 {X : ev_X} {W : Nat → Prop} {d : Nat} {P : MP} {μ : MS} {R : Int32 → MS → Prop} {T : MS → Prop} (x1 : Int32) (x2 : Int32) (h : (MI x2 (μ.2.2 27) ∧ ME X W true d 363 7 [(0, .ref P.1), (1, .int x1), (2, .int (μ.2.1 27 x2.toNatClampNeg))] [] P μ R T)) : ME X W true d 363 32 [(0, .ref P.1), (1, .int x1), (2, .int x2)] [] P μ R T := by
  refine me_go (pc1 := 33) (lv1 := [(0, .ref P.1), (1, .int x1), (2, .int x2)]) (st1 := [.ref P.1]) 1 rfl ?_
  refine me_getf (v := .ref (P.2.1 27)) rfl rfl rfl ?_
  refine me_go (pc1 := 37) (lv1 := [(0, .ref P.1), (1, .int x1), (2, .int x2)]) (st1 := [.int x2, .ref (P.2.1 27)]) 1 rfl ?_
  refine me_iald rfl (g := 27) rfl rfl h.1 ?_
  replace h := h.2
  refine me_go (pc1 := 7) (lv1 := [(2, .int (μ.2.1 27 x2.toNatClampNeg)), (0, .ref P.1), (1, .int x1)]) (st1 := []) 2 rfl ?_
  refine me_lv [(0, .ref P.1), (1, .int x1), (2, .int (μ.2.1 27 x2.toNatClampNeg))] (fl_c rfl (fl_c rfl (fl_c rfl fl_0))) ?_
  exact h
theorem v_namePlace_68 {X : ev_X} {W : Nat → Prop} {d : Nat} {P : MP} {μ : MS} {R : Int32 → MS → Prop} {T : MS → Prop} (x1 : Int32) (x2 : Int32) (h : ((x2.toInt < (0 : Int) → (MI x1 (μ.2.2 29) ∧ (MI x1 (μ.2.2 22) ∧ MC X W true d 343 [.ref P.1, .int (μ.2.1 29 x1.toNatClampNeg), .int (μ.2.1 22 x1.toNatClampNeg)] P μ (fun r1 μ1 => ((r1.toInt < (0 : Int) → ME X W true d 363 212 [(0, .ref P.1), (1, .int x1), (2, .int r1)] [] P μ1 R T) ∧ ((0 : Int) ≤ r1.toInt → (MI r1 (μ1.2.2 45) ∧ ((¬ (μ1.2.1 45 r1.toNatClampNeg) = 2 → ME X W true d 363 212 [(0, .ref P.1), (1, .int x1), (2, .int r1)] [] P μ1 R T) ∧ ((μ1.2.1 45 r1.toNatClampNeg) = 2 → (MI x1 (μ1.2.2 23) ∧ (((μ1.2.1 23 x1.toNatClampNeg).toInt < (0 : Int) → ME X W true d 363 159 [(0, .ref P.1), (1, .int x1), (2, .int r1), (3, .int (μ1.2.1 23 x1.toNatClampNeg))] [] P μ1 R T) ∧ ((0 : Int) ≤ (μ1.2.1 23 x1.toNatClampNeg).toInt → (MI (μ1.2.1 23 x1.toNatClampNeg) (μ1.2.2 20) ∧ (((μ1.2.1 20 ((μ1.2.1 23 x1.toNatClampNeg)).toNatClampNeg) = 71 → (MI r1 (μ1.2.2 47) ∧ (((0 : Int) ≤ (μ1.2.1 47 r1.toNatClampNeg).toInt → (MI (μ1.2.1 23 x1.toNatClampNeg) (μ1.2.2 27) ∧ (MI x1 (μ1.2.2 26) ∧ (MI r1 (μ1.2.2 47) ∧ (MI (μ1.2.1 23 x1.toNatClampNeg) (μ1.2.2 22) ∧ MC X W true d 342 [.ref P.1, .int (μ1.2.1 47 r1.toNatClampNeg), .int (μ1.2.1 22 ((μ1.2.1 23 x1.toNatClampNeg)).toNatClampNeg), .int 0] P (mA1 μ1 26 x1.toNatClampNeg (μ1.2.1 27 ((μ1.2.1 23 x1.toNatClampNeg)).toNatClampNeg)) (fun r2 μ2 => ME X W true d 363 212 [(0, .ref P.1), (1, .int x1), (2, .int r2)] [] P μ2 R T) (fun _ => False)))))) ∧ ((μ1.2.1 47 r1.toNatClampNeg).toInt < (0 : Int) → R 0 μ1)))) ∧ (¬ (μ1.2.1 20 ((μ1.2.1 23 x1.toNatClampNeg)).toNatClampNeg) = 71 → ME X W true d 363 159 [(0, .ref P.1), (1, .int x1), (2, .int r1), (3, .int (μ1.2.1 23 x1.toNatClampNeg))] [] P μ1 R T)))))))))))) (fun _ => False)))) ∧ ((0 : Int) ≤ x2.toInt → (MI x2 (μ.2.2 63) ∧ (MI x1 (μ.2.2 22) ∧ ((¬ (μ.2.1 63 x2.toNatClampNeg) = (μ.2.1 22 x1.toNatClampNeg) → ME X W true d 363 68 [(0, .ref P.1), (1, .int x1), (2, .int (x2 + (-1)))] [] P μ R T) ∧ ((μ.2.1 63 x2.toNatClampNeg) = (μ.2.1 22 x1.toNatClampNeg) → (MI x2 (μ.2.2 64) ∧ (MI x1 (μ.2.2 28) ∧ R 0 (mA1 μ 28 x1.toNatClampNeg (μ.2.1 64 x2.toNatClampNeg))))))))))) : ME X W true d 363 68 [(0, .ref P.1), (1, .int x1), (2, .int x2)] [] P μ R T := by
  refine me_go (pc1 := 69) (lv1 := [(0, .ref P.1), (1, .int x1), (2, .int x2)]) (st1 := [.int x2]) 1 rfl ?_
  refine me_ifc rfl rfl (fun c => ?_) (fun c => ?_)
  · replace h := h.1 (ci_lt c)
    refine me_go (pc1 := 108) (lv1 := [(0, .ref P.1), (1, .int x1), (2, .int x2)]) (st1 := [.ref P.1, .ref P.1]) 2 rfl ?_
    refine me_getf (v := .ref (P.2.1 29)) rfl rfl rfl ?_
    refine me_go (pc1 := 112) (lv1 := [(0, .ref P.1), (1, .int x1), (2, .int x2)]) (st1 := [.int x1, .ref (P.2.1 29), .ref P.1]) 1 rfl ?_
    refine me_iald rfl (g := 29) rfl rfl h.1 ?_
    replace h := h.2
    refine me_go (pc1 := 114) (lv1 := [(0, .ref P.1), (1, .int x1), (2, .int x2)]) (st1 := [.ref P.1, .int (μ.2.1 29 x1.toNatClampNeg), .ref P.1]) 1 rfl ?_
    refine me_getf (v := .ref (P.2.1 22)) rfl rfl rfl ?_
    refine me_go (pc1 := 118) (lv1 := [(0, .ref P.1), (1, .int x1), (2, .int x2)]) (st1 := [.int x1, .ref (P.2.1 22), .int (μ.2.1 29 x1.toNatClampNeg), .ref P.1]) 1 rfl ?_
    refine me_iald rfl (g := 22) rfl rfl h.1 ?_
    replace h := h.2
    refine me_callN rfl rfl rfl (h.mono (fun r1 μ1 h => ?_) (fun _ h => h))
    refine me_go (pc1 := 124) (lv1 := [(2, .int r1), (0, .ref P.1), (1, .int x1)]) (st1 := [.int r1]) 2 rfl ?_
    refine me_ifc rfl rfl (fun c => ?_) (fun c => ?_)
    · replace h := h.1 (ci_lt c)
      refine me_lv [(0, .ref P.1), (1, .int x1), (2, .int r1)] (fl_c rfl (fl_c rfl (fl_c rfl fl_0))) ?_
      exact h
    · replace h := h.2 (cn_lt c)
      refine me_go (pc1 := 128) (lv1 := [(2, .int r1), (0, .ref P.1), (1, .int x1)]) (st1 := [.ref P.1]) 1 rfl ?_
      refine me_getf (v := .ref (P.2.1 45)) rfl rfl rfl ?_
      refine me_go (pc1 := 132) (lv1 := [(2, .int r1), (0, .ref P.1), (1, .int x1)]) (st1 := [.int r1, .ref (P.2.1 45)]) 1 rfl ?_
      refine me_iald rfl (g := 45) rfl rfl h.1 ?_
      replace h := h.2
      refine me_go (pc1 := 134) (lv1 := [(2, .int r1), (0, .ref P.1), (1, .int x1)]) (st1 := [.int 2, .int (μ1.2.1 45 r1.toNatClampNeg)]) 1 rfl ?_
      refine me_icmp rfl rfl (fun c => ?_) (fun c => ?_)
      · replace h := h.1 (ci_ne c)
        refine me_lv [(0, .ref P.1), (1, .int x1), (2, .int r1)] (fl_c rfl (fl_c rfl (fl_c rfl fl_0))) ?_
        exact h
      · replace h := h.2 (cn_ne c)
        refine me_go (pc1 := 138) (lv1 := [(2, .int r1), (0, .ref P.1), (1, .int x1)]) (st1 := [.ref P.1]) 1 rfl ?_
        refine me_getf (v := .ref (P.2.1 23)) rfl rfl rfl ?_
        refine me_go (pc1 := 142) (lv1 := [(2, .int r1), (0, .ref P.1), (1, .int x1)]) (st1 := [.int x1, .ref (P.2.1 23)]) 1 rfl ?_
        refine me_iald rfl (g := 23) rfl rfl h.1 ?_
        replace h := h.2
        refine me_go (pc1 := 145) (lv1 := [(3, .int (μ1.2.1 23 x1.toNatClampNeg)), (2, .int r1), (0, .ref P.1), (1, .int x1)]) (st1 := [.int (μ1.2.1 23 x1.toNatClampNeg)]) 2 rfl ?_
        refine me_ifc rfl rfl (fun c => ?_) (fun c => ?_)
        · replace h := h.1 (ci_lt c)
          refine me_lv [(0, .ref P.1), (1, .int x1), (2, .int r1), (3, .int (μ1.2.1 23 x1.toNatClampNeg))] (fl_c rfl (fl_c rfl (fl_c rfl (fl_c rfl fl_0)))) ?_
          exact h
        · replace h := h.2 (cn_lt c)
          refine me_go (pc1 := 149) (lv1 := [(3, .int (μ1.2.1 23 x1.toNatClampNeg)), (2, .int r1), (0, .ref P.1), (1, .int x1)]) (st1 := [.ref P.1]) 1 rfl ?_
          refine me_getf (v := .ref (P.2.1 20)) rfl rfl rfl ?_
          refine me_go (pc1 := 153) (lv1 := [(3, .int (μ1.2.1 23 x1.toNatClampNeg)), (2, .int r1), (0, .ref P.1), (1, .int x1)]) (st1 := [.int (μ1.2.1 23 x1.toNatClampNeg), .ref (P.2.1 20)]) 1 rfl ?_
          refine me_iald rfl (g := 20) rfl rfl h.1 ?_
          replace h := h.2
          refine me_go (pc1 := 156) (lv1 := [(3, .int (μ1.2.1 23 x1.toNatClampNeg)), (2, .int r1), (0, .ref P.1), (1, .int x1)]) (st1 := [.int 71, .int (μ1.2.1 20 ((μ1.2.1 23 x1.toNatClampNeg)).toNatClampNeg)]) 1 rfl ?_
          refine me_icmp rfl rfl (fun c => ?_) (fun c => ?_)
          · replace h := h.1 (ci_eq c)
            refine me_go (pc1 := 173) (lv1 := [(3, .int (μ1.2.1 23 x1.toNatClampNeg)), (2, .int r1), (0, .ref P.1), (1, .int x1)]) (st1 := [.ref P.1]) 1 rfl ?_
            refine me_getf (v := .ref (P.2.1 47)) rfl rfl rfl ?_
            refine me_go (pc1 := 177) (lv1 := [(3, .int (μ1.2.1 23 x1.toNatClampNeg)), (2, .int r1), (0, .ref P.1), (1, .int x1)]) (st1 := [.int r1, .ref (P.2.1 47)]) 1 rfl ?_
            refine me_iald rfl (g := 47) rfl rfl h.1 ?_
            replace h := h.2
            refine me_ifc rfl rfl (fun c => ?_) (fun c => ?_)
            · replace h := h.1 (ci_ge c)
              refine me_go (pc1 := 183) (lv1 := [(3, .int (μ1.2.1 23 x1.toNatClampNeg)), (2, .int r1), (0, .ref P.1), (1, .int x1)]) (st1 := [.ref P.1]) 1 rfl ?_
              refine me_getf (v := .ref (P.2.1 26)) rfl rfl rfl ?_
              refine me_go (pc1 := 188) (lv1 := [(3, .int (μ1.2.1 23 x1.toNatClampNeg)), (2, .int r1), (0, .ref P.1), (1, .int x1)]) (st1 := [.ref P.1, .int x1, .ref (P.2.1 26)]) 2 rfl ?_
              refine me_getf (v := .ref (P.2.1 27)) rfl rfl rfl ?_
              refine me_go (pc1 := 192) (lv1 := [(3, .int (μ1.2.1 23 x1.toNatClampNeg)), (2, .int r1), (0, .ref P.1), (1, .int x1)]) (st1 := [.int (μ1.2.1 23 x1.toNatClampNeg), .ref (P.2.1 27), .int x1, .ref (P.2.1 26)]) 1 rfl ?_
              refine me_iald rfl (g := 27) rfl rfl h.1 ?_
              replace h := h.2
              have hi := h.1
              replace h := h.2
              refine me_iast rfl (g := 26) rfl rfl hi ?_
              refine me_go (pc1 := 196) (lv1 := [(3, .int (μ1.2.1 23 x1.toNatClampNeg)), (2, .int r1), (0, .ref P.1), (1, .int x1)]) (st1 := [.ref P.1, .ref P.1]) 2 rfl ?_
              refine me_getf (v := .ref (P.2.1 47)) rfl rfl rfl ?_
              refine me_go (pc1 := 200) (lv1 := [(3, .int (μ1.2.1 23 x1.toNatClampNeg)), (2, .int r1), (0, .ref P.1), (1, .int x1)]) (st1 := [.int r1, .ref (P.2.1 47), .ref P.1]) 1 rfl ?_
              refine me_iald rfl (g := 47) rfl rfl h.1 ?_
              replace h := h.2
              refine me_go (pc1 := 202) (lv1 := [(3, .int (μ1.2.1 23 x1.toNatClampNeg)), (2, .int r1), (0, .ref P.1), (1, .int x1)]) (st1 := [.ref P.1, .int (μ1.2.1 47 r1.toNatClampNeg), .ref P.1]) 1 rfl ?_
              refine me_getf (v := .ref (P.2.1 22)) rfl rfl rfl ?_
              refine me_go (pc1 := 206) (lv1 := [(3, .int (μ1.2.1 23 x1.toNatClampNeg)), (2, .int r1), (0, .ref P.1), (1, .int x1)]) (st1 := [.int (μ1.2.1 23 x1.toNatClampNeg), .ref (P.2.1 22), .int (μ1.2.1 47 r1.toNatClampNeg), .ref P.1]) 1 rfl ?_
              refine me_iald rfl (g := 22) rfl rfl h.1 ?_
              replace h := h.2
              refine me_go (pc1 := 208) (lv1 := [(3, .int (μ1.2.1 23 x1.toNatClampNeg)), (2, .int r1), (0, .ref P.1), (1, .int x1)]) (st1 := [.int 0, .int (μ1.2.1 22 ((μ1.2.1 23 x1.toNatClampNeg)).toNatClampNeg), .int (μ1.2.1 47 r1.toNatClampNeg), .ref P.1]) 1 rfl ?_
              refine me_callN rfl rfl rfl (h.mono (fun r2 μ2 h => ?_) (fun _ h => h))
              refine me_go (pc1 := 212) (lv1 := [(2, .int r2), (3, .int (μ1.2.1 23 x1.toNatClampNeg)), (0, .ref P.1), (1, .int x1)]) (st1 := []) 1 rfl ?_
              refine me_lv [(0, .ref P.1), (1, .int x1), (2, .int r2)] (fl_c rfl (fl_c rfl (fl_c rfl fl_0))) ?_
              exact h
            · replace h := h.2 (cn_ge c)
              exact me_ret (v := none) (r := 0) rfl rfl rfl h
          · replace h := h.2 (cn_eq c)
            refine me_lv [(0, .ref P.1), (1, .int x1), (2, .int r1), (3, .int (μ1.2.1 23 x1.toNatClampNeg))] (fl_c rfl (fl_c rfl (fl_c rfl (fl_c rfl fl_0)))) ?_
            exact h
  · replace h := h.2 (cn_lt c)
    refine me_go (pc1 := 73) (lv1 := [(0, .ref P.1), (1, .int x1), (2, .int x2)]) (st1 := [.ref P.1]) 1 rfl ?_
    refine me_getf (v := .ref (P.2.1 63)) rfl rfl rfl ?_
    refine me_go (pc1 := 77) (lv1 := [(0, .ref P.1), (1, .int x1), (2, .int x2)]) (st1 := [.int x2, .ref (P.2.1 63)]) 1 rfl ?_
    refine me_iald rfl (g := 63) rfl rfl h.1 ?_
    replace h := h.2
    refine me_go (pc1 := 79) (lv1 := [(0, .ref P.1), (1, .int x1), (2, .int x2)]) (st1 := [.ref P.1, .int (μ.2.1 63 x2.toNatClampNeg)]) 1 rfl ?_
    refine me_getf (v := .ref (P.2.1 22)) rfl rfl rfl ?_
    refine me_go (pc1 := 83) (lv1 := [(0, .ref P.1), (1, .int x1), (2, .int x2)]) (st1 := [.int x1, .ref (P.2.1 22), .int (μ.2.1 63 x2.toNatClampNeg)]) 1 rfl ?_
    refine me_iald rfl (g := 22) rfl rfl h.1 ?_
    replace h := h.2
    refine me_icmp rfl rfl (fun c => ?_) (fun c => ?_)
    · replace h := h.1 (ci_ne c)
      refine me_go (pc1 := 68) (lv1 := [(2, .int (x2 + (-1))), (0, .ref P.1), (1, .int x1)]) (st1 := []) 2 rfl ?_
      refine me_lv [(0, .ref P.1), (1, .int x1), (2, .int (x2 + (-1)))] (fl_c rfl (fl_c rfl (fl_c rfl fl_0))) ?_
      exact h
    · replace h := h.2 (cn_ne c)
      refine me_go (pc1 := 88) (lv1 := [(0, .ref P.1), (1, .int x1), (2, .int x2)]) (st1 := [.ref P.1]) 1 rfl ?_
      refine me_getf (v := .ref (P.2.1 28)) rfl rfl rfl ?_
      refine me_go (pc1 := 93) (lv1 := [(0, .ref P.1), (1, .int x1), (2, .int x2)]) (st1 := [.ref P.1, .int x1, .ref (P.2.1 28)]) 2 rfl ?_
      refine me_getf (v := .ref (P.2.1 64)) rfl rfl rfl ?_
      refine me_go (pc1 := 97) (lv1 := [(0, .ref P.1), (1, .int x1), (2, .int x2)]) (st1 := [.int x2, .ref (P.2.1 64), .int x1, .ref (P.2.1 28)]) 1 rfl ?_
      refine me_iald rfl (g := 64) rfl rfl h.1 ?_
      replace h := h.2
      have hi := h.1
      replace h := h.2
      refine me_iast rfl (g := 28) rfl rfl hi ?_
      exact me_ret (v := none) (r := 0) rfl rfl rfl h
theorem v_namePlace_159 {X : ev_X} {W : Nat → Prop} {d : Nat} {P : MP} {μ : MS} {R : Int32 → MS → Prop} {T : MS → Prop} (x1 : Int32) (x2 : Int32) (x3 : Int32) (h : (MI x1 (μ.2.2 21) ∧ MC X W true d 290 [.ref P.1, .int 7, .int (μ.2.1 21 x1.toNatClampNeg)] P μ (fun r1 μ1 => R 0 μ1) (fun _ => False))) : ME X W true d 363 159 [(0, .ref P.1), (1, .int x1), (2, .int x2), (3, .int x3)] [] P μ R T := by
  refine me_go (pc1 := 163) (lv1 := [(0, .ref P.1), (1, .int x1), (2, .int x2), (3, .int x3)]) (st1 := [.ref P.1, .int 7, .ref P.1]) 3 rfl ?_
  refine me_getf (v := .ref (P.2.1 21)) rfl rfl rfl ?_
  refine me_go (pc1 := 167) (lv1 := [(0, .ref P.1), (1, .int x1), (2, .int x2), (3, .int x3)]) (st1 := [.int x1, .ref (P.2.1 21), .int 7, .ref P.1]) 1 rfl ?_
  refine me_iald rfl (g := 21) rfl rfl h.1 ?_
  replace h := h.2
  refine me_callN rfl rfl rfl (h.mono (fun r1 μ1 h => ?_) (fun _ h => h))
  exact me_ret (v := none) (r := 0) rfl rfl rfl h
theorem v_namePlace_212 {X : ev_X} {W : Nat → Prop} {d : Nat} {P : MP} {μ : MS} {R : Int32 → MS → Prop} {T : MS → Prop} (x1 : Int32) (x2 : Int32) (h : (((0 : Int) ≤ x2.toInt → (MI x2 (μ.2.2 45) ∧ ((¬ (μ.2.1 45 x2.toNatClampNeg) = 7 → (MI x2 (μ.2.2 45) ∧ ((¬ (μ.2.1 45 x2.toNatClampNeg) = 9 → (MI x1 (μ.2.2 21) ∧ MC X W true d 290 [.ref P.1, .int 7, .int (μ.2.1 21 x1.toNatClampNeg)] P μ (fun r1 μ1 => ME X W true d 363 302 [(0, .ref P.1), (1, .int x1), (2, .int x2)] [] P μ1 R T) (fun _ => False))) ∧ ((μ.2.1 45 x2.toNatClampNeg) = 9 → (MI x1 (μ.2.2 24) ∧ (MI x2 (μ.2.2 47) ∧ (MI x1 (μ.2.2 28) ∧ ME X W true d 363 302 [(0, .ref P.1), (1, .int x1), (2, .int x2)] [] P (mA1 (mA1 μ 24 x1.toNatClampNeg 1) 28 x1.toNatClampNeg (μ.2.1 47 x2.toNatClampNeg)) R T))))))) ∧ ((μ.2.1 45 x2.toNatClampNeg) = 7 → (MI x2 (μ.2.2 47) ∧ (MI x1 (μ.2.2 28) ∧ ME X W true d 363 302 [(0, .ref P.1), (1, .int x1), (2, .int x2)] [] P (mA1 μ 28 x1.toNatClampNeg (μ.2.1 47 x2.toNatClampNeg)) R T)))))) ∧ (x2.toInt < (0 : Int) → (MI x1 (μ.2.2 21) ∧ MC X W true d 290 [.ref P.1, .int 6, .int (μ.2.1 21 x1.toNatClampNeg)] P μ (fun r2 μ2 => ME X W true d 363 302 [(0, .ref P.1), (1, .int x1), (2, .int x2)] [] P μ2 R T) (fun _ => False))))) : ME X W true d 363 212 [(0, .ref P.1), (1, .int x1), (2, .int x2)] [] P μ R T := by
  refine me_go (pc1 := 213) (lv1 := [(0, .ref P.1), (1, .int x1), (2, .int x2)]) (st1 := [.int x2]) 1 rfl ?_
  refine me_ifc rfl rfl (fun c => ?_) (fun c => ?_)
  · replace h := h.1 (ci_ge c)
    refine me_go (pc1 := 232) (lv1 := [(0, .ref P.1), (1, .int x1), (2, .int x2)]) (st1 := [.ref P.1]) 1 rfl ?_
    refine me_getf (v := .ref (P.2.1 45)) rfl rfl rfl ?_
    refine me_go (pc1 := 236) (lv1 := [(0, .ref P.1), (1, .int x1), (2, .int x2)]) (st1 := [.int x2, .ref (P.2.1 45)]) 1 rfl ?_
    refine me_iald rfl (g := 45) rfl rfl h.1 ?_
    replace h := h.2
    refine me_go (pc1 := 239) (lv1 := [(0, .ref P.1), (1, .int x1), (2, .int x2)]) (st1 := [.int 7, .int (μ.2.1 45 x2.toNatClampNeg)]) 1 rfl ?_
    refine me_icmp rfl rfl (fun c => ?_) (fun c => ?_)
    · replace h := h.1 (ci_ne c)
      refine me_go (pc1 := 258) (lv1 := [(0, .ref P.1), (1, .int x1), (2, .int x2)]) (st1 := [.ref P.1]) 1 rfl ?_
      refine me_getf (v := .ref (P.2.1 45)) rfl rfl rfl ?_
      refine me_go (pc1 := 262) (lv1 := [(0, .ref P.1), (1, .int x1), (2, .int x2)]) (st1 := [.int x2, .ref (P.2.1 45)]) 1 rfl ?_
      refine me_iald rfl (g := 45) rfl rfl h.1 ?_
      replace h := h.2
      refine me_go (pc1 := 265) (lv1 := [(0, .ref P.1), (1, .int x1), (2, .int x2)]) (st1 := [.int 9, .int (μ.2.1 45 x2.toNatClampNeg)]) 1 rfl ?_
      refine me_icmp rfl rfl (fun c => ?_) (fun c => ?_)
      · replace h := h.1 (ci_ne c)
        refine me_go (pc1 := 294) (lv1 := [(0, .ref P.1), (1, .int x1), (2, .int x2)]) (st1 := [.ref P.1, .int 7, .ref P.1]) 3 rfl ?_
        refine me_getf (v := .ref (P.2.1 21)) rfl rfl rfl ?_
        refine me_go (pc1 := 298) (lv1 := [(0, .ref P.1), (1, .int x1), (2, .int x2)]) (st1 := [.int x1, .ref (P.2.1 21), .int 7, .ref P.1]) 1 rfl ?_
        refine me_iald rfl (g := 21) rfl rfl h.1 ?_
        replace h := h.2
        refine me_callN rfl rfl rfl (h.mono (fun r1 μ1 h => ?_) (fun _ h => h))
        exact h
      · replace h := h.2 (cn_ne c)
        refine me_go (pc1 := 269) (lv1 := [(0, .ref P.1), (1, .int x1), (2, .int x2)]) (st1 := [.ref P.1]) 1 rfl ?_
        refine me_getf (v := .ref (P.2.1 24)) rfl rfl rfl ?_
        refine me_go (pc1 := 274) (lv1 := [(0, .ref P.1), (1, .int x1), (2, .int x2)]) (st1 := [.int 1, .int x1, .ref (P.2.1 24)]) 2 rfl ?_
        have hi := h.1
        replace h := h.2
        refine me_iast rfl (g := 24) rfl rfl hi ?_
        refine me_go (pc1 := 276) (lv1 := [(0, .ref P.1), (1, .int x1), (2, .int x2)]) (st1 := [.ref P.1]) 1 rfl ?_
        refine me_getf (v := .ref (P.2.1 28)) rfl rfl rfl ?_
        refine me_go (pc1 := 281) (lv1 := [(0, .ref P.1), (1, .int x1), (2, .int x2)]) (st1 := [.ref P.1, .int x1, .ref (P.2.1 28)]) 2 rfl ?_
        refine me_getf (v := .ref (P.2.1 47)) rfl rfl rfl ?_
        refine me_go (pc1 := 285) (lv1 := [(0, .ref P.1), (1, .int x1), (2, .int x2)]) (st1 := [.int x2, .ref (P.2.1 47), .int x1, .ref (P.2.1 28)]) 1 rfl ?_
        refine me_iald rfl (g := 47) rfl rfl h.1 ?_
        replace h := h.2
        have hi := h.1
        replace h := h.2
        refine me_iast rfl (g := 28) rfl rfl hi ?_
        refine me_go (pc1 := 302) (lv1 := [(0, .ref P.1), (1, .int x1), (2, .int x2)]) (st1 := []) 1 rfl ?_
        exact h
    · replace h := h.2 (cn_ne c)
      refine me_go (pc1 := 243) (lv1 := [(0, .ref P.1), (1, .int x1), (2, .int x2)]) (st1 := [.ref P.1]) 1 rfl ?_
      refine me_getf (v := .ref (P.2.1 28)) rfl rfl rfl ?_
      refine me_go (pc1 := 248) (lv1 := [(0, .ref P.1), (1, .int x1), (2, .int x2)]) (st1 := [.ref P.1, .int x1, .ref (P.2.1 28)]) 2 rfl ?_
      refine me_getf (v := .ref (P.2.1 47)) rfl rfl rfl ?_
      refine me_go (pc1 := 252) (lv1 := [(0, .ref P.1), (1, .int x1), (2, .int x2)]) (st1 := [.int x2, .ref (P.2.1 47), .int x1, .ref (P.2.1 28)]) 1 rfl ?_
      refine me_iald rfl (g := 47) rfl rfl h.1 ?_
      replace h := h.2
      have hi := h.1
      replace h := h.2
      refine me_iast rfl (g := 28) rfl rfl hi ?_
      refine me_go (pc1 := 302) (lv1 := [(0, .ref P.1), (1, .int x1), (2, .int x2)]) (st1 := []) 1 rfl ?_
      exact h
  · replace h := h.2 (cn_ge c)
    refine me_go (pc1 := 220) (lv1 := [(0, .ref P.1), (1, .int x1), (2, .int x2)]) (st1 := [.ref P.1, .int 6, .ref P.1]) 3 rfl ?_
    refine me_getf (v := .ref (P.2.1 21)) rfl rfl rfl ?_
    refine me_go (pc1 := 224) (lv1 := [(0, .ref P.1), (1, .int x1), (2, .int x2)]) (st1 := [.int x1, .ref (P.2.1 21), .int 6, .ref P.1]) 1 rfl ?_
    refine me_iald rfl (g := 21) rfl rfl h.1 ?_
    replace h := h.2
    refine me_callN rfl rfl rfl (h.mono (fun r2 μ2 h => ?_) (fun _ h => h))
    refine me_go (pc1 := 302) (lv1 := [(0, .ref P.1), (1, .int x1), (2, .int x2)]) (st1 := []) 1 rfl ?_
    exact h
theorem v_namePlace_302 {X : ev_X} {W : Nat → Prop} {d : Nat} {P : MP} {μ : MS} {R : Int32 → MS → Prop} {T : MS → Prop} (x1 : Int32) (x2 : Int32) (h : R 0 μ) : ME X W true d 363 302 [(0, .ref P.1), (1, .int x1), (2, .int x2)] [] P μ R T := by
  exact me_ret (v := none) (r := 0) rfl rfl rfl h
