theorem v_fail_0 {X : ev_X} {W : Nat → Prop} {d : Nat} {P : MP} {μ : MS} {R : Int32 → MS → Prop} {T : MS → Prop} (x1 : Int32) (h : T (mS1 μ 129 x1)) : ME X W true d 446 0 [(0, .ref P.1), (1, .int x1)] [] P μ R T := by
  refine me_go (pc1 := 2) (lv1 := [(0, .ref P.1), (1, .int x1)]) (st1 := [.int x1, .ref P.1]) 2 rfl ?_
  refine me_put rfl rfl rfl ?_
  refine me_go (pc1 := 6) (lv1 := [(0, .ref P.1), (1, .int x1)]) (st1 := [.ref P.1]) 1 rfl ?_
  refine me_getf (v := .ref P.2.2.2) rfl rfl rfl ?_
  exact me_ath rfl (Or.inr rfl) rfl h
theorem v_entry_0 {X : ev_X} {W : Nat → Prop} {d : Nat} {P : MP} {μ : MS} {R : Int32 → MS → Prop} {T : MS → Prop}  (h : (MI (μ.1 128) (μ.2.2 124) ∧ R (((((μ.1 128) * 3000) + (μ.2.1 124 ((μ.1 128)).toNatClampNeg)) - 1) * 6) μ)) : ME X W true d 447 0 [(0, .ref P.1)] [] P μ R T := by
  refine me_go (pc1 := 1) (lv1 := [(0, .ref P.1)]) (st1 := [.ref P.1]) 1 rfl ?_
  refine me_getf (v := .int (μ.1 128)) rfl rfl rfl ?_
  refine me_go (pc1 := 9) (lv1 := [(0, .ref P.1)]) (st1 := [.ref P.1, .int ((μ.1 128) * 3000)]) 3 rfl ?_
  refine me_getf (v := .ref (P.2.1 124)) rfl rfl rfl ?_
  refine me_go (pc1 := 13) (lv1 := [(0, .ref P.1)]) (st1 := [.ref P.1, .ref (P.2.1 124), .int ((μ.1 128) * 3000)]) 1 rfl ?_
  refine me_getf (v := .int (μ.1 128)) rfl rfl rfl ?_
  refine me_iald rfl (g := 124) rfl rfl h.1 ?_
  replace h := h.2
  refine me_go (pc1 := 23) (lv1 := [(0, .ref P.1)]) (st1 := [.int (((((μ.1 128) * 3000) + (μ.2.1 124 ((μ.1 128)).toNatClampNeg)) - 1) * 6)]) 5 rfl ?_
  exact me_ret rfl rfl rfl h
theorem v_push_0 {X : ev_X} {W : Nat → Prop} {d : Nat} {P : MP} {μ : MS} {R : Int32 → MS → Prop} {T : MS → Prop} (x1 : Int32) (x2 : Int32) (x3 : Int32) (x4 : Int32) (x5 : Int32) (x6 : Int32) (h : (MI (μ.1 128) (μ.2.2 124) ∧ (MI (μ.1 128) (μ.2.2 124) ∧ MC X W true d 447 [.ref P.1] P (mA1 μ 124 (((μ.1 128)).toNatClampNeg) ((μ.2.1 124 ((μ.1 128)).toNatClampNeg) + 1)) (fun r1 μ1 => (MI r1 (μ1.2.2 125) ∧ (MI (r1 + 1) (μ1.2.2 125) ∧ (MI (r1 + 2) (μ1.2.2 125) ∧ (MI (r1 + 3) (μ1.2.2 125) ∧ (MI (r1 + 4) (μ1.2.2 125) ∧ (MI (r1 + 5) (μ1.2.2 125) ∧ R 0 (mA1 (mA1 (mA1 (mA1 (mA1 (mA1 μ1 125 r1.toNatClampNeg x1) 125 (((r1 + 1)).toNatClampNeg) x2) 125 (((r1 + 2)).toNatClampNeg) x3) 125 (((r1 + 3)).toNatClampNeg) x4) 125 (((r1 + 4)).toNatClampNeg) x5) 125 (((r1 + 5)).toNatClampNeg) x6)))))))) (fun _ => False)))) : ME X W true d 448 0 [(0, .ref P.1), (1, .int x1), (2, .int x2), (3, .int x3), (4, .int x4), (5, .int x5), (6, .int x6)] [] P μ R T := by
  refine me_go (pc1 := 1) (lv1 := [(0, .ref P.1), (1, .int x1), (2, .int x2), (3, .int x3), (4, .int x4), (5, .int x5), (6, .int x6)]) (st1 := [.ref P.1]) 1 rfl ?_
  refine me_getf (v := .ref (P.2.1 124)) rfl rfl rfl ?_
  refine me_go (pc1 := 5) (lv1 := [(0, .ref P.1), (1, .int x1), (2, .int x2), (3, .int x3), (4, .int x4), (5, .int x5), (6, .int x6)]) (st1 := [.ref P.1, .ref (P.2.1 124)]) 1 rfl ?_
  refine me_getf (v := .int (μ.1 128)) rfl rfl rfl ?_
  refine me_go (pc1 := 9) (lv1 := [(0, .ref P.1), (1, .int x1), (2, .int x2), (3, .int x3), (4, .int x4), (5, .int x5), (6, .int x6)]) (st1 := [.int (μ.1 128), .ref (P.2.1 124), .int (μ.1 128), .ref (P.2.1 124)]) 1 rfl ?_
  refine me_iald rfl (g := 124) rfl rfl h.1 ?_
  replace h := h.2
  refine me_go (pc1 := 12) (lv1 := [(0, .ref P.1), (1, .int x1), (2, .int x2), (3, .int x3), (4, .int x4), (5, .int x5), (6, .int x6)]) (st1 := [.int ((μ.2.1 124 ((μ.1 128)).toNatClampNeg) + 1), .int (μ.1 128), .ref (P.2.1 124)]) 2 rfl ?_
  have hi := h.1
  replace h := h.2
  refine me_iast rfl (g := 124) rfl rfl hi ?_
  refine me_go (pc1 := 14) (lv1 := [(0, .ref P.1), (1, .int x1), (2, .int x2), (3, .int x3), (4, .int x4), (5, .int x5), (6, .int x6)]) (st1 := [.ref P.1]) 1 rfl ?_
  refine me_callN rfl rfl rfl (h.mono (fun r1 μ1 h => ?_) (fun _ h => h))
  refine me_go (pc1 := 20) (lv1 := [(7, .int r1), (0, .ref P.1), (1, .int x1), (2, .int x2), (3, .int x3), (4, .int x4), (5, .int x5), (6, .int x6)]) (st1 := [.ref P.1]) 2 rfl ?_
  refine me_getf (v := .ref (P.2.1 125)) rfl rfl rfl ?_
  refine me_go (pc1 := 26) (lv1 := [(7, .int r1), (0, .ref P.1), (1, .int x1), (2, .int x2), (3, .int x3), (4, .int x4), (5, .int x5), (6, .int x6)]) (st1 := [.int x1, .int r1, .ref (P.2.1 125)]) 2 rfl ?_
  have hi := h.1
  replace h := h.2
  refine me_iast rfl (g := 125) rfl rfl hi ?_
  refine me_go (pc1 := 28) (lv1 := [(7, .int r1), (0, .ref P.1), (1, .int x1), (2, .int x2), (3, .int x3), (4, .int x4), (5, .int x5), (6, .int x6)]) (st1 := [.ref P.1]) 1 rfl ?_
  refine me_getf (v := .ref (P.2.1 125)) rfl rfl rfl ?_
  refine me_go (pc1 := 36) (lv1 := [(7, .int r1), (0, .ref P.1), (1, .int x1), (2, .int x2), (3, .int x3), (4, .int x4), (5, .int x5), (6, .int x6)]) (st1 := [.int x2, .int (r1 + 1), .ref (P.2.1 125)]) 4 rfl ?_
  have hi := h.1
  replace h := h.2
  refine me_iast rfl (g := 125) rfl rfl hi ?_
  refine me_go (pc1 := 38) (lv1 := [(7, .int r1), (0, .ref P.1), (1, .int x1), (2, .int x2), (3, .int x3), (4, .int x4), (5, .int x5), (6, .int x6)]) (st1 := [.ref P.1]) 1 rfl ?_
  refine me_getf (v := .ref (P.2.1 125)) rfl rfl rfl ?_
  refine me_go (pc1 := 46) (lv1 := [(7, .int r1), (0, .ref P.1), (1, .int x1), (2, .int x2), (3, .int x3), (4, .int x4), (5, .int x5), (6, .int x6)]) (st1 := [.int x3, .int (r1 + 2), .ref (P.2.1 125)]) 4 rfl ?_
  have hi := h.1
  replace h := h.2
  refine me_iast rfl (g := 125) rfl rfl hi ?_
  refine me_go (pc1 := 48) (lv1 := [(7, .int r1), (0, .ref P.1), (1, .int x1), (2, .int x2), (3, .int x3), (4, .int x4), (5, .int x5), (6, .int x6)]) (st1 := [.ref P.1]) 1 rfl ?_
  refine me_getf (v := .ref (P.2.1 125)) rfl rfl rfl ?_
  refine me_go (pc1 := 57) (lv1 := [(7, .int r1), (0, .ref P.1), (1, .int x1), (2, .int x2), (3, .int x3), (4, .int x4), (5, .int x5), (6, .int x6)]) (st1 := [.int x4, .int (r1 + 3), .ref (P.2.1 125)]) 4 rfl ?_
  have hi := h.1
  replace h := h.2
  refine me_iast rfl (g := 125) rfl rfl hi ?_
  refine me_go (pc1 := 59) (lv1 := [(7, .int r1), (0, .ref P.1), (1, .int x1), (2, .int x2), (3, .int x3), (4, .int x4), (5, .int x5), (6, .int x6)]) (st1 := [.ref P.1]) 1 rfl ?_
  refine me_getf (v := .ref (P.2.1 125)) rfl rfl rfl ?_
  refine me_go (pc1 := 68) (lv1 := [(7, .int r1), (0, .ref P.1), (1, .int x1), (2, .int x2), (3, .int x3), (4, .int x4), (5, .int x5), (6, .int x6)]) (st1 := [.int x5, .int (r1 + 4), .ref (P.2.1 125)]) 4 rfl ?_
  have hi := h.1
  replace h := h.2
  refine me_iast rfl (g := 125) rfl rfl hi ?_
  refine me_go (pc1 := 70) (lv1 := [(7, .int r1), (0, .ref P.1), (1, .int x1), (2, .int x2), (3, .int x3), (4, .int x4), (5, .int x5), (6, .int x6)]) (st1 := [.ref P.1]) 1 rfl ?_
  refine me_getf (v := .ref (P.2.1 125)) rfl rfl rfl ?_
  refine me_go (pc1 := 79) (lv1 := [(7, .int r1), (0, .ref P.1), (1, .int x1), (2, .int x2), (3, .int x3), (4, .int x4), (5, .int x5), (6, .int x6)]) (st1 := [.int x6, .int (r1 + 5), .ref (P.2.1 125)]) 4 rfl ?_
  have hi := h.1
  replace h := h.2
  refine me_iast rfl (g := 125) rfl rfl hi ?_
  exact me_ret (v := none) (r := 0) rfl rfl rfl h
theorem v_row_0 {X : ev_X} {W : Nat → Prop} {d : Nat} {P : MP} {μ : MS} {R : Int32 → MS → Prop} {T : MS → Prop} (x1 : Int32) (h : MC X W true d 448 [.ref P.1, .int 0, .int x1, .int 0, .int 0, .int 0, .int 0] P μ (fun r1 μ1 => R 0 μ1) (fun _ => False)) : ME X W true d 449 0 [(0, .ref P.1), (1, .int x1)] [] P μ R T := by
  refine me_go (pc1 := 7) (lv1 := [(0, .ref P.1), (1, .int x1)]) (st1 := [.int 0, .int 0, .int 0, .int 0, .int x1, .int 0, .ref P.1]) 7 rfl ?_
  refine me_callN rfl rfl rfl (h.mono (fun r1 μ1 h => ?_) (fun _ h => h))
  exact me_ret (v := none) (r := 0) rfl rfl rfl h
theorem v_pop_0 {X : ev_X} {W : Nat → Prop} {d : Nat} {P : MP} {μ : MS} {R : Int32 → MS → Prop} {T : MS → Prop}  (h : (MI (μ.1 128) (μ.2.2 124) ∧ (MI (μ.1 128) (μ.2.2 124) ∧ R 0 (mA1 μ 124 (((μ.1 128)).toNatClampNeg) ((μ.2.1 124 ((μ.1 128)).toNatClampNeg) - 1))))) : ME X W true d 450 0 [(0, .ref P.1)] [] P μ R T := by
  refine me_go (pc1 := 1) (lv1 := [(0, .ref P.1)]) (st1 := [.ref P.1]) 1 rfl ?_
  refine me_getf (v := .ref (P.2.1 124)) rfl rfl rfl ?_
  refine me_go (pc1 := 5) (lv1 := [(0, .ref P.1)]) (st1 := [.ref P.1, .ref (P.2.1 124)]) 1 rfl ?_
  refine me_getf (v := .int (μ.1 128)) rfl rfl rfl ?_
  refine me_go (pc1 := 9) (lv1 := [(0, .ref P.1)]) (st1 := [.int (μ.1 128), .ref (P.2.1 124), .int (μ.1 128), .ref (P.2.1 124)]) 1 rfl ?_
  refine me_iald rfl (g := 124) rfl rfl h.1 ?_
  replace h := h.2
  refine me_go (pc1 := 12) (lv1 := [(0, .ref P.1)]) (st1 := [.int ((μ.2.1 124 ((μ.1 128)).toNatClampNeg) - 1), .int (μ.1 128), .ref (P.2.1 124)]) 2 rfl ?_
  have hi := h.1
  replace h := h.2
  refine me_iast rfl (g := 124) rfl rfl hi ?_
  exact me_ret (v := none) (r := 0) rfl rfl rfl h
theorem v_initial_0 {X : ev_X} {W : Nat → Prop} {d : Nat} {P : MP} {μ : MS} {R : Int32 → MS → Prop} {T : MS → Prop} (x1 : Int32) (h : (MI x1 (μ.2.2 20) ∧ (((μ.2.1 20 x1.toNatClampNeg) = 27 → (MI x1 (μ.2.2 22) ∧ (((μ.2.1 22 x1.toNatClampNeg).toInt ≤ (0 : Int) → (MI x1 (μ.2.2 23) ∧ (((0 : Int) ≤ (μ.2.1 23 x1.toNatClampNeg).toInt → R 0 μ) ∧ ((μ.2.1 23 x1.toNatClampNeg).toInt < (0 : Int) → (MI x1 (μ.2.2 23) ∧ R (μ.2.1 23 x1.toNatClampNeg) μ))))) ∧ ((0 : Int) < (μ.2.1 22 x1.toNatClampNeg).toInt → (MI x1 (μ.2.2 22) ∧ R (μ.2.1 22 x1.toNatClampNeg) μ))))) ∧ (¬ (μ.2.1 20 x1.toNatClampNeg) = 27 → R 0 μ)))) : ME X W true d 451 0 [(0, .ref P.1), (1, .int x1)] [] P μ R T := by
  refine me_go (pc1 := 1) (lv1 := [(0, .ref P.1), (1, .int x1)]) (st1 := [.ref P.1]) 1 rfl ?_
  refine me_getf (v := .ref (P.2.1 20)) rfl rfl rfl ?_
  refine me_go (pc1 := 5) (lv1 := [(0, .ref P.1), (1, .int x1)]) (st1 := [.int x1, .ref (P.2.1 20)]) 1 rfl ?_
  refine me_iald rfl (g := 20) rfl rfl h.1 ?_
  replace h := h.2
  refine me_go (pc1 := 8) (lv1 := [(0, .ref P.1), (1, .int x1)]) (st1 := [.int 27, .int (μ.2.1 20 x1.toNatClampNeg)]) 1 rfl ?_
  refine me_icmp rfl rfl (fun c => ?_) (fun c => ?_)
  · replace h := h.1 (ci_eq c)
    refine me_go (pc1 := 16) (lv1 := [(0, .ref P.1), (1, .int x1)]) (st1 := [.ref P.1]) 1 rfl ?_
    refine me_getf (v := .ref (P.2.1 22)) rfl rfl rfl ?_
    refine me_go (pc1 := 20) (lv1 := [(0, .ref P.1), (1, .int x1)]) (st1 := [.int x1, .ref (P.2.1 22)]) 1 rfl ?_
    refine me_iald rfl (g := 22) rfl rfl h.1 ?_
    replace h := h.2
    refine me_ifc rfl rfl (fun c => ?_) (fun c => ?_)
    · replace h := h.1 (ci_le c)
      refine me_go (pc1 := 34) (lv1 := [(0, .ref P.1), (1, .int x1)]) (st1 := [.ref P.1]) 1 rfl ?_
      refine me_getf (v := .ref (P.2.1 23)) rfl rfl rfl ?_
      refine me_go (pc1 := 38) (lv1 := [(0, .ref P.1), (1, .int x1)]) (st1 := [.int x1, .ref (P.2.1 23)]) 1 rfl ?_
      refine me_iald rfl (g := 23) rfl rfl h.1 ?_
      replace h := h.2
      refine me_ifc rfl rfl (fun c => ?_) (fun c => ?_)
      · replace h := h.1 (ci_ge c)
        refine me_go (pc1 := 52) (lv1 := [(0, .ref P.1), (1, .int x1)]) (st1 := [.int 0]) 1 rfl ?_
        exact me_ret rfl rfl rfl h
      · replace h := h.2 (cn_ge c)
        refine me_go (pc1 := 43) (lv1 := [(0, .ref P.1), (1, .int x1)]) (st1 := [.ref P.1]) 1 rfl ?_
        refine me_getf (v := .ref (P.2.1 23)) rfl rfl rfl ?_
        refine me_go (pc1 := 47) (lv1 := [(0, .ref P.1), (1, .int x1)]) (st1 := [.int x1, .ref (P.2.1 23)]) 1 rfl ?_
        refine me_iald rfl (g := 23) rfl rfl h.1 ?_
        replace h := h.2
        refine me_go (pc1 := 52) (lv1 := [(0, .ref P.1), (1, .int x1)]) (st1 := [.int (μ.2.1 23 x1.toNatClampNeg)]) 1 rfl ?_
        exact me_ret rfl rfl rfl h
    · replace h := h.2 (cn_le c)
      refine me_go (pc1 := 25) (lv1 := [(0, .ref P.1), (1, .int x1)]) (st1 := [.ref P.1]) 1 rfl ?_
      refine me_getf (v := .ref (P.2.1 22)) rfl rfl rfl ?_
      refine me_go (pc1 := 29) (lv1 := [(0, .ref P.1), (1, .int x1)]) (st1 := [.int x1, .ref (P.2.1 22)]) 1 rfl ?_
      refine me_iald rfl (g := 22) rfl rfl h.1 ?_
      replace h := h.2
      refine me_go (pc1 := 52) (lv1 := [(0, .ref P.1), (1, .int x1)]) (st1 := [.int (μ.2.1 22 x1.toNatClampNeg)]) 1 rfl ?_
      exact me_ret rfl rfl rfl h
  · replace h := h.2 (cn_eq c)
    refine me_go (pc1 := 52) (lv1 := [(0, .ref P.1), (1, .int x1)]) (st1 := [.int 0]) 2 rfl ?_
    exact me_ret rfl rfl rfl h
theorem v_clear_0 {X : ev_X} {W : Nat → Prop} {d : Nat} {P : MP} {μ : MS} {R : Int32 → MS → Prop} {T : MS → Prop} (x1 : Int32) (x2 : Int32) (h : MC X W true d 393 [.ref P.1, .int x1] P μ (fun r1 μ1 => ((¬ r1 = 0 → MC X W true d 365 [.ref P.1, .int x1] P μ1 (fun r2 μ2 => (MI r2 (μ2.2.2 20) ∧ ((¬ (μ2.2.1 20 r2.toNatClampNeg) = 28 → (MI r2 (μ2.2.2 20) ∧ ((¬ (μ2.2.1 20 r2.toNatClampNeg) = 29 → MC X W true d 451 [.ref P.1, .int r2] P μ2 (fun r3 μ3 => (MI x2 (μ3.2.2 99) ∧ R (x2 + 1) (mA1 μ3 99 x2.toNatClampNeg r3))) (fun _ => False)) ∧ ((μ2.2.1 20 r2.toNatClampNeg) = 29 → (MI r2 (μ2.2.2 22) ∧ ME X W true d 452 100 [(0, .ref P.1), (1, .int x1), (2, .int x2), (3, .int r2), (4, .int x2), (5, .int (μ2.2.1 22 r2.toNatClampNeg))] [] P μ2 R T))))) ∧ ((μ2.2.1 20 r2.toNatClampNeg) = 28 → (MI r2 (μ2.2.2 22) ∧ ME X W true d 452 39 [(0, .ref P.1), (1, .int x1), (2, .int x2), (3, .int r2), (4, .int x2), (5, .long ((μ2.2.1 22 r2.toNatClampNeg)).toInt64)] [] P μ2 R T))))) (fun _ => False)) ∧ (r1 = 0 → R x2 μ1))) (fun _ => False)) : ME X W true d 452 0 [(0, .ref P.1), (1, .int x1), (2, .int x2)] [] P μ R T := by
  refine me_go (pc1 := 2) (lv1 := [(0, .ref P.1), (1, .int x1), (2, .int x2)]) (st1 := [.int x1, .ref P.1]) 2 rfl ?_
  refine me_callN rfl rfl rfl (h.mono (fun r1 μ1 h => ?_) (fun _ h => h))
  refine me_ifc rfl rfl (fun c => ?_) (fun c => ?_)
  · replace h := h.1 (ci_ne c)
    refine me_go (pc1 := 12) (lv1 := [(0, .ref P.1), (1, .int x1), (2, .int x2)]) (st1 := [.int x1, .ref P.1]) 2 rfl ?_
    refine me_callN rfl rfl rfl (h.mono (fun r2 μ2 h => ?_) (fun _ h => h))
    refine me_go (pc1 := 17) (lv1 := [(3, .int r2), (0, .ref P.1), (1, .int x1), (2, .int x2)]) (st1 := [.ref P.1]) 2 rfl ?_
    refine me_getf (v := .ref (P.2.1 20)) rfl rfl rfl ?_
    refine me_go (pc1 := 21) (lv1 := [(3, .int r2), (0, .ref P.1), (1, .int x1), (2, .int x2)]) (st1 := [.int r2, .ref (P.2.1 20)]) 1 rfl ?_
    refine me_iald rfl (g := 20) rfl rfl h.1 ?_
    replace h := h.2
    refine me_go (pc1 := 24) (lv1 := [(3, .int r2), (0, .ref P.1), (1, .int x1), (2, .int x2)]) (st1 := [.int 28, .int (μ2.2.1 20 r2.toNatClampNeg)]) 1 rfl ?_
    refine me_icmp rfl rfl (fun c => ?_) (fun c => ?_)
    · replace h := h.1 (ci_ne c)
      refine me_go (pc1 := 79) (lv1 := [(3, .int r2), (0, .ref P.1), (1, .int x1), (2, .int x2)]) (st1 := [.ref P.1]) 1 rfl ?_
      refine me_getf (v := .ref (P.2.1 20)) rfl rfl rfl ?_
      refine me_go (pc1 := 83) (lv1 := [(3, .int r2), (0, .ref P.1), (1, .int x1), (2, .int x2)]) (st1 := [.int r2, .ref (P.2.1 20)]) 1 rfl ?_
      refine me_iald rfl (g := 20) rfl rfl h.1 ?_
      replace h := h.2
      refine me_go (pc1 := 86) (lv1 := [(3, .int r2), (0, .ref P.1), (1, .int x1), (2, .int x2)]) (st1 := [.int 29, .int (μ2.2.1 20 r2.toNatClampNeg)]) 1 rfl ?_
      refine me_icmp rfl rfl (fun c => ?_) (fun c => ?_)
      · replace h := h.1 (ci_ne c)
        refine me_go (pc1 := 136) (lv1 := [(3, .int r2), (0, .ref P.1), (1, .int x1), (2, .int x2)]) (st1 := [.ref P.1]) 1 rfl ?_
        refine me_getf (v := .ref (P.2.1 99)) rfl rfl rfl ?_
        refine me_go (pc1 := 142) (lv1 := [(3, .int r2), (0, .ref P.1), (1, .int x1), (2, .int x2)]) (st1 := [.int r2, .ref P.1, .int x2, .ref (P.2.1 99)]) 3 rfl ?_
        refine me_callN rfl rfl rfl (h.mono (fun r3 μ3 h => ?_) (fun _ h => h))
        have hi := h.1
        replace h := h.2
        refine me_iast rfl (g := 99) rfl rfl hi ?_
        refine me_go (pc1 := 149) (lv1 := [(3, .int r2), (0, .ref P.1), (1, .int x1), (2, .int x2)]) (st1 := [.int (x2 + 1)]) 3 rfl ?_
        exact me_ret rfl rfl rfl h
      · replace h := h.2 (cn_ne c)
        refine me_go (pc1 := 93) (lv1 := [(4, .int x2), (3, .int r2), (0, .ref P.1), (1, .int x1), (2, .int x2)]) (st1 := [.ref P.1]) 3 rfl ?_
        refine me_getf (v := .ref (P.2.1 22)) rfl rfl rfl ?_
        refine me_go (pc1 := 97) (lv1 := [(4, .int x2), (3, .int r2), (0, .ref P.1), (1, .int x1), (2, .int x2)]) (st1 := [.int r2, .ref (P.2.1 22)]) 1 rfl ?_
        refine me_iald rfl (g := 22) rfl rfl h.1 ?_
        replace h := h.2
        refine me_go (pc1 := 100) (lv1 := [(5, .int (μ2.2.1 22 r2.toNatClampNeg)), (4, .int x2), (3, .int r2), (0, .ref P.1), (1, .int x1), (2, .int x2)]) (st1 := []) 1 rfl ?_
        refine me_lv [(0, .ref P.1), (1, .int x1), (2, .int x2), (3, .int r2), (4, .int x2), (5, .int (μ2.2.1 22 r2.toNatClampNeg))] (fl_c rfl (fl_c rfl (fl_c rfl (fl_c rfl (fl_c rfl (fl_c rfl fl_0)))))) ?_
        exact h
    · replace h := h.2 (cn_ne c)
      refine me_go (pc1 := 31) (lv1 := [(4, .int x2), (3, .int r2), (0, .ref P.1), (1, .int x1), (2, .int x2)]) (st1 := [.ref P.1]) 3 rfl ?_
      refine me_getf (v := .ref (P.2.1 22)) rfl rfl rfl ?_
      refine me_go (pc1 := 35) (lv1 := [(4, .int x2), (3, .int r2), (0, .ref P.1), (1, .int x1), (2, .int x2)]) (st1 := [.int r2, .ref (P.2.1 22)]) 1 rfl ?_
      refine me_iald rfl (g := 22) rfl rfl h.1 ?_
      replace h := h.2
      refine me_go (pc1 := 39) (lv1 := [(5, .long ((μ2.2.1 22 r2.toNatClampNeg)).toInt64), (4, .int x2), (3, .int r2), (0, .ref P.1), (1, .int x1), (2, .int x2)]) (st1 := []) 2 rfl ?_
      refine me_lv [(0, .ref P.1), (1, .int x1), (2, .int x2), (3, .int r2), (4, .int x2), (5, .long ((μ2.2.1 22 r2.toNatClampNeg)).toInt64)] (fl_c rfl (fl_c rfl (fl_c rfl (fl_c rfl (fl_c rfl (fl_c rfl fl_0)))))) ?_
      exact h
  · replace h := h.2 (cn_ne c)
    refine me_go (pc1 := 9) (lv1 := [(0, .ref P.1), (1, .int x1), (2, .int x2)]) (st1 := [.int x2]) 1 rfl ?_
    exact me_ret rfl rfl rfl h
theorem v_clear_39 {X : ev_X} {W : Nat → Prop} {d : Nat} {P : MP} {μ : MS} {R : Int32 → MS → Prop} {T : MS → Prop} (x1 : Int32) (x2 : Int32) (x3 : Int32) (x4 : Int32) (x5 : Int64) (h : (MI x3 (μ.2.2 23) ∧ (((0 : Int) < (lg_cmp x5 (((μ.2.1 23 x3.toNatClampNeg)).toInt64)).toInt → R x4 μ) ∧ ((lg_cmp x5 (((μ.2.1 23 x3.toNatClampNeg)).toInt64)).toInt ≤ (0 : Int) → (MI x3 (μ.2.2 24) ∧ MC X W true d 452 [.ref P.1, .int (μ.2.1 24 x3.toNatClampNeg), .int x4] P μ (fun r1 μ1 => ME X W true d 452 39 [(0, .ref P.1), (1, .int x1), (2, .int x2), (3, .int x3), (4, .int r1), (5, .long (x5 + 1))] [] P μ1 R T) (fun _ => False)))))) : ME X W true d 452 39 [(0, .ref P.1), (1, .int x1), (2, .int x2), (3, .int x3), (4, .int x4), (5, .long x5)] [] P μ R T := by
  refine me_go (pc1 := 42) (lv1 := [(0, .ref P.1), (1, .int x1), (2, .int x2), (3, .int x3), (4, .int x4), (5, .long x5)]) (st1 := [.ref P.1, .long x5]) 2 rfl ?_
  refine me_getf (v := .ref (P.2.1 23)) rfl rfl rfl ?_
  refine me_go (pc1 := 46) (lv1 := [(0, .ref P.1), (1, .int x1), (2, .int x2), (3, .int x3), (4, .int x4), (5, .long x5)]) (st1 := [.int x3, .ref (P.2.1 23), .long x5]) 1 rfl ?_
  refine me_iald rfl (g := 23) rfl rfl h.1 ?_
  replace h := h.2
  refine me_go (pc1 := 49) (lv1 := [(0, .ref P.1), (1, .int x1), (2, .int x2), (3, .int x3), (4, .int x4), (5, .long x5)]) (st1 := [.int (lg_cmp x5 (((μ.2.1 23 x3.toNatClampNeg)).toInt64))]) 2 rfl ?_
  refine me_ifc rfl rfl (fun c => ?_) (fun c => ?_)
  · replace h := h.1 (ci_gt c)
    refine me_go (pc1 := 77) (lv1 := [(0, .ref P.1), (1, .int x1), (2, .int x2), (3, .int x3), (4, .int x4), (5, .long x5)]) (st1 := [.int x4]) 1 rfl ?_
    exact me_ret rfl rfl rfl h
  · replace h := h.2 (cn_gt c)
    refine me_go (pc1 := 54) (lv1 := [(0, .ref P.1), (1, .int x1), (2, .int x2), (3, .int x3), (4, .int x4), (5, .long x5)]) (st1 := [.ref P.1, .ref P.1]) 2 rfl ?_
    refine me_getf (v := .ref (P.2.1 24)) rfl rfl rfl ?_
    refine me_go (pc1 := 58) (lv1 := [(0, .ref P.1), (1, .int x1), (2, .int x2), (3, .int x3), (4, .int x4), (5, .long x5)]) (st1 := [.int x3, .ref (P.2.1 24), .ref P.1]) 1 rfl ?_
    refine me_iald rfl (g := 24) rfl rfl h.1 ?_
    replace h := h.2
    refine me_go (pc1 := 61) (lv1 := [(0, .ref P.1), (1, .int x1), (2, .int x2), (3, .int x3), (4, .int x4), (5, .long x5)]) (st1 := [.int x4, .int (μ.2.1 24 x3.toNatClampNeg), .ref P.1]) 1 rfl ?_
    refine me_callN rfl rfl rfl (h.mono (fun r1 μ1 h => ?_) (fun _ h => h))
    refine me_go (pc1 := 39) (lv1 := [(5, .long (x5 + 1)), (4, .int r1), (0, .ref P.1), (1, .int x1), (2, .int x2), (3, .int x3)]) (st1 := []) 6 rfl ?_
    refine me_lv [(0, .ref P.1), (1, .int x1), (2, .int x2), (3, .int x3), (4, .int r1), (5, .long (x5 + 1))] (fl_c rfl (fl_c rfl (fl_c rfl (fl_c rfl (fl_c rfl (fl_c rfl fl_0)))))) ?_
    exact h
theorem v_clear_100 {X : ev_X} {W : Nat → Prop} {d : Nat} {P : MP} {μ : MS} {R : Int32 → MS → Prop} {T : MS → Prop} (x1 : Int32) (x2 : Int32) (x3 : Int32) (x4 : Int32) (x5 : Int32) (h : ((x5.toInt < (0 : Int) → R x4 μ) ∧ ((0 : Int) ≤ x5.toInt → (MI x5 (μ.2.2 23) ∧ MC X W true d 452 [.ref P.1, .int (μ.2.1 23 x5.toNatClampNeg), .int x4] P μ (fun r1 μ1 => (MI x5 (μ1.2.2 27) ∧ ME X W true d 452 100 [(0, .ref P.1), (1, .int x1), (2, .int x2), (3, .int x3), (4, .int r1), (5, .int (μ1.2.1 27 x5.toNatClampNeg))] [] P μ1 R T)) (fun _ => False))))) : ME X W true d 452 100 [(0, .ref P.1), (1, .int x1), (2, .int x2), (3, .int x3), (4, .int x4), (5, .int x5)] [] P μ R T := by
  refine me_go (pc1 := 102) (lv1 := [(0, .ref P.1), (1, .int x1), (2, .int x2), (3, .int x3), (4, .int x4), (5, .int x5)]) (st1 := [.int x5]) 1 rfl ?_
  refine me_ifc rfl rfl (fun c => ?_) (fun c => ?_)
  · replace h := h.1 (ci_lt c)
    refine me_go (pc1 := 134) (lv1 := [(0, .ref P.1), (1, .int x1), (2, .int x2), (3, .int x3), (4, .int x4), (5, .int x5)]) (st1 := [.int x4]) 1 rfl ?_
    exact me_ret rfl rfl rfl h
  · replace h := h.2 (cn_lt c)
    refine me_go (pc1 := 107) (lv1 := [(0, .ref P.1), (1, .int x1), (2, .int x2), (3, .int x3), (4, .int x4), (5, .int x5)]) (st1 := [.ref P.1, .ref P.1]) 2 rfl ?_
    refine me_getf (v := .ref (P.2.1 23)) rfl rfl rfl ?_
    refine me_go (pc1 := 112) (lv1 := [(0, .ref P.1), (1, .int x1), (2, .int x2), (3, .int x3), (4, .int x4), (5, .int x5)]) (st1 := [.int x5, .ref (P.2.1 23), .ref P.1]) 1 rfl ?_
    refine me_iald rfl (g := 23) rfl rfl h.1 ?_
    replace h := h.2
    refine me_go (pc1 := 115) (lv1 := [(0, .ref P.1), (1, .int x1), (2, .int x2), (3, .int x3), (4, .int x4), (5, .int x5)]) (st1 := [.int x4, .int (μ.2.1 23 x5.toNatClampNeg), .ref P.1]) 1 rfl ?_
    refine me_callN rfl rfl rfl (h.mono (fun r1 μ1 h => ?_) (fun _ h => h))
    refine me_go (pc1 := 121) (lv1 := [(4, .int r1), (0, .ref P.1), (1, .int x1), (2, .int x2), (3, .int x3), (5, .int x5)]) (st1 := [.ref P.1]) 2 rfl ?_
    refine me_getf (v := .ref (P.2.1 27)) rfl rfl rfl ?_
    refine me_go (pc1 := 126) (lv1 := [(4, .int r1), (0, .ref P.1), (1, .int x1), (2, .int x2), (3, .int x3), (5, .int x5)]) (st1 := [.int x5, .ref (P.2.1 27)]) 1 rfl ?_
    refine me_iald rfl (g := 27) rfl rfl h.1 ?_
    replace h := h.2
    refine me_go (pc1 := 100) (lv1 := [(5, .int (μ1.2.1 27 x5.toNatClampNeg)), (4, .int r1), (0, .ref P.1), (1, .int x1), (2, .int x2), (3, .int x3)]) (st1 := []) 2 rfl ?_
    refine me_lv [(0, .ref P.1), (1, .int x1), (2, .int x2), (3, .int x3), (4, .int r1), (5, .int (μ1.2.1 27 x5.toNatClampNeg))] (fl_c rfl (fl_c rfl (fl_c rfl (fl_c rfl (fl_c rfl (fl_c rfl fl_0)))))) ?_
    exact h
theorem v_clearFields_0 {X : ev_X} {W : Nat → Prop} {d : Nat} {P : MP} {μ : MS} {R : Int32 → MS → Prop} {T : MS → Prop} (x1 : Int32) (x2 : Int32) (h : ME X W true d 453 5 [(0, .ref P.1), (1, .int x1), (2, .int x2), (3, .int x2), (4, .int x1)] [] P μ R T) : ME X W true d 453 0 [(0, .ref P.1), (1, .int x1), (2, .int x2)] [] P μ R T := by
  refine me_go (pc1 := 5) (lv1 := [(4, .int x1), (3, .int x2), (0, .ref P.1), (1, .int x1), (2, .int x2)]) (st1 := []) 4 rfl ?_
  refine me_lv [(0, .ref P.1), (1, .int x1), (2, .int x2), (3, .int x2), (4, .int x1)] (fl_c rfl (fl_c rfl (fl_c rfl (fl_c rfl (fl_c rfl fl_0))))) ?_
  exact h
theorem v_clearFields_5 {X : ev_X} {W : Nat → Prop} {d : Nat} {P : MP} {μ : MS} {R : Int32 → MS → Prop} {T : MS → Prop} (x1 : Int32) (x2 : Int32) (x3 : Int32) (x4 : Int32) (h : ((x4.toInt < (0 : Int) → R x3 μ) ∧ ((0 : Int) ≤ x4.toInt → (MI x4 (μ.2.2 23) ∧ MC X W true d 452 [.ref P.1, .int (μ.2.1 23 x4.toNatClampNeg), .int x3] P μ (fun r1 μ1 => (MI x4 (μ1.2.2 27) ∧ ME X W true d 453 5 [(0, .ref P.1), (1, .int x1), (2, .int x2), (3, .int r1), (4, .int (μ1.2.1 27 x4.toNatClampNeg))] [] P μ1 R T)) (fun _ => False))))) : ME X W true d 453 5 [(0, .ref P.1), (1, .int x1), (2, .int x2), (3, .int x3), (4, .int x4)] [] P μ R T := by
  refine me_go (pc1 := 7) (lv1 := [(0, .ref P.1), (1, .int x1), (2, .int x2), (3, .int x3), (4, .int x4)]) (st1 := [.int x4]) 1 rfl ?_
  refine me_ifc rfl rfl (fun c => ?_) (fun c => ?_)
  · replace h := h.1 (ci_lt c)
    refine me_go (pc1 := 36) (lv1 := [(0, .ref P.1), (1, .int x1), (2, .int x2), (3, .int x3), (4, .int x4)]) (st1 := [.int x3]) 1 rfl ?_
    exact me_ret rfl rfl rfl h
  · replace h := h.2 (cn_lt c)
    refine me_go (pc1 := 12) (lv1 := [(0, .ref P.1), (1, .int x1), (2, .int x2), (3, .int x3), (4, .int x4)]) (st1 := [.ref P.1, .ref P.1]) 2 rfl ?_
    refine me_getf (v := .ref (P.2.1 23)) rfl rfl rfl ?_
    refine me_go (pc1 := 17) (lv1 := [(0, .ref P.1), (1, .int x1), (2, .int x2), (3, .int x3), (4, .int x4)]) (st1 := [.int x4, .ref (P.2.1 23), .ref P.1]) 1 rfl ?_
    refine me_iald rfl (g := 23) rfl rfl h.1 ?_
    replace h := h.2
    refine me_go (pc1 := 19) (lv1 := [(0, .ref P.1), (1, .int x1), (2, .int x2), (3, .int x3), (4, .int x4)]) (st1 := [.int x3, .int (μ.2.1 23 x4.toNatClampNeg), .ref P.1]) 1 rfl ?_
    refine me_callN rfl rfl rfl (h.mono (fun r1 μ1 h => ?_) (fun _ h => h))
    refine me_go (pc1 := 24) (lv1 := [(3, .int r1), (0, .ref P.1), (1, .int x1), (2, .int x2), (4, .int x4)]) (st1 := [.ref P.1]) 2 rfl ?_
    refine me_getf (v := .ref (P.2.1 27)) rfl rfl rfl ?_
    refine me_go (pc1 := 29) (lv1 := [(3, .int r1), (0, .ref P.1), (1, .int x1), (2, .int x2), (4, .int x4)]) (st1 := [.int x4, .ref (P.2.1 27)]) 1 rfl ?_
    refine me_iald rfl (g := 27) rfl rfl h.1 ?_
    replace h := h.2
    refine me_go (pc1 := 5) (lv1 := [(4, .int (μ1.2.1 27 x4.toNatClampNeg)), (3, .int r1), (0, .ref P.1), (1, .int x1), (2, .int x2)]) (st1 := []) 2 rfl ?_
    refine me_lv [(0, .ref P.1), (1, .int x1), (2, .int x2), (3, .int r1), (4, .int (μ1.2.1 27 x4.toNatClampNeg))] (fl_c rfl (fl_c rfl (fl_c rfl (fl_c rfl (fl_c rfl fl_0))))) ?_
    exact h
theorem v_isOf_0 {X : ev_X} {W : Nat → Prop} {d : Nat} {P : MP} {μ : MS} {R : Int32 → MS → Prop} {T : MS → Prop} (x1 : Int32) (x2 : Int32) (h : ((¬ x1 = 0 → (MI x1 (μ.2.2 105) ∧ ME X W true d 454 13 [(0, .ref P.1), (1, .int x1), (2, .int x2), (3, .int (μ.2.1 105 x1.toNatClampNeg))] [] P μ R T)) ∧ (x1 = 0 → R 1 μ))) : ME X W true d 454 0 [(0, .ref P.1), (1, .int x1), (2, .int x2)] [] P μ R T := by
  refine me_go (pc1 := 1) (lv1 := [(0, .ref P.1), (1, .int x1), (2, .int x2)]) (st1 := [.int x1]) 1 rfl ?_
  refine me_ifc rfl rfl (fun c => ?_) (fun c => ?_)
  · replace h := h.1 (ci_ne c)
    refine me_go (pc1 := 7) (lv1 := [(0, .ref P.1), (1, .int x1), (2, .int x2)]) (st1 := [.ref P.1]) 1 rfl ?_
    refine me_getf (v := .ref (P.2.1 105)) rfl rfl rfl ?_
    refine me_go (pc1 := 11) (lv1 := [(0, .ref P.1), (1, .int x1), (2, .int x2)]) (st1 := [.int x1, .ref (P.2.1 105)]) 1 rfl ?_
    refine me_iald rfl (g := 105) rfl rfl h.1 ?_
    replace h := h.2
    refine me_go (pc1 := 13) (lv1 := [(3, .int (μ.2.1 105 x1.toNatClampNeg)), (0, .ref P.1), (1, .int x1), (2, .int x2)]) (st1 := []) 1 rfl ?_
    refine me_lv [(0, .ref P.1), (1, .int x1), (2, .int x2), (3, .int (μ.2.1 105 x1.toNatClampNeg))] (fl_c rfl (fl_c rfl (fl_c rfl (fl_c rfl fl_0)))) ?_
    exact h
  · replace h := h.2 (cn_ne c)
    refine me_go (pc1 := 5) (lv1 := [(0, .ref P.1), (1, .int x1), (2, .int x2)]) (st1 := [.int 1]) 1 rfl ?_
    exact me_retB rfl rfl (by decide) h
theorem v_isOf_13 {X : ev_X} {W : Nat → Prop} {d : Nat} {P : MP} {μ : MS} {R : Int32 → MS → Prop} {T : MS → Prop} (x1 : Int32) (x2 : Int32) (x3 : Int32) (h : ((x3.toInt < (0 : Int) → R 0 μ) ∧ ((0 : Int) ≤ x3.toInt → MC X W true d 371 [.ref P.1, .int x3, .int x2] P μ (fun r1 μ1 => ((r1 = 0 → MC X W true d 385 [.ref P.1, .int x3] P μ1 (fun r2 μ2 => ME X W true d 454 13 [(0, .ref P.1), (1, .int x1), (2, .int x2), (3, .int r2)] [] P μ2 R T) (fun _ => False)) ∧ (¬ r1 = 0 → R 1 μ1))) (fun _ => False)))) : ME X W true d 454 13 [(0, .ref P.1), (1, .int x1), (2, .int x2), (3, .int x3)] [] P μ R T := by
  refine me_go (pc1 := 14) (lv1 := [(0, .ref P.1), (1, .int x1), (2, .int x2), (3, .int x3)]) (st1 := [.int x3]) 1 rfl ?_
  refine me_ifc rfl rfl (fun c => ?_) (fun c => ?_)
  · replace h := h.1 (ci_lt c)
    refine me_go (pc1 := 38) (lv1 := [(0, .ref P.1), (1, .int x1), (2, .int x2), (3, .int x3)]) (st1 := [.int 0]) 1 rfl ?_
    exact me_retB rfl rfl (by decide) h
  · replace h := h.2 (cn_lt c)
    refine me_go (pc1 := 20) (lv1 := [(0, .ref P.1), (1, .int x1), (2, .int x2), (3, .int x3)]) (st1 := [.int x2, .int x3, .ref P.1]) 3 rfl ?_
    refine me_callN rfl rfl rfl (h.mono (fun r1 μ1 h => ?_) (fun _ h => h))
    refine me_ifc rfl rfl (fun c => ?_) (fun c => ?_)
    · replace h := h.1 (ci_eq c)
      refine me_go (pc1 := 30) (lv1 := [(0, .ref P.1), (1, .int x1), (2, .int x2), (3, .int x3)]) (st1 := [.int x3, .ref P.1]) 2 rfl ?_
      refine me_callN rfl rfl rfl (h.mono (fun r2 μ2 h => ?_) (fun _ h => h))
      refine me_go (pc1 := 13) (lv1 := [(3, .int r2), (0, .ref P.1), (1, .int x1), (2, .int x2)]) (st1 := []) 2 rfl ?_
      refine me_lv [(0, .ref P.1), (1, .int x1), (2, .int x2), (3, .int r2)] (fl_c rfl (fl_c rfl (fl_c rfl (fl_c rfl fl_0)))) ?_
      exact h
    · replace h := h.2 (cn_eq c)
      refine me_go (pc1 := 27) (lv1 := [(0, .ref P.1), (1, .int x1), (2, .int x2), (3, .int x3)]) (st1 := [.int 1]) 1 rfl ?_
      exact me_retB rfl rfl (by decide) h
theorem v_held_0 {X : ev_X} {W : Nat → Prop} {d : Nat} {P : MP} {μ : MS} {R : Int32 → MS → Prop} {T : MS → Prop} (x1 : Int32) (x2 : Int32) (h : (MI x1 (μ.2.2 20) ∧ ((¬ (μ.2.1 20 x1.toNatClampNeg) = 27 → MC X W true d 367 [.ref P.1, .int x1] P μ (fun r1 μ1 => ((r1 = 0 → R 0 μ1) ∧ (¬ r1 = 0 → MC X W true d 454 [.ref P.1, .int x2, .int x1] P μ1 (fun r2 μ2 => ((¬ r2 = 0 → R 0 μ2) ∧ (r2 = 0 → MC X W true d 446 [.ref P.1, .int 6] P μ2 (fun r3 μ3 => R 0 μ3) T))) (fun _ => False)))) (fun _ => False)) ∧ ((μ.2.1 20 x1.toNatClampNeg) = 27 → (MI x1 (μ.2.2 22) ∧ ((x2.toInt < (μ.2.1 22 x1.toNatClampNeg).toInt → MC X W true d 446 [.ref P.1, .int 4] P μ (fun r4 μ4 => MC X W true d 367 [.ref P.1, .int x1] P μ4 (fun r5 μ5 => ((r5 = 0 → R 0 μ5) ∧ (¬ r5 = 0 → MC X W true d 454 [.ref P.1, .int x2, .int x1] P μ5 (fun r6 μ6 => ((¬ r6 = 0 → R 0 μ6) ∧ (r6 = 0 → MC X W true d 446 [.ref P.1, .int 6] P μ6 (fun r7 μ7 => R 0 μ7) T))) (fun _ => False)))) (fun _ => False)) T) ∧ ((μ.2.1 22 x1.toNatClampNeg).toInt ≤ x2.toInt → (MI x1 (μ.2.2 23) ∧ ((x2.toInt ≤ (μ.2.1 23 x1.toNatClampNeg).toInt → MC X W true d 367 [.ref P.1, .int x1] P μ (fun r8 μ8 => ((r8 = 0 → R 0 μ8) ∧ (¬ r8 = 0 → MC X W true d 454 [.ref P.1, .int x2, .int x1] P μ8 (fun r9 μ9 => ((¬ r9 = 0 → R 0 μ9) ∧ (r9 = 0 → MC X W true d 446 [.ref P.1, .int 6] P μ9 (fun r10 μ10 => R 0 μ10) T))) (fun _ => False)))) (fun _ => False)) ∧ ((μ.2.1 23 x1.toNatClampNeg).toInt < x2.toInt → MC X W true d 446 [.ref P.1, .int 4] P μ (fun r11 μ11 => MC X W true d 367 [.ref P.1, .int x1] P μ11 (fun r12 μ12 => ((r12 = 0 → R 0 μ12) ∧ (¬ r12 = 0 → MC X W true d 454 [.ref P.1, .int x2, .int x1] P μ12 (fun r13 μ13 => ((¬ r13 = 0 → R 0 μ13) ∧ (r13 = 0 → MC X W true d 446 [.ref P.1, .int 6] P μ13 (fun r14 μ14 => R 0 μ14) T))) (fun _ => False)))) (fun _ => False)) T)))))))))) : ME X W true d 455 0 [(0, .ref P.1), (1, .int x1), (2, .int x2)] [] P μ R T := by
  refine me_go (pc1 := 1) (lv1 := [(0, .ref P.1), (1, .int x1), (2, .int x2)]) (st1 := [.ref P.1]) 1 rfl ?_
  refine me_getf (v := .ref (P.2.1 20)) rfl rfl rfl ?_
  refine me_go (pc1 := 5) (lv1 := [(0, .ref P.1), (1, .int x1), (2, .int x2)]) (st1 := [.int x1, .ref (P.2.1 20)]) 1 rfl ?_
  refine me_iald rfl (g := 20) rfl rfl h.1 ?_
  replace h := h.2
  refine me_go (pc1 := 8) (lv1 := [(0, .ref P.1), (1, .int x1), (2, .int x2)]) (st1 := [.int 27, .int (μ.2.1 20 x1.toNatClampNeg)]) 1 rfl ?_
  refine me_icmp rfl rfl (fun c => ?_) (fun c => ?_)
  · replace h := h.1 (ci_ne c)
    refine me_go (pc1 := 38) (lv1 := [(0, .ref P.1), (1, .int x1), (2, .int x2)]) (st1 := [.int x1, .ref P.1]) 2 rfl ?_
    refine me_callN rfl rfl rfl (h.mono (fun r1 μ1 h => ?_) (fun _ h => h))
    refine me_ifc rfl rfl (fun c => ?_) (fun c => ?_)
    · replace h := h.1 (ci_eq c)
      exact me_ret (v := none) (r := 0) rfl rfl rfl h
    · replace h := h.2 (cn_eq c)
      refine me_go (pc1 := 47) (lv1 := [(0, .ref P.1), (1, .int x1), (2, .int x2)]) (st1 := [.int x1, .int x2, .ref P.1]) 3 rfl ?_
      refine me_callN rfl rfl rfl (h.mono (fun r2 μ2 h => ?_) (fun _ h => h))
      refine me_ifc rfl rfl (fun c => ?_) (fun c => ?_)
      · replace h := h.1 (ci_ne c)
        exact me_ret (v := none) (r := 0) rfl rfl rfl h
      · replace h := h.2 (cn_ne c)
        refine me_go (pc1 := 56) (lv1 := [(0, .ref P.1), (1, .int x1), (2, .int x2)]) (st1 := [.int 6, .ref P.1]) 2 rfl ?_
        refine me_call rfl rfl rfl rfl (h.mono (fun r3 μ3 h => ?_) (fun _ h => h))
        exact me_ret (v := none) (r := 0) rfl rfl rfl h
  · replace h := h.2 (cn_ne c)
    refine me_go (pc1 := 13) (lv1 := [(0, .ref P.1), (1, .int x1), (2, .int x2)]) (st1 := [.ref P.1, .int x2]) 2 rfl ?_
    refine me_getf (v := .ref (P.2.1 22)) rfl rfl rfl ?_
    refine me_go (pc1 := 17) (lv1 := [(0, .ref P.1), (1, .int x1), (2, .int x2)]) (st1 := [.int x1, .ref (P.2.1 22), .int x2]) 1 rfl ?_
    refine me_iald rfl (g := 22) rfl rfl h.1 ?_
    replace h := h.2
    refine me_icmp rfl rfl (fun c => ?_) (fun c => ?_)
    · replace h := h.1 (ci_lt c)
      refine me_go (pc1 := 33) (lv1 := [(0, .ref P.1), (1, .int x1), (2, .int x2)]) (st1 := [.int 4, .ref P.1]) 2 rfl ?_
      refine me_call rfl rfl rfl rfl (h.mono (fun r4 μ4 h => ?_) (fun _ h => h))
      refine me_go (pc1 := 38) (lv1 := [(0, .ref P.1), (1, .int x1), (2, .int x2)]) (st1 := [.int x1, .ref P.1]) 2 rfl ?_
      refine me_callN rfl rfl rfl (h.mono (fun r5 μ5 h => ?_) (fun _ h => h))
      refine me_ifc rfl rfl (fun c => ?_) (fun c => ?_)
      · replace h := h.1 (ci_eq c)
        exact me_ret (v := none) (r := 0) rfl rfl rfl h
      · replace h := h.2 (cn_eq c)
        refine me_go (pc1 := 47) (lv1 := [(0, .ref P.1), (1, .int x1), (2, .int x2)]) (st1 := [.int x1, .int x2, .ref P.1]) 3 rfl ?_
        refine me_callN rfl rfl rfl (h.mono (fun r6 μ6 h => ?_) (fun _ h => h))
        refine me_ifc rfl rfl (fun c => ?_) (fun c => ?_)
        · replace h := h.1 (ci_ne c)
          exact me_ret (v := none) (r := 0) rfl rfl rfl h
        · replace h := h.2 (cn_ne c)
          refine me_go (pc1 := 56) (lv1 := [(0, .ref P.1), (1, .int x1), (2, .int x2)]) (st1 := [.int 6, .ref P.1]) 2 rfl ?_
          refine me_call rfl rfl rfl rfl (h.mono (fun r7 μ7 h => ?_) (fun _ h => h))
          exact me_ret (v := none) (r := 0) rfl rfl rfl h
    · replace h := h.2 (cn_lt c)
      refine me_go (pc1 := 23) (lv1 := [(0, .ref P.1), (1, .int x1), (2, .int x2)]) (st1 := [.ref P.1, .int x2]) 2 rfl ?_
      refine me_getf (v := .ref (P.2.1 23)) rfl rfl rfl ?_
      refine me_go (pc1 := 27) (lv1 := [(0, .ref P.1), (1, .int x1), (2, .int x2)]) (st1 := [.int x1, .ref (P.2.1 23), .int x2]) 1 rfl ?_
      refine me_iald rfl (g := 23) rfl rfl h.1 ?_
      replace h := h.2
      refine me_icmp rfl rfl (fun c => ?_) (fun c => ?_)
      · replace h := h.1 (ci_le c)
        refine me_go (pc1 := 38) (lv1 := [(0, .ref P.1), (1, .int x1), (2, .int x2)]) (st1 := [.int x1, .ref P.1]) 2 rfl ?_
        refine me_callN rfl rfl rfl (h.mono (fun r8 μ8 h => ?_) (fun _ h => h))
        refine me_ifc rfl rfl (fun c => ?_) (fun c => ?_)
        · replace h := h.1 (ci_eq c)
          exact me_ret (v := none) (r := 0) rfl rfl rfl h
        · replace h := h.2 (cn_eq c)
          refine me_go (pc1 := 47) (lv1 := [(0, .ref P.1), (1, .int x1), (2, .int x2)]) (st1 := [.int x1, .int x2, .ref P.1]) 3 rfl ?_
          refine me_callN rfl rfl rfl (h.mono (fun r9 μ9 h => ?_) (fun _ h => h))
          refine me_ifc rfl rfl (fun c => ?_) (fun c => ?_)
          · replace h := h.1 (ci_ne c)
            exact me_ret (v := none) (r := 0) rfl rfl rfl h
          · replace h := h.2 (cn_ne c)
            refine me_go (pc1 := 56) (lv1 := [(0, .ref P.1), (1, .int x1), (2, .int x2)]) (st1 := [.int 6, .ref P.1]) 2 rfl ?_
            refine me_call rfl rfl rfl rfl (h.mono (fun r10 μ10 h => ?_) (fun _ h => h))
            exact me_ret (v := none) (r := 0) rfl rfl rfl h
      · replace h := h.2 (cn_le c)
        refine me_go (pc1 := 33) (lv1 := [(0, .ref P.1), (1, .int x1), (2, .int x2)]) (st1 := [.int 4, .ref P.1]) 2 rfl ?_
        refine me_call rfl rfl rfl rfl (h.mono (fun r11 μ11 h => ?_) (fun _ h => h))
        refine me_go (pc1 := 38) (lv1 := [(0, .ref P.1), (1, .int x1), (2, .int x2)]) (st1 := [.int x1, .ref P.1]) 2 rfl ?_
        refine me_callN rfl rfl rfl (h.mono (fun r12 μ12 h => ?_) (fun _ h => h))
        refine me_ifc rfl rfl (fun c => ?_) (fun c => ?_)
        · replace h := h.1 (ci_eq c)
          exact me_ret (v := none) (r := 0) rfl rfl rfl h
        · replace h := h.2 (cn_eq c)
          refine me_go (pc1 := 47) (lv1 := [(0, .ref P.1), (1, .int x1), (2, .int x2)]) (st1 := [.int x1, .int x2, .ref P.1]) 3 rfl ?_
          refine me_callN rfl rfl rfl (h.mono (fun r13 μ13 h => ?_) (fun _ h => h))
          refine me_ifc rfl rfl (fun c => ?_) (fun c => ?_)
          · replace h := h.1 (ci_ne c)
            exact me_ret (v := none) (r := 0) rfl rfl rfl h
          · replace h := h.2 (cn_ne c)
            refine me_go (pc1 := 56) (lv1 := [(0, .ref P.1), (1, .int x1), (2, .int x2)]) (st1 := [.int 6, .ref P.1]) 2 rfl ?_
            refine me_call rfl rfl rfl rfl (h.mono (fun r14 μ14 h => ?_) (fun _ h => h))
            exact me_ret (v := none) (r := 0) rfl rfl rfl h
theorem v_place__0 {X : ev_X} {W : Nat → Prop} {d : Nat} {P : MP} {μ : MS} {R : Int32 → MS → Prop} {T : MS → Prop} (x1 : Int32) (h : (MI x1 (μ.2.2 28) ∧ (MI (μ.2.1 28 x1.toNatClampNeg) (μ.2.2 55) ∧ (MI (μ.2.1 28 x1.toNatClampNeg) (μ.2.2 53) ∧ (((μ.2.1 53 ((μ.2.1 28 x1.toNatClampNeg)).toNatClampNeg) = 0 → (MI (μ.2.1 28 x1.toNatClampNeg) (μ.2.2 53) ∧ ((¬ (μ.2.1 53 ((μ.2.1 28 x1.toNatClampNeg)).toNatClampNeg) = 2 → (MI x1 (μ.2.2 26) ∧ MC X W true d 457 [.ref P.1, .int (μ.2.1 26 x1.toNatClampNeg), .int (-1), .int (μ.2.1 55 ((μ.2.1 28 x1.toNatClampNeg)).toNatClampNeg)] P μ (fun r1 μ1 => R r1 μ1) T)) ∧ ((μ.2.1 53 ((μ.2.1 28 x1.toNatClampNeg)).toNatClampNeg) = 2 → (MI (μ.2.1 55 ((μ.2.1 28 x1.toNatClampNeg)).toNatClampNeg) (μ.2.2 99) ∧ (MI x1 (μ.2.2 26) ∧ MC X W true d 457 [.ref P.1, .int (μ.2.1 26 x1.toNatClampNeg), .int (-1), .int (μ.2.1 99 ((μ.2.1 55 ((μ.2.1 28 x1.toNatClampNeg)).toNatClampNeg)).toNatClampNeg)] P μ (fun r2 μ2 => R r2 μ2) T)))))) ∧ (¬ (μ.2.1 53 ((μ.2.1 28 x1.toNatClampNeg)).toNatClampNeg) = 0 → (MI (μ.1 128) (μ.2.2 122) ∧ (MI (μ.2.1 28 x1.toNatClampNeg) (μ.2.2 53) ∧ ((¬ (μ.2.1 53 ((μ.2.1 28 x1.toNatClampNeg)).toNatClampNeg) = 2 → (MI x1 (μ.2.2 26) ∧ MC X W true d 457 [.ref P.1, .int (μ.2.1 26 x1.toNatClampNeg), .int (-1), .int ((μ.2.1 55 ((μ.2.1 28 x1.toNatClampNeg)).toNatClampNeg) + (μ.2.1 122 ((μ.1 128)).toNatClampNeg))] P μ (fun r3 μ3 => R r3 μ3) T)) ∧ ((μ.2.1 53 ((μ.2.1 28 x1.toNatClampNeg)).toNatClampNeg) = 2 → (MI ((μ.2.1 55 ((μ.2.1 28 x1.toNatClampNeg)).toNatClampNeg) + (μ.2.1 122 ((μ.1 128)).toNatClampNeg)) (μ.2.2 99) ∧ (MI x1 (μ.2.2 26) ∧ MC X W true d 457 [.ref P.1, .int (μ.2.1 26 x1.toNatClampNeg), .int (-1), .int (μ.2.1 99 (((μ.2.1 55 ((μ.2.1 28 x1.toNatClampNeg)).toNatClampNeg) + (μ.2.1 122 ((μ.1 128)).toNatClampNeg))).toNatClampNeg)] P μ (fun r4 μ4 => R r4 μ4) T)))))))))))) : ME X W true d 456 0 [(0, .ref P.1), (1, .int x1)] [] P μ R T := by
  refine me_go (pc1 := 1) (lv1 := [(0, .ref P.1), (1, .int x1)]) (st1 := [.ref P.1]) 1 rfl ?_
  refine me_getf (v := .ref (P.2.1 28)) rfl rfl rfl ?_
  refine me_go (pc1 := 5) (lv1 := [(0, .ref P.1), (1, .int x1)]) (st1 := [.int x1, .ref (P.2.1 28)]) 1 rfl ?_
  refine me_iald rfl (g := 28) rfl rfl h.1 ?_
  replace h := h.2
  refine me_go (pc1 := 8) (lv1 := [(2, .int (μ.2.1 28 x1.toNatClampNeg)), (0, .ref P.1), (1, .int x1)]) (st1 := [.ref P.1]) 2 rfl ?_
  refine me_getf (v := .ref (P.2.1 55)) rfl rfl rfl ?_
  refine me_go (pc1 := 12) (lv1 := [(2, .int (μ.2.1 28 x1.toNatClampNeg)), (0, .ref P.1), (1, .int x1)]) (st1 := [.int (μ.2.1 28 x1.toNatClampNeg), .ref (P.2.1 55)]) 1 rfl ?_
  refine me_iald rfl (g := 55) rfl rfl h.1 ?_
  replace h := h.2
  refine me_go (pc1 := 15) (lv1 := [(3, .int (μ.2.1 55 ((μ.2.1 28 x1.toNatClampNeg)).toNatClampNeg)), (2, .int (μ.2.1 28 x1.toNatClampNeg)), (0, .ref P.1), (1, .int x1)]) (st1 := [.ref P.1]) 2 rfl ?_
  refine me_getf (v := .ref (P.2.1 53)) rfl rfl rfl ?_
  refine me_go (pc1 := 19) (lv1 := [(3, .int (μ.2.1 55 ((μ.2.1 28 x1.toNatClampNeg)).toNatClampNeg)), (2, .int (μ.2.1 28 x1.toNatClampNeg)), (0, .ref P.1), (1, .int x1)]) (st1 := [.int (μ.2.1 28 x1.toNatClampNeg), .ref (P.2.1 53)]) 1 rfl ?_
  refine me_iald rfl (g := 53) rfl rfl h.1 ?_
  replace h := h.2
  refine me_ifc rfl rfl (fun c => ?_) (fun c => ?_)
  · replace h := h.1 (ci_eq c)
    refine me_go (pc1 := 36) (lv1 := [(3, .int (μ.2.1 55 ((μ.2.1 28 x1.toNatClampNeg)).toNatClampNeg)), (2, .int (μ.2.1 28 x1.toNatClampNeg)), (0, .ref P.1), (1, .int x1)]) (st1 := [.ref P.1]) 1 rfl ?_
    refine me_getf (v := .ref (P.2.1 53)) rfl rfl rfl ?_
    refine me_go (pc1 := 40) (lv1 := [(3, .int (μ.2.1 55 ((μ.2.1 28 x1.toNatClampNeg)).toNatClampNeg)), (2, .int (μ.2.1 28 x1.toNatClampNeg)), (0, .ref P.1), (1, .int x1)]) (st1 := [.int (μ.2.1 28 x1.toNatClampNeg), .ref (P.2.1 53)]) 1 rfl ?_
    refine me_iald rfl (g := 53) rfl rfl h.1 ?_
    replace h := h.2
    refine me_go (pc1 := 42) (lv1 := [(3, .int (μ.2.1 55 ((μ.2.1 28 x1.toNatClampNeg)).toNatClampNeg)), (2, .int (μ.2.1 28 x1.toNatClampNeg)), (0, .ref P.1), (1, .int x1)]) (st1 := [.int 2, .int (μ.2.1 53 ((μ.2.1 28 x1.toNatClampNeg)).toNatClampNeg)]) 1 rfl ?_
    refine me_icmp rfl rfl (fun c => ?_) (fun c => ?_)
    · replace h := h.1 (ci_ne c)
      refine me_go (pc1 := 54) (lv1 := [(3, .int (μ.2.1 55 ((μ.2.1 28 x1.toNatClampNeg)).toNatClampNeg)), (2, .int (μ.2.1 28 x1.toNatClampNeg)), (0, .ref P.1), (1, .int x1)]) (st1 := [.ref P.1, .ref P.1]) 2 rfl ?_
      refine me_getf (v := .ref (P.2.1 26)) rfl rfl rfl ?_
      refine me_go (pc1 := 58) (lv1 := [(3, .int (μ.2.1 55 ((μ.2.1 28 x1.toNatClampNeg)).toNatClampNeg)), (2, .int (μ.2.1 28 x1.toNatClampNeg)), (0, .ref P.1), (1, .int x1)]) (st1 := [.int x1, .ref (P.2.1 26), .ref P.1]) 1 rfl ?_
      refine me_iald rfl (g := 26) rfl rfl h.1 ?_
      replace h := h.2
      refine me_go (pc1 := 61) (lv1 := [(3, .int (μ.2.1 55 ((μ.2.1 28 x1.toNatClampNeg)).toNatClampNeg)), (2, .int (μ.2.1 28 x1.toNatClampNeg)), (0, .ref P.1), (1, .int x1)]) (st1 := [.int (μ.2.1 55 ((μ.2.1 28 x1.toNatClampNeg)).toNatClampNeg), .int (-1), .int (μ.2.1 26 x1.toNatClampNeg), .ref P.1]) 2 rfl ?_
      refine me_call rfl rfl rfl rfl (h.mono (fun r1 μ1 h => ?_) (fun _ h => h))
      exact me_ret rfl rfl rfl h
    · replace h := h.2 (cn_ne c)
      refine me_go (pc1 := 46) (lv1 := [(3, .int (μ.2.1 55 ((μ.2.1 28 x1.toNatClampNeg)).toNatClampNeg)), (2, .int (μ.2.1 28 x1.toNatClampNeg)), (0, .ref P.1), (1, .int x1)]) (st1 := [.ref P.1]) 1 rfl ?_
      refine me_getf (v := .ref (P.2.1 99)) rfl rfl rfl ?_
      refine me_go (pc1 := 50) (lv1 := [(3, .int (μ.2.1 55 ((μ.2.1 28 x1.toNatClampNeg)).toNatClampNeg)), (2, .int (μ.2.1 28 x1.toNatClampNeg)), (0, .ref P.1), (1, .int x1)]) (st1 := [.int (μ.2.1 55 ((μ.2.1 28 x1.toNatClampNeg)).toNatClampNeg), .ref (P.2.1 99)]) 1 rfl ?_
      refine me_iald rfl (g := 99) rfl rfl h.1 ?_
      replace h := h.2
      refine me_go (pc1 := 54) (lv1 := [(3, .int (μ.2.1 99 ((μ.2.1 55 ((μ.2.1 28 x1.toNatClampNeg)).toNatClampNeg)).toNatClampNeg)), (2, .int (μ.2.1 28 x1.toNatClampNeg)), (0, .ref P.1), (1, .int x1)]) (st1 := [.ref P.1, .ref P.1]) 3 rfl ?_
      refine me_getf (v := .ref (P.2.1 26)) rfl rfl rfl ?_
      refine me_go (pc1 := 58) (lv1 := [(3, .int (μ.2.1 99 ((μ.2.1 55 ((μ.2.1 28 x1.toNatClampNeg)).toNatClampNeg)).toNatClampNeg)), (2, .int (μ.2.1 28 x1.toNatClampNeg)), (0, .ref P.1), (1, .int x1)]) (st1 := [.int x1, .ref (P.2.1 26), .ref P.1]) 1 rfl ?_
      refine me_iald rfl (g := 26) rfl rfl h.1 ?_
      replace h := h.2
      refine me_go (pc1 := 61) (lv1 := [(3, .int (μ.2.1 99 ((μ.2.1 55 ((μ.2.1 28 x1.toNatClampNeg)).toNatClampNeg)).toNatClampNeg)), (2, .int (μ.2.1 28 x1.toNatClampNeg)), (0, .ref P.1), (1, .int x1)]) (st1 := [.int (μ.2.1 99 ((μ.2.1 55 ((μ.2.1 28 x1.toNatClampNeg)).toNatClampNeg)).toNatClampNeg), .int (-1), .int (μ.2.1 26 x1.toNatClampNeg), .ref P.1]) 2 rfl ?_
      refine me_call rfl rfl rfl rfl (h.mono (fun r2 μ2 h => ?_) (fun _ h => h))
      exact me_ret rfl rfl rfl h
  · replace h := h.2 (cn_eq c)
    refine me_go (pc1 := 25) (lv1 := [(3, .int (μ.2.1 55 ((μ.2.1 28 x1.toNatClampNeg)).toNatClampNeg)), (2, .int (μ.2.1 28 x1.toNatClampNeg)), (0, .ref P.1), (1, .int x1)]) (st1 := [.ref P.1, .int (μ.2.1 55 ((μ.2.1 28 x1.toNatClampNeg)).toNatClampNeg)]) 2 rfl ?_
    refine me_getf (v := .ref (P.2.1 122)) rfl rfl rfl ?_
    refine me_go (pc1 := 29) (lv1 := [(3, .int (μ.2.1 55 ((μ.2.1 28 x1.toNatClampNeg)).toNatClampNeg)), (2, .int (μ.2.1 28 x1.toNatClampNeg)), (0, .ref P.1), (1, .int x1)]) (st1 := [.ref P.1, .ref (P.2.1 122), .int (μ.2.1 55 ((μ.2.1 28 x1.toNatClampNeg)).toNatClampNeg)]) 1 rfl ?_
    refine me_getf (v := .int (μ.1 128)) rfl rfl rfl ?_
    refine me_iald rfl (g := 122) rfl rfl h.1 ?_
    replace h := h.2
    refine me_go (pc1 := 36) (lv1 := [(3, .int ((μ.2.1 55 ((μ.2.1 28 x1.toNatClampNeg)).toNatClampNeg) + (μ.2.1 122 ((μ.1 128)).toNatClampNeg))), (2, .int (μ.2.1 28 x1.toNatClampNeg)), (0, .ref P.1), (1, .int x1)]) (st1 := [.ref P.1]) 3 rfl ?_
    refine me_getf (v := .ref (P.2.1 53)) rfl rfl rfl ?_
    refine me_go (pc1 := 40) (lv1 := [(3, .int ((μ.2.1 55 ((μ.2.1 28 x1.toNatClampNeg)).toNatClampNeg) + (μ.2.1 122 ((μ.1 128)).toNatClampNeg))), (2, .int (μ.2.1 28 x1.toNatClampNeg)), (0, .ref P.1), (1, .int x1)]) (st1 := [.int (μ.2.1 28 x1.toNatClampNeg), .ref (P.2.1 53)]) 1 rfl ?_
    refine me_iald rfl (g := 53) rfl rfl h.1 ?_
    replace h := h.2
    refine me_go (pc1 := 42) (lv1 := [(3, .int ((μ.2.1 55 ((μ.2.1 28 x1.toNatClampNeg)).toNatClampNeg) + (μ.2.1 122 ((μ.1 128)).toNatClampNeg))), (2, .int (μ.2.1 28 x1.toNatClampNeg)), (0, .ref P.1), (1, .int x1)]) (st1 := [.int 2, .int (μ.2.1 53 ((μ.2.1 28 x1.toNatClampNeg)).toNatClampNeg)]) 1 rfl ?_
    refine me_icmp rfl rfl (fun c => ?_) (fun c => ?_)
    · replace h := h.1 (ci_ne c)
      refine me_go (pc1 := 54) (lv1 := [(3, .int ((μ.2.1 55 ((μ.2.1 28 x1.toNatClampNeg)).toNatClampNeg) + (μ.2.1 122 ((μ.1 128)).toNatClampNeg))), (2, .int (μ.2.1 28 x1.toNatClampNeg)), (0, .ref P.1), (1, .int x1)]) (st1 := [.ref P.1, .ref P.1]) 2 rfl ?_
      refine me_getf (v := .ref (P.2.1 26)) rfl rfl rfl ?_
      refine me_go (pc1 := 58) (lv1 := [(3, .int ((μ.2.1 55 ((μ.2.1 28 x1.toNatClampNeg)).toNatClampNeg) + (μ.2.1 122 ((μ.1 128)).toNatClampNeg))), (2, .int (μ.2.1 28 x1.toNatClampNeg)), (0, .ref P.1), (1, .int x1)]) (st1 := [.int x1, .ref (P.2.1 26), .ref P.1]) 1 rfl ?_
      refine me_iald rfl (g := 26) rfl rfl h.1 ?_
      replace h := h.2
      refine me_go (pc1 := 61) (lv1 := [(3, .int ((μ.2.1 55 ((μ.2.1 28 x1.toNatClampNeg)).toNatClampNeg) + (μ.2.1 122 ((μ.1 128)).toNatClampNeg))), (2, .int (μ.2.1 28 x1.toNatClampNeg)), (0, .ref P.1), (1, .int x1)]) (st1 := [.int ((μ.2.1 55 ((μ.2.1 28 x1.toNatClampNeg)).toNatClampNeg) + (μ.2.1 122 ((μ.1 128)).toNatClampNeg)), .int (-1), .int (μ.2.1 26 x1.toNatClampNeg), .ref P.1]) 2 rfl ?_
      refine me_call rfl rfl rfl rfl (h.mono (fun r3 μ3 h => ?_) (fun _ h => h))
      exact me_ret rfl rfl rfl h
    · replace h := h.2 (cn_ne c)
      refine me_go (pc1 := 46) (lv1 := [(3, .int ((μ.2.1 55 ((μ.2.1 28 x1.toNatClampNeg)).toNatClampNeg) + (μ.2.1 122 ((μ.1 128)).toNatClampNeg))), (2, .int (μ.2.1 28 x1.toNatClampNeg)), (0, .ref P.1), (1, .int x1)]) (st1 := [.ref P.1]) 1 rfl ?_
      refine me_getf (v := .ref (P.2.1 99)) rfl rfl rfl ?_
      refine me_go (pc1 := 50) (lv1 := [(3, .int ((μ.2.1 55 ((μ.2.1 28 x1.toNatClampNeg)).toNatClampNeg) + (μ.2.1 122 ((μ.1 128)).toNatClampNeg))), (2, .int (μ.2.1 28 x1.toNatClampNeg)), (0, .ref P.1), (1, .int x1)]) (st1 := [.int ((μ.2.1 55 ((μ.2.1 28 x1.toNatClampNeg)).toNatClampNeg) + (μ.2.1 122 ((μ.1 128)).toNatClampNeg)), .ref (P.2.1 99)]) 1 rfl ?_
      refine me_iald rfl (g := 99) rfl rfl h.1 ?_
      replace h := h.2
      refine me_go (pc1 := 54) (lv1 := [(3, .int (μ.2.1 99 (((μ.2.1 55 ((μ.2.1 28 x1.toNatClampNeg)).toNatClampNeg) + (μ.2.1 122 ((μ.1 128)).toNatClampNeg))).toNatClampNeg)), (2, .int (μ.2.1 28 x1.toNatClampNeg)), (0, .ref P.1), (1, .int x1)]) (st1 := [.ref P.1, .ref P.1]) 3 rfl ?_
      refine me_getf (v := .ref (P.2.1 26)) rfl rfl rfl ?_
      refine me_go (pc1 := 58) (lv1 := [(3, .int (μ.2.1 99 (((μ.2.1 55 ((μ.2.1 28 x1.toNatClampNeg)).toNatClampNeg) + (μ.2.1 122 ((μ.1 128)).toNatClampNeg))).toNatClampNeg)), (2, .int (μ.2.1 28 x1.toNatClampNeg)), (0, .ref P.1), (1, .int x1)]) (st1 := [.int x1, .ref (P.2.1 26), .ref P.1]) 1 rfl ?_
      refine me_iald rfl (g := 26) rfl rfl h.1 ?_
      replace h := h.2
      refine me_go (pc1 := 61) (lv1 := [(3, .int (μ.2.1 99 (((μ.2.1 55 ((μ.2.1 28 x1.toNatClampNeg)).toNatClampNeg) + (μ.2.1 122 ((μ.1 128)).toNatClampNeg))).toNatClampNeg)), (2, .int (μ.2.1 28 x1.toNatClampNeg)), (0, .ref P.1), (1, .int x1)]) (st1 := [.int (μ.2.1 99 (((μ.2.1 55 ((μ.2.1 28 x1.toNatClampNeg)).toNatClampNeg) + (μ.2.1 122 ((μ.1 128)).toNatClampNeg))).toNatClampNeg), .int (-1), .int (μ.2.1 26 x1.toNatClampNeg), .ref P.1]) 2 rfl ?_
      refine me_call rfl rfl rfl rfl (h.mono (fun r4 μ4 h => ?_) (fun _ h => h))
      exact me_ret rfl rfl rfl h
theorem v_behind_0 {X : ev_X} {W : Nat → Prop} {d : Nat} {P : MP} {μ : MS} {R : Int32 → MS → Prop} {T : MS → Prop} (x1 : Int32) (x2 : Int32) (x3 : Int32) (h : ME X W true d 457 6 [(0, .ref P.1), (1, .int x1), (2, .int x2), (3, .int x3), (4, .int x3), (5, .int x1)] [] P μ R T) : ME X W true d 457 0 [(0, .ref P.1), (1, .int x1), (2, .int x2), (3, .int x3)] [] P μ R T := by
  refine me_go (pc1 := 6) (lv1 := [(5, .int x1), (4, .int x3), (0, .ref P.1), (1, .int x1), (2, .int x2), (3, .int x3)]) (st1 := []) 4 rfl ?_
  refine me_lv [(0, .ref P.1), (1, .int x1), (2, .int x2), (3, .int x3), (4, .int x3), (5, .int x1)] (fl_c rfl (fl_c rfl (fl_c rfl (fl_c rfl (fl_c rfl (fl_c rfl fl_0)))))) ?_
  exact h
theorem v_behind_6 {X : ev_X} {W : Nat → Prop} {d : Nat} {P : MP} {μ : MS} {R : Int32 → MS → Prop} {T : MS → Prop} (x1 : Int32) (x2 : Int32) (x3 : Int32) (x4 : Int32) (x5 : Int32) (h : ((x5.toInt < (0 : Int) → ME X W true d 457 220 [(0, .ref P.1), (1, .int x1), (2, .int x2), (3, .int x3), (4, .int x4), (5, .int x5)] [] P μ R T) ∧ ((0 : Int) ≤ x5.toInt → ((x5 = x2 → ME X W true d 457 220 [(0, .ref P.1), (1, .int x1), (2, .int x2), (3, .int x3), (4, .int x4), (5, .int x5)] [] P μ R T) ∧ (¬ x5 = x2 → (MI x5 (μ.2.2 20) ∧ ((¬ (μ.2.1 20 x5.toNatClampNeg) = 72 → (MI x5 (μ.2.2 20) ∧ (((μ.2.1 20 x5.toNatClampNeg) = 73 → ME X W true d 457 129 [(0, .ref P.1), (1, .int x1), (2, .int x2), (3, .int x3), (4, .int x4), (5, .int x5)] [] P μ R T) ∧ (¬ (μ.2.1 20 x5.toNatClampNeg) = 73 → (MI x5 (μ.2.2 24) ∧ ((¬ (μ.2.1 24 x5.toNatClampNeg) = 1 → ME X W true d 457 136 [(0, .ref P.1), (1, .int x1), (2, .int x2), (3, .int x3), (4, .int x4), (5, .int x5), (6, .int 0)] [] P μ R T) ∧ ((μ.2.1 24 x5.toNatClampNeg) = 1 → ME X W true d 457 129 [(0, .ref P.1), (1, .int x1), (2, .int x2), (3, .int x3), (4, .int x4), (5, .int x5)] [] P μ R T))))))) ∧ ((μ.2.1 20 x5.toNatClampNeg) = 72 → (MI x5 (μ.2.2 22) ∧ MC X W true d 459 [.ref P.1, .int (μ.2.1 22 x5.toNatClampNeg)] P μ (fun r1 μ1 => (MI x5 (μ1.2.2 28) ∧ (MI (μ1.2.1 28 x5.toNatClampNeg) (μ1.2.2 22) ∧ ((r1.toInt < (μ1.2.1 22 ((μ1.2.1 28 x5.toNatClampNeg)).toNatClampNeg).toInt → ME X W true d 457 75 [(0, .ref P.1), (1, .int x1), (2, .int x2), (3, .int x3), (4, .int x4), (5, .int x5), (6, .int r1), (7, .int (μ1.2.1 28 x5.toNatClampNeg))] [] P μ1 R T) ∧ ((μ1.2.1 22 ((μ1.2.1 28 x5.toNatClampNeg)).toNatClampNeg).toInt ≤ r1.toInt → (MI (μ1.2.1 28 x5.toNatClampNeg) (μ1.2.2 23) ∧ ((r1.toInt ≤ (μ1.2.1 23 ((μ1.2.1 28 x5.toNatClampNeg)).toNatClampNeg).toInt → ME X W true d 457 80 [(0, .ref P.1), (1, .int x1), (2, .int x2), (3, .int x3), (4, .int x4), (5, .int x5), (6, .int r1), (7, .int (μ1.2.1 28 x5.toNatClampNeg))] [] P μ1 R T) ∧ ((μ1.2.1 23 ((μ1.2.1 28 x5.toNatClampNeg)).toNatClampNeg).toInt < r1.toInt → ME X W true d 457 75 [(0, .ref P.1), (1, .int x1), (2, .int x2), (3, .int x3), (4, .int x4), (5, .int x5), (6, .int r1), (7, .int (μ1.2.1 28 x5.toNatClampNeg))] [] P μ1 R T)))))))) T))))))))) : ME X W true d 457 6 [(0, .ref P.1), (1, .int x1), (2, .int x2), (3, .int x3), (4, .int x4), (5, .int x5)] [] P μ R T := by
  refine me_go (pc1 := 8) (lv1 := [(0, .ref P.1), (1, .int x1), (2, .int x2), (3, .int x3), (4, .int x4), (5, .int x5)]) (st1 := [.int x5]) 1 rfl ?_
  refine me_ifc rfl rfl (fun c => ?_) (fun c => ?_)
  · replace h := h.1 (ci_lt c)
    exact h
  · replace h := h.2 (cn_lt c)
    refine me_go (pc1 := 14) (lv1 := [(0, .ref P.1), (1, .int x1), (2, .int x2), (3, .int x3), (4, .int x4), (5, .int x5)]) (st1 := [.int x2, .int x5]) 2 rfl ?_
    refine me_icmp rfl rfl (fun c => ?_) (fun c => ?_)
    · replace h := h.1 (ci_eq c)
      exact h
    · replace h := h.2 (cn_eq c)
      refine me_go (pc1 := 18) (lv1 := [(0, .ref P.1), (1, .int x1), (2, .int x2), (3, .int x3), (4, .int x4), (5, .int x5)]) (st1 := [.ref P.1]) 1 rfl ?_
      refine me_getf (v := .ref (P.2.1 20)) rfl rfl rfl ?_
      refine me_go (pc1 := 23) (lv1 := [(0, .ref P.1), (1, .int x1), (2, .int x2), (3, .int x3), (4, .int x4), (5, .int x5)]) (st1 := [.int x5, .ref (P.2.1 20)]) 1 rfl ?_
      refine me_iald rfl (g := 20) rfl rfl h.1 ?_
      replace h := h.2
      refine me_go (pc1 := 26) (lv1 := [(0, .ref P.1), (1, .int x1), (2, .int x2), (3, .int x3), (4, .int x4), (5, .int x5)]) (st1 := [.int 72, .int (μ.2.1 20 x5.toNatClampNeg)]) 1 rfl ?_
      refine me_icmp rfl rfl (fun c => ?_) (fun c => ?_)
      · replace h := h.1 (ci_ne c)
        refine me_go (pc1 := 107) (lv1 := [(0, .ref P.1), (1, .int x1), (2, .int x2), (3, .int x3), (4, .int x4), (5, .int x5)]) (st1 := [.ref P.1]) 1 rfl ?_
        refine me_getf (v := .ref (P.2.1 20)) rfl rfl rfl ?_
        refine me_go (pc1 := 112) (lv1 := [(0, .ref P.1), (1, .int x1), (2, .int x2), (3, .int x3), (4, .int x4), (5, .int x5)]) (st1 := [.int x5, .ref (P.2.1 20)]) 1 rfl ?_
        refine me_iald rfl (g := 20) rfl rfl h.1 ?_
        replace h := h.2
        refine me_go (pc1 := 115) (lv1 := [(0, .ref P.1), (1, .int x1), (2, .int x2), (3, .int x3), (4, .int x4), (5, .int x5)]) (st1 := [.int 73, .int (μ.2.1 20 x5.toNatClampNeg)]) 1 rfl ?_
        refine me_icmp rfl rfl (fun c => ?_) (fun c => ?_)
        · replace h := h.1 (ci_eq c)
          exact h
        · replace h := h.2 (cn_eq c)
          refine me_go (pc1 := 119) (lv1 := [(0, .ref P.1), (1, .int x1), (2, .int x2), (3, .int x3), (4, .int x4), (5, .int x5)]) (st1 := [.ref P.1]) 1 rfl ?_
          refine me_getf (v := .ref (P.2.1 24)) rfl rfl rfl ?_
          refine me_go (pc1 := 124) (lv1 := [(0, .ref P.1), (1, .int x1), (2, .int x2), (3, .int x3), (4, .int x4), (5, .int x5)]) (st1 := [.int x5, .ref (P.2.1 24)]) 1 rfl ?_
          refine me_iald rfl (g := 24) rfl rfl h.1 ?_
          replace h := h.2
          refine me_go (pc1 := 126) (lv1 := [(0, .ref P.1), (1, .int x1), (2, .int x2), (3, .int x3), (4, .int x4), (5, .int x5)]) (st1 := [.int 1, .int (μ.2.1 24 x5.toNatClampNeg)]) 1 rfl ?_
          refine me_icmp rfl rfl (fun c => ?_) (fun c => ?_)
          · replace h := h.1 (ci_ne c)
            refine me_go (pc1 := 136) (lv1 := [(6, .int 0), (0, .ref P.1), (1, .int x1), (2, .int x2), (3, .int x3), (4, .int x4), (5, .int x5)]) (st1 := []) 2 rfl ?_
            refine me_lv [(0, .ref P.1), (1, .int x1), (2, .int x2), (3, .int x3), (4, .int x4), (5, .int x5), (6, .int 0)] (fl_c rfl (fl_c rfl (fl_c rfl (fl_c rfl (fl_c rfl (fl_c rfl (fl_c rfl fl_0))))))) ?_
            exact h
          · replace h := h.2 (cn_ne c)
            exact h
      · replace h := h.2 (cn_ne c)
        refine me_go (pc1 := 31) (lv1 := [(0, .ref P.1), (1, .int x1), (2, .int x2), (3, .int x3), (4, .int x4), (5, .int x5)]) (st1 := [.ref P.1, .ref P.1]) 2 rfl ?_
        refine me_getf (v := .ref (P.2.1 22)) rfl rfl rfl ?_
        refine me_go (pc1 := 36) (lv1 := [(0, .ref P.1), (1, .int x1), (2, .int x2), (3, .int x3), (4, .int x4), (5, .int x5)]) (st1 := [.int x5, .ref (P.2.1 22), .ref P.1]) 1 rfl ?_
        refine me_iald rfl (g := 22) rfl rfl h.1 ?_
        replace h := h.2
        refine me_call rfl rfl rfl rfl (h.mono (fun r1 μ1 h => ?_) (fun _ h => h))
        refine me_go (pc1 := 43) (lv1 := [(6, .int r1), (0, .ref P.1), (1, .int x1), (2, .int x2), (3, .int x3), (4, .int x4), (5, .int x5)]) (st1 := [.ref P.1]) 2 rfl ?_
        refine me_getf (v := .ref (P.2.1 28)) rfl rfl rfl ?_
        refine me_go (pc1 := 48) (lv1 := [(6, .int r1), (0, .ref P.1), (1, .int x1), (2, .int x2), (3, .int x3), (4, .int x4), (5, .int x5)]) (st1 := [.int x5, .ref (P.2.1 28)]) 1 rfl ?_
        refine me_iald rfl (g := 28) rfl rfl h.1 ?_
        replace h := h.2
        refine me_go (pc1 := 54) (lv1 := [(7, .int (μ1.2.1 28 x5.toNatClampNeg)), (6, .int r1), (0, .ref P.1), (1, .int x1), (2, .int x2), (3, .int x3), (4, .int x4), (5, .int x5)]) (st1 := [.ref P.1, .int r1]) 3 rfl ?_
        refine me_getf (v := .ref (P.2.1 22)) rfl rfl rfl ?_
        refine me_go (pc1 := 59) (lv1 := [(7, .int (μ1.2.1 28 x5.toNatClampNeg)), (6, .int r1), (0, .ref P.1), (1, .int x1), (2, .int x2), (3, .int x3), (4, .int x4), (5, .int x5)]) (st1 := [.int (μ1.2.1 28 x5.toNatClampNeg), .ref (P.2.1 22), .int r1]) 1 rfl ?_
        refine me_iald rfl (g := 22) rfl rfl h.1 ?_
        replace h := h.2
        refine me_icmp rfl rfl (fun c => ?_) (fun c => ?_)
        · replace h := h.1 (ci_lt c)
          refine me_lv [(0, .ref P.1), (1, .int x1), (2, .int x2), (3, .int x3), (4, .int x4), (5, .int x5), (6, .int r1), (7, .int (μ1.2.1 28 x5.toNatClampNeg))] (fl_c rfl (fl_c rfl (fl_c rfl (fl_c rfl (fl_c rfl (fl_c rfl (fl_c rfl (fl_c rfl fl_0)))))))) ?_
          exact h
        · replace h := h.2 (cn_lt c)
          refine me_go (pc1 := 66) (lv1 := [(7, .int (μ1.2.1 28 x5.toNatClampNeg)), (6, .int r1), (0, .ref P.1), (1, .int x1), (2, .int x2), (3, .int x3), (4, .int x4), (5, .int x5)]) (st1 := [.ref P.1, .int r1]) 2 rfl ?_
          refine me_getf (v := .ref (P.2.1 23)) rfl rfl rfl ?_
          refine me_go (pc1 := 71) (lv1 := [(7, .int (μ1.2.1 28 x5.toNatClampNeg)), (6, .int r1), (0, .ref P.1), (1, .int x1), (2, .int x2), (3, .int x3), (4, .int x4), (5, .int x5)]) (st1 := [.int (μ1.2.1 28 x5.toNatClampNeg), .ref (P.2.1 23), .int r1]) 1 rfl ?_
          refine me_iald rfl (g := 23) rfl rfl h.1 ?_
          replace h := h.2
          refine me_icmp rfl rfl (fun c => ?_) (fun c => ?_)
          · replace h := h.1 (ci_le c)
            refine me_lv [(0, .ref P.1), (1, .int x1), (2, .int x2), (3, .int x3), (4, .int x4), (5, .int x5), (6, .int r1), (7, .int (μ1.2.1 28 x5.toNatClampNeg))] (fl_c rfl (fl_c rfl (fl_c rfl (fl_c rfl (fl_c rfl (fl_c rfl (fl_c rfl (fl_c rfl fl_0)))))))) ?_
            exact h
          · replace h := h.2 (cn_le c)
            refine me_lv [(0, .ref P.1), (1, .int x1), (2, .int x2), (3, .int x3), (4, .int x4), (5, .int x5), (6, .int r1), (7, .int (μ1.2.1 28 x5.toNatClampNeg))] (fl_c rfl (fl_c rfl (fl_c rfl (fl_c rfl (fl_c rfl (fl_c rfl (fl_c rfl (fl_c rfl fl_0)))))))) ?_
            exact h
theorem v_behind_75 {X : ev_X} {W : Nat → Prop} {d : Nat} {P : MP} {μ : MS} {R : Int32 → MS → Prop} {T : MS → Prop} (x1 : Int32) (x2 : Int32) (x3 : Int32) (x4 : Int32) (x5 : Int32) (x6 : Int32) (x7 : Int32) (h : MC X W true d 446 [.ref P.1, .int 3] P μ (fun r1 μ1 => ME X W true d 457 80 [(0, .ref P.1), (1, .int x1), (2, .int x2), (3, .int x3), (4, .int x4), (5, .int x5), (6, .int x6), (7, .int x7)] [] P μ1 R T) T) : ME X W true d 457 75 [(0, .ref P.1), (1, .int x1), (2, .int x2), (3, .int x3), (4, .int x4), (5, .int x5), (6, .int x6), (7, .int x7)] [] P μ R T := by
  refine me_go (pc1 := 77) (lv1 := [(0, .ref P.1), (1, .int x1), (2, .int x2), (3, .int x3), (4, .int x4), (5, .int x5), (6, .int x6), (7, .int x7)]) (st1 := [.int 3, .ref P.1]) 2 rfl ?_
  refine me_call rfl rfl rfl rfl (h.mono (fun r1 μ1 h => ?_) (fun _ h => h))
  exact h
theorem v_behind_80 {X : ev_X} {W : Nat → Prop} {d : Nat} {P : MP} {μ : MS} {R : Int32 → MS → Prop} {T : MS → Prop} (x1 : Int32) (x2 : Int32) (x3 : Int32) (x4 : Int32) (x5 : Int32) (x6 : Int32) (x7 : Int32) (h : (MI x7 (μ.2.2 22) ∧ (MI x5 (μ.2.2 25) ∧ ME X W true d 457 208 [(0, .ref P.1), (1, .int x1), (2, .int x2), (3, .int x3), (4, .int (x4 + ((x6 - (μ.2.1 22 x7.toNatClampNeg)) * (μ.2.1 25 x5.toNatClampNeg)))), (5, .int x5), (6, .int x6)] [] P μ R T))) : ME X W true d 457 80 [(0, .ref P.1), (1, .int x1), (2, .int x2), (3, .int x3), (4, .int x4), (5, .int x5), (6, .int x6), (7, .int x7)] [] P μ R T := by
  refine me_go (pc1 := 85) (lv1 := [(0, .ref P.1), (1, .int x1), (2, .int x2), (3, .int x3), (4, .int x4), (5, .int x5), (6, .int x6), (7, .int x7)]) (st1 := [.ref P.1, .int x6, .int x4]) 3 rfl ?_
  refine me_getf (v := .ref (P.2.1 22)) rfl rfl rfl ?_
  refine me_go (pc1 := 90) (lv1 := [(0, .ref P.1), (1, .int x1), (2, .int x2), (3, .int x3), (4, .int x4), (5, .int x5), (6, .int x6), (7, .int x7)]) (st1 := [.int x7, .ref (P.2.1 22), .int x6, .int x4]) 1 rfl ?_
  refine me_iald rfl (g := 22) rfl rfl h.1 ?_
  replace h := h.2
  refine me_go (pc1 := 93) (lv1 := [(0, .ref P.1), (1, .int x1), (2, .int x2), (3, .int x3), (4, .int x4), (5, .int x5), (6, .int x6), (7, .int x7)]) (st1 := [.ref P.1, .int (x6 - (μ.2.1 22 x7.toNatClampNeg)), .int x4]) 2 rfl ?_
  refine me_getf (v := .ref (P.2.1 25)) rfl rfl rfl ?_
  refine me_go (pc1 := 98) (lv1 := [(0, .ref P.1), (1, .int x1), (2, .int x2), (3, .int x3), (4, .int x4), (5, .int x5), (6, .int x6), (7, .int x7)]) (st1 := [.int x5, .ref (P.2.1 25), .int (x6 - (μ.2.1 22 x7.toNatClampNeg)), .int x4]) 1 rfl ?_
  refine me_iald rfl (g := 25) rfl rfl h.1 ?_
  replace h := h.2
  refine me_go (pc1 := 208) (lv1 := [(4, .int (x4 + ((x6 - (μ.2.1 22 x7.toNatClampNeg)) * (μ.2.1 25 x5.toNatClampNeg)))), (0, .ref P.1), (1, .int x1), (2, .int x2), (3, .int x3), (5, .int x5), (6, .int x6), (7, .int x7)]) (st1 := []) 4 rfl ?_
  refine me_lv [(0, .ref P.1), (1, .int x1), (2, .int x2), (3, .int x3), (4, .int (x4 + ((x6 - (μ.2.1 22 x7.toNatClampNeg)) * (μ.2.1 25 x5.toNatClampNeg)))), (5, .int x5), (6, .int x6)] (fl_c rfl (fl_c rfl (fl_c rfl (fl_c rfl (fl_c rfl (fl_c rfl (fl_c rfl fl_0))))))) ?_
  exact h
theorem v_behind_129 {X : ev_X} {W : Nat → Prop} {d : Nat} {P : MP} {μ : MS} {R : Int32 → MS → Prop} {T : MS → Prop} (x1 : Int32) (x2 : Int32) (x3 : Int32) (x4 : Int32) (x5 : Int32) (h : ME X W true d 457 136 [(0, .ref P.1), (1, .int x1), (2, .int x2), (3, .int x3), (4, .int x4), (5, .int x5), (6, .int 1)] [] P μ R T) : ME X W true d 457 129 [(0, .ref P.1), (1, .int x1), (2, .int x2), (3, .int x3), (4, .int x4), (5, .int x5)] [] P μ R T := by
  refine me_go (pc1 := 136) (lv1 := [(6, .int 1), (0, .ref P.1), (1, .int x1), (2, .int x2), (3, .int x3), (4, .int x4), (5, .int x5)]) (st1 := []) 3 rfl ?_
  refine me_lv [(0, .ref P.1), (1, .int x1), (2, .int x2), (3, .int x3), (4, .int x4), (5, .int x5), (6, .int 1)] (fl_c rfl (fl_c rfl (fl_c rfl (fl_c rfl (fl_c rfl (fl_c rfl (fl_c rfl fl_0))))))) ?_
  exact h
theorem v_behind_136 {X : ev_X} {W : Nat → Prop} {d : Nat} {P : MP} {μ : MS} {R : Int32 → MS → Prop} {T : MS → Prop} (x1 : Int32) (x2 : Int32) (x3 : Int32) (x4 : Int32) (x5 : Int32) (x6 : Int32) (h : ((x6 = 0 → ME X W true d 457 156 [(0, .ref P.1), (1, .int x1), (2, .int x2), (3, .int x3), (4, .int x4), (5, .int x5), (6, .int x6)] [] P μ R T) ∧ (¬ x6 = 0 → (MI x4 (μ.2.2 99) ∧ ((¬ (μ.2.1 99 x4.toNatClampNeg) = 0 → ME X W true d 457 156 [(0, .ref P.1), (1, .int x1), (2, .int x2), (3, .int x3), (4, .int x4), (5, .int x5), (6, .int x6)] [] P μ R T) ∧ ((μ.2.1 99 x4.toNatClampNeg) = 0 → MC X W true d 446 [.ref P.1, .int 5] P μ (fun r1 μ1 => ME X W true d 457 156 [(0, .ref P.1), (1, .int x1), (2, .int x2), (3, .int x3), (4, .int x4), (5, .int x5), (6, .int x6)] [] P μ1 R T) T)))))) : ME X W true d 457 136 [(0, .ref P.1), (1, .int x1), (2, .int x2), (3, .int x3), (4, .int x4), (5, .int x5), (6, .int x6)] [] P μ R T := by
  refine me_go (pc1 := 138) (lv1 := [(0, .ref P.1), (1, .int x1), (2, .int x2), (3, .int x3), (4, .int x4), (5, .int x5), (6, .int x6)]) (st1 := [.int x6]) 1 rfl ?_
  refine me_ifc rfl rfl (fun c => ?_) (fun c => ?_)
  · replace h := h.1 (ci_eq c)
    exact h
  · replace h := h.2 (cn_eq c)
    refine me_go (pc1 := 142) (lv1 := [(0, .ref P.1), (1, .int x1), (2, .int x2), (3, .int x3), (4, .int x4), (5, .int x5), (6, .int x6)]) (st1 := [.ref P.1]) 1 rfl ?_
    refine me_getf (v := .ref (P.2.1 99)) rfl rfl rfl ?_
    refine me_go (pc1 := 147) (lv1 := [(0, .ref P.1), (1, .int x1), (2, .int x2), (3, .int x3), (4, .int x4), (5, .int x5), (6, .int x6)]) (st1 := [.int x4, .ref (P.2.1 99)]) 1 rfl ?_
    refine me_iald rfl (g := 99) rfl rfl h.1 ?_
    replace h := h.2
    refine me_ifc rfl rfl (fun c => ?_) (fun c => ?_)
    · replace h := h.1 (ci_ne c)
      exact h
    · replace h := h.2 (cn_ne c)
      refine me_go (pc1 := 153) (lv1 := [(0, .ref P.1), (1, .int x1), (2, .int x2), (3, .int x3), (4, .int x4), (5, .int x5), (6, .int x6)]) (st1 := [.int 5, .ref P.1]) 2 rfl ?_
      refine me_call rfl rfl rfl rfl (h.mono (fun r1 μ1 h => ?_) (fun _ h => h))
      exact h
theorem v_behind_156 {X : ev_X} {W : Nat → Prop} {d : Nat} {P : MP} {μ : MS} {R : Int32 → MS → Prop} {T : MS → Prop} (x1 : Int32) (x2 : Int32) (x3 : Int32) (x4 : Int32) (x5 : Int32) (x6 : Int32) (h : ((x6 = 0 → ME X W true d 457 180 [(0, .ref P.1), (1, .int x1), (2, .int x2), (3, .int x3), (4, .int x4), (5, .int x5), (6, .int x6)] [] P μ R T) ∧ (¬ x6 = 0 → (MI x4 (μ.2.2 99) ∧ (MI (μ.2.1 99 x4.toNatClampNeg) (μ.2.2 106) ∧ ME X W true d 457 180 [(0, .ref P.1), (1, .int x1), (2, .int x2), (3, .int x3), (4, .int (μ.2.1 106 ((μ.2.1 99 x4.toNatClampNeg)).toNatClampNeg)), (5, .int x5), (6, .int x6)] [] P μ R T))))) : ME X W true d 457 156 [(0, .ref P.1), (1, .int x1), (2, .int x2), (3, .int x3), (4, .int x4), (5, .int x5), (6, .int x6)] [] P μ R T := by
  refine me_go (pc1 := 158) (lv1 := [(0, .ref P.1), (1, .int x1), (2, .int x2), (3, .int x3), (4, .int x4), (5, .int x5), (6, .int x6)]) (st1 := [.int x6]) 1 rfl ?_
  refine me_ifc rfl rfl (fun c => ?_) (fun c => ?_)
  · replace h := h.1 (ci_eq c)
    refine me_go (pc1 := 180) (lv1 := [(4, .int x4), (0, .ref P.1), (1, .int x1), (2, .int x2), (3, .int x3), (5, .int x5), (6, .int x6)]) (st1 := []) 2 rfl ?_
    refine me_lv [(0, .ref P.1), (1, .int x1), (2, .int x2), (3, .int x3), (4, .int x4), (5, .int x5), (6, .int x6)] (fl_c rfl (fl_c rfl (fl_c rfl (fl_c rfl (fl_c rfl (fl_c rfl (fl_c rfl fl_0))))))) ?_
    exact h
  · replace h := h.2 (cn_eq c)
    refine me_go (pc1 := 162) (lv1 := [(0, .ref P.1), (1, .int x1), (2, .int x2), (3, .int x3), (4, .int x4), (5, .int x5), (6, .int x6)]) (st1 := [.ref P.1]) 1 rfl ?_
    refine me_getf (v := .ref (P.2.1 106)) rfl rfl rfl ?_
    refine me_go (pc1 := 166) (lv1 := [(0, .ref P.1), (1, .int x1), (2, .int x2), (3, .int x3), (4, .int x4), (5, .int x5), (6, .int x6)]) (st1 := [.ref P.1, .ref (P.2.1 106)]) 1 rfl ?_
    refine me_getf (v := .ref (P.2.1 99)) rfl rfl rfl ?_
    refine me_go (pc1 := 171) (lv1 := [(0, .ref P.1), (1, .int x1), (2, .int x2), (3, .int x3), (4, .int x4), (5, .int x5), (6, .int x6)]) (st1 := [.int x4, .ref (P.2.1 99), .ref (P.2.1 106)]) 1 rfl ?_
    refine me_iald rfl (g := 99) rfl rfl h.1 ?_
    replace h := h.2
    refine me_iald rfl (g := 106) rfl rfl h.1 ?_
    replace h := h.2
    refine me_go (pc1 := 180) (lv1 := [(4, .int (μ.2.1 106 ((μ.2.1 99 x4.toNatClampNeg)).toNatClampNeg)), (0, .ref P.1), (1, .int x1), (2, .int x2), (3, .int x3), (5, .int x5), (6, .int x6)]) (st1 := []) 2 rfl ?_
    refine me_lv [(0, .ref P.1), (1, .int x1), (2, .int x2), (3, .int x3), (4, .int (μ.2.1 106 ((μ.2.1 99 x4.toNatClampNeg)).toNatClampNeg)), (5, .int x5), (6, .int x6)] (fl_c rfl (fl_c rfl (fl_c rfl (fl_c rfl (fl_c rfl (fl_c rfl (fl_c rfl fl_0))))))) ?_
    exact h
theorem v_behind_180 {X : ev_X} {W : Nat → Prop} {d : Nat} {P : MP} {μ : MS} {R : Int32 → MS → Prop} {T : MS → Prop} (x1 : Int32) (x2 : Int32) (x3 : Int32) (x4 : Int32) (x5 : Int32) (x6 : Int32) (h : (MI x5 (μ.2.2 20) ∧ ((¬ (μ.2.1 20 x5.toNatClampNeg) = 71 → ME X W true d 457 208 [(0, .ref P.1), (1, .int x1), (2, .int x2), (3, .int x3), (4, .int (x4 + 0)), (5, .int x5), (6, .int x6)] [] P μ R T) ∧ ((μ.2.1 20 x5.toNatClampNeg) = 71 → (MI x5 (μ.2.2 25) ∧ ME X W true d 457 208 [(0, .ref P.1), (1, .int x1), (2, .int x2), (3, .int x3), (4, .int (x4 + (μ.2.1 25 x5.toNatClampNeg))), (5, .int x5), (6, .int x6)] [] P μ R T))))) : ME X W true d 457 180 [(0, .ref P.1), (1, .int x1), (2, .int x2), (3, .int x3), (4, .int x4), (5, .int x5), (6, .int x6)] [] P μ R T := by
  refine me_go (pc1 := 183) (lv1 := [(0, .ref P.1), (1, .int x1), (2, .int x2), (3, .int x3), (4, .int x4), (5, .int x5), (6, .int x6)]) (st1 := [.ref P.1, .int x4]) 2 rfl ?_
  refine me_getf (v := .ref (P.2.1 20)) rfl rfl rfl ?_
  refine me_go (pc1 := 188) (lv1 := [(0, .ref P.1), (1, .int x1), (2, .int x2), (3, .int x3), (4, .int x4), (5, .int x5), (6, .int x6)]) (st1 := [.int x5, .ref (P.2.1 20), .int x4]) 1 rfl ?_
  refine me_iald rfl (g := 20) rfl rfl h.1 ?_
  replace h := h.2
  refine me_go (pc1 := 191) (lv1 := [(0, .ref P.1), (1, .int x1), (2, .int x2), (3, .int x3), (4, .int x4), (5, .int x5), (6, .int x6)]) (st1 := [.int 71, .int (μ.2.1 20 x5.toNatClampNeg), .int x4]) 1 rfl ?_
  refine me_icmp rfl rfl (fun c => ?_) (fun c => ?_)
  · replace h := h.1 (ci_ne c)
    refine me_go (pc1 := 208) (lv1 := [(4, .int (x4 + 0)), (0, .ref P.1), (1, .int x1), (2, .int x2), (3, .int x3), (5, .int x5), (6, .int x6)]) (st1 := []) 3 rfl ?_
    refine me_lv [(0, .ref P.1), (1, .int x1), (2, .int x2), (3, .int x3), (4, .int (x4 + 0)), (5, .int x5), (6, .int x6)] (fl_c rfl (fl_c rfl (fl_c rfl (fl_c rfl (fl_c rfl (fl_c rfl (fl_c rfl fl_0))))))) ?_
    exact h
  · replace h := h.2 (cn_ne c)
    refine me_go (pc1 := 195) (lv1 := [(0, .ref P.1), (1, .int x1), (2, .int x2), (3, .int x3), (4, .int x4), (5, .int x5), (6, .int x6)]) (st1 := [.ref P.1, .int x4]) 1 rfl ?_
    refine me_getf (v := .ref (P.2.1 25)) rfl rfl rfl ?_
    refine me_go (pc1 := 200) (lv1 := [(0, .ref P.1), (1, .int x1), (2, .int x2), (3, .int x3), (4, .int x4), (5, .int x5), (6, .int x6)]) (st1 := [.int x5, .ref (P.2.1 25), .int x4]) 1 rfl ?_
    refine me_iald rfl (g := 25) rfl rfl h.1 ?_
    replace h := h.2
    refine me_go (pc1 := 208) (lv1 := [(4, .int (x4 + (μ.2.1 25 x5.toNatClampNeg))), (0, .ref P.1), (1, .int x1), (2, .int x2), (3, .int x3), (5, .int x5), (6, .int x6)]) (st1 := []) 3 rfl ?_
    refine me_lv [(0, .ref P.1), (1, .int x1), (2, .int x2), (3, .int x3), (4, .int (x4 + (μ.2.1 25 x5.toNatClampNeg))), (5, .int x5), (6, .int x6)] (fl_c rfl (fl_c rfl (fl_c rfl (fl_c rfl (fl_c rfl (fl_c rfl (fl_c rfl fl_0))))))) ?_
    exact h
theorem v_behind_208 {X : ev_X} {W : Nat → Prop} {d : Nat} {P : MP} {μ : MS} {R : Int32 → MS → Prop} {T : MS → Prop} (x1 : Int32) (x2 : Int32) (x3 : Int32) (x4 : Int32) (x5 : Int32) (x6 : Int32) (h : (MI x5 (μ.2.2 27) ∧ ME X W true d 457 6 [(0, .ref P.1), (1, .int x1), (2, .int x2), (3, .int x3), (4, .int x4), (5, .int (μ.2.1 27 x5.toNatClampNeg))] [] P μ R T)) : ME X W true d 457 208 [(0, .ref P.1), (1, .int x1), (2, .int x2), (3, .int x3), (4, .int x4), (5, .int x5), (6, .int x6)] [] P μ R T := by
  refine me_go (pc1 := 209) (lv1 := [(0, .ref P.1), (1, .int x1), (2, .int x2), (3, .int x3), (4, .int x4), (5, .int x5), (6, .int x6)]) (st1 := [.ref P.1]) 1 rfl ?_
  refine me_getf (v := .ref (P.2.1 27)) rfl rfl rfl ?_
  refine me_go (pc1 := 214) (lv1 := [(0, .ref P.1), (1, .int x1), (2, .int x2), (3, .int x3), (4, .int x4), (5, .int x5), (6, .int x6)]) (st1 := [.int x5, .ref (P.2.1 27)]) 1 rfl ?_
  refine me_iald rfl (g := 27) rfl rfl h.1 ?_
  replace h := h.2
  refine me_go (pc1 := 6) (lv1 := [(5, .int (μ.2.1 27 x5.toNatClampNeg)), (0, .ref P.1), (1, .int x1), (2, .int x2), (3, .int x3), (4, .int x4), (6, .int x6)]) (st1 := []) 2 rfl ?_
  refine me_lv [(0, .ref P.1), (1, .int x1), (2, .int x2), (3, .int x3), (4, .int x4), (5, .int (μ.2.1 27 x5.toNatClampNeg))] (fl_c rfl (fl_c rfl (fl_c rfl (fl_c rfl (fl_c rfl (fl_c rfl fl_0)))))) ?_
  exact h
theorem v_behind_220 {X : ev_X} {W : Nat → Prop} {d : Nat} {P : MP} {μ : MS} {R : Int32 → MS → Prop} {T : MS → Prop} (x1 : Int32) (x2 : Int32) (x3 : Int32) (x4 : Int32) (x5 : Int32) (h : R x4 μ) : ME X W true d 457 220 [(0, .ref P.1), (1, .int x1), (2, .int x2), (3, .int x3), (4, .int x4), (5, .int x5)] [] P μ R T := by
  refine me_go (pc1 := 222) (lv1 := [(0, .ref P.1), (1, .int x1), (2, .int x2), (3, .int x3), (4, .int x4), (5, .int x5)]) (st1 := [.int x4]) 1 rfl ?_
  exact me_ret rfl rfl rfl h
theorem v_isWide_0 {X : ev_X} {W : Nat → Prop} {d : Nat} {P : MP} {μ : MS} {R : Int32 → MS → Prop} {T : MS → Prop} (x1 : Int32) (h : ((x1.toInt < (0 : Int) → R 0 μ) ∧ ((0 : Int) ≤ x1.toInt → (MI x1 (μ.2.2 20) ∧ (((μ.2.1 20 x1.toNatClampNeg) = 28 → R 1 μ) ∧ (¬ (μ.2.1 20 x1.toNatClampNeg) = 28 → (MI x1 (μ.2.2 20) ∧ ((¬ (μ.2.1 20 x1.toNatClampNeg) = 29 → R 0 μ) ∧ ((μ.2.1 20 x1.toNatClampNeg) = 29 → R 1 μ))))))))) : ME X W true d 458 0 [(0, .ref P.1), (1, .int x1)] [] P μ R T := by
  refine me_go (pc1 := 1) (lv1 := [(0, .ref P.1), (1, .int x1)]) (st1 := [.int x1]) 1 rfl ?_
  refine me_ifc rfl rfl (fun c => ?_) (fun c => ?_)
  · replace h := h.1 (ci_lt c)
    refine me_go (pc1 := 31) (lv1 := [(0, .ref P.1), (1, .int x1)]) (st1 := [.int 0]) 1 rfl ?_
    exact me_retB rfl rfl (by decide) h
  · replace h := h.2 (cn_lt c)
    refine me_go (pc1 := 5) (lv1 := [(0, .ref P.1), (1, .int x1)]) (st1 := [.ref P.1]) 1 rfl ?_
    refine me_getf (v := .ref (P.2.1 20)) rfl rfl rfl ?_
    refine me_go (pc1 := 9) (lv1 := [(0, .ref P.1), (1, .int x1)]) (st1 := [.int x1, .ref (P.2.1 20)]) 1 rfl ?_
    refine me_iald rfl (g := 20) rfl rfl h.1 ?_
    replace h := h.2
    refine me_go (pc1 := 12) (lv1 := [(0, .ref P.1), (1, .int x1)]) (st1 := [.int 28, .int (μ.2.1 20 x1.toNatClampNeg)]) 1 rfl ?_
    refine me_icmp rfl rfl (fun c => ?_) (fun c => ?_)
    · replace h := h.1 (ci_eq c)
      refine me_go (pc1 := 31) (lv1 := [(0, .ref P.1), (1, .int x1)]) (st1 := [.int 1]) 2 rfl ?_
      exact me_retB rfl rfl (by decide) h
    · replace h := h.2 (cn_eq c)
      refine me_go (pc1 := 16) (lv1 := [(0, .ref P.1), (1, .int x1)]) (st1 := [.ref P.1]) 1 rfl ?_
      refine me_getf (v := .ref (P.2.1 20)) rfl rfl rfl ?_
      refine me_go (pc1 := 20) (lv1 := [(0, .ref P.1), (1, .int x1)]) (st1 := [.int x1, .ref (P.2.1 20)]) 1 rfl ?_
      refine me_iald rfl (g := 20) rfl rfl h.1 ?_
      replace h := h.2
      refine me_go (pc1 := 23) (lv1 := [(0, .ref P.1), (1, .int x1)]) (st1 := [.int 29, .int (μ.2.1 20 x1.toNatClampNeg)]) 1 rfl ?_
      refine me_icmp rfl rfl (fun c => ?_) (fun c => ?_)
      · replace h := h.1 (ci_ne c)
        refine me_go (pc1 := 31) (lv1 := [(0, .ref P.1), (1, .int x1)]) (st1 := [.int 0]) 1 rfl ?_
        exact me_retB rfl rfl (by decide) h
      · replace h := h.2 (cn_ne c)
        refine me_go (pc1 := 31) (lv1 := [(0, .ref P.1), (1, .int x1)]) (st1 := [.int 1]) 2 rfl ?_
        exact me_retB rfl rfl (by decide) h
theorem v_eval_0 {X : ev_X} {W : Nat → Prop} {d : Nat} {P : MP} {μ : MS} {R : Int32 → MS → Prop} {T : MS → Prop} (x1 : Int32) (h : (MI x1 (μ.2.2 20) ∧ ((((μ.2.1 20 x1.toNatClampNeg) = 75) → (MI x1 (μ.2.2 22) ∧ R (μ.2.1 22 x1.toNatClampNeg) μ)) ∧ (((μ.2.1 20 x1.toNatClampNeg) = 76) → R 1 μ) ∧ (((μ.2.1 20 x1.toNatClampNeg) = 77 ∨ (μ.2.1 20 x1.toNatClampNeg) = 78) → R 0 μ) ∧ (((μ.2.1 20 x1.toNatClampNeg) = 79) → (MI x1 (μ.2.2 88) ∧ MC X W true d 462 [.ref P.1, .int (μ.2.1 88 x1.toNatClampNeg)] P μ (fun r1 μ1 => R r1 μ1) T)) ∧ (((μ.2.1 20 x1.toNatClampNeg) = 80) → (MI x1 (μ.2.2 22) ∧ MC X W true d 459 [.ref P.1, .int (μ.2.1 22 x1.toNatClampNeg)] P μ (fun r2 μ2 => (MI x1 (μ2.2.2 23) ∧ MC X W true d 365 [.ref P.1, .int (μ2.2.1 23 x1.toNatClampNeg)] P μ2 (fun r3 μ3 => MC X W true d 454 [.ref P.1, .int r2, .int r3] P μ3 (fun r4 μ4 => ((r4 = 0 → R 0 μ4) ∧ (¬ r4 = 0 → R 1 μ4))) (fun _ => False)) (fun _ => False))) T)) ∧ (((μ.2.1 20 x1.toNatClampNeg) = 81) → (MI x1 (μ.2.2 22) ∧ MC X W true d 459 [.ref P.1, .int (μ.2.1 22 x1.toNatClampNeg)] P μ (fun r5 μ5 => (MI x1 (μ5.2.2 23) ∧ MC X W true d 365 [.ref P.1, .int (μ5.2.1 23 x1.toNatClampNeg)] P μ5 (fun r6 μ6 => MC X W true d 454 [.ref P.1, .int r5, .int r6] P μ6 (fun r7 μ7 => ((¬ r7 = 0 → ME X W true d 459 160 [(0, .ref P.1), (1, .int x1), (2, .int r5)] [] P μ7 R T) ∧ (r7 = 0 → MC X W true d 446 [.ref P.1, .int 6] P μ7 (fun r8 μ8 => ME X W true d 459 160 [(0, .ref P.1), (1, .int x1), (2, .int r5)] [] P μ8 R T) T))) (fun _ => False)) (fun _ => False))) T)) ∧ (((μ.2.1 20 x1.toNatClampNeg) = 82) → (MI x1 (μ.2.2 22) ∧ MC X W true d 459 [.ref P.1, .int (μ.2.1 22 x1.toNatClampNeg)] P μ (fun r9 μ9 => (MI x1 (μ9.2.2 23) ∧ ME X W true d 459 180 [(0, .ref P.1), (1, .int x1), (2, .int r9), (3, .int (μ9.2.1 23 x1.toNatClampNeg))] [] P μ9 R T)) T)) ∧ (((μ.2.1 20 x1.toNatClampNeg) = 84) → (MI x1 (μ.2.2 22) ∧ MC X W true d 459 [.ref P.1, .int (μ.2.1 22 x1.toNatClampNeg)] P μ (fun r10 μ10 => (MI x1 (μ10.2.2 23) ∧ MC X W true d 459 [.ref P.1, .int (μ10.2.1 23 x1.toNatClampNeg)] P μ10 (fun r11 μ11 => (MI x1 (μ11.2.2 24) ∧ MC X W true d 460 [.int (μ11.2.1 24 x1.toNatClampNeg), .int r10, .int r11] P μ11 (fun r12 μ12 => ((r12 = 0 → R 0 μ12) ∧ (¬ r12 = 0 → R 1 μ12))) (fun _ => False))) T)) T)) ∧ (((μ.2.1 20 x1.toNatClampNeg) = 85) → (MI x1 (μ.2.2 22) ∧ MC X W true d 459 [.ref P.1, .int (μ.2.1 22 x1.toNatClampNeg)] P μ (fun r13 μ13 => R (1 - r13) μ13) T)) ∧ (((μ.2.1 20 x1.toNatClampNeg) = 86) → (MI x1 (μ.2.2 22) ∧ MC X W true d 459 [.ref P.1, .int (μ.2.1 22 x1.toNatClampNeg)] P μ (fun r14 μ14 => ((¬ r14 = (-2147483648) → ME X W true d 459 296 [(0, .ref P.1), (1, .int x1), (2, .int r14)] [] P μ14 R T) ∧ (r14 = (-2147483648) → MC X W true d 446 [.ref P.1, .int 1] P μ14 (fun r15 μ15 => ME X W true d 459 296 [(0, .ref P.1), (1, .int x1), (2, .int r14)] [] P μ15 R T) T))) T)) ∧ ((∀ v ∈ [(75 : Int32), (76 : Int32), (77 : Int32), (78 : Int32), (79 : Int32), (80 : Int32), (81 : Int32), (82 : Int32), (84 : Int32), (85 : Int32), (86 : Int32)], ¬ (μ.2.1 20 x1.toNatClampNeg) = v) → (MI x1 (μ.2.2 24) ∧ ((¬ (μ.2.1 24 x1.toNatClampNeg) = 1 → MC X W true d 456 [.ref P.1, .int x1] P μ (fun r16 μ16 => (MI r16 (μ16.2.2 99) ∧ R (μ16.2.1 99 r16.toNatClampNeg) μ16)) T) ∧ ((μ.2.1 24 x1.toNatClampNeg) = 1 → (MI x1 (μ.2.2 28) ∧ R (μ.2.1 28 x1.toNatClampNeg) μ)))))))) : ME X W true d 459 0 [(0, .ref P.1), (1, .int x1)] [] P μ R T := by
  refine me_go (pc1 := 1) (lv1 := [(0, .ref P.1), (1, .int x1)]) (st1 := [.ref P.1]) 1 rfl ?_
  refine me_getf (v := .ref (P.2.1 20)) rfl rfl rfl ?_
  refine me_go (pc1 := 5) (lv1 := [(0, .ref P.1), (1, .int x1)]) (st1 := [.int x1, .ref (P.2.1 20)]) 1 rfl ?_
  refine me_iald rfl (g := 20) rfl rfl h.1 ?_
  replace h := h.2
  have hD := h
  have q6_0 : ((μ.2.1 20 x1.toNatClampNeg) = 75) → ME X W true d 459 68 [(0, .ref P.1), (1, .int x1)] [] P μ R T := fun c => by
      replace h := hD.1 c
      refine me_go (pc1 := 69) (lv1 := [(0, .ref P.1), (1, .int x1)]) (st1 := [.ref P.1]) 1 rfl ?_
      refine me_getf (v := .ref (P.2.1 22)) rfl rfl rfl ?_
      refine me_go (pc1 := 73) (lv1 := [(0, .ref P.1), (1, .int x1)]) (st1 := [.int x1, .ref (P.2.1 22)]) 1 rfl ?_
      refine me_iald rfl (g := 22) rfl rfl h.1 ?_
      replace h := h.2
      exact me_ret rfl rfl rfl h
  have q6_1 : ((μ.2.1 20 x1.toNatClampNeg) = 76) → ME X W true d 459 75 [(0, .ref P.1), (1, .int x1)] [] P μ R T := fun c => by
      replace h := hD.2.1 c
      refine me_go (pc1 := 76) (lv1 := [(0, .ref P.1), (1, .int x1)]) (st1 := [.int 1]) 1 rfl ?_
      exact me_ret rfl rfl rfl h
  have q6_2 : ((μ.2.1 20 x1.toNatClampNeg) = 77 ∨ (μ.2.1 20 x1.toNatClampNeg) = 78) → ME X W true d 459 77 [(0, .ref P.1), (1, .int x1)] [] P μ R T := fun c => by
      replace h := hD.2.2.1 c
      refine me_go (pc1 := 78) (lv1 := [(0, .ref P.1), (1, .int x1)]) (st1 := [.int 0]) 1 rfl ?_
      exact me_ret rfl rfl rfl h
  have q6_3 : ((μ.2.1 20 x1.toNatClampNeg) = 79) → ME X W true d 459 79 [(0, .ref P.1), (1, .int x1)] [] P μ R T := fun c => by
      replace h := hD.2.2.2.1 c
      refine me_go (pc1 := 81) (lv1 := [(0, .ref P.1), (1, .int x1)]) (st1 := [.ref P.1, .ref P.1]) 2 rfl ?_
      refine me_getf (v := .ref (P.2.1 88)) rfl rfl rfl ?_
      refine me_go (pc1 := 85) (lv1 := [(0, .ref P.1), (1, .int x1)]) (st1 := [.int x1, .ref (P.2.1 88), .ref P.1]) 1 rfl ?_
      refine me_iald rfl (g := 88) rfl rfl h.1 ?_
      replace h := h.2
      refine me_call rfl rfl rfl rfl (h.mono (fun r1 μ1 h => ?_) (fun _ h => h))
      exact me_ret rfl rfl rfl h
  have q6_4 : ((μ.2.1 20 x1.toNatClampNeg) = 80) → ME X W true d 459 90 [(0, .ref P.1), (1, .int x1)] [] P μ R T := fun c => by
      replace h := hD.2.2.2.2.1 c
      refine me_go (pc1 := 92) (lv1 := [(0, .ref P.1), (1, .int x1)]) (st1 := [.ref P.1, .ref P.1]) 2 rfl ?_
      refine me_getf (v := .ref (P.2.1 22)) rfl rfl rfl ?_
      refine me_go (pc1 := 96) (lv1 := [(0, .ref P.1), (1, .int x1)]) (st1 := [.int x1, .ref (P.2.1 22), .ref P.1]) 1 rfl ?_
      refine me_iald rfl (g := 22) rfl rfl h.1 ?_
      replace h := h.2
      refine me_call rfl rfl rfl rfl (h.mono (fun r2 μ2 h => ?_) (fun _ h => h))
      refine me_go (pc1 := 105) (lv1 := [(2, .int r2), (0, .ref P.1), (1, .int x1)]) (st1 := [.ref P.1, .ref P.1, .int r2, .ref P.1]) 5 rfl ?_
      refine me_getf (v := .ref (P.2.1 23)) rfl rfl rfl ?_
      refine me_go (pc1 := 109) (lv1 := [(2, .int r2), (0, .ref P.1), (1, .int x1)]) (st1 := [.int x1, .ref (P.2.1 23), .ref P.1, .int r2, .ref P.1]) 1 rfl ?_
      refine me_iald rfl (g := 23) rfl rfl h.1 ?_
      replace h := h.2
      refine me_callN rfl rfl rfl (h.mono (fun r3 μ3 h => ?_) (fun _ h => h))
      refine me_callN rfl rfl rfl (h.mono (fun r4 μ4 h => ?_) (fun _ h => h))
      refine me_ifc rfl rfl (fun c => ?_) (fun c => ?_)
      · replace h := h.1 (ci_eq c)
        refine me_go (pc1 := 124) (lv1 := [(2, .int r2), (0, .ref P.1), (1, .int x1)]) (st1 := [.int 0]) 1 rfl ?_
        exact me_ret rfl rfl rfl h
      · replace h := h.2 (cn_eq c)
        refine me_go (pc1 := 124) (lv1 := [(2, .int r2), (0, .ref P.1), (1, .int x1)]) (st1 := [.int 1]) 2 rfl ?_
        exact me_ret rfl rfl rfl h
  have q6_5 : ((μ.2.1 20 x1.toNatClampNeg) = 81) → ME X W true d 459 125 [(0, .ref P.1), (1, .int x1)] [] P μ R T := fun c => by
      replace h := hD.2.2.2.2.2.1 c
      refine me_go (pc1 := 127) (lv1 := [(0, .ref P.1), (1, .int x1)]) (st1 := [.ref P.1, .ref P.1]) 2 rfl ?_
      refine me_getf (v := .ref (P.2.1 22)) rfl rfl rfl ?_
      refine me_go (pc1 := 131) (lv1 := [(0, .ref P.1), (1, .int x1)]) (st1 := [.int x1, .ref (P.2.1 22), .ref P.1]) 1 rfl ?_
      refine me_iald rfl (g := 22) rfl rfl h.1 ?_
      replace h := h.2
      refine me_call rfl rfl rfl rfl (h.mono (fun r5 μ5 h => ?_) (fun _ h => h))
      refine me_go (pc1 := 140) (lv1 := [(2, .int r5), (0, .ref P.1), (1, .int x1)]) (st1 := [.ref P.1, .ref P.1, .int r5, .ref P.1]) 5 rfl ?_
      refine me_getf (v := .ref (P.2.1 23)) rfl rfl rfl ?_
      refine me_go (pc1 := 144) (lv1 := [(2, .int r5), (0, .ref P.1), (1, .int x1)]) (st1 := [.int x1, .ref (P.2.1 23), .ref P.1, .int r5, .ref P.1]) 1 rfl ?_
      refine me_iald rfl (g := 23) rfl rfl h.1 ?_
      replace h := h.2
      refine me_callN rfl rfl rfl (h.mono (fun r6 μ6 h => ?_) (fun _ h => h))
      refine me_callN rfl rfl rfl (h.mono (fun r7 μ7 h => ?_) (fun _ h => h))
      refine me_ifc rfl rfl (fun c => ?_) (fun c => ?_)
      · replace h := h.1 (ci_ne c)
        refine me_lv [(0, .ref P.1), (1, .int x1), (2, .int r5)] (fl_c rfl (fl_c rfl (fl_c rfl fl_0))) ?_
        exact h
      · replace h := h.2 (cn_ne c)
        refine me_go (pc1 := 157) (lv1 := [(2, .int r5), (0, .ref P.1), (1, .int x1)]) (st1 := [.int 6, .ref P.1]) 2 rfl ?_
        refine me_call rfl rfl rfl rfl (h.mono (fun r8 μ8 h => ?_) (fun _ h => h))
        refine me_lv [(0, .ref P.1), (1, .int x1), (2, .int r5)] (fl_c rfl (fl_c rfl (fl_c rfl fl_0))) ?_
        exact h
  have q6_6 : ((μ.2.1 20 x1.toNatClampNeg) = 82) → ME X W true d 459 162 [(0, .ref P.1), (1, .int x1)] [] P μ R T := fun c => by
      replace h := hD.2.2.2.2.2.2.1 c
      refine me_go (pc1 := 164) (lv1 := [(0, .ref P.1), (1, .int x1)]) (st1 := [.ref P.1, .ref P.1]) 2 rfl ?_
      refine me_getf (v := .ref (P.2.1 22)) rfl rfl rfl ?_
      refine me_go (pc1 := 168) (lv1 := [(0, .ref P.1), (1, .int x1)]) (st1 := [.int x1, .ref (P.2.1 22), .ref P.1]) 1 rfl ?_
      refine me_iald rfl (g := 22) rfl rfl h.1 ?_
      replace h := h.2
      refine me_call rfl rfl rfl rfl (h.mono (fun r9 μ9 h => ?_) (fun _ h => h))
      refine me_go (pc1 := 174) (lv1 := [(2, .int r9), (0, .ref P.1), (1, .int x1)]) (st1 := [.ref P.1]) 2 rfl ?_
      refine me_getf (v := .ref (P.2.1 23)) rfl rfl rfl ?_
      refine me_go (pc1 := 178) (lv1 := [(2, .int r9), (0, .ref P.1), (1, .int x1)]) (st1 := [.int x1, .ref (P.2.1 23)]) 1 rfl ?_
      refine me_iald rfl (g := 23) rfl rfl h.1 ?_
      replace h := h.2
      refine me_go (pc1 := 180) (lv1 := [(3, .int (μ9.2.1 23 x1.toNatClampNeg)), (2, .int r9), (0, .ref P.1), (1, .int x1)]) (st1 := []) 1 rfl ?_
      refine me_lv [(0, .ref P.1), (1, .int x1), (2, .int r9), (3, .int (μ9.2.1 23 x1.toNatClampNeg))] (fl_c rfl (fl_c rfl (fl_c rfl (fl_c rfl fl_0)))) ?_
      exact h
  have q6_7 : ((μ.2.1 20 x1.toNatClampNeg) = 84) → ME X W true d 459 218 [(0, .ref P.1), (1, .int x1)] [] P μ R T := fun c => by
      replace h := hD.2.2.2.2.2.2.2.1 c
      refine me_go (pc1 := 220) (lv1 := [(0, .ref P.1), (1, .int x1)]) (st1 := [.ref P.1, .ref P.1]) 2 rfl ?_
      refine me_getf (v := .ref (P.2.1 22)) rfl rfl rfl ?_
      refine me_go (pc1 := 224) (lv1 := [(0, .ref P.1), (1, .int x1)]) (st1 := [.int x1, .ref (P.2.1 22), .ref P.1]) 1 rfl ?_
      refine me_iald rfl (g := 22) rfl rfl h.1 ?_
      replace h := h.2
      refine me_call rfl rfl rfl rfl (h.mono (fun r10 μ10 h => ?_) (fun _ h => h))
      refine me_go (pc1 := 231) (lv1 := [(2, .int r10), (0, .ref P.1), (1, .int x1)]) (st1 := [.ref P.1, .ref P.1]) 3 rfl ?_
      refine me_getf (v := .ref (P.2.1 23)) rfl rfl rfl ?_
      refine me_go (pc1 := 235) (lv1 := [(2, .int r10), (0, .ref P.1), (1, .int x1)]) (st1 := [.int x1, .ref (P.2.1 23), .ref P.1]) 1 rfl ?_
      refine me_iald rfl (g := 23) rfl rfl h.1 ?_
      replace h := h.2
      refine me_call rfl rfl rfl rfl (h.mono (fun r11 μ11 h => ?_) (fun _ h => h))
      refine me_go (pc1 := 241) (lv1 := [(3, .int r11), (2, .int r10), (0, .ref P.1), (1, .int x1)]) (st1 := [.ref P.1]) 2 rfl ?_
      refine me_getf (v := .ref (P.2.1 24)) rfl rfl rfl ?_
      refine me_go (pc1 := 245) (lv1 := [(3, .int r11), (2, .int r10), (0, .ref P.1), (1, .int x1)]) (st1 := [.int x1, .ref (P.2.1 24)]) 1 rfl ?_
      refine me_iald rfl (g := 24) rfl rfl h.1 ?_
      replace h := h.2
      refine me_go (pc1 := 248) (lv1 := [(3, .int r11), (2, .int r10), (0, .ref P.1), (1, .int x1)]) (st1 := [.int r11, .int r10, .int (μ11.2.1 24 x1.toNatClampNeg)]) 2 rfl ?_
      refine me_cst rfl rfl rfl rfl (h.mono (fun r12 μ12 h => ?_) (fun _ h => h))
      refine me_ifc rfl rfl (fun c => ?_) (fun c => ?_)
      · replace h := h.1 (ci_eq c)
        refine me_go (pc1 := 259) (lv1 := [(3, .int r11), (2, .int r10), (0, .ref P.1), (1, .int x1)]) (st1 := [.int 0]) 1 rfl ?_
        exact me_ret rfl rfl rfl h
      · replace h := h.2 (cn_eq c)
        refine me_go (pc1 := 259) (lv1 := [(3, .int r11), (2, .int r10), (0, .ref P.1), (1, .int x1)]) (st1 := [.int 1]) 2 rfl ?_
        exact me_ret rfl rfl rfl h
  have q6_8 : ((μ.2.1 20 x1.toNatClampNeg) = 85) → ME X W true d 459 260 [(0, .ref P.1), (1, .int x1)] [] P μ R T := fun c => by
      replace h := hD.2.2.2.2.2.2.2.2.1 c
      refine me_go (pc1 := 263) (lv1 := [(0, .ref P.1), (1, .int x1)]) (st1 := [.ref P.1, .ref P.1, .int 1]) 3 rfl ?_
      refine me_getf (v := .ref (P.2.1 22)) rfl rfl rfl ?_
      refine me_go (pc1 := 267) (lv1 := [(0, .ref P.1), (1, .int x1)]) (st1 := [.int x1, .ref (P.2.1 22), .ref P.1, .int 1]) 1 rfl ?_
      refine me_iald rfl (g := 22) rfl rfl h.1 ?_
      replace h := h.2
      refine me_call rfl rfl rfl rfl (h.mono (fun r13 μ13 h => ?_) (fun _ h => h))
      refine me_go (pc1 := 272) (lv1 := [(0, .ref P.1), (1, .int x1)]) (st1 := [.int (1 - r13)]) 1 rfl ?_
      exact me_ret rfl rfl rfl h
  have q6_9 : ((μ.2.1 20 x1.toNatClampNeg) = 86) → ME X W true d 459 273 [(0, .ref P.1), (1, .int x1)] [] P μ R T := fun c => by
      replace h := hD.2.2.2.2.2.2.2.2.2.1 c
      refine me_go (pc1 := 275) (lv1 := [(0, .ref P.1), (1, .int x1)]) (st1 := [.ref P.1, .ref P.1]) 2 rfl ?_
      refine me_getf (v := .ref (P.2.1 22)) rfl rfl rfl ?_
      refine me_go (pc1 := 279) (lv1 := [(0, .ref P.1), (1, .int x1)]) (st1 := [.int x1, .ref (P.2.1 22), .ref P.1]) 1 rfl ?_
      refine me_iald rfl (g := 22) rfl rfl h.1 ?_
      replace h := h.2
      refine me_call rfl rfl rfl rfl (h.mono (fun r14 μ14 h => ?_) (fun _ h => h))
      refine me_go (pc1 := 285) (lv1 := [(2, .int r14), (0, .ref P.1), (1, .int x1)]) (st1 := [.int r14]) 2 rfl ?_
      refine me_ldcw rfl ?_
      refine me_icmp rfl rfl (fun c => ?_) (fun c => ?_)
      · replace h := h.1 (ci_ne c)
        refine me_lv [(0, .ref P.1), (1, .int x1), (2, .int r14)] (fl_c rfl (fl_c rfl (fl_c rfl fl_0))) ?_
        exact h
      · replace h := h.2 (cn_ne c)
        refine me_go (pc1 := 293) (lv1 := [(2, .int r14), (0, .ref P.1), (1, .int x1)]) (st1 := [.int 1, .ref P.1]) 2 rfl ?_
        refine me_call rfl rfl rfl rfl (h.mono (fun r15 μ15 h => ?_) (fun _ h => h))
        refine me_lv [(0, .ref P.1), (1, .int x1), (2, .int r14)] (fl_c rfl (fl_c rfl (fl_c rfl fl_0))) ?_
        exact h
  by_cases c : (μ.2.1 20 x1.toNatClampNeg) = 75
  · exact me_sw rfl c (t := 68) rfl (q6_0 (c))
  rename ¬ (μ.2.1 20 x1.toNatClampNeg) = 75 => n0
  by_cases c : (μ.2.1 20 x1.toNatClampNeg) = 76
  · exact me_sw rfl c (t := 75) rfl (q6_1 (c))
  rename ¬ (μ.2.1 20 x1.toNatClampNeg) = 76 => n1
  by_cases c : (μ.2.1 20 x1.toNatClampNeg) = 77
  · exact me_sw rfl c (t := 77) rfl (q6_2 (Or.inl c))
  rename ¬ (μ.2.1 20 x1.toNatClampNeg) = 77 => n2
  by_cases c : (μ.2.1 20 x1.toNatClampNeg) = 78
  · exact me_sw rfl c (t := 77) rfl (q6_2 (Or.inr (c)))
  rename ¬ (μ.2.1 20 x1.toNatClampNeg) = 78 => n3
  by_cases c : (μ.2.1 20 x1.toNatClampNeg) = 79
  · exact me_sw rfl c (t := 79) rfl (q6_3 (c))
  rename ¬ (μ.2.1 20 x1.toNatClampNeg) = 79 => n4
  by_cases c : (μ.2.1 20 x1.toNatClampNeg) = 80
  · exact me_sw rfl c (t := 90) rfl (q6_4 (c))
  rename ¬ (μ.2.1 20 x1.toNatClampNeg) = 80 => n5
  by_cases c : (μ.2.1 20 x1.toNatClampNeg) = 81
  · exact me_sw rfl c (t := 125) rfl (q6_5 (c))
  rename ¬ (μ.2.1 20 x1.toNatClampNeg) = 81 => n6
  by_cases c : (μ.2.1 20 x1.toNatClampNeg) = 82
  · exact me_sw rfl c (t := 162) rfl (q6_6 (c))
  rename ¬ (μ.2.1 20 x1.toNatClampNeg) = 82 => n7
  by_cases c : (μ.2.1 20 x1.toNatClampNeg) = 84
  · exact me_sw rfl c (t := 218) rfl (q6_7 (c))
  rename ¬ (μ.2.1 20 x1.toNatClampNeg) = 84 => n8
  by_cases c : (μ.2.1 20 x1.toNatClampNeg) = 85
  · exact me_sw rfl c (t := 260) rfl (q6_8 (c))
  rename ¬ (μ.2.1 20 x1.toNatClampNeg) = 85 => n9
  by_cases c : (μ.2.1 20 x1.toNatClampNeg) = 86
  · exact me_sw rfl c (t := 273) rfl (q6_9 (c))
  rename ¬ (μ.2.1 20 x1.toNatClampNeg) = 86 => n10
  have hk : ∀ v ∈ [(75 : Int32), (76 : Int32), (77 : Int32), (78 : Int32), (79 : Int32), (80 : Int32), (81 : Int32), (82 : Int32), (84 : Int32), (85 : Int32), (86 : Int32)], ¬ (μ.2.1 20 x1.toNatClampNeg) = v := fun v hv => by
    simp only [List.mem_cons, List.not_mem_nil, or_false] at hv
    rcases hv with rfl | rfl | rfl | rfl | rfl | rfl | rfl | rfl | rfl | rfl | rfl <;> assumption
  refine me_tsD (t := 299) rfl _ rfl rfl hk ?_
  replace h := hD.2.2.2.2.2.2.2.2.2.2 hk
  refine me_go (pc1 := 300) (lv1 := [(0, .ref P.1), (1, .int x1)]) (st1 := [.ref P.1]) 1 rfl ?_
  refine me_getf (v := .ref (P.2.1 24)) rfl rfl rfl ?_
  refine me_go (pc1 := 304) (lv1 := [(0, .ref P.1), (1, .int x1)]) (st1 := [.int x1, .ref (P.2.1 24)]) 1 rfl ?_
  refine me_iald rfl (g := 24) rfl rfl h.1 ?_
  replace h := h.2
  refine me_go (pc1 := 306) (lv1 := [(0, .ref P.1), (1, .int x1)]) (st1 := [.int 1, .int (μ.2.1 24 x1.toNatClampNeg)]) 1 rfl ?_
  refine me_icmp rfl rfl (fun c => ?_) (fun c => ?_)
  · replace h := h.1 (ci_ne c)
    refine me_go (pc1 := 317) (lv1 := [(0, .ref P.1), (1, .int x1)]) (st1 := [.ref P.1]) 1 rfl ?_
    refine me_getf (v := .ref (P.2.1 99)) rfl rfl rfl ?_
    refine me_go (pc1 := 322) (lv1 := [(0, .ref P.1), (1, .int x1)]) (st1 := [.int x1, .ref P.1, .ref (P.2.1 99)]) 2 rfl ?_
    refine me_call rfl rfl rfl rfl (h.mono (fun r16 μ16 h => ?_) (fun _ h => h))
    refine me_iald rfl (g := 99) rfl rfl h.1 ?_
    replace h := h.2
    exact me_ret rfl rfl rfl h
  · replace h := h.2 (cn_ne c)
    refine me_go (pc1 := 310) (lv1 := [(0, .ref P.1), (1, .int x1)]) (st1 := [.ref P.1]) 1 rfl ?_
    refine me_getf (v := .ref (P.2.1 28)) rfl rfl rfl ?_
    refine me_go (pc1 := 314) (lv1 := [(0, .ref P.1), (1, .int x1)]) (st1 := [.int x1, .ref (P.2.1 28)]) 1 rfl ?_
    refine me_iald rfl (g := 28) rfl rfl h.1 ?_
    replace h := h.2
    exact me_ret rfl rfl rfl h
theorem v_eval_160 {X : ev_X} {W : Nat → Prop} {d : Nat} {P : MP} {μ : MS} {R : Int32 → MS → Prop} {T : MS → Prop} (x1 : Int32) (x2 : Int32) (h : R x2 μ) : ME X W true d 459 160 [(0, .ref P.1), (1, .int x1), (2, .int x2)] [] P μ R T := by
  refine me_go (pc1 := 161) (lv1 := [(0, .ref P.1), (1, .int x1), (2, .int x2)]) (st1 := [.int x2]) 1 rfl ?_
  exact me_ret rfl rfl rfl h
theorem v_eval_180 {X : ev_X} {W : Nat → Prop} {d : Nat} {P : MP} {μ : MS} {R : Int32 → MS → Prop} {T : MS → Prop} (x1 : Int32) (x2 : Int32) (x3 : Int32) (h : ((x3.toInt < (0 : Int) → R x2 μ) ∧ ((0 : Int) ≤ x3.toInt → (MI x3 (μ.2.2 22) ∧ (MI x3 (μ.2.2 23) ∧ MC X W true d 459 [.ref P.1, .int (μ.2.1 23 x3.toNatClampNeg)] P μ (fun r1 μ1 => MC X W true d 461 [.ref P.1, .int (μ.2.1 22 x3.toNatClampNeg), .int x2, .int r1] P μ1 (fun r2 μ2 => (MI x3 (μ2.2.2 27) ∧ ME X W true d 459 180 [(0, .ref P.1), (1, .int x1), (2, .int r2), (3, .int (μ2.2.1 27 x3.toNatClampNeg))] [] P μ2 R T)) T) T))))) : ME X W true d 459 180 [(0, .ref P.1), (1, .int x1), (2, .int x2), (3, .int x3)] [] P μ R T := by
  refine me_go (pc1 := 181) (lv1 := [(0, .ref P.1), (1, .int x1), (2, .int x2), (3, .int x3)]) (st1 := [.int x3]) 1 rfl ?_
  refine me_ifc rfl rfl (fun c => ?_) (fun c => ?_)
  · replace h := h.1 (ci_lt c)
    refine me_go (pc1 := 217) (lv1 := [(0, .ref P.1), (1, .int x1), (2, .int x2), (3, .int x3)]) (st1 := [.int x2]) 1 rfl ?_
    exact me_ret rfl rfl rfl h
  · replace h := h.2 (cn_lt c)
    refine me_go (pc1 := 186) (lv1 := [(0, .ref P.1), (1, .int x1), (2, .int x2), (3, .int x3)]) (st1 := [.ref P.1, .ref P.1]) 2 rfl ?_
    refine me_getf (v := .ref (P.2.1 22)) rfl rfl rfl ?_
    refine me_go (pc1 := 190) (lv1 := [(0, .ref P.1), (1, .int x1), (2, .int x2), (3, .int x3)]) (st1 := [.int x3, .ref (P.2.1 22), .ref P.1]) 1 rfl ?_
    refine me_iald rfl (g := 22) rfl rfl h.1 ?_
    replace h := h.2
    refine me_go (pc1 := 194) (lv1 := [(0, .ref P.1), (1, .int x1), (2, .int x2), (3, .int x3)]) (st1 := [.ref P.1, .ref P.1, .int x2, .int (μ.2.1 22 x3.toNatClampNeg), .ref P.1]) 3 rfl ?_
    refine me_getf (v := .ref (P.2.1 23)) rfl rfl rfl ?_
    refine me_go (pc1 := 198) (lv1 := [(0, .ref P.1), (1, .int x1), (2, .int x2), (3, .int x3)]) (st1 := [.int x3, .ref (P.2.1 23), .ref P.1, .int x2, .int (μ.2.1 22 x3.toNatClampNeg), .ref P.1]) 1 rfl ?_
    refine me_iald rfl (g := 23) rfl rfl h.1 ?_
    replace h := h.2
    refine me_call rfl rfl rfl rfl (h.mono (fun r1 μ1 h => ?_) (fun _ h => h))
    refine me_call rfl rfl rfl rfl (h.mono (fun r2 μ2 h => ?_) (fun _ h => h))
    refine me_go (pc1 := 207) (lv1 := [(2, .int r2), (0, .ref P.1), (1, .int x1), (3, .int x3)]) (st1 := [.ref P.1]) 2 rfl ?_
    refine me_getf (v := .ref (P.2.1 27)) rfl rfl rfl ?_
    refine me_go (pc1 := 211) (lv1 := [(2, .int r2), (0, .ref P.1), (1, .int x1), (3, .int x3)]) (st1 := [.int x3, .ref (P.2.1 27)]) 1 rfl ?_
    refine me_iald rfl (g := 27) rfl rfl h.1 ?_
    replace h := h.2
    refine me_go (pc1 := 180) (lv1 := [(3, .int (μ2.2.1 27 x3.toNatClampNeg)), (2, .int r2), (0, .ref P.1), (1, .int x1)]) (st1 := []) 2 rfl ?_
    refine me_lv [(0, .ref P.1), (1, .int x1), (2, .int r2), (3, .int (μ2.2.1 27 x3.toNatClampNeg))] (fl_c rfl (fl_c rfl (fl_c rfl (fl_c rfl fl_0)))) ?_
    exact h
theorem v_eval_296 {X : ev_X} {W : Nat → Prop} {d : Nat} {P : MP} {μ : MS} {R : Int32 → MS → Prop} {T : MS → Prop} (x1 : Int32) (x2 : Int32) (h : R (-x2) μ) : ME X W true d 459 296 [(0, .ref P.1), (1, .int x1), (2, .int x2)] [] P μ R T := by
  refine me_go (pc1 := 298) (lv1 := [(0, .ref P.1), (1, .int x1), (2, .int x2)]) (st1 := [.int (-x2)]) 2 rfl ?_
  exact me_ret rfl rfl rfl h
theorem v_related_0 {X : ev_X} {W : Nat → Prop} {d : Nat} {P : MP} {μ : MS} {R : Int32 → MS → Prop} {T : MS → Prop} (x0 : Int32) (x1 : Int32) (x2 : Int32) (h : (((x0 = 112) → ((¬ x1 = x2 → R 0 μ) ∧ (x1 = x2 → R 1 μ))) ∧ ((x0 = 113) → ((x1 = x2 → R 0 μ) ∧ (¬ x1 = x2 → R 1 μ))) ∧ ((x0 = 114) → ((x2.toInt ≤ x1.toInt → R 0 μ) ∧ (x1.toInt < x2.toInt → R 1 μ))) ∧ ((x0 = 115) → ((x2.toInt < x1.toInt → R 0 μ) ∧ (x1.toInt ≤ x2.toInt → R 1 μ))) ∧ ((x0 = 116) → ((x1.toInt ≤ x2.toInt → R 0 μ) ∧ (x2.toInt < x1.toInt → R 1 μ))) ∧ ((∀ v ∈ [(112 : Int32), (113 : Int32), (114 : Int32), (115 : Int32), (116 : Int32)], ¬ x0 = v) → ((x1.toInt < x2.toInt → R 0 μ) ∧ (x2.toInt ≤ x1.toInt → R 1 μ))))) : ME X W true d 460 0 [(0, .int x0), (1, .int x1), (2, .int x2)] [] P μ R T := by
  refine me_go (pc1 := 1) (lv1 := [(0, .int x0), (1, .int x1), (2, .int x2)]) (st1 := [.int x0]) 1 rfl ?_
  have hD := h
  have q1_0 : (x0 = 112) → ME X W true d 460 36 [(0, .int x0), (1, .int x1), (2, .int x2)] [] P μ R T := fun c => by
      replace h := hD.1 c
      refine me_go (pc1 := 38) (lv1 := [(0, .int x0), (1, .int x1), (2, .int x2)]) (st1 := [.int x2, .int x1]) 2 rfl ?_
      refine me_icmp rfl rfl (fun c => ?_) (fun c => ?_)
      · replace h := h.1 (ci_ne c)
        refine me_go (pc1 := 46) (lv1 := [(0, .int x0), (1, .int x1), (2, .int x2)]) (st1 := [.int 0]) 1 rfl ?_
        exact me_retB rfl rfl (by decide) h
      · replace h := h.2 (cn_ne c)
        refine me_go (pc1 := 46) (lv1 := [(0, .int x0), (1, .int x1), (2, .int x2)]) (st1 := [.int 1]) 2 rfl ?_
        exact me_retB rfl rfl (by decide) h
  have q1_1 : (x0 = 113) → ME X W true d 460 47 [(0, .int x0), (1, .int x1), (2, .int x2)] [] P μ R T := fun c => by
      replace h := hD.2.1 c
      refine me_go (pc1 := 49) (lv1 := [(0, .int x0), (1, .int x1), (2, .int x2)]) (st1 := [.int x2, .int x1]) 2 rfl ?_
      refine me_icmp rfl rfl (fun c => ?_) (fun c => ?_)
      · replace h := h.1 (ci_eq c)
        refine me_go (pc1 := 57) (lv1 := [(0, .int x0), (1, .int x1), (2, .int x2)]) (st1 := [.int 0]) 1 rfl ?_
        exact me_retB rfl rfl (by decide) h
      · replace h := h.2 (cn_eq c)
        refine me_go (pc1 := 57) (lv1 := [(0, .int x0), (1, .int x1), (2, .int x2)]) (st1 := [.int 1]) 2 rfl ?_
        exact me_retB rfl rfl (by decide) h
  have q1_2 : (x0 = 114) → ME X W true d 460 58 [(0, .int x0), (1, .int x1), (2, .int x2)] [] P μ R T := fun c => by
      replace h := hD.2.2.1 c
      refine me_go (pc1 := 60) (lv1 := [(0, .int x0), (1, .int x1), (2, .int x2)]) (st1 := [.int x2, .int x1]) 2 rfl ?_
      refine me_icmp rfl rfl (fun c => ?_) (fun c => ?_)
      · replace h := h.1 (ci_ge c)
        refine me_go (pc1 := 68) (lv1 := [(0, .int x0), (1, .int x1), (2, .int x2)]) (st1 := [.int 0]) 1 rfl ?_
        exact me_retB rfl rfl (by decide) h
      · replace h := h.2 (cn_ge c)
        refine me_go (pc1 := 68) (lv1 := [(0, .int x0), (1, .int x1), (2, .int x2)]) (st1 := [.int 1]) 2 rfl ?_
        exact me_retB rfl rfl (by decide) h
  have q1_3 : (x0 = 115) → ME X W true d 460 69 [(0, .int x0), (1, .int x1), (2, .int x2)] [] P μ R T := fun c => by
      replace h := hD.2.2.2.1 c
      refine me_go (pc1 := 71) (lv1 := [(0, .int x0), (1, .int x1), (2, .int x2)]) (st1 := [.int x2, .int x1]) 2 rfl ?_
      refine me_icmp rfl rfl (fun c => ?_) (fun c => ?_)
      · replace h := h.1 (ci_gt c)
        refine me_go (pc1 := 79) (lv1 := [(0, .int x0), (1, .int x1), (2, .int x2)]) (st1 := [.int 0]) 1 rfl ?_
        exact me_retB rfl rfl (by decide) h
      · replace h := h.2 (cn_gt c)
        refine me_go (pc1 := 79) (lv1 := [(0, .int x0), (1, .int x1), (2, .int x2)]) (st1 := [.int 1]) 2 rfl ?_
        exact me_retB rfl rfl (by decide) h
  have q1_4 : (x0 = 116) → ME X W true d 460 80 [(0, .int x0), (1, .int x1), (2, .int x2)] [] P μ R T := fun c => by
      replace h := hD.2.2.2.2.1 c
      refine me_go (pc1 := 82) (lv1 := [(0, .int x0), (1, .int x1), (2, .int x2)]) (st1 := [.int x2, .int x1]) 2 rfl ?_
      refine me_icmp rfl rfl (fun c => ?_) (fun c => ?_)
      · replace h := h.1 (ci_le c)
        refine me_go (pc1 := 90) (lv1 := [(0, .int x0), (1, .int x1), (2, .int x2)]) (st1 := [.int 0]) 1 rfl ?_
        exact me_retB rfl rfl (by decide) h
      · replace h := h.2 (cn_le c)
        refine me_go (pc1 := 90) (lv1 := [(0, .int x0), (1, .int x1), (2, .int x2)]) (st1 := [.int 1]) 2 rfl ?_
        exact me_retB rfl rfl (by decide) h
  by_cases c : x0 = 112
  · exact me_sw rfl c (t := 36) rfl (q1_0 (c))
  rename ¬ x0 = 112 => n0
  by_cases c : x0 = 113
  · exact me_sw rfl c (t := 47) rfl (q1_1 (c))
  rename ¬ x0 = 113 => n1
  by_cases c : x0 = 114
  · exact me_sw rfl c (t := 58) rfl (q1_2 (c))
  rename ¬ x0 = 114 => n2
  by_cases c : x0 = 115
  · exact me_sw rfl c (t := 69) rfl (q1_3 (c))
  rename ¬ x0 = 115 => n3
  by_cases c : x0 = 116
  · exact me_sw rfl c (t := 80) rfl (q1_4 (c))
  rename ¬ x0 = 116 => n4
  have hk : ∀ v ∈ [(112 : Int32), (113 : Int32), (114 : Int32), (115 : Int32), (116 : Int32)], ¬ x0 = v := fun v hv => by
    simp only [List.mem_cons, List.not_mem_nil, or_false] at hv
    rcases hv with rfl | rfl | rfl | rfl | rfl <;> assumption
  refine me_tsD (t := 91) rfl _ rfl rfl hk ?_
  replace h := hD.2.2.2.2.2 hk
  refine me_go (pc1 := 93) (lv1 := [(0, .int x0), (1, .int x1), (2, .int x2)]) (st1 := [.int x2, .int x1]) 2 rfl ?_
  refine me_icmp rfl rfl (fun c => ?_) (fun c => ?_)
  · replace h := h.1 (ci_lt c)
    refine me_go (pc1 := 101) (lv1 := [(0, .int x0), (1, .int x1), (2, .int x2)]) (st1 := [.int 0]) 1 rfl ?_
    exact me_retB rfl rfl (by decide) h
  · replace h := h.2 (cn_lt c)
    refine me_go (pc1 := 101) (lv1 := [(0, .int x0), (1, .int x1), (2, .int x2)]) (st1 := [.int 1]) 2 rfl ?_
    exact me_retB rfl rfl (by decide) h
theorem v_reckon_0 {X : ev_X} {W : Nat → Prop} {d : Nat} {P : MP} {μ : MS} {R : Int32 → MS → Prop} {T : MS → Prop} (x1 : Int32) (x2 : Int32) (x3 : Int32) (h : (((x1 = 0) → R (x2 &&& x3) μ) ∧ ((x1 = 36) → R (x2 ||| x3) μ) ∧ ((x1 = 118) → (((lg_cmp (((x2).toInt64) + ((x3).toInt64)) ((((((x2).toInt64) + ((x3).toInt64)).toInt32)).toInt64)) = 0 → R ((((x2).toInt64) + ((x3).toInt64)).toInt32) μ) ∧ (¬ (lg_cmp (((x2).toInt64) + ((x3).toInt64)) ((((((x2).toInt64) + ((x3).toInt64)).toInt32)).toInt64)) = 0 → MC X W true d 446 [.ref P.1, .int 1] P μ (fun r1 μ1 => R ((((x2).toInt64) + ((x3).toInt64)).toInt32) μ1) T))) ∧ ((x1 = 119) → (((lg_cmp (((x2).toInt64) - ((x3).toInt64)) ((((((x2).toInt64) - ((x3).toInt64)).toInt32)).toInt64)) = 0 → R ((((x2).toInt64) - ((x3).toInt64)).toInt32) μ) ∧ (¬ (lg_cmp (((x2).toInt64) - ((x3).toInt64)) ((((((x2).toInt64) - ((x3).toInt64)).toInt32)).toInt64)) = 0 → MC X W true d 446 [.ref P.1, .int 1] P μ (fun r2 μ2 => R ((((x2).toInt64) - ((x3).toInt64)).toInt32) μ2) T))) ∧ ((x1 = 120) → (((lg_cmp (((x2).toInt64) * ((x3).toInt64)) ((((((x2).toInt64) * ((x3).toInt64)).toInt32)).toInt64)) = 0 → R ((((x2).toInt64) * ((x3).toInt64)).toInt32) μ) ∧ (¬ (lg_cmp (((x2).toInt64) * ((x3).toInt64)) ((((((x2).toInt64) * ((x3).toInt64)).toInt32)).toInt64)) = 0 → MC X W true d 446 [.ref P.1, .int 1] P μ (fun r3 μ3 => R ((((x2).toInt64) * ((x3).toInt64)).toInt32) μ3) T))) ∧ ((∀ v ∈ [(0 : Int32), (36 : Int32), (118 : Int32), (119 : Int32), (120 : Int32)], ¬ x1 = v) → ((¬ x3 = 0 → ((¬ x1 = 6 → ((1 ≤ d ∧ ¬ ((x3).toInt64) = 0) ∧ (((lg_cmp (jFM ((x2).toInt64) ((x3).toInt64)) ((((jFM ((x2).toInt64) ((x3).toInt64)).toInt32)).toInt64)) = 0 → R ((jFM ((x2).toInt64) ((x3).toInt64)).toInt32) μ) ∧ (¬ (lg_cmp (jFM ((x2).toInt64) ((x3).toInt64)) ((((jFM ((x2).toInt64) ((x3).toInt64)).toInt32)).toInt64)) = 0 → MC X W true d 446 [.ref P.1, .int 1] P μ (fun r4 μ4 => R ((jFM ((x2).toInt64) ((x3).toInt64)).toInt32) μ4) T)))) ∧ (x1 = 6 → ((1 ≤ d ∧ ¬ ((x3).toInt64) = 0) ∧ (((lg_cmp (jFD ((x2).toInt64) ((x3).toInt64)) ((((jFD ((x2).toInt64) ((x3).toInt64)).toInt32)).toInt64)) = 0 → R ((jFD ((x2).toInt64) ((x3).toInt64)).toInt32) μ) ∧ (¬ (lg_cmp (jFD ((x2).toInt64) ((x3).toInt64)) ((((jFD ((x2).toInt64) ((x3).toInt64)).toInt32)).toInt64)) = 0 → MC X W true d 446 [.ref P.1, .int 1] P μ (fun r5 μ5 => R ((jFD ((x2).toInt64) ((x3).toInt64)).toInt32) μ5) T)))))) ∧ (x3 = 0 → MC X W true d 446 [.ref P.1, .int 2] P μ (fun r6 μ6 => ((¬ x1 = 6 → ((1 ≤ d ∧ ¬ ((x3).toInt64) = 0) ∧ (((lg_cmp (jFM ((x2).toInt64) ((x3).toInt64)) ((((jFM ((x2).toInt64) ((x3).toInt64)).toInt32)).toInt64)) = 0 → R ((jFM ((x2).toInt64) ((x3).toInt64)).toInt32) μ6) ∧ (¬ (lg_cmp (jFM ((x2).toInt64) ((x3).toInt64)) ((((jFM ((x2).toInt64) ((x3).toInt64)).toInt32)).toInt64)) = 0 → MC X W true d 446 [.ref P.1, .int 1] P μ6 (fun r7 μ7 => R ((jFM ((x2).toInt64) ((x3).toInt64)).toInt32) μ7) T)))) ∧ (x1 = 6 → ((1 ≤ d ∧ ¬ ((x3).toInt64) = 0) ∧ (((lg_cmp (jFD ((x2).toInt64) ((x3).toInt64)) ((((jFD ((x2).toInt64) ((x3).toInt64)).toInt32)).toInt64)) = 0 → R ((jFD ((x2).toInt64) ((x3).toInt64)).toInt32) μ6) ∧ (¬ (lg_cmp (jFD ((x2).toInt64) ((x3).toInt64)) ((((jFD ((x2).toInt64) ((x3).toInt64)).toInt32)).toInt64)) = 0 → MC X W true d 446 [.ref P.1, .int 1] P μ6 (fun r8 μ8 => R ((jFD ((x2).toInt64) ((x3).toInt64)).toInt32) μ8) T)))))) T))))) : ME X W true d 461 0 [(0, .ref P.1), (1, .int x1), (2, .int x2), (3, .int x3)] [] P μ R T := by
  refine me_go (pc1 := 1) (lv1 := [(0, .ref P.1), (1, .int x1), (2, .int x2), (3, .int x3)]) (st1 := [.int x1]) 1 rfl ?_
  have hD := h
  have q1_0 : (x1 = 0) → ME X W true d 461 52 [(0, .ref P.1), (1, .int x1), (2, .int x2), (3, .int x3)] [] P μ R T := fun c => by
      replace h := hD.1 c
      refine me_go (pc1 := 55) (lv1 := [(0, .ref P.1), (1, .int x1), (2, .int x2), (3, .int x3)]) (st1 := [.int (x2 &&& x3)]) 3 rfl ?_
      exact me_ret rfl rfl rfl h
  have q1_1 : (x1 = 36) → ME X W true d 461 56 [(0, .ref P.1), (1, .int x1), (2, .int x2), (3, .int x3)] [] P μ R T := fun c => by
      replace h := hD.2.1 c
      refine me_go (pc1 := 59) (lv1 := [(0, .ref P.1), (1, .int x1), (2, .int x2), (3, .int x3)]) (st1 := [.int (x2 ||| x3)]) 3 rfl ?_
      exact me_ret rfl rfl rfl h
  have q1_2 : (x1 = 118) → ME X W true d 461 60 [(0, .ref P.1), (1, .int x1), (2, .int x2), (3, .int x3)] [] P μ R T := fun c => by
      replace h := hD.2.2.1 c
      refine me_go (pc1 := 131) (lv1 := [(4, .long (((x2).toInt64) + ((x3).toInt64))), (0, .ref P.1), (1, .int x1), (2, .int x2), (3, .int x3)]) (st1 := [.int (lg_cmp (((x2).toInt64) + ((x3).toInt64)) ((((((x2).toInt64) + ((x3).toInt64)).toInt32)).toInt64))]) 12 rfl ?_
      refine me_ifc rfl rfl (fun c => ?_) (fun c => ?_)
      · replace h := h.1 (ci_eq c)
        refine me_go (pc1 := 142) (lv1 := [(4, .long (((x2).toInt64) + ((x3).toInt64))), (0, .ref P.1), (1, .int x1), (2, .int x2), (3, .int x3)]) (st1 := [.int ((((x2).toInt64) + ((x3).toInt64)).toInt32)]) 2 rfl ?_
        exact me_ret rfl rfl rfl h
      · replace h := h.2 (cn_eq c)
        refine me_go (pc1 := 136) (lv1 := [(4, .long (((x2).toInt64) + ((x3).toInt64))), (0, .ref P.1), (1, .int x1), (2, .int x2), (3, .int x3)]) (st1 := [.int 1, .ref P.1]) 2 rfl ?_
        refine me_call rfl rfl rfl rfl (h.mono (fun r1 μ1 h => ?_) (fun _ h => h))
        refine me_go (pc1 := 142) (lv1 := [(4, .long (((x2).toInt64) + ((x3).toInt64))), (0, .ref P.1), (1, .int x1), (2, .int x2), (3, .int x3)]) (st1 := [.int ((((x2).toInt64) + ((x3).toInt64)).toInt32)]) 2 rfl ?_
        exact me_ret rfl rfl rfl h
  have q1_3 : (x1 = 119) → ME X W true d 461 70 [(0, .ref P.1), (1, .int x1), (2, .int x2), (3, .int x3)] [] P μ R T := fun c => by
      replace h := hD.2.2.2.1 c
      refine me_go (pc1 := 131) (lv1 := [(4, .long (((x2).toInt64) - ((x3).toInt64))), (0, .ref P.1), (1, .int x1), (2, .int x2), (3, .int x3)]) (st1 := [.int (lg_cmp (((x2).toInt64) - ((x3).toInt64)) ((((((x2).toInt64) - ((x3).toInt64)).toInt32)).toInt64))]) 12 rfl ?_
      refine me_ifc rfl rfl (fun c => ?_) (fun c => ?_)
      · replace h := h.1 (ci_eq c)
        refine me_go (pc1 := 142) (lv1 := [(4, .long (((x2).toInt64) - ((x3).toInt64))), (0, .ref P.1), (1, .int x1), (2, .int x2), (3, .int x3)]) (st1 := [.int ((((x2).toInt64) - ((x3).toInt64)).toInt32)]) 2 rfl ?_
        exact me_ret rfl rfl rfl h
      · replace h := h.2 (cn_eq c)
        refine me_go (pc1 := 136) (lv1 := [(4, .long (((x2).toInt64) - ((x3).toInt64))), (0, .ref P.1), (1, .int x1), (2, .int x2), (3, .int x3)]) (st1 := [.int 1, .ref P.1]) 2 rfl ?_
        refine me_call rfl rfl rfl rfl (h.mono (fun r2 μ2 h => ?_) (fun _ h => h))
        refine me_go (pc1 := 142) (lv1 := [(4, .long (((x2).toInt64) - ((x3).toInt64))), (0, .ref P.1), (1, .int x1), (2, .int x2), (3, .int x3)]) (st1 := [.int ((((x2).toInt64) - ((x3).toInt64)).toInt32)]) 2 rfl ?_
        exact me_ret rfl rfl rfl h
  have q1_4 : (x1 = 120) → ME X W true d 461 80 [(0, .ref P.1), (1, .int x1), (2, .int x2), (3, .int x3)] [] P μ R T := fun c => by
      replace h := hD.2.2.2.2.1 c
      refine me_go (pc1 := 131) (lv1 := [(4, .long (((x2).toInt64) * ((x3).toInt64))), (0, .ref P.1), (1, .int x1), (2, .int x2), (3, .int x3)]) (st1 := [.int (lg_cmp (((x2).toInt64) * ((x3).toInt64)) ((((((x2).toInt64) * ((x3).toInt64)).toInt32)).toInt64))]) 12 rfl ?_
      refine me_ifc rfl rfl (fun c => ?_) (fun c => ?_)
      · replace h := h.1 (ci_eq c)
        refine me_go (pc1 := 142) (lv1 := [(4, .long (((x2).toInt64) * ((x3).toInt64))), (0, .ref P.1), (1, .int x1), (2, .int x2), (3, .int x3)]) (st1 := [.int ((((x2).toInt64) * ((x3).toInt64)).toInt32)]) 2 rfl ?_
        exact me_ret rfl rfl rfl h
      · replace h := h.2 (cn_eq c)
        refine me_go (pc1 := 136) (lv1 := [(4, .long (((x2).toInt64) * ((x3).toInt64))), (0, .ref P.1), (1, .int x1), (2, .int x2), (3, .int x3)]) (st1 := [.int 1, .ref P.1]) 2 rfl ?_
        refine me_call rfl rfl rfl rfl (h.mono (fun r3 μ3 h => ?_) (fun _ h => h))
        refine me_go (pc1 := 142) (lv1 := [(4, .long (((x2).toInt64) * ((x3).toInt64))), (0, .ref P.1), (1, .int x1), (2, .int x2), (3, .int x3)]) (st1 := [.int ((((x2).toInt64) * ((x3).toInt64)).toInt32)]) 2 rfl ?_
        exact me_ret rfl rfl rfl h
  by_cases c : x1 = 0
  · exact me_sw rfl c (t := 52) rfl (q1_0 (c))
  rename ¬ x1 = 0 => n0
  by_cases c : x1 = 36
  · exact me_sw rfl c (t := 56) rfl (q1_1 (c))
  rename ¬ x1 = 36 => n1
  by_cases c : x1 = 118
  · exact me_sw rfl c (t := 60) rfl (q1_2 (c))
  rename ¬ x1 = 118 => n2
  by_cases c : x1 = 119
  · exact me_sw rfl c (t := 70) rfl (q1_3 (c))
  rename ¬ x1 = 119 => n3
  by_cases c : x1 = 120
  · exact me_sw rfl c (t := 80) rfl (q1_4 (c))
  rename ¬ x1 = 120 => n4
  have hk : ∀ v ∈ [(0 : Int32), (36 : Int32), (118 : Int32), (119 : Int32), (120 : Int32)], ¬ x1 = v := fun v hv => by
    simp only [List.mem_cons, List.not_mem_nil, or_false] at hv
    rcases hv with rfl | rfl | rfl | rfl | rfl <;> assumption
  refine me_lsD (t := 90) rfl _ rfl rfl hk ?_
  replace h := hD.2.2.2.2.2 hk
  refine me_go (pc1 := 91) (lv1 := [(0, .ref P.1), (1, .int x1), (2, .int x2), (3, .int x3)]) (st1 := [.int x3]) 1 rfl ?_
  refine me_ifc rfl rfl (fun c => ?_) (fun c => ?_)
  · replace h := h.1 (ci_ne c)
    refine me_go (pc1 := 102) (lv1 := [(0, .ref P.1), (1, .int x1), (2, .int x2), (3, .int x3)]) (st1 := [.int 6, .int x1]) 2 rfl ?_
    refine me_icmp rfl rfl (fun c => ?_) (fun c => ?_)
    · replace h := h.1 (ci_ne c)
      refine me_go (pc1 := 119) (lv1 := [(0, .ref P.1), (1, .int x1), (2, .int x2), (3, .int x3)]) (st1 := [.long (x3).toInt64, .long (x2).toInt64]) 4 rfl ?_
      refine me_fm rfl rfl h.1 ?_
      replace h := h.2
      refine me_go (pc1 := 131) (lv1 := [(4, .long (jFM ((x2).toInt64) ((x3).toInt64))), (0, .ref P.1), (1, .int x1), (2, .int x2), (3, .int x3)]) (st1 := [.int (lg_cmp (jFM ((x2).toInt64) ((x3).toInt64)) ((((jFM ((x2).toInt64) ((x3).toInt64)).toInt32)).toInt64))]) 6 rfl ?_
      refine me_ifc rfl rfl (fun c => ?_) (fun c => ?_)
      · replace h := h.1 (ci_eq c)
        refine me_go (pc1 := 142) (lv1 := [(4, .long (jFM ((x2).toInt64) ((x3).toInt64))), (0, .ref P.1), (1, .int x1), (2, .int x2), (3, .int x3)]) (st1 := [.int ((jFM ((x2).toInt64) ((x3).toInt64)).toInt32)]) 2 rfl ?_
        exact me_ret rfl rfl rfl h
      · replace h := h.2 (cn_eq c)
        refine me_go (pc1 := 136) (lv1 := [(4, .long (jFM ((x2).toInt64) ((x3).toInt64))), (0, .ref P.1), (1, .int x1), (2, .int x2), (3, .int x3)]) (st1 := [.int 1, .ref P.1]) 2 rfl ?_
        refine me_call rfl rfl rfl rfl (h.mono (fun r4 μ4 h => ?_) (fun _ h => h))
        refine me_go (pc1 := 142) (lv1 := [(4, .long (jFM ((x2).toInt64) ((x3).toInt64))), (0, .ref P.1), (1, .int x1), (2, .int x2), (3, .int x3)]) (st1 := [.int ((jFM ((x2).toInt64) ((x3).toInt64)).toInt32)]) 2 rfl ?_
        exact me_ret rfl rfl rfl h
    · replace h := h.2 (cn_ne c)
      refine me_go (pc1 := 109) (lv1 := [(0, .ref P.1), (1, .int x1), (2, .int x2), (3, .int x3)]) (st1 := [.long (x3).toInt64, .long (x2).toInt64]) 4 rfl ?_
      refine me_fd rfl rfl h.1 ?_
      replace h := h.2
      refine me_go (pc1 := 131) (lv1 := [(4, .long (jFD ((x2).toInt64) ((x3).toInt64))), (0, .ref P.1), (1, .int x1), (2, .int x2), (3, .int x3)]) (st1 := [.int (lg_cmp (jFD ((x2).toInt64) ((x3).toInt64)) ((((jFD ((x2).toInt64) ((x3).toInt64)).toInt32)).toInt64))]) 7 rfl ?_
      refine me_ifc rfl rfl (fun c => ?_) (fun c => ?_)
      · replace h := h.1 (ci_eq c)
        refine me_go (pc1 := 142) (lv1 := [(4, .long (jFD ((x2).toInt64) ((x3).toInt64))), (0, .ref P.1), (1, .int x1), (2, .int x2), (3, .int x3)]) (st1 := [.int ((jFD ((x2).toInt64) ((x3).toInt64)).toInt32)]) 2 rfl ?_
        exact me_ret rfl rfl rfl h
      · replace h := h.2 (cn_eq c)
        refine me_go (pc1 := 136) (lv1 := [(4, .long (jFD ((x2).toInt64) ((x3).toInt64))), (0, .ref P.1), (1, .int x1), (2, .int x2), (3, .int x3)]) (st1 := [.int 1, .ref P.1]) 2 rfl ?_
        refine me_call rfl rfl rfl rfl (h.mono (fun r5 μ5 h => ?_) (fun _ h => h))
        refine me_go (pc1 := 142) (lv1 := [(4, .long (jFD ((x2).toInt64) ((x3).toInt64))), (0, .ref P.1), (1, .int x1), (2, .int x2), (3, .int x3)]) (st1 := [.int ((jFD ((x2).toInt64) ((x3).toInt64)).toInt32)]) 2 rfl ?_
        exact me_ret rfl rfl rfl h
  · replace h := h.2 (cn_ne c)
    refine me_go (pc1 := 96) (lv1 := [(0, .ref P.1), (1, .int x1), (2, .int x2), (3, .int x3)]) (st1 := [.int 2, .ref P.1]) 2 rfl ?_
    refine me_call rfl rfl rfl rfl (h.mono (fun r6 μ6 h => ?_) (fun _ h => h))
    refine me_go (pc1 := 102) (lv1 := [(0, .ref P.1), (1, .int x1), (2, .int x2), (3, .int x3)]) (st1 := [.int 6, .int x1]) 2 rfl ?_
    refine me_icmp rfl rfl (fun c => ?_) (fun c => ?_)
    · replace h := h.1 (ci_ne c)
      refine me_go (pc1 := 119) (lv1 := [(0, .ref P.1), (1, .int x1), (2, .int x2), (3, .int x3)]) (st1 := [.long (x3).toInt64, .long (x2).toInt64]) 4 rfl ?_
      refine me_fm rfl rfl h.1 ?_
      replace h := h.2
      refine me_go (pc1 := 131) (lv1 := [(4, .long (jFM ((x2).toInt64) ((x3).toInt64))), (0, .ref P.1), (1, .int x1), (2, .int x2), (3, .int x3)]) (st1 := [.int (lg_cmp (jFM ((x2).toInt64) ((x3).toInt64)) ((((jFM ((x2).toInt64) ((x3).toInt64)).toInt32)).toInt64))]) 6 rfl ?_
      refine me_ifc rfl rfl (fun c => ?_) (fun c => ?_)
      · replace h := h.1 (ci_eq c)
        refine me_go (pc1 := 142) (lv1 := [(4, .long (jFM ((x2).toInt64) ((x3).toInt64))), (0, .ref P.1), (1, .int x1), (2, .int x2), (3, .int x3)]) (st1 := [.int ((jFM ((x2).toInt64) ((x3).toInt64)).toInt32)]) 2 rfl ?_
        exact me_ret rfl rfl rfl h
      · replace h := h.2 (cn_eq c)
        refine me_go (pc1 := 136) (lv1 := [(4, .long (jFM ((x2).toInt64) ((x3).toInt64))), (0, .ref P.1), (1, .int x1), (2, .int x2), (3, .int x3)]) (st1 := [.int 1, .ref P.1]) 2 rfl ?_
        refine me_call rfl rfl rfl rfl (h.mono (fun r7 μ7 h => ?_) (fun _ h => h))
        refine me_go (pc1 := 142) (lv1 := [(4, .long (jFM ((x2).toInt64) ((x3).toInt64))), (0, .ref P.1), (1, .int x1), (2, .int x2), (3, .int x3)]) (st1 := [.int ((jFM ((x2).toInt64) ((x3).toInt64)).toInt32)]) 2 rfl ?_
        exact me_ret rfl rfl rfl h
    · replace h := h.2 (cn_ne c)
      refine me_go (pc1 := 109) (lv1 := [(0, .ref P.1), (1, .int x1), (2, .int x2), (3, .int x3)]) (st1 := [.long (x3).toInt64, .long (x2).toInt64]) 4 rfl ?_
      refine me_fd rfl rfl h.1 ?_
      replace h := h.2
      refine me_go (pc1 := 131) (lv1 := [(4, .long (jFD ((x2).toInt64) ((x3).toInt64))), (0, .ref P.1), (1, .int x1), (2, .int x2), (3, .int x3)]) (st1 := [.int (lg_cmp (jFD ((x2).toInt64) ((x3).toInt64)) ((((jFD ((x2).toInt64) ((x3).toInt64)).toInt32)).toInt64))]) 7 rfl ?_
      refine me_ifc rfl rfl (fun c => ?_) (fun c => ?_)
      · replace h := h.1 (ci_eq c)
        refine me_go (pc1 := 142) (lv1 := [(4, .long (jFD ((x2).toInt64) ((x3).toInt64))), (0, .ref P.1), (1, .int x1), (2, .int x2), (3, .int x3)]) (st1 := [.int ((jFD ((x2).toInt64) ((x3).toInt64)).toInt32)]) 2 rfl ?_
        exact me_ret rfl rfl rfl h
      · replace h := h.2 (cn_eq c)
        refine me_go (pc1 := 136) (lv1 := [(4, .long (jFD ((x2).toInt64) ((x3).toInt64))), (0, .ref P.1), (1, .int x1), (2, .int x2), (3, .int x3)]) (st1 := [.int 1, .ref P.1]) 2 rfl ?_
        refine me_call rfl rfl rfl rfl (h.mono (fun r8 μ8 h => ?_) (fun _ h => h))
        refine me_go (pc1 := 142) (lv1 := [(4, .long (jFD ((x2).toInt64) ((x3).toInt64))), (0, .ref P.1), (1, .int x1), (2, .int x2), (3, .int x3)]) (st1 := [.int ((jFD ((x2).toInt64) ((x3).toInt64)).toInt32)]) 2 rfl ?_
        exact me_ret rfl rfl rfl h
theorem v_create_0 {X : ev_X} {W : Nat → Prop} {d : Nat} {P : MP} {μ : MS} {R : Int32 → MS → Prop} {T : MS → Prop} (x1 : Int32) (h : (MI x1 (μ.2.2 20) ∧ ((¬ (μ.2.1 20 x1.toNatClampNeg) = 30 → MC X W true d 367 [.ref P.1, .int x1] P μ (fun r1 μ1 => ((r1 = 0 → ME X W true d 462 48 [(0, .ref P.1), (1, .int x1), (2, .int 1)] [] P μ1 R T) ∧ (¬ r1 = 0 → MC X W true d 423 [.ref P.1, .int x1] P μ1 (fun r2 μ2 => MC X W true d 422 [.ref P.1, .int x1] P μ2 (fun r3 μ3 => ME X W true d 462 48 [(0, .ref P.1), (1, .int x1), (2, .int (r2 + r3))] [] P μ3 R T) (fun _ => False)) (fun _ => False)))) (fun _ => False)) ∧ ((μ.2.1 20 x1.toNatClampNeg) = 30 → (MI x1 (μ.2.2 22) ∧ MC X W true d 393 [.ref P.1, .int (μ.2.1 22 x1.toNatClampNeg)] P μ (fun r4 μ4 => ME X W true d 462 48 [(0, .ref P.1), (1, .int x1), (2, .int r4)] [] P μ4 R T) (fun _ => False)))))) : ME X W true d 462 0 [(0, .ref P.1), (1, .int x1)] [] P μ R T := by
  refine me_go (pc1 := 1) (lv1 := [(0, .ref P.1), (1, .int x1)]) (st1 := [.ref P.1]) 1 rfl ?_
  refine me_getf (v := .ref (P.2.1 20)) rfl rfl rfl ?_
  refine me_go (pc1 := 5) (lv1 := [(0, .ref P.1), (1, .int x1)]) (st1 := [.int x1, .ref (P.2.1 20)]) 1 rfl ?_
  refine me_iald rfl (g := 20) rfl rfl h.1 ?_
  replace h := h.2
  refine me_go (pc1 := 8) (lv1 := [(0, .ref P.1), (1, .int x1)]) (st1 := [.int 30, .int (μ.2.1 20 x1.toNatClampNeg)]) 1 rfl ?_
  refine me_icmp rfl rfl (fun c => ?_) (fun c => ?_)
  · replace h := h.1 (ci_ne c)
    refine me_go (pc1 := 26) (lv1 := [(0, .ref P.1), (1, .int x1)]) (st1 := [.int x1, .ref P.1]) 2 rfl ?_
    refine me_callN rfl rfl rfl (h.mono (fun r1 μ1 h => ?_) (fun _ h => h))
    refine me_ifc rfl rfl (fun c => ?_) (fun c => ?_)
    · replace h := h.1 (ci_eq c)
      refine me_go (pc1 := 48) (lv1 := [(2, .int 1), (0, .ref P.1), (1, .int x1)]) (st1 := []) 2 rfl ?_
      refine me_lv [(0, .ref P.1), (1, .int x1), (2, .int 1)] (fl_c rfl (fl_c rfl (fl_c rfl fl_0))) ?_
      exact h
    · replace h := h.2 (cn_eq c)
      refine me_go (pc1 := 34) (lv1 := [(0, .ref P.1), (1, .int x1)]) (st1 := [.int x1, .ref P.1]) 2 rfl ?_
      refine me_callN rfl rfl rfl (h.mono (fun r2 μ2 h => ?_) (fun _ h => h))
      refine me_go (pc1 := 39) (lv1 := [(0, .ref P.1), (1, .int x1)]) (st1 := [.int x1, .ref P.1, .int r2]) 2 rfl ?_
      refine me_callN rfl rfl rfl (h.mono (fun r3 μ3 h => ?_) (fun _ h => h))
      refine me_go (pc1 := 48) (lv1 := [(2, .int (r2 + r3)), (0, .ref P.1), (1, .int x1)]) (st1 := []) 3 rfl ?_
      refine me_lv [(0, .ref P.1), (1, .int x1), (2, .int (r2 + r3))] (fl_c rfl (fl_c rfl (fl_c rfl fl_0))) ?_
      exact h
  · replace h := h.2 (cn_ne c)
    refine me_go (pc1 := 13) (lv1 := [(0, .ref P.1), (1, .int x1)]) (st1 := [.ref P.1, .ref P.1]) 2 rfl ?_
    refine me_getf (v := .ref (P.2.1 22)) rfl rfl rfl ?_
    refine me_go (pc1 := 17) (lv1 := [(0, .ref P.1), (1, .int x1)]) (st1 := [.int x1, .ref (P.2.1 22), .ref P.1]) 1 rfl ?_
    refine me_iald rfl (g := 22) rfl rfl h.1 ?_
    replace h := h.2
    refine me_callN rfl rfl rfl (h.mono (fun r4 μ4 h => ?_) (fun _ h => h))
    refine me_go (pc1 := 48) (lv1 := [(2, .int r4), (0, .ref P.1), (1, .int x1)]) (st1 := []) 2 rfl ?_
    refine me_lv [(0, .ref P.1), (1, .int x1), (2, .int r4)] (fl_c rfl (fl_c rfl (fl_c rfl fl_0))) ?_
    exact h
theorem v_create_48 {X : ev_X} {W : Nat → Prop} {d : Nat} {P : MP} {μ : MS} {R : Int32 → MS → Prop} {T : MS → Prop} (x1 : Int32) (x2 : Int32) (h : (((μ.1 103) = 2000 → ME X W true d 462 70 [(0, .ref P.1), (1, .int x1), (2, .int x2)] [] P μ R T) ∧ (¬ (μ.1 103) = 2000 → ((((μ.1 104) + x2).toInt ≤ (20000 : Int) → ME X W true d 462 76 [(0, .ref P.1), (1, .int x1), (2, .int x2)] [] P μ R T) ∧ ((20000 : Int) < ((μ.1 104) + x2).toInt → ME X W true d 462 70 [(0, .ref P.1), (1, .int x1), (2, .int x2)] [] P μ R T))))) : ME X W true d 462 48 [(0, .ref P.1), (1, .int x1), (2, .int x2)] [] P μ R T := by
  refine me_go (pc1 := 49) (lv1 := [(0, .ref P.1), (1, .int x1), (2, .int x2)]) (st1 := [.ref P.1]) 1 rfl ?_
  refine me_getf (v := .int (μ.1 103)) rfl rfl rfl ?_
  refine me_go (pc1 := 55) (lv1 := [(0, .ref P.1), (1, .int x1), (2, .int x2)]) (st1 := [.int 2000, .int (μ.1 103)]) 1 rfl ?_
  refine me_icmp rfl rfl (fun c => ?_) (fun c => ?_)
  · replace h := h.1 (ci_eq c)
    exact h
  · replace h := h.2 (cn_eq c)
    refine me_go (pc1 := 59) (lv1 := [(0, .ref P.1), (1, .int x1), (2, .int x2)]) (st1 := [.ref P.1]) 1 rfl ?_
    refine me_getf (v := .int (μ.1 104)) rfl rfl rfl ?_
    refine me_go (pc1 := 67) (lv1 := [(0, .ref P.1), (1, .int x1), (2, .int x2)]) (st1 := [.int 20000, .int ((μ.1 104) + x2)]) 3 rfl ?_
    refine me_icmp rfl rfl (fun c => ?_) (fun c => ?_)
    · replace h := h.1 (ci_le c)
      exact h
    · replace h := h.2 (cn_le c)
      exact h
theorem v_create_70 {X : ev_X} {W : Nat → Prop} {d : Nat} {P : MP} {μ : MS} {R : Int32 → MS → Prop} {T : MS → Prop} (x1 : Int32) (x2 : Int32) (h : MC X W true d 446 [.ref P.1, .int 9] P μ (fun r1 μ1 => ME X W true d 462 76 [(0, .ref P.1), (1, .int x1), (2, .int x2)] [] P μ1 R T) T) : ME X W true d 462 70 [(0, .ref P.1), (1, .int x1), (2, .int x2)] [] P μ R T := by
  refine me_go (pc1 := 73) (lv1 := [(0, .ref P.1), (1, .int x1), (2, .int x2)]) (st1 := [.int 9, .ref P.1]) 2 rfl ?_
  refine me_call rfl rfl rfl rfl (h.mono (fun r1 μ1 h => ?_) (fun _ h => h))
  exact h
theorem v_create_76 {X : ev_X} {W : Nat → Prop} {d : Nat} {P : MP} {μ : MS} {R : Int32 → MS → Prop} {T : MS → Prop} (x1 : Int32) (x2 : Int32) (h : (MI x1 (μ.2.2 20) ∧ (((μ.2.1 20 x1.toNatClampNeg) = 30 → (MI ((μ.1 103) + 1) (μ.2.2 105) ∧ (MI ((μ.1 103) + 1) (μ.2.2 106) ∧ (MI ((μ.1 103) + 1) (μ.2.2 107) ∧ (MI x1 (μ.2.2 20) ∧ ((¬ (μ.2.1 20 x1.toNatClampNeg) = 23 → (MI ((μ.1 103) + 1) (μ.2.2 108) ∧ (MI x1 (μ.2.2 20) ∧ ((¬ (μ.2.1 20 x1.toNatClampNeg) = 24 → (MI ((μ.1 103) + 1) (μ.2.2 109) ∧ (MI x1 (μ.2.2 20) ∧ ((¬ (μ.2.1 20 x1.toNatClampNeg) = 30 → MC X W true d 367 [.ref P.1, .int x1] P (mS1 (mA1 (mA1 (mA1 (mA1 (mA1 (mS1 μ 103 ((μ.1 103) + 1)) 105 ((((μ.1 103) + 1)).toNatClampNeg) x1) 106 ((((μ.1 103) + 1)).toNatClampNeg) (5100 + (μ.1 104))) 107 ((((μ.1 103) + 1)).toNatClampNeg) x2) 108 ((((μ.1 103) + 1)).toNatClampNeg) (-2)) 109 ((((μ.1 103) + 1)).toNatClampNeg) 0) 104 ((μ.1 104) + x2)) (fun r1 μ1 => ((r1 = 0 → (MI ((μ.1 103) + 1) (μ1.2.2 106) ∧ (MI (μ1.2.1 106 (((μ.1 103) + 1)).toNatClampNeg) (μ1.2.2 99) ∧ ME X W true d 462 263 [(0, .ref P.1), (1, .int x1), (2, .int x2), (3, .int ((μ.1 103) + 1))] [] P (mA1 μ1 99 (((μ1.2.1 106 (((μ.1 103) + 1)).toNatClampNeg)).toNatClampNeg) 0) R T))) ∧ (¬ r1 = 0 → (MI ((μ.1 103) + 1) (μ1.2.2 106) ∧ MC X W true d 463 [.ref P.1, .int x1, .int (μ1.2.1 106 (((μ.1 103) + 1)).toNatClampNeg)] P μ1 (fun r2 μ2 => ME X W true d 462 263 [(0, .ref P.1), (1, .int x1), (2, .int x2), (3, .int ((μ.1 103) + 1))] [] P μ2 R T) (fun _ => False))))) (fun _ => False)) ∧ ((μ.2.1 20 x1.toNatClampNeg) = 30 → (MI x1 (μ.2.2 22) ∧ (MI ((μ.1 103) + 1) (μ.2.2 106) ∧ MC X W true d 452 [.ref P.1, .int (μ.2.1 22 x1.toNatClampNeg), .int (upd (μ.2.1 106) ((((μ.1 103) + 1)).toNatClampNeg) (5100 + (μ.1 104)) (((μ.1 103) + 1)).toNatClampNeg)] P (mS1 (mA1 (mA1 (mA1 (mA1 (mA1 (mS1 μ 103 ((μ.1 103) + 1)) 105 ((((μ.1 103) + 1)).toNatClampNeg) x1) 106 ((((μ.1 103) + 1)).toNatClampNeg) (5100 + (μ.1 104))) 107 ((((μ.1 103) + 1)).toNatClampNeg) x2) 108 ((((μ.1 103) + 1)).toNatClampNeg) (-2)) 109 ((((μ.1 103) + 1)).toNatClampNeg) 0) 104 ((μ.1 104) + x2)) (fun r3 μ3 => ME X W true d 462 263 [(0, .ref P.1), (1, .int x1), (2, .int x2), (3, .int ((μ.1 103) + 1))] [] P μ3 R T) (fun _ => False)))))))) ∧ ((μ.2.1 20 x1.toNatClampNeg) = 24 → (MI ((μ.1 103) + 1) (μ.2.2 109) ∧ (MI x1 (μ.2.2 20) ∧ ((¬ (μ.2.1 20 x1.toNatClampNeg) = 30 → MC X W true d 367 [.ref P.1, .int x1] P (mS1 (mA1 (mA1 (mA1 (mA1 (mA1 (mS1 μ 103 ((μ.1 103) + 1)) 105 ((((μ.1 103) + 1)).toNatClampNeg) x1) 106 ((((μ.1 103) + 1)).toNatClampNeg) (5100 + (μ.1 104))) 107 ((((μ.1 103) + 1)).toNatClampNeg) x2) 108 ((((μ.1 103) + 1)).toNatClampNeg) (-2)) 109 ((((μ.1 103) + 1)).toNatClampNeg) 1) 104 ((μ.1 104) + x2)) (fun r4 μ4 => ((r4 = 0 → (MI ((μ.1 103) + 1) (μ4.2.2 106) ∧ (MI (μ4.2.1 106 (((μ.1 103) + 1)).toNatClampNeg) (μ4.2.2 99) ∧ ME X W true d 462 263 [(0, .ref P.1), (1, .int x1), (2, .int x2), (3, .int ((μ.1 103) + 1))] [] P (mA1 μ4 99 (((μ4.2.1 106 (((μ.1 103) + 1)).toNatClampNeg)).toNatClampNeg) 0) R T))) ∧ (¬ r4 = 0 → (MI ((μ.1 103) + 1) (μ4.2.2 106) ∧ MC X W true d 463 [.ref P.1, .int x1, .int (μ4.2.1 106 (((μ.1 103) + 1)).toNatClampNeg)] P μ4 (fun r5 μ5 => ME X W true d 462 263 [(0, .ref P.1), (1, .int x1), (2, .int x2), (3, .int ((μ.1 103) + 1))] [] P μ5 R T) (fun _ => False))))) (fun _ => False)) ∧ ((μ.2.1 20 x1.toNatClampNeg) = 30 → (MI x1 (μ.2.2 22) ∧ (MI ((μ.1 103) + 1) (μ.2.2 106) ∧ MC X W true d 452 [.ref P.1, .int (μ.2.1 22 x1.toNatClampNeg), .int (upd (μ.2.1 106) ((((μ.1 103) + 1)).toNatClampNeg) (5100 + (μ.1 104)) (((μ.1 103) + 1)).toNatClampNeg)] P (mS1 (mA1 (mA1 (mA1 (mA1 (mA1 (mS1 μ 103 ((μ.1 103) + 1)) 105 ((((μ.1 103) + 1)).toNatClampNeg) x1) 106 ((((μ.1 103) + 1)).toNatClampNeg) (5100 + (μ.1 104))) 107 ((((μ.1 103) + 1)).toNatClampNeg) x2) 108 ((((μ.1 103) + 1)).toNatClampNeg) (-2)) 109 ((((μ.1 103) + 1)).toNatClampNeg) 1) 104 ((μ.1 104) + x2)) (fun r6 μ6 => ME X W true d 462 263 [(0, .ref P.1), (1, .int x1), (2, .int x2), (3, .int ((μ.1 103) + 1))] [] P μ6 R T) (fun _ => False)))))))))))) ∧ ((μ.2.1 20 x1.toNatClampNeg) = 23 → (MI ((μ.1 103) + 1) (μ.2.2 108) ∧ (MI x1 (μ.2.2 20) ∧ ((¬ (μ.2.1 20 x1.toNatClampNeg) = 24 → (MI ((μ.1 103) + 1) (μ.2.2 109) ∧ (MI x1 (μ.2.2 20) ∧ ((¬ (μ.2.1 20 x1.toNatClampNeg) = 30 → MC X W true d 367 [.ref P.1, .int x1] P (mS1 (mA1 (mA1 (mA1 (mA1 (mA1 (mS1 μ 103 ((μ.1 103) + 1)) 105 ((((μ.1 103) + 1)).toNatClampNeg) x1) 106 ((((μ.1 103) + 1)).toNatClampNeg) (5100 + (μ.1 104))) 107 ((((μ.1 103) + 1)).toNatClampNeg) x2) 108 ((((μ.1 103) + 1)).toNatClampNeg) (-1)) 109 ((((μ.1 103) + 1)).toNatClampNeg) 0) 104 ((μ.1 104) + x2)) (fun r7 μ7 => ((r7 = 0 → (MI ((μ.1 103) + 1) (μ7.2.2 106) ∧ (MI (μ7.2.1 106 (((μ.1 103) + 1)).toNatClampNeg) (μ7.2.2 99) ∧ ME X W true d 462 263 [(0, .ref P.1), (1, .int x1), (2, .int x2), (3, .int ((μ.1 103) + 1))] [] P (mA1 μ7 99 (((μ7.2.1 106 (((μ.1 103) + 1)).toNatClampNeg)).toNatClampNeg) 0) R T))) ∧ (¬ r7 = 0 → (MI ((μ.1 103) + 1) (μ7.2.2 106) ∧ MC X W true d 463 [.ref P.1, .int x1, .int (μ7.2.1 106 (((μ.1 103) + 1)).toNatClampNeg)] P μ7 (fun r8 μ8 => ME X W true d 462 263 [(0, .ref P.1), (1, .int x1), (2, .int x2), (3, .int ((μ.1 103) + 1))] [] P μ8 R T) (fun _ => False))))) (fun _ => False)) ∧ ((μ.2.1 20 x1.toNatClampNeg) = 30 → (MI x1 (μ.2.2 22) ∧ (MI ((μ.1 103) + 1) (μ.2.2 106) ∧ MC X W true d 452 [.ref P.1, .int (μ.2.1 22 x1.toNatClampNeg), .int (upd (μ.2.1 106) ((((μ.1 103) + 1)).toNatClampNeg) (5100 + (μ.1 104)) (((μ.1 103) + 1)).toNatClampNeg)] P (mS1 (mA1 (mA1 (mA1 (mA1 (mA1 (mS1 μ 103 ((μ.1 103) + 1)) 105 ((((μ.1 103) + 1)).toNatClampNeg) x1) 106 ((((μ.1 103) + 1)).toNatClampNeg) (5100 + (μ.1 104))) 107 ((((μ.1 103) + 1)).toNatClampNeg) x2) 108 ((((μ.1 103) + 1)).toNatClampNeg) (-1)) 109 ((((μ.1 103) + 1)).toNatClampNeg) 0) 104 ((μ.1 104) + x2)) (fun r9 μ9 => ME X W true d 462 263 [(0, .ref P.1), (1, .int x1), (2, .int x2), (3, .int ((μ.1 103) + 1))] [] P μ9 R T) (fun _ => False)))))))) ∧ ((μ.2.1 20 x1.toNatClampNeg) = 24 → (MI ((μ.1 103) + 1) (μ.2.2 109) ∧ (MI x1 (μ.2.2 20) ∧ ((¬ (μ.2.1 20 x1.toNatClampNeg) = 30 → MC X W true d 367 [.ref P.1, .int x1] P (mS1 (mA1 (mA1 (mA1 (mA1 (mA1 (mS1 μ 103 ((μ.1 103) + 1)) 105 ((((μ.1 103) + 1)).toNatClampNeg) x1) 106 ((((μ.1 103) + 1)).toNatClampNeg) (5100 + (μ.1 104))) 107 ((((μ.1 103) + 1)).toNatClampNeg) x2) 108 ((((μ.1 103) + 1)).toNatClampNeg) (-1)) 109 ((((μ.1 103) + 1)).toNatClampNeg) 1) 104 ((μ.1 104) + x2)) (fun r10 μ10 => ((r10 = 0 → (MI ((μ.1 103) + 1) (μ10.2.2 106) ∧ (MI (μ10.2.1 106 (((μ.1 103) + 1)).toNatClampNeg) (μ10.2.2 99) ∧ ME X W true d 462 263 [(0, .ref P.1), (1, .int x1), (2, .int x2), (3, .int ((μ.1 103) + 1))] [] P (mA1 μ10 99 (((μ10.2.1 106 (((μ.1 103) + 1)).toNatClampNeg)).toNatClampNeg) 0) R T))) ∧ (¬ r10 = 0 → (MI ((μ.1 103) + 1) (μ10.2.2 106) ∧ MC X W true d 463 [.ref P.1, .int x1, .int (μ10.2.1 106 (((μ.1 103) + 1)).toNatClampNeg)] P μ10 (fun r11 μ11 => ME X W true d 462 263 [(0, .ref P.1), (1, .int x1), (2, .int x2), (3, .int ((μ.1 103) + 1))] [] P μ11 R T) (fun _ => False))))) (fun _ => False)) ∧ ((μ.2.1 20 x1.toNatClampNeg) = 30 → (MI x1 (μ.2.2 22) ∧ (MI ((μ.1 103) + 1) (μ.2.2 106) ∧ MC X W true d 452 [.ref P.1, .int (μ.2.1 22 x1.toNatClampNeg), .int (upd (μ.2.1 106) ((((μ.1 103) + 1)).toNatClampNeg) (5100 + (μ.1 104)) (((μ.1 103) + 1)).toNatClampNeg)] P (mS1 (mA1 (mA1 (mA1 (mA1 (mA1 (mS1 μ 103 ((μ.1 103) + 1)) 105 ((((μ.1 103) + 1)).toNatClampNeg) x1) 106 ((((μ.1 103) + 1)).toNatClampNeg) (5100 + (μ.1 104))) 107 ((((μ.1 103) + 1)).toNatClampNeg) x2) 108 ((((μ.1 103) + 1)).toNatClampNeg) (-1)) 109 ((((μ.1 103) + 1)).toNatClampNeg) 1) 104 ((μ.1 104) + x2)) (fun r12 μ12 => ME X W true d 462 263 [(0, .ref P.1), (1, .int x1), (2, .int x2), (3, .int ((μ.1 103) + 1))] [] P μ12 R T) (fun _ => False)))))))))))))))))) ∧ (¬ (μ.2.1 20 x1.toNatClampNeg) = 30 → MC X W true d 367 [.ref P.1, .int x1] P (mS1 μ 103 ((μ.1 103) + 1)) (fun r13 μ13 => ((r13 = 0 → (MI ((μ.1 103) + 1) (μ13.2.2 105) ∧ (MI ((μ.1 103) + 1) (μ13.2.2 106) ∧ (MI ((μ.1 103) + 1) (μ13.2.2 107) ∧ (MI x1 (μ13.2.2 20) ∧ ((¬ (μ13.2.1 20 x1.toNatClampNeg) = 23 → (MI ((μ.1 103) + 1) (μ13.2.2 108) ∧ (MI x1 (μ13.2.2 20) ∧ ((¬ (μ13.2.1 20 x1.toNatClampNeg) = 24 → (MI ((μ.1 103) + 1) (μ13.2.2 109) ∧ (MI x1 (μ13.2.2 20) ∧ ((¬ (μ13.2.1 20 x1.toNatClampNeg) = 30 → MC X W true d 367 [.ref P.1, .int x1] P (mS1 (mA1 (mA1 (mA1 (mA1 (mA1 μ13 105 ((((μ.1 103) + 1)).toNatClampNeg) (-1)) 106 ((((μ.1 103) + 1)).toNatClampNeg) (5100 + (μ13.1 104))) 107 ((((μ.1 103) + 1)).toNatClampNeg) x2) 108 ((((μ.1 103) + 1)).toNatClampNeg) (-2)) 109 ((((μ.1 103) + 1)).toNatClampNeg) 0) 104 ((μ13.1 104) + x2)) (fun r14 μ14 => ((r14 = 0 → (MI ((μ.1 103) + 1) (μ14.2.2 106) ∧ (MI (μ14.2.1 106 (((μ.1 103) + 1)).toNatClampNeg) (μ14.2.2 99) ∧ ME X W true d 462 263 [(0, .ref P.1), (1, .int x1), (2, .int x2), (3, .int ((μ.1 103) + 1))] [] P (mA1 μ14 99 (((μ14.2.1 106 (((μ.1 103) + 1)).toNatClampNeg)).toNatClampNeg) 0) R T))) ∧ (¬ r14 = 0 → (MI ((μ.1 103) + 1) (μ14.2.2 106) ∧ MC X W true d 463 [.ref P.1, .int x1, .int (μ14.2.1 106 (((μ.1 103) + 1)).toNatClampNeg)] P μ14 (fun r15 μ15 => ME X W true d 462 263 [(0, .ref P.1), (1, .int x1), (2, .int x2), (3, .int ((μ.1 103) + 1))] [] P μ15 R T) (fun _ => False))))) (fun _ => False)) ∧ ((μ13.2.1 20 x1.toNatClampNeg) = 30 → (MI x1 (μ13.2.2 22) ∧ (MI ((μ.1 103) + 1) (μ13.2.2 106) ∧ MC X W true d 452 [.ref P.1, .int (μ13.2.1 22 x1.toNatClampNeg), .int (upd (μ13.2.1 106) ((((μ.1 103) + 1)).toNatClampNeg) (5100 + (μ13.1 104)) (((μ.1 103) + 1)).toNatClampNeg)] P (mS1 (mA1 (mA1 (mA1 (mA1 (mA1 μ13 105 ((((μ.1 103) + 1)).toNatClampNeg) (-1)) 106 ((((μ.1 103) + 1)).toNatClampNeg) (5100 + (μ13.1 104))) 107 ((((μ.1 103) + 1)).toNatClampNeg) x2) 108 ((((μ.1 103) + 1)).toNatClampNeg) (-2)) 109 ((((μ.1 103) + 1)).toNatClampNeg) 0) 104 ((μ13.1 104) + x2)) (fun r16 μ16 => ME X W true d 462 263 [(0, .ref P.1), (1, .int x1), (2, .int x2), (3, .int ((μ.1 103) + 1))] [] P μ16 R T) (fun _ => False)))))))) ∧ ((μ13.2.1 20 x1.toNatClampNeg) = 24 → (MI ((μ.1 103) + 1) (μ13.2.2 109) ∧ (MI x1 (μ13.2.2 20) ∧ ((¬ (μ13.2.1 20 x1.toNatClampNeg) = 30 → MC X W true d 367 [.ref P.1, .int x1] P (mS1 (mA1 (mA1 (mA1 (mA1 (mA1 μ13 105 ((((μ.1 103) + 1)).toNatClampNeg) (-1)) 106 ((((μ.1 103) + 1)).toNatClampNeg) (5100 + (μ13.1 104))) 107 ((((μ.1 103) + 1)).toNatClampNeg) x2) 108 ((((μ.1 103) + 1)).toNatClampNeg) (-2)) 109 ((((μ.1 103) + 1)).toNatClampNeg) 1) 104 ((μ13.1 104) + x2)) (fun r17 μ17 => ((r17 = 0 → (MI ((μ.1 103) + 1) (μ17.2.2 106) ∧ (MI (μ17.2.1 106 (((μ.1 103) + 1)).toNatClampNeg) (μ17.2.2 99) ∧ ME X W true d 462 263 [(0, .ref P.1), (1, .int x1), (2, .int x2), (3, .int ((μ.1 103) + 1))] [] P (mA1 μ17 99 (((μ17.2.1 106 (((μ.1 103) + 1)).toNatClampNeg)).toNatClampNeg) 0) R T))) ∧ (¬ r17 = 0 → (MI ((μ.1 103) + 1) (μ17.2.2 106) ∧ MC X W true d 463 [.ref P.1, .int x1, .int (μ17.2.1 106 (((μ.1 103) + 1)).toNatClampNeg)] P μ17 (fun r18 μ18 => ME X W true d 462 263 [(0, .ref P.1), (1, .int x1), (2, .int x2), (3, .int ((μ.1 103) + 1))] [] P μ18 R T) (fun _ => False))))) (fun _ => False)) ∧ ((μ13.2.1 20 x1.toNatClampNeg) = 30 → (MI x1 (μ13.2.2 22) ∧ (MI ((μ.1 103) + 1) (μ13.2.2 106) ∧ MC X W true d 452 [.ref P.1, .int (μ13.2.1 22 x1.toNatClampNeg), .int (upd (μ13.2.1 106) ((((μ.1 103) + 1)).toNatClampNeg) (5100 + (μ13.1 104)) (((μ.1 103) + 1)).toNatClampNeg)] P (mS1 (mA1 (mA1 (mA1 (mA1 (mA1 μ13 105 ((((μ.1 103) + 1)).toNatClampNeg) (-1)) 106 ((((μ.1 103) + 1)).toNatClampNeg) (5100 + (μ13.1 104))) 107 ((((μ.1 103) + 1)).toNatClampNeg) x2) 108 ((((μ.1 103) + 1)).toNatClampNeg) (-2)) 109 ((((μ.1 103) + 1)).toNatClampNeg) 1) 104 ((μ13.1 104) + x2)) (fun r19 μ19 => ME X W true d 462 263 [(0, .ref P.1), (1, .int x1), (2, .int x2), (3, .int ((μ.1 103) + 1))] [] P μ19 R T) (fun _ => False)))))))))))) ∧ ((μ13.2.1 20 x1.toNatClampNeg) = 23 → (MI ((μ.1 103) + 1) (μ13.2.2 108) ∧ (MI x1 (μ13.2.2 20) ∧ ((¬ (μ13.2.1 20 x1.toNatClampNeg) = 24 → (MI ((μ.1 103) + 1) (μ13.2.2 109) ∧ (MI x1 (μ13.2.2 20) ∧ ((¬ (μ13.2.1 20 x1.toNatClampNeg) = 30 → MC X W true d 367 [.ref P.1, .int x1] P (mS1 (mA1 (mA1 (mA1 (mA1 (mA1 μ13 105 ((((μ.1 103) + 1)).toNatClampNeg) (-1)) 106 ((((μ.1 103) + 1)).toNatClampNeg) (5100 + (μ13.1 104))) 107 ((((μ.1 103) + 1)).toNatClampNeg) x2) 108 ((((μ.1 103) + 1)).toNatClampNeg) (-1)) 109 ((((μ.1 103) + 1)).toNatClampNeg) 0) 104 ((μ13.1 104) + x2)) (fun r20 μ20 => ((r20 = 0 → (MI ((μ.1 103) + 1) (μ20.2.2 106) ∧ (MI (μ20.2.1 106 (((μ.1 103) + 1)).toNatClampNeg) (μ20.2.2 99) ∧ ME X W true d 462 263 [(0, .ref P.1), (1, .int x1), (2, .int x2), (3, .int ((μ.1 103) + 1))] [] P (mA1 μ20 99 (((μ20.2.1 106 (((μ.1 103) + 1)).toNatClampNeg)).toNatClampNeg) 0) R T))) ∧ (¬ r20 = 0 → (MI ((μ.1 103) + 1) (μ20.2.2 106) ∧ MC X W true d 463 [.ref P.1, .int x1, .int (μ20.2.1 106 (((μ.1 103) + 1)).toNatClampNeg)] P μ20 (fun r21 μ21 => ME X W true d 462 263 [(0, .ref P.1), (1, .int x1), (2, .int x2), (3, .int ((μ.1 103) + 1))] [] P μ21 R T) (fun _ => False))))) (fun _ => False)) ∧ ((μ13.2.1 20 x1.toNatClampNeg) = 30 → (MI x1 (μ13.2.2 22) ∧ (MI ((μ.1 103) + 1) (μ13.2.2 106) ∧ MC X W true d 452 [.ref P.1, .int (μ13.2.1 22 x1.toNatClampNeg), .int (upd (μ13.2.1 106) ((((μ.1 103) + 1)).toNatClampNeg) (5100 + (μ13.1 104)) (((μ.1 103) + 1)).toNatClampNeg)] P (mS1 (mA1 (mA1 (mA1 (mA1 (mA1 μ13 105 ((((μ.1 103) + 1)).toNatClampNeg) (-1)) 106 ((((μ.1 103) + 1)).toNatClampNeg) (5100 + (μ13.1 104))) 107 ((((μ.1 103) + 1)).toNatClampNeg) x2) 108 ((((μ.1 103) + 1)).toNatClampNeg) (-1)) 109 ((((μ.1 103) + 1)).toNatClampNeg) 0) 104 ((μ13.1 104) + x2)) (fun r22 μ22 => ME X W true d 462 263 [(0, .ref P.1), (1, .int x1), (2, .int x2), (3, .int ((μ.1 103) + 1))] [] P μ22 R T) (fun _ => False)))))))) ∧ ((μ13.2.1 20 x1.toNatClampNeg) = 24 → (MI ((μ.1 103) + 1) (μ13.2.2 109) ∧ (MI x1 (μ13.2.2 20) ∧ ((¬ (μ13.2.1 20 x1.toNatClampNeg) = 30 → MC X W true d 367 [.ref P.1, .int x1] P (mS1 (mA1 (mA1 (mA1 (mA1 (mA1 μ13 105 ((((μ.1 103) + 1)).toNatClampNeg) (-1)) 106 ((((μ.1 103) + 1)).toNatClampNeg) (5100 + (μ13.1 104))) 107 ((((μ.1 103) + 1)).toNatClampNeg) x2) 108 ((((μ.1 103) + 1)).toNatClampNeg) (-1)) 109 ((((μ.1 103) + 1)).toNatClampNeg) 1) 104 ((μ13.1 104) + x2)) (fun r23 μ23 => ((r23 = 0 → (MI ((μ.1 103) + 1) (μ23.2.2 106) ∧ (MI (μ23.2.1 106 (((μ.1 103) + 1)).toNatClampNeg) (μ23.2.2 99) ∧ ME X W true d 462 263 [(0, .ref P.1), (1, .int x1), (2, .int x2), (3, .int ((μ.1 103) + 1))] [] P (mA1 μ23 99 (((μ23.2.1 106 (((μ.1 103) + 1)).toNatClampNeg)).toNatClampNeg) 0) R T))) ∧ (¬ r23 = 0 → (MI ((μ.1 103) + 1) (μ23.2.2 106) ∧ MC X W true d 463 [.ref P.1, .int x1, .int (μ23.2.1 106 (((μ.1 103) + 1)).toNatClampNeg)] P μ23 (fun r24 μ24 => ME X W true d 462 263 [(0, .ref P.1), (1, .int x1), (2, .int x2), (3, .int ((μ.1 103) + 1))] [] P μ24 R T) (fun _ => False))))) (fun _ => False)) ∧ ((μ13.2.1 20 x1.toNatClampNeg) = 30 → (MI x1 (μ13.2.2 22) ∧ (MI ((μ.1 103) + 1) (μ13.2.2 106) ∧ MC X W true d 452 [.ref P.1, .int (μ13.2.1 22 x1.toNatClampNeg), .int (upd (μ13.2.1 106) ((((μ.1 103) + 1)).toNatClampNeg) (5100 + (μ13.1 104)) (((μ.1 103) + 1)).toNatClampNeg)] P (mS1 (mA1 (mA1 (mA1 (mA1 (mA1 μ13 105 ((((μ.1 103) + 1)).toNatClampNeg) (-1)) 106 ((((μ.1 103) + 1)).toNatClampNeg) (5100 + (μ13.1 104))) 107 ((((μ.1 103) + 1)).toNatClampNeg) x2) 108 ((((μ.1 103) + 1)).toNatClampNeg) (-1)) 109 ((((μ.1 103) + 1)).toNatClampNeg) 1) 104 ((μ13.1 104) + x2)) (fun r25 μ25 => ME X W true d 462 263 [(0, .ref P.1), (1, .int x1), (2, .int x2), (3, .int ((μ.1 103) + 1))] [] P μ25 R T) (fun _ => False)))))))))))))))))) ∧ (¬ r13 = 0 → (MI ((μ.1 103) + 1) (μ13.2.2 105) ∧ (MI ((μ.1 103) + 1) (μ13.2.2 106) ∧ (MI ((μ.1 103) + 1) (μ13.2.2 107) ∧ (MI x1 (μ13.2.2 20) ∧ ((¬ (μ13.2.1 20 x1.toNatClampNeg) = 23 → (MI ((μ.1 103) + 1) (μ13.2.2 108) ∧ (MI x1 (μ13.2.2 20) ∧ ((¬ (μ13.2.1 20 x1.toNatClampNeg) = 24 → (MI ((μ.1 103) + 1) (μ13.2.2 109) ∧ (MI x1 (μ13.2.2 20) ∧ ((¬ (μ13.2.1 20 x1.toNatClampNeg) = 30 → MC X W true d 367 [.ref P.1, .int x1] P (mS1 (mA1 (mA1 (mA1 (mA1 (mA1 μ13 105 ((((μ.1 103) + 1)).toNatClampNeg) x1) 106 ((((μ.1 103) + 1)).toNatClampNeg) (5100 + (μ13.1 104))) 107 ((((μ.1 103) + 1)).toNatClampNeg) x2) 108 ((((μ.1 103) + 1)).toNatClampNeg) (-2)) 109 ((((μ.1 103) + 1)).toNatClampNeg) 0) 104 ((μ13.1 104) + x2)) (fun r26 μ26 => ((r26 = 0 → (MI ((μ.1 103) + 1) (μ26.2.2 106) ∧ (MI (μ26.2.1 106 (((μ.1 103) + 1)).toNatClampNeg) (μ26.2.2 99) ∧ ME X W true d 462 263 [(0, .ref P.1), (1, .int x1), (2, .int x2), (3, .int ((μ.1 103) + 1))] [] P (mA1 μ26 99 (((μ26.2.1 106 (((μ.1 103) + 1)).toNatClampNeg)).toNatClampNeg) 0) R T))) ∧ (¬ r26 = 0 → (MI ((μ.1 103) + 1) (μ26.2.2 106) ∧ MC X W true d 463 [.ref P.1, .int x1, .int (μ26.2.1 106 (((μ.1 103) + 1)).toNatClampNeg)] P μ26 (fun r27 μ27 => ME X W true d 462 263 [(0, .ref P.1), (1, .int x1), (2, .int x2), (3, .int ((μ.1 103) + 1))] [] P μ27 R T) (fun _ => False))))) (fun _ => False)) ∧ ((μ13.2.1 20 x1.toNatClampNeg) = 30 → (MI x1 (μ13.2.2 22) ∧ (MI ((μ.1 103) + 1) (μ13.2.2 106) ∧ MC X W true d 452 [.ref P.1, .int (μ13.2.1 22 x1.toNatClampNeg), .int (upd (μ13.2.1 106) ((((μ.1 103) + 1)).toNatClampNeg) (5100 + (μ13.1 104)) (((μ.1 103) + 1)).toNatClampNeg)] P (mS1 (mA1 (mA1 (mA1 (mA1 (mA1 μ13 105 ((((μ.1 103) + 1)).toNatClampNeg) x1) 106 ((((μ.1 103) + 1)).toNatClampNeg) (5100 + (μ13.1 104))) 107 ((((μ.1 103) + 1)).toNatClampNeg) x2) 108 ((((μ.1 103) + 1)).toNatClampNeg) (-2)) 109 ((((μ.1 103) + 1)).toNatClampNeg) 0) 104 ((μ13.1 104) + x2)) (fun r28 μ28 => ME X W true d 462 263 [(0, .ref P.1), (1, .int x1), (2, .int x2), (3, .int ((μ.1 103) + 1))] [] P μ28 R T) (fun _ => False)))))))) ∧ ((μ13.2.1 20 x1.toNatClampNeg) = 24 → (MI ((μ.1 103) + 1) (μ13.2.2 109) ∧ (MI x1 (μ13.2.2 20) ∧ ((¬ (μ13.2.1 20 x1.toNatClampNeg) = 30 → MC X W true d 367 [.ref P.1, .int x1] P (mS1 (mA1 (mA1 (mA1 (mA1 (mA1 μ13 105 ((((μ.1 103) + 1)).toNatClampNeg) x1) 106 ((((μ.1 103) + 1)).toNatClampNeg) (5100 + (μ13.1 104))) 107 ((((μ.1 103) + 1)).toNatClampNeg) x2) 108 ((((μ.1 103) + 1)).toNatClampNeg) (-2)) 109 ((((μ.1 103) + 1)).toNatClampNeg) 1) 104 ((μ13.1 104) + x2)) (fun r29 μ29 => ((r29 = 0 → (MI ((μ.1 103) + 1) (μ29.2.2 106) ∧ (MI (μ29.2.1 106 (((μ.1 103) + 1)).toNatClampNeg) (μ29.2.2 99) ∧ ME X W true d 462 263 [(0, .ref P.1), (1, .int x1), (2, .int x2), (3, .int ((μ.1 103) + 1))] [] P (mA1 μ29 99 (((μ29.2.1 106 (((μ.1 103) + 1)).toNatClampNeg)).toNatClampNeg) 0) R T))) ∧ (¬ r29 = 0 → (MI ((μ.1 103) + 1) (μ29.2.2 106) ∧ MC X W true d 463 [.ref P.1, .int x1, .int (μ29.2.1 106 (((μ.1 103) + 1)).toNatClampNeg)] P μ29 (fun r30 μ30 => ME X W true d 462 263 [(0, .ref P.1), (1, .int x1), (2, .int x2), (3, .int ((μ.1 103) + 1))] [] P μ30 R T) (fun _ => False))))) (fun _ => False)) ∧ ((μ13.2.1 20 x1.toNatClampNeg) = 30 → (MI x1 (μ13.2.2 22) ∧ (MI ((μ.1 103) + 1) (μ13.2.2 106) ∧ MC X W true d 452 [.ref P.1, .int (μ13.2.1 22 x1.toNatClampNeg), .int (upd (μ13.2.1 106) ((((μ.1 103) + 1)).toNatClampNeg) (5100 + (μ13.1 104)) (((μ.1 103) + 1)).toNatClampNeg)] P (mS1 (mA1 (mA1 (mA1 (mA1 (mA1 μ13 105 ((((μ.1 103) + 1)).toNatClampNeg) x1) 106 ((((μ.1 103) + 1)).toNatClampNeg) (5100 + (μ13.1 104))) 107 ((((μ.1 103) + 1)).toNatClampNeg) x2) 108 ((((μ.1 103) + 1)).toNatClampNeg) (-2)) 109 ((((μ.1 103) + 1)).toNatClampNeg) 1) 104 ((μ13.1 104) + x2)) (fun r31 μ31 => ME X W true d 462 263 [(0, .ref P.1), (1, .int x1), (2, .int x2), (3, .int ((μ.1 103) + 1))] [] P μ31 R T) (fun _ => False)))))))))))) ∧ ((μ13.2.1 20 x1.toNatClampNeg) = 23 → (MI ((μ.1 103) + 1) (μ13.2.2 108) ∧ (MI x1 (μ13.2.2 20) ∧ ((¬ (μ13.2.1 20 x1.toNatClampNeg) = 24 → (MI ((μ.1 103) + 1) (μ13.2.2 109) ∧ (MI x1 (μ13.2.2 20) ∧ ((¬ (μ13.2.1 20 x1.toNatClampNeg) = 30 → MC X W true d 367 [.ref P.1, .int x1] P (mS1 (mA1 (mA1 (mA1 (mA1 (mA1 μ13 105 ((((μ.1 103) + 1)).toNatClampNeg) x1) 106 ((((μ.1 103) + 1)).toNatClampNeg) (5100 + (μ13.1 104))) 107 ((((μ.1 103) + 1)).toNatClampNeg) x2) 108 ((((μ.1 103) + 1)).toNatClampNeg) (-1)) 109 ((((μ.1 103) + 1)).toNatClampNeg) 0) 104 ((μ13.1 104) + x2)) (fun r32 μ32 => ((r32 = 0 → (MI ((μ.1 103) + 1) (μ32.2.2 106) ∧ (MI (μ32.2.1 106 (((μ.1 103) + 1)).toNatClampNeg) (μ32.2.2 99) ∧ ME X W true d 462 263 [(0, .ref P.1), (1, .int x1), (2, .int x2), (3, .int ((μ.1 103) + 1))] [] P (mA1 μ32 99 (((μ32.2.1 106 (((μ.1 103) + 1)).toNatClampNeg)).toNatClampNeg) 0) R T))) ∧ (¬ r32 = 0 → (MI ((μ.1 103) + 1) (μ32.2.2 106) ∧ MC X W true d 463 [.ref P.1, .int x1, .int (μ32.2.1 106 (((μ.1 103) + 1)).toNatClampNeg)] P μ32 (fun r33 μ33 => ME X W true d 462 263 [(0, .ref P.1), (1, .int x1), (2, .int x2), (3, .int ((μ.1 103) + 1))] [] P μ33 R T) (fun _ => False))))) (fun _ => False)) ∧ ((μ13.2.1 20 x1.toNatClampNeg) = 30 → (MI x1 (μ13.2.2 22) ∧ (MI ((μ.1 103) + 1) (μ13.2.2 106) ∧ MC X W true d 452 [.ref P.1, .int (μ13.2.1 22 x1.toNatClampNeg), .int (upd (μ13.2.1 106) ((((μ.1 103) + 1)).toNatClampNeg) (5100 + (μ13.1 104)) (((μ.1 103) + 1)).toNatClampNeg)] P (mS1 (mA1 (mA1 (mA1 (mA1 (mA1 μ13 105 ((((μ.1 103) + 1)).toNatClampNeg) x1) 106 ((((μ.1 103) + 1)).toNatClampNeg) (5100 + (μ13.1 104))) 107 ((((μ.1 103) + 1)).toNatClampNeg) x2) 108 ((((μ.1 103) + 1)).toNatClampNeg) (-1)) 109 ((((μ.1 103) + 1)).toNatClampNeg) 0) 104 ((μ13.1 104) + x2)) (fun r34 μ34 => ME X W true d 462 263 [(0, .ref P.1), (1, .int x1), (2, .int x2), (3, .int ((μ.1 103) + 1))] [] P μ34 R T) (fun _ => False)))))))) ∧ ((μ13.2.1 20 x1.toNatClampNeg) = 24 → (MI ((μ.1 103) + 1) (μ13.2.2 109) ∧ (MI x1 (μ13.2.2 20) ∧ ((¬ (μ13.2.1 20 x1.toNatClampNeg) = 30 → MC X W true d 367 [.ref P.1, .int x1] P (mS1 (mA1 (mA1 (mA1 (mA1 (mA1 μ13 105 ((((μ.1 103) + 1)).toNatClampNeg) x1) 106 ((((μ.1 103) + 1)).toNatClampNeg) (5100 + (μ13.1 104))) 107 ((((μ.1 103) + 1)).toNatClampNeg) x2) 108 ((((μ.1 103) + 1)).toNatClampNeg) (-1)) 109 ((((μ.1 103) + 1)).toNatClampNeg) 1) 104 ((μ13.1 104) + x2)) (fun r35 μ35 => ((r35 = 0 → (MI ((μ.1 103) + 1) (μ35.2.2 106) ∧ (MI (μ35.2.1 106 (((μ.1 103) + 1)).toNatClampNeg) (μ35.2.2 99) ∧ ME X W true d 462 263 [(0, .ref P.1), (1, .int x1), (2, .int x2), (3, .int ((μ.1 103) + 1))] [] P (mA1 μ35 99 (((μ35.2.1 106 (((μ.1 103) + 1)).toNatClampNeg)).toNatClampNeg) 0) R T))) ∧ (¬ r35 = 0 → (MI ((μ.1 103) + 1) (μ35.2.2 106) ∧ MC X W true d 463 [.ref P.1, .int x1, .int (μ35.2.1 106 (((μ.1 103) + 1)).toNatClampNeg)] P μ35 (fun r36 μ36 => ME X W true d 462 263 [(0, .ref P.1), (1, .int x1), (2, .int x2), (3, .int ((μ.1 103) + 1))] [] P μ36 R T) (fun _ => False))))) (fun _ => False)) ∧ ((μ13.2.1 20 x1.toNatClampNeg) = 30 → (MI x1 (μ13.2.2 22) ∧ (MI ((μ.1 103) + 1) (μ13.2.2 106) ∧ MC X W true d 452 [.ref P.1, .int (μ13.2.1 22 x1.toNatClampNeg), .int (upd (μ13.2.1 106) ((((μ.1 103) + 1)).toNatClampNeg) (5100 + (μ13.1 104)) (((μ.1 103) + 1)).toNatClampNeg)] P (mS1 (mA1 (mA1 (mA1 (mA1 (mA1 μ13 105 ((((μ.1 103) + 1)).toNatClampNeg) x1) 106 ((((μ.1 103) + 1)).toNatClampNeg) (5100 + (μ13.1 104))) 107 ((((μ.1 103) + 1)).toNatClampNeg) x2) 108 ((((μ.1 103) + 1)).toNatClampNeg) (-1)) 109 ((((μ.1 103) + 1)).toNatClampNeg) 1) 104 ((μ13.1 104) + x2)) (fun r37 μ37 => ME X W true d 462 263 [(0, .ref P.1), (1, .int x1), (2, .int x2), (3, .int ((μ.1 103) + 1))] [] P μ37 R T) (fun _ => False)))))))))))))))))))) (fun _ => False))))) : ME X W true d 462 76 [(0, .ref P.1), (1, .int x1), (2, .int x2)] [] P μ R T := by
  refine me_go (pc1 := 78) (lv1 := [(0, .ref P.1), (1, .int x1), (2, .int x2)]) (st1 := [.ref P.1, .ref P.1]) 2 rfl ?_
  refine me_getf (v := .int (μ.1 103)) rfl rfl rfl ?_
  refine me_go (pc1 := 83) (lv1 := [(0, .ref P.1), (1, .int x1), (2, .int x2)]) (st1 := [.int ((μ.1 103) + 1), .ref P.1]) 2 rfl ?_
  refine me_put rfl rfl rfl ?_
  refine me_go (pc1 := 87) (lv1 := [(0, .ref P.1), (1, .int x1), (2, .int x2)]) (st1 := [.ref P.1]) 1 rfl ?_
  refine me_getf (v := .int ((μ.1 103) + 1)) rfl rfl rfl ?_
  refine me_go (pc1 := 92) (lv1 := [(3, .int ((μ.1 103) + 1)), (0, .ref P.1), (1, .int x1), (2, .int x2)]) (st1 := [.ref P.1]) 2 rfl ?_
  refine me_getf (v := .ref (P.2.1 105)) rfl rfl rfl ?_
  refine me_go (pc1 := 97) (lv1 := [(3, .int ((μ.1 103) + 1)), (0, .ref P.1), (1, .int x1), (2, .int x2)]) (st1 := [.ref P.1, .int ((μ.1 103) + 1), .ref (P.2.1 105)]) 2 rfl ?_
  refine me_getf (v := .ref (P.2.1 20)) rfl rfl rfl ?_
  refine me_go (pc1 := 101) (lv1 := [(3, .int ((μ.1 103) + 1)), (0, .ref P.1), (1, .int x1), (2, .int x2)]) (st1 := [.int x1, .ref (P.2.1 20), .int ((μ.1 103) + 1), .ref (P.2.1 105)]) 1 rfl ?_
  refine me_iald rfl (g := 20) rfl rfl h.1 ?_
  replace h := h.2
  refine me_go (pc1 := 104) (lv1 := [(3, .int ((μ.1 103) + 1)), (0, .ref P.1), (1, .int x1), (2, .int x2)]) (st1 := [.int 30, .int (μ.2.1 20 x1.toNatClampNeg), .int ((μ.1 103) + 1), .ref (P.2.1 105)]) 1 rfl ?_
  refine me_icmp rfl rfl (fun c => ?_) (fun c => ?_)
  · replace h := h.1 (ci_eq c)
    refine me_go (pc1 := 120) (lv1 := [(3, .int ((μ.1 103) + 1)), (0, .ref P.1), (1, .int x1), (2, .int x2)]) (st1 := [.int x1, .int ((μ.1 103) + 1), .ref (P.2.1 105)]) 2 rfl ?_
    have hi := h.1
    replace h := h.2
    refine me_iast rfl (g := 105) rfl rfl hi ?_
    refine me_go (pc1 := 122) (lv1 := [(3, .int ((μ.1 103) + 1)), (0, .ref P.1), (1, .int x1), (2, .int x2)]) (st1 := [.ref P.1]) 1 rfl ?_
    refine me_getf (v := .ref (P.2.1 106)) rfl rfl rfl ?_
    refine me_go (pc1 := 130) (lv1 := [(3, .int ((μ.1 103) + 1)), (0, .ref P.1), (1, .int x1), (2, .int x2)]) (st1 := [.ref P.1, .int 5100, .int ((μ.1 103) + 1), .ref (P.2.1 106)]) 3 rfl ?_
    refine me_getf (v := .int (μ.1 104)) rfl rfl rfl ?_
    refine me_go (pc1 := 134) (lv1 := [(3, .int ((μ.1 103) + 1)), (0, .ref P.1), (1, .int x1), (2, .int x2)]) (st1 := [.int (5100 + (μ.1 104)), .int ((μ.1 103) + 1), .ref (P.2.1 106)]) 1 rfl ?_
    have hi := h.1
    replace h := h.2
    refine me_iast rfl (g := 106) rfl rfl hi ?_
    refine me_go (pc1 := 136) (lv1 := [(3, .int ((μ.1 103) + 1)), (0, .ref P.1), (1, .int x1), (2, .int x2)]) (st1 := [.ref P.1]) 1 rfl ?_
    refine me_getf (v := .ref (P.2.1 107)) rfl rfl rfl ?_
    refine me_go (pc1 := 141) (lv1 := [(3, .int ((μ.1 103) + 1)), (0, .ref P.1), (1, .int x1), (2, .int x2)]) (st1 := [.int x2, .int ((μ.1 103) + 1), .ref (P.2.1 107)]) 2 rfl ?_
    have hi := h.1
    replace h := h.2
    refine me_iast rfl (g := 107) rfl rfl hi ?_
    refine me_go (pc1 := 143) (lv1 := [(3, .int ((μ.1 103) + 1)), (0, .ref P.1), (1, .int x1), (2, .int x2)]) (st1 := [.ref P.1]) 1 rfl ?_
    refine me_getf (v := .ref (P.2.1 108)) rfl rfl rfl ?_
    refine me_go (pc1 := 148) (lv1 := [(3, .int ((μ.1 103) + 1)), (0, .ref P.1), (1, .int x1), (2, .int x2)]) (st1 := [.ref P.1, .int ((μ.1 103) + 1), .ref (P.2.1 108)]) 2 rfl ?_
    refine me_getf (v := .ref (P.2.1 20)) rfl rfl rfl ?_
    refine me_go (pc1 := 152) (lv1 := [(3, .int ((μ.1 103) + 1)), (0, .ref P.1), (1, .int x1), (2, .int x2)]) (st1 := [.int x1, .ref (P.2.1 20), .int ((μ.1 103) + 1), .ref (P.2.1 108)]) 1 rfl ?_
    refine me_iald rfl (g := 20) rfl rfl h.1 ?_
    replace h := h.2
    refine me_go (pc1 := 155) (lv1 := [(3, .int ((μ.1 103) + 1)), (0, .ref P.1), (1, .int x1), (2, .int x2)]) (st1 := [.int 23, .int (μ.2.1 20 x1.toNatClampNeg), .int ((μ.1 103) + 1), .ref (P.2.1 108)]) 1 rfl ?_
    refine me_icmp rfl rfl (fun c => ?_) (fun c => ?_)
    · replace h := h.1 (ci_ne c)
      refine me_go (pc1 := 164) (lv1 := [(3, .int ((μ.1 103) + 1)), (0, .ref P.1), (1, .int x1), (2, .int x2)]) (st1 := [.int (-2), .int ((μ.1 103) + 1), .ref (P.2.1 108)]) 1 rfl ?_
      have hi := h.1
      replace h := h.2
      refine me_iast rfl (g := 108) rfl rfl hi ?_
      refine me_go (pc1 := 166) (lv1 := [(3, .int ((μ.1 103) + 1)), (0, .ref P.1), (1, .int x1), (2, .int x2)]) (st1 := [.ref P.1]) 1 rfl ?_
      refine me_getf (v := .ref (P.2.1 109)) rfl rfl rfl ?_
      refine me_go (pc1 := 171) (lv1 := [(3, .int ((μ.1 103) + 1)), (0, .ref P.1), (1, .int x1), (2, .int x2)]) (st1 := [.ref P.1, .int ((μ.1 103) + 1), .ref (P.2.1 109)]) 2 rfl ?_
      refine me_getf (v := .ref (P.2.1 20)) rfl rfl rfl ?_
      refine me_go (pc1 := 175) (lv1 := [(3, .int ((μ.1 103) + 1)), (0, .ref P.1), (1, .int x1), (2, .int x2)]) (st1 := [.int x1, .ref (P.2.1 20), .int ((μ.1 103) + 1), .ref (P.2.1 109)]) 1 rfl ?_
      refine me_iald rfl (g := 20) rfl rfl h.1 ?_
      replace h := h.2
      refine me_go (pc1 := 178) (lv1 := [(3, .int ((μ.1 103) + 1)), (0, .ref P.1), (1, .int x1), (2, .int x2)]) (st1 := [.int 24, .int (μ.2.1 20 x1.toNatClampNeg), .int ((μ.1 103) + 1), .ref (P.2.1 109)]) 1 rfl ?_
      refine me_icmp rfl rfl (fun c => ?_) (fun c => ?_)
      · replace h := h.1 (ci_ne c)
        refine me_go (pc1 := 186) (lv1 := [(3, .int ((μ.1 103) + 1)), (0, .ref P.1), (1, .int x1), (2, .int x2)]) (st1 := [.int 0, .int ((μ.1 103) + 1), .ref (P.2.1 109)]) 1 rfl ?_
        have hi := h.1
        replace h := h.2
        refine me_zast rfl (g := 109) rfl rfl hi (by decide) ?_
        refine me_go (pc1 := 189) (lv1 := [(3, .int ((μ.1 103) + 1)), (0, .ref P.1), (1, .int x1), (2, .int x2)]) (st1 := [.ref P.1, .ref P.1]) 2 rfl ?_
        refine me_getf (v := .int (μ.1 104)) rfl rfl rfl ?_
        refine me_go (pc1 := 194) (lv1 := [(3, .int ((μ.1 103) + 1)), (0, .ref P.1), (1, .int x1), (2, .int x2)]) (st1 := [.int ((μ.1 104) + x2), .ref P.1]) 2 rfl ?_
        refine me_put rfl rfl rfl ?_
        refine me_go (pc1 := 198) (lv1 := [(3, .int ((μ.1 103) + 1)), (0, .ref P.1), (1, .int x1), (2, .int x2)]) (st1 := [.ref P.1]) 1 rfl ?_
        refine me_getf (v := .ref (P.2.1 20)) rfl rfl rfl ?_
        refine me_go (pc1 := 202) (lv1 := [(3, .int ((μ.1 103) + 1)), (0, .ref P.1), (1, .int x1), (2, .int x2)]) (st1 := [.int x1, .ref (P.2.1 20)]) 1 rfl ?_
        refine me_iald rfl (g := 20) rfl rfl h.1 ?_
        replace h := h.2
        refine me_go (pc1 := 205) (lv1 := [(3, .int ((μ.1 103) + 1)), (0, .ref P.1), (1, .int x1), (2, .int x2)]) (st1 := [.int 30, .int (μ.2.1 20 x1.toNatClampNeg)]) 1 rfl ?_
        refine me_icmp rfl rfl (fun c => ?_) (fun c => ?_)
        · replace h := h.1 (ci_ne c)
          refine me_go (pc1 := 231) (lv1 := [(3, .int ((μ.1 103) + 1)), (0, .ref P.1), (1, .int x1), (2, .int x2)]) (st1 := [.int x1, .ref P.1]) 2 rfl ?_
          refine me_callN rfl rfl rfl (h.mono (fun r1 μ1 h => ?_) (fun _ h => h))
          refine me_ifc rfl rfl (fun c => ?_) (fun c => ?_)
          · replace h := h.1 (ci_eq c)
            refine me_go (pc1 := 252) (lv1 := [(3, .int ((μ.1 103) + 1)), (0, .ref P.1), (1, .int x1), (2, .int x2)]) (st1 := [.ref P.1]) 1 rfl ?_
            refine me_getf (v := .ref (P.2.1 99)) rfl rfl rfl ?_
            refine me_go (pc1 := 256) (lv1 := [(3, .int ((μ.1 103) + 1)), (0, .ref P.1), (1, .int x1), (2, .int x2)]) (st1 := [.ref P.1, .ref (P.2.1 99)]) 1 rfl ?_
            refine me_getf (v := .ref (P.2.1 106)) rfl rfl rfl ?_
            refine me_go (pc1 := 260) (lv1 := [(3, .int ((μ.1 103) + 1)), (0, .ref P.1), (1, .int x1), (2, .int x2)]) (st1 := [.int ((μ.1 103) + 1), .ref (P.2.1 106), .ref (P.2.1 99)]) 1 rfl ?_
            refine me_iald rfl (g := 106) rfl rfl h.1 ?_
            replace h := h.2
            refine me_go (pc1 := 262) (lv1 := [(3, .int ((μ.1 103) + 1)), (0, .ref P.1), (1, .int x1), (2, .int x2)]) (st1 := [.int 0, .int (μ1.2.1 106 (((μ.1 103) + 1)).toNatClampNeg), .ref (P.2.1 99)]) 1 rfl ?_
            have hi := h.1
            replace h := h.2
            refine me_iast rfl (g := 99) rfl rfl hi ?_
            refine me_lv [(0, .ref P.1), (1, .int x1), (2, .int x2), (3, .int ((μ.1 103) + 1))] (fl_c rfl (fl_c rfl (fl_c rfl (fl_c rfl fl_0)))) ?_
            exact h
          · replace h := h.2 (cn_eq c)
            refine me_go (pc1 := 240) (lv1 := [(3, .int ((μ.1 103) + 1)), (0, .ref P.1), (1, .int x1), (2, .int x2)]) (st1 := [.ref P.1, .int x1, .ref P.1]) 3 rfl ?_
            refine me_getf (v := .ref (P.2.1 106)) rfl rfl rfl ?_
            refine me_go (pc1 := 244) (lv1 := [(3, .int ((μ.1 103) + 1)), (0, .ref P.1), (1, .int x1), (2, .int x2)]) (st1 := [.int ((μ.1 103) + 1), .ref (P.2.1 106), .int x1, .ref P.1]) 1 rfl ?_
            refine me_iald rfl (g := 106) rfl rfl h.1 ?_
            replace h := h.2
            refine me_callN rfl rfl rfl (h.mono (fun r2 μ2 h => ?_) (fun _ h => h))
            refine me_go (pc1 := 263) (lv1 := [(3, .int ((μ.1 103) + 1)), (0, .ref P.1), (1, .int x1), (2, .int x2)]) (st1 := []) 1 rfl ?_
            refine me_lv [(0, .ref P.1), (1, .int x1), (2, .int x2), (3, .int ((μ.1 103) + 1))] (fl_c rfl (fl_c rfl (fl_c rfl (fl_c rfl fl_0)))) ?_
            exact h
        · replace h := h.2 (cn_ne c)
          refine me_go (pc1 := 210) (lv1 := [(3, .int ((μ.1 103) + 1)), (0, .ref P.1), (1, .int x1), (2, .int x2)]) (st1 := [.ref P.1, .ref P.1]) 2 rfl ?_
          refine me_getf (v := .ref (P.2.1 22)) rfl rfl rfl ?_
          refine me_go (pc1 := 214) (lv1 := [(3, .int ((μ.1 103) + 1)), (0, .ref P.1), (1, .int x1), (2, .int x2)]) (st1 := [.int x1, .ref (P.2.1 22), .ref P.1]) 1 rfl ?_
          refine me_iald rfl (g := 22) rfl rfl h.1 ?_
          replace h := h.2
          refine me_go (pc1 := 216) (lv1 := [(3, .int ((μ.1 103) + 1)), (0, .ref P.1), (1, .int x1), (2, .int x2)]) (st1 := [.ref P.1, .int (μ.2.1 22 x1.toNatClampNeg), .ref P.1]) 1 rfl ?_
          refine me_getf (v := .ref (P.2.1 106)) rfl rfl rfl ?_
          refine me_go (pc1 := 220) (lv1 := [(3, .int ((μ.1 103) + 1)), (0, .ref P.1), (1, .int x1), (2, .int x2)]) (st1 := [.int ((μ.1 103) + 1), .ref (P.2.1 106), .int (μ.2.1 22 x1.toNatClampNeg), .ref P.1]) 1 rfl ?_
          refine me_iald rfl (g := 106) rfl rfl h.1 ?_
          replace h := h.2
          refine me_callN rfl rfl rfl (h.mono (fun r3 μ3 h => ?_) (fun _ h => h))
          refine me_go (pc1 := 263) (lv1 := [(4, .int r3), (3, .int ((μ.1 103) + 1)), (0, .ref P.1), (1, .int x1), (2, .int x2)]) (st1 := []) 2 rfl ?_
          refine me_lv [(0, .ref P.1), (1, .int x1), (2, .int x2), (3, .int ((μ.1 103) + 1))] (fl_c rfl (fl_c rfl (fl_c rfl (fl_c rfl fl_0)))) ?_
          exact h
      · replace h := h.2 (cn_ne c)
        refine me_go (pc1 := 186) (lv1 := [(3, .int ((μ.1 103) + 1)), (0, .ref P.1), (1, .int x1), (2, .int x2)]) (st1 := [.int 1, .int ((μ.1 103) + 1), .ref (P.2.1 109)]) 2 rfl ?_
        have hi := h.1
        replace h := h.2
        refine me_zast rfl (g := 109) rfl rfl hi (by decide) ?_
        refine me_go (pc1 := 189) (lv1 := [(3, .int ((μ.1 103) + 1)), (0, .ref P.1), (1, .int x1), (2, .int x2)]) (st1 := [.ref P.1, .ref P.1]) 2 rfl ?_
        refine me_getf (v := .int (μ.1 104)) rfl rfl rfl ?_
        refine me_go (pc1 := 194) (lv1 := [(3, .int ((μ.1 103) + 1)), (0, .ref P.1), (1, .int x1), (2, .int x2)]) (st1 := [.int ((μ.1 104) + x2), .ref P.1]) 2 rfl ?_
        refine me_put rfl rfl rfl ?_
        refine me_go (pc1 := 198) (lv1 := [(3, .int ((μ.1 103) + 1)), (0, .ref P.1), (1, .int x1), (2, .int x2)]) (st1 := [.ref P.1]) 1 rfl ?_
        refine me_getf (v := .ref (P.2.1 20)) rfl rfl rfl ?_
        refine me_go (pc1 := 202) (lv1 := [(3, .int ((μ.1 103) + 1)), (0, .ref P.1), (1, .int x1), (2, .int x2)]) (st1 := [.int x1, .ref (P.2.1 20)]) 1 rfl ?_
        refine me_iald rfl (g := 20) rfl rfl h.1 ?_
        replace h := h.2
        refine me_go (pc1 := 205) (lv1 := [(3, .int ((μ.1 103) + 1)), (0, .ref P.1), (1, .int x1), (2, .int x2)]) (st1 := [.int 30, .int (μ.2.1 20 x1.toNatClampNeg)]) 1 rfl ?_
        refine me_icmp rfl rfl (fun c => ?_) (fun c => ?_)
        · replace h := h.1 (ci_ne c)
          refine me_go (pc1 := 231) (lv1 := [(3, .int ((μ.1 103) + 1)), (0, .ref P.1), (1, .int x1), (2, .int x2)]) (st1 := [.int x1, .ref P.1]) 2 rfl ?_
          refine me_callN rfl rfl rfl (h.mono (fun r4 μ4 h => ?_) (fun _ h => h))
          refine me_ifc rfl rfl (fun c => ?_) (fun c => ?_)
          · replace h := h.1 (ci_eq c)
            refine me_go (pc1 := 252) (lv1 := [(3, .int ((μ.1 103) + 1)), (0, .ref P.1), (1, .int x1), (2, .int x2)]) (st1 := [.ref P.1]) 1 rfl ?_
            refine me_getf (v := .ref (P.2.1 99)) rfl rfl rfl ?_
            refine me_go (pc1 := 256) (lv1 := [(3, .int ((μ.1 103) + 1)), (0, .ref P.1), (1, .int x1), (2, .int x2)]) (st1 := [.ref P.1, .ref (P.2.1 99)]) 1 rfl ?_
            refine me_getf (v := .ref (P.2.1 106)) rfl rfl rfl ?_
            refine me_go (pc1 := 260) (lv1 := [(3, .int ((μ.1 103) + 1)), (0, .ref P.1), (1, .int x1), (2, .int x2)]) (st1 := [.int ((μ.1 103) + 1), .ref (P.2.1 106), .ref (P.2.1 99)]) 1 rfl ?_
            refine me_iald rfl (g := 106) rfl rfl h.1 ?_
            replace h := h.2
            refine me_go (pc1 := 262) (lv1 := [(3, .int ((μ.1 103) + 1)), (0, .ref P.1), (1, .int x1), (2, .int x2)]) (st1 := [.int 0, .int (μ4.2.1 106 (((μ.1 103) + 1)).toNatClampNeg), .ref (P.2.1 99)]) 1 rfl ?_
            have hi := h.1
            replace h := h.2
            refine me_iast rfl (g := 99) rfl rfl hi ?_
            refine me_lv [(0, .ref P.1), (1, .int x1), (2, .int x2), (3, .int ((μ.1 103) + 1))] (fl_c rfl (fl_c rfl (fl_c rfl (fl_c rfl fl_0)))) ?_
            exact h
          · replace h := h.2 (cn_eq c)
            refine me_go (pc1 := 240) (lv1 := [(3, .int ((μ.1 103) + 1)), (0, .ref P.1), (1, .int x1), (2, .int x2)]) (st1 := [.ref P.1, .int x1, .ref P.1]) 3 rfl ?_
            refine me_getf (v := .ref (P.2.1 106)) rfl rfl rfl ?_
            refine me_go (pc1 := 244) (lv1 := [(3, .int ((μ.1 103) + 1)), (0, .ref P.1), (1, .int x1), (2, .int x2)]) (st1 := [.int ((μ.1 103) + 1), .ref (P.2.1 106), .int x1, .ref P.1]) 1 rfl ?_
            refine me_iald rfl (g := 106) rfl rfl h.1 ?_
            replace h := h.2
            refine me_callN rfl rfl rfl (h.mono (fun r5 μ5 h => ?_) (fun _ h => h))
            refine me_go (pc1 := 263) (lv1 := [(3, .int ((μ.1 103) + 1)), (0, .ref P.1), (1, .int x1), (2, .int x2)]) (st1 := []) 1 rfl ?_
            refine me_lv [(0, .ref P.1), (1, .int x1), (2, .int x2), (3, .int ((μ.1 103) + 1))] (fl_c rfl (fl_c rfl (fl_c rfl (fl_c rfl fl_0)))) ?_
            exact h
        · replace h := h.2 (cn_ne c)
          refine me_go (pc1 := 210) (lv1 := [(3, .int ((μ.1 103) + 1)), (0, .ref P.1), (1, .int x1), (2, .int x2)]) (st1 := [.ref P.1, .ref P.1]) 2 rfl ?_
          refine me_getf (v := .ref (P.2.1 22)) rfl rfl rfl ?_
          refine me_go (pc1 := 214) (lv1 := [(3, .int ((μ.1 103) + 1)), (0, .ref P.1), (1, .int x1), (2, .int x2)]) (st1 := [.int x1, .ref (P.2.1 22), .ref P.1]) 1 rfl ?_
          refine me_iald rfl (g := 22) rfl rfl h.1 ?_
          replace h := h.2
          refine me_go (pc1 := 216) (lv1 := [(3, .int ((μ.1 103) + 1)), (0, .ref P.1), (1, .int x1), (2, .int x2)]) (st1 := [.ref P.1, .int (μ.2.1 22 x1.toNatClampNeg), .ref P.1]) 1 rfl ?_
          refine me_getf (v := .ref (P.2.1 106)) rfl rfl rfl ?_
          refine me_go (pc1 := 220) (lv1 := [(3, .int ((μ.1 103) + 1)), (0, .ref P.1), (1, .int x1), (2, .int x2)]) (st1 := [.int ((μ.1 103) + 1), .ref (P.2.1 106), .int (μ.2.1 22 x1.toNatClampNeg), .ref P.1]) 1 rfl ?_
          refine me_iald rfl (g := 106) rfl rfl h.1 ?_
          replace h := h.2
          refine me_callN rfl rfl rfl (h.mono (fun r6 μ6 h => ?_) (fun _ h => h))
          refine me_go (pc1 := 263) (lv1 := [(4, .int r6), (3, .int ((μ.1 103) + 1)), (0, .ref P.1), (1, .int x1), (2, .int x2)]) (st1 := []) 2 rfl ?_
          refine me_lv [(0, .ref P.1), (1, .int x1), (2, .int x2), (3, .int ((μ.1 103) + 1))] (fl_c rfl (fl_c rfl (fl_c rfl (fl_c rfl fl_0)))) ?_
          exact h
    · replace h := h.2 (cn_ne c)
      refine me_go (pc1 := 164) (lv1 := [(3, .int ((μ.1 103) + 1)), (0, .ref P.1), (1, .int x1), (2, .int x2)]) (st1 := [.int (-1), .int ((μ.1 103) + 1), .ref (P.2.1 108)]) 2 rfl ?_
      have hi := h.1
      replace h := h.2
      refine me_iast rfl (g := 108) rfl rfl hi ?_
      refine me_go (pc1 := 166) (lv1 := [(3, .int ((μ.1 103) + 1)), (0, .ref P.1), (1, .int x1), (2, .int x2)]) (st1 := [.ref P.1]) 1 rfl ?_
      refine me_getf (v := .ref (P.2.1 109)) rfl rfl rfl ?_
      refine me_go (pc1 := 171) (lv1 := [(3, .int ((μ.1 103) + 1)), (0, .ref P.1), (1, .int x1), (2, .int x2)]) (st1 := [.ref P.1, .int ((μ.1 103) + 1), .ref (P.2.1 109)]) 2 rfl ?_
      refine me_getf (v := .ref (P.2.1 20)) rfl rfl rfl ?_
      refine me_go (pc1 := 175) (lv1 := [(3, .int ((μ.1 103) + 1)), (0, .ref P.1), (1, .int x1), (2, .int x2)]) (st1 := [.int x1, .ref (P.2.1 20), .int ((μ.1 103) + 1), .ref (P.2.1 109)]) 1 rfl ?_
      refine me_iald rfl (g := 20) rfl rfl h.1 ?_
      replace h := h.2
      refine me_go (pc1 := 178) (lv1 := [(3, .int ((μ.1 103) + 1)), (0, .ref P.1), (1, .int x1), (2, .int x2)]) (st1 := [.int 24, .int (μ.2.1 20 x1.toNatClampNeg), .int ((μ.1 103) + 1), .ref (P.2.1 109)]) 1 rfl ?_
      refine me_icmp rfl rfl (fun c => ?_) (fun c => ?_)
      · replace h := h.1 (ci_ne c)
        refine me_go (pc1 := 186) (lv1 := [(3, .int ((μ.1 103) + 1)), (0, .ref P.1), (1, .int x1), (2, .int x2)]) (st1 := [.int 0, .int ((μ.1 103) + 1), .ref (P.2.1 109)]) 1 rfl ?_
        have hi := h.1
        replace h := h.2
        refine me_zast rfl (g := 109) rfl rfl hi (by decide) ?_
        refine me_go (pc1 := 189) (lv1 := [(3, .int ((μ.1 103) + 1)), (0, .ref P.1), (1, .int x1), (2, .int x2)]) (st1 := [.ref P.1, .ref P.1]) 2 rfl ?_
        refine me_getf (v := .int (μ.1 104)) rfl rfl rfl ?_
        refine me_go (pc1 := 194) (lv1 := [(3, .int ((μ.1 103) + 1)), (0, .ref P.1), (1, .int x1), (2, .int x2)]) (st1 := [.int ((μ.1 104) + x2), .ref P.1]) 2 rfl ?_
        refine me_put rfl rfl rfl ?_
        refine me_go (pc1 := 198) (lv1 := [(3, .int ((μ.1 103) + 1)), (0, .ref P.1), (1, .int x1), (2, .int x2)]) (st1 := [.ref P.1]) 1 rfl ?_
        refine me_getf (v := .ref (P.2.1 20)) rfl rfl rfl ?_
        refine me_go (pc1 := 202) (lv1 := [(3, .int ((μ.1 103) + 1)), (0, .ref P.1), (1, .int x1), (2, .int x2)]) (st1 := [.int x1, .ref (P.2.1 20)]) 1 rfl ?_
        refine me_iald rfl (g := 20) rfl rfl h.1 ?_
        replace h := h.2
        refine me_go (pc1 := 205) (lv1 := [(3, .int ((μ.1 103) + 1)), (0, .ref P.1), (1, .int x1), (2, .int x2)]) (st1 := [.int 30, .int (μ.2.1 20 x1.toNatClampNeg)]) 1 rfl ?_
        refine me_icmp rfl rfl (fun c => ?_) (fun c => ?_)
        · replace h := h.1 (ci_ne c)
          refine me_go (pc1 := 231) (lv1 := [(3, .int ((μ.1 103) + 1)), (0, .ref P.1), (1, .int x1), (2, .int x2)]) (st1 := [.int x1, .ref P.1]) 2 rfl ?_
          refine me_callN rfl rfl rfl (h.mono (fun r7 μ7 h => ?_) (fun _ h => h))
          refine me_ifc rfl rfl (fun c => ?_) (fun c => ?_)
          · replace h := h.1 (ci_eq c)
            refine me_go (pc1 := 252) (lv1 := [(3, .int ((μ.1 103) + 1)), (0, .ref P.1), (1, .int x1), (2, .int x2)]) (st1 := [.ref P.1]) 1 rfl ?_
            refine me_getf (v := .ref (P.2.1 99)) rfl rfl rfl ?_
            refine me_go (pc1 := 256) (lv1 := [(3, .int ((μ.1 103) + 1)), (0, .ref P.1), (1, .int x1), (2, .int x2)]) (st1 := [.ref P.1, .ref (P.2.1 99)]) 1 rfl ?_
            refine me_getf (v := .ref (P.2.1 106)) rfl rfl rfl ?_
            refine me_go (pc1 := 260) (lv1 := [(3, .int ((μ.1 103) + 1)), (0, .ref P.1), (1, .int x1), (2, .int x2)]) (st1 := [.int ((μ.1 103) + 1), .ref (P.2.1 106), .ref (P.2.1 99)]) 1 rfl ?_
            refine me_iald rfl (g := 106) rfl rfl h.1 ?_
            replace h := h.2
            refine me_go (pc1 := 262) (lv1 := [(3, .int ((μ.1 103) + 1)), (0, .ref P.1), (1, .int x1), (2, .int x2)]) (st1 := [.int 0, .int (μ7.2.1 106 (((μ.1 103) + 1)).toNatClampNeg), .ref (P.2.1 99)]) 1 rfl ?_
            have hi := h.1
            replace h := h.2
            refine me_iast rfl (g := 99) rfl rfl hi ?_
            refine me_lv [(0, .ref P.1), (1, .int x1), (2, .int x2), (3, .int ((μ.1 103) + 1))] (fl_c rfl (fl_c rfl (fl_c rfl (fl_c rfl fl_0)))) ?_
            exact h
          · replace h := h.2 (cn_eq c)
            refine me_go (pc1 := 240) (lv1 := [(3, .int ((μ.1 103) + 1)), (0, .ref P.1), (1, .int x1), (2, .int x2)]) (st1 := [.ref P.1, .int x1, .ref P.1]) 3 rfl ?_
            refine me_getf (v := .ref (P.2.1 106)) rfl rfl rfl ?_
            refine me_go (pc1 := 244) (lv1 := [(3, .int ((μ.1 103) + 1)), (0, .ref P.1), (1, .int x1), (2, .int x2)]) (st1 := [.int ((μ.1 103) + 1), .ref (P.2.1 106), .int x1, .ref P.1]) 1 rfl ?_
            refine me_iald rfl (g := 106) rfl rfl h.1 ?_
            replace h := h.2
            refine me_callN rfl rfl rfl (h.mono (fun r8 μ8 h => ?_) (fun _ h => h))
            refine me_go (pc1 := 263) (lv1 := [(3, .int ((μ.1 103) + 1)), (0, .ref P.1), (1, .int x1), (2, .int x2)]) (st1 := []) 1 rfl ?_
            refine me_lv [(0, .ref P.1), (1, .int x1), (2, .int x2), (3, .int ((μ.1 103) + 1))] (fl_c rfl (fl_c rfl (fl_c rfl (fl_c rfl fl_0)))) ?_
            exact h
        · replace h := h.2 (cn_ne c)
          refine me_go (pc1 := 210) (lv1 := [(3, .int ((μ.1 103) + 1)), (0, .ref P.1), (1, .int x1), (2, .int x2)]) (st1 := [.ref P.1, .ref P.1]) 2 rfl ?_
          refine me_getf (v := .ref (P.2.1 22)) rfl rfl rfl ?_
          refine me_go (pc1 := 214) (lv1 := [(3, .int ((μ.1 103) + 1)), (0, .ref P.1), (1, .int x1), (2, .int x2)]) (st1 := [.int x1, .ref (P.2.1 22), .ref P.1]) 1 rfl ?_
          refine me_iald rfl (g := 22) rfl rfl h.1 ?_
          replace h := h.2
          refine me_go (pc1 := 216) (lv1 := [(3, .int ((μ.1 103) + 1)), (0, .ref P.1), (1, .int x1), (2, .int x2)]) (st1 := [.ref P.1, .int (μ.2.1 22 x1.toNatClampNeg), .ref P.1]) 1 rfl ?_
          refine me_getf (v := .ref (P.2.1 106)) rfl rfl rfl ?_
          refine me_go (pc1 := 220) (lv1 := [(3, .int ((μ.1 103) + 1)), (0, .ref P.1), (1, .int x1), (2, .int x2)]) (st1 := [.int ((μ.1 103) + 1), .ref (P.2.1 106), .int (μ.2.1 22 x1.toNatClampNeg), .ref P.1]) 1 rfl ?_
          refine me_iald rfl (g := 106) rfl rfl h.1 ?_
          replace h := h.2
          refine me_callN rfl rfl rfl (h.mono (fun r9 μ9 h => ?_) (fun _ h => h))
          refine me_go (pc1 := 263) (lv1 := [(4, .int r9), (3, .int ((μ.1 103) + 1)), (0, .ref P.1), (1, .int x1), (2, .int x2)]) (st1 := []) 2 rfl ?_
          refine me_lv [(0, .ref P.1), (1, .int x1), (2, .int x2), (3, .int ((μ.1 103) + 1))] (fl_c rfl (fl_c rfl (fl_c rfl (fl_c rfl fl_0)))) ?_
          exact h
      · replace h := h.2 (cn_ne c)
        refine me_go (pc1 := 186) (lv1 := [(3, .int ((μ.1 103) + 1)), (0, .ref P.1), (1, .int x1), (2, .int x2)]) (st1 := [.int 1, .int ((μ.1 103) + 1), .ref (P.2.1 109)]) 2 rfl ?_
        have hi := h.1
        replace h := h.2
        refine me_zast rfl (g := 109) rfl rfl hi (by decide) ?_
        refine me_go (pc1 := 189) (lv1 := [(3, .int ((μ.1 103) + 1)), (0, .ref P.1), (1, .int x1), (2, .int x2)]) (st1 := [.ref P.1, .ref P.1]) 2 rfl ?_
        refine me_getf (v := .int (μ.1 104)) rfl rfl rfl ?_
        refine me_go (pc1 := 194) (lv1 := [(3, .int ((μ.1 103) + 1)), (0, .ref P.1), (1, .int x1), (2, .int x2)]) (st1 := [.int ((μ.1 104) + x2), .ref P.1]) 2 rfl ?_
        refine me_put rfl rfl rfl ?_
        refine me_go (pc1 := 198) (lv1 := [(3, .int ((μ.1 103) + 1)), (0, .ref P.1), (1, .int x1), (2, .int x2)]) (st1 := [.ref P.1]) 1 rfl ?_
        refine me_getf (v := .ref (P.2.1 20)) rfl rfl rfl ?_
        refine me_go (pc1 := 202) (lv1 := [(3, .int ((μ.1 103) + 1)), (0, .ref P.1), (1, .int x1), (2, .int x2)]) (st1 := [.int x1, .ref (P.2.1 20)]) 1 rfl ?_
        refine me_iald rfl (g := 20) rfl rfl h.1 ?_
        replace h := h.2
        refine me_go (pc1 := 205) (lv1 := [(3, .int ((μ.1 103) + 1)), (0, .ref P.1), (1, .int x1), (2, .int x2)]) (st1 := [.int 30, .int (μ.2.1 20 x1.toNatClampNeg)]) 1 rfl ?_
        refine me_icmp rfl rfl (fun c => ?_) (fun c => ?_)
        · replace h := h.1 (ci_ne c)
          refine me_go (pc1 := 231) (lv1 := [(3, .int ((μ.1 103) + 1)), (0, .ref P.1), (1, .int x1), (2, .int x2)]) (st1 := [.int x1, .ref P.1]) 2 rfl ?_
          refine me_callN rfl rfl rfl (h.mono (fun r10 μ10 h => ?_) (fun _ h => h))
          refine me_ifc rfl rfl (fun c => ?_) (fun c => ?_)
          · replace h := h.1 (ci_eq c)
            refine me_go (pc1 := 252) (lv1 := [(3, .int ((μ.1 103) + 1)), (0, .ref P.1), (1, .int x1), (2, .int x2)]) (st1 := [.ref P.1]) 1 rfl ?_
            refine me_getf (v := .ref (P.2.1 99)) rfl rfl rfl ?_
            refine me_go (pc1 := 256) (lv1 := [(3, .int ((μ.1 103) + 1)), (0, .ref P.1), (1, .int x1), (2, .int x2)]) (st1 := [.ref P.1, .ref (P.2.1 99)]) 1 rfl ?_
            refine me_getf (v := .ref (P.2.1 106)) rfl rfl rfl ?_
            refine me_go (pc1 := 260) (lv1 := [(3, .int ((μ.1 103) + 1)), (0, .ref P.1), (1, .int x1), (2, .int x2)]) (st1 := [.int ((μ.1 103) + 1), .ref (P.2.1 106), .ref (P.2.1 99)]) 1 rfl ?_
            refine me_iald rfl (g := 106) rfl rfl h.1 ?_
            replace h := h.2
            refine me_go (pc1 := 262) (lv1 := [(3, .int ((μ.1 103) + 1)), (0, .ref P.1), (1, .int x1), (2, .int x2)]) (st1 := [.int 0, .int (μ10.2.1 106 (((μ.1 103) + 1)).toNatClampNeg), .ref (P.2.1 99)]) 1 rfl ?_
            have hi := h.1
            replace h := h.2
            refine me_iast rfl (g := 99) rfl rfl hi ?_
            refine me_lv [(0, .ref P.1), (1, .int x1), (2, .int x2), (3, .int ((μ.1 103) + 1))] (fl_c rfl (fl_c rfl (fl_c rfl (fl_c rfl fl_0)))) ?_
            exact h
          · replace h := h.2 (cn_eq c)
            refine me_go (pc1 := 240) (lv1 := [(3, .int ((μ.1 103) + 1)), (0, .ref P.1), (1, .int x1), (2, .int x2)]) (st1 := [.ref P.1, .int x1, .ref P.1]) 3 rfl ?_
            refine me_getf (v := .ref (P.2.1 106)) rfl rfl rfl ?_
            refine me_go (pc1 := 244) (lv1 := [(3, .int ((μ.1 103) + 1)), (0, .ref P.1), (1, .int x1), (2, .int x2)]) (st1 := [.int ((μ.1 103) + 1), .ref (P.2.1 106), .int x1, .ref P.1]) 1 rfl ?_
            refine me_iald rfl (g := 106) rfl rfl h.1 ?_
            replace h := h.2
            refine me_callN rfl rfl rfl (h.mono (fun r11 μ11 h => ?_) (fun _ h => h))
            refine me_go (pc1 := 263) (lv1 := [(3, .int ((μ.1 103) + 1)), (0, .ref P.1), (1, .int x1), (2, .int x2)]) (st1 := []) 1 rfl ?_
            refine me_lv [(0, .ref P.1), (1, .int x1), (2, .int x2), (3, .int ((μ.1 103) + 1))] (fl_c rfl (fl_c rfl (fl_c rfl (fl_c rfl fl_0)))) ?_
            exact h
        · replace h := h.2 (cn_ne c)
          refine me_go (pc1 := 210) (lv1 := [(3, .int ((μ.1 103) + 1)), (0, .ref P.1), (1, .int x1), (2, .int x2)]) (st1 := [.ref P.1, .ref P.1]) 2 rfl ?_
          refine me_getf (v := .ref (P.2.1 22)) rfl rfl rfl ?_
          refine me_go (pc1 := 214) (lv1 := [(3, .int ((μ.1 103) + 1)), (0, .ref P.1), (1, .int x1), (2, .int x2)]) (st1 := [.int x1, .ref (P.2.1 22), .ref P.1]) 1 rfl ?_
          refine me_iald rfl (g := 22) rfl rfl h.1 ?_
          replace h := h.2
          refine me_go (pc1 := 216) (lv1 := [(3, .int ((μ.1 103) + 1)), (0, .ref P.1), (1, .int x1), (2, .int x2)]) (st1 := [.ref P.1, .int (μ.2.1 22 x1.toNatClampNeg), .ref P.1]) 1 rfl ?_
          refine me_getf (v := .ref (P.2.1 106)) rfl rfl rfl ?_
          refine me_go (pc1 := 220) (lv1 := [(3, .int ((μ.1 103) + 1)), (0, .ref P.1), (1, .int x1), (2, .int x2)]) (st1 := [.int ((μ.1 103) + 1), .ref (P.2.1 106), .int (μ.2.1 22 x1.toNatClampNeg), .ref P.1]) 1 rfl ?_
          refine me_iald rfl (g := 106) rfl rfl h.1 ?_
          replace h := h.2
          refine me_callN rfl rfl rfl (h.mono (fun r12 μ12 h => ?_) (fun _ h => h))
          refine me_go (pc1 := 263) (lv1 := [(4, .int r12), (3, .int ((μ.1 103) + 1)), (0, .ref P.1), (1, .int x1), (2, .int x2)]) (st1 := []) 2 rfl ?_
          refine me_lv [(0, .ref P.1), (1, .int x1), (2, .int x2), (3, .int ((μ.1 103) + 1))] (fl_c rfl (fl_c rfl (fl_c rfl (fl_c rfl fl_0)))) ?_
          exact h
  · replace h := h.2 (cn_eq c)
    refine me_go (pc1 := 109) (lv1 := [(3, .int ((μ.1 103) + 1)), (0, .ref P.1), (1, .int x1), (2, .int x2)]) (st1 := [.int x1, .ref P.1, .int ((μ.1 103) + 1), .ref (P.2.1 105)]) 2 rfl ?_
    refine me_callN rfl rfl rfl (h.mono (fun r13 μ13 h => ?_) (fun _ h => h))
    refine me_ifc rfl rfl (fun c => ?_) (fun c => ?_)
    · replace h := h.1 (ci_eq c)
      refine me_go (pc1 := 120) (lv1 := [(3, .int ((μ.1 103) + 1)), (0, .ref P.1), (1, .int x1), (2, .int x2)]) (st1 := [.int (-1), .int ((μ.1 103) + 1), .ref (P.2.1 105)]) 1 rfl ?_
      have hi := h.1
      replace h := h.2
      refine me_iast rfl (g := 105) rfl rfl hi ?_
      refine me_go (pc1 := 122) (lv1 := [(3, .int ((μ.1 103) + 1)), (0, .ref P.1), (1, .int x1), (2, .int x2)]) (st1 := [.ref P.1]) 1 rfl ?_
      refine me_getf (v := .ref (P.2.1 106)) rfl rfl rfl ?_
      refine me_go (pc1 := 130) (lv1 := [(3, .int ((μ.1 103) + 1)), (0, .ref P.1), (1, .int x1), (2, .int x2)]) (st1 := [.ref P.1, .int 5100, .int ((μ.1 103) + 1), .ref (P.2.1 106)]) 3 rfl ?_
      refine me_getf (v := .int (μ13.1 104)) rfl rfl rfl ?_
      refine me_go (pc1 := 134) (lv1 := [(3, .int ((μ.1 103) + 1)), (0, .ref P.1), (1, .int x1), (2, .int x2)]) (st1 := [.int (5100 + (μ13.1 104)), .int ((μ.1 103) + 1), .ref (P.2.1 106)]) 1 rfl ?_
      have hi := h.1
      replace h := h.2
      refine me_iast rfl (g := 106) rfl rfl hi ?_
      refine me_go (pc1 := 136) (lv1 := [(3, .int ((μ.1 103) + 1)), (0, .ref P.1), (1, .int x1), (2, .int x2)]) (st1 := [.ref P.1]) 1 rfl ?_
      refine me_getf (v := .ref (P.2.1 107)) rfl rfl rfl ?_
      refine me_go (pc1 := 141) (lv1 := [(3, .int ((μ.1 103) + 1)), (0, .ref P.1), (1, .int x1), (2, .int x2)]) (st1 := [.int x2, .int ((μ.1 103) + 1), .ref (P.2.1 107)]) 2 rfl ?_
      have hi := h.1
      replace h := h.2
      refine me_iast rfl (g := 107) rfl rfl hi ?_
      refine me_go (pc1 := 143) (lv1 := [(3, .int ((μ.1 103) + 1)), (0, .ref P.1), (1, .int x1), (2, .int x2)]) (st1 := [.ref P.1]) 1 rfl ?_
      refine me_getf (v := .ref (P.2.1 108)) rfl rfl rfl ?_
      refine me_go (pc1 := 148) (lv1 := [(3, .int ((μ.1 103) + 1)), (0, .ref P.1), (1, .int x1), (2, .int x2)]) (st1 := [.ref P.1, .int ((μ.1 103) + 1), .ref (P.2.1 108)]) 2 rfl ?_
      refine me_getf (v := .ref (P.2.1 20)) rfl rfl rfl ?_
      refine me_go (pc1 := 152) (lv1 := [(3, .int ((μ.1 103) + 1)), (0, .ref P.1), (1, .int x1), (2, .int x2)]) (st1 := [.int x1, .ref (P.2.1 20), .int ((μ.1 103) + 1), .ref (P.2.1 108)]) 1 rfl ?_
      refine me_iald rfl (g := 20) rfl rfl h.1 ?_
      replace h := h.2
      refine me_go (pc1 := 155) (lv1 := [(3, .int ((μ.1 103) + 1)), (0, .ref P.1), (1, .int x1), (2, .int x2)]) (st1 := [.int 23, .int (μ13.2.1 20 x1.toNatClampNeg), .int ((μ.1 103) + 1), .ref (P.2.1 108)]) 1 rfl ?_
      refine me_icmp rfl rfl (fun c => ?_) (fun c => ?_)
      · replace h := h.1 (ci_ne c)
        refine me_go (pc1 := 164) (lv1 := [(3, .int ((μ.1 103) + 1)), (0, .ref P.1), (1, .int x1), (2, .int x2)]) (st1 := [.int (-2), .int ((μ.1 103) + 1), .ref (P.2.1 108)]) 1 rfl ?_
        have hi := h.1
        replace h := h.2
        refine me_iast rfl (g := 108) rfl rfl hi ?_
        refine me_go (pc1 := 166) (lv1 := [(3, .int ((μ.1 103) + 1)), (0, .ref P.1), (1, .int x1), (2, .int x2)]) (st1 := [.ref P.1]) 1 rfl ?_
        refine me_getf (v := .ref (P.2.1 109)) rfl rfl rfl ?_
        refine me_go (pc1 := 171) (lv1 := [(3, .int ((μ.1 103) + 1)), (0, .ref P.1), (1, .int x1), (2, .int x2)]) (st1 := [.ref P.1, .int ((μ.1 103) + 1), .ref (P.2.1 109)]) 2 rfl ?_
        refine me_getf (v := .ref (P.2.1 20)) rfl rfl rfl ?_
        refine me_go (pc1 := 175) (lv1 := [(3, .int ((μ.1 103) + 1)), (0, .ref P.1), (1, .int x1), (2, .int x2)]) (st1 := [.int x1, .ref (P.2.1 20), .int ((μ.1 103) + 1), .ref (P.2.1 109)]) 1 rfl ?_
        refine me_iald rfl (g := 20) rfl rfl h.1 ?_
        replace h := h.2
        refine me_go (pc1 := 178) (lv1 := [(3, .int ((μ.1 103) + 1)), (0, .ref P.1), (1, .int x1), (2, .int x2)]) (st1 := [.int 24, .int (μ13.2.1 20 x1.toNatClampNeg), .int ((μ.1 103) + 1), .ref (P.2.1 109)]) 1 rfl ?_
        refine me_icmp rfl rfl (fun c => ?_) (fun c => ?_)
        · replace h := h.1 (ci_ne c)
          refine me_go (pc1 := 186) (lv1 := [(3, .int ((μ.1 103) + 1)), (0, .ref P.1), (1, .int x1), (2, .int x2)]) (st1 := [.int 0, .int ((μ.1 103) + 1), .ref (P.2.1 109)]) 1 rfl ?_
          have hi := h.1
          replace h := h.2
          refine me_zast rfl (g := 109) rfl rfl hi (by decide) ?_
          refine me_go (pc1 := 189) (lv1 := [(3, .int ((μ.1 103) + 1)), (0, .ref P.1), (1, .int x1), (2, .int x2)]) (st1 := [.ref P.1, .ref P.1]) 2 rfl ?_
          refine me_getf (v := .int (μ13.1 104)) rfl rfl rfl ?_
          refine me_go (pc1 := 194) (lv1 := [(3, .int ((μ.1 103) + 1)), (0, .ref P.1), (1, .int x1), (2, .int x2)]) (st1 := [.int ((μ13.1 104) + x2), .ref P.1]) 2 rfl ?_
          refine me_put rfl rfl rfl ?_
          refine me_go (pc1 := 198) (lv1 := [(3, .int ((μ.1 103) + 1)), (0, .ref P.1), (1, .int x1), (2, .int x2)]) (st1 := [.ref P.1]) 1 rfl ?_
          refine me_getf (v := .ref (P.2.1 20)) rfl rfl rfl ?_
          refine me_go (pc1 := 202) (lv1 := [(3, .int ((μ.1 103) + 1)), (0, .ref P.1), (1, .int x1), (2, .int x2)]) (st1 := [.int x1, .ref (P.2.1 20)]) 1 rfl ?_
          refine me_iald rfl (g := 20) rfl rfl h.1 ?_
          replace h := h.2
          refine me_go (pc1 := 205) (lv1 := [(3, .int ((μ.1 103) + 1)), (0, .ref P.1), (1, .int x1), (2, .int x2)]) (st1 := [.int 30, .int (μ13.2.1 20 x1.toNatClampNeg)]) 1 rfl ?_
          refine me_icmp rfl rfl (fun c => ?_) (fun c => ?_)
          · replace h := h.1 (ci_ne c)
            refine me_go (pc1 := 231) (lv1 := [(3, .int ((μ.1 103) + 1)), (0, .ref P.1), (1, .int x1), (2, .int x2)]) (st1 := [.int x1, .ref P.1]) 2 rfl ?_
            refine me_callN rfl rfl rfl (h.mono (fun r14 μ14 h => ?_) (fun _ h => h))
            refine me_ifc rfl rfl (fun c => ?_) (fun c => ?_)
            · replace h := h.1 (ci_eq c)
              refine me_go (pc1 := 252) (lv1 := [(3, .int ((μ.1 103) + 1)), (0, .ref P.1), (1, .int x1), (2, .int x2)]) (st1 := [.ref P.1]) 1 rfl ?_
              refine me_getf (v := .ref (P.2.1 99)) rfl rfl rfl ?_
              refine me_go (pc1 := 256) (lv1 := [(3, .int ((μ.1 103) + 1)), (0, .ref P.1), (1, .int x1), (2, .int x2)]) (st1 := [.ref P.1, .ref (P.2.1 99)]) 1 rfl ?_
              refine me_getf (v := .ref (P.2.1 106)) rfl rfl rfl ?_
              refine me_go (pc1 := 260) (lv1 := [(3, .int ((μ.1 103) + 1)), (0, .ref P.1), (1, .int x1), (2, .int x2)]) (st1 := [.int ((μ.1 103) + 1), .ref (P.2.1 106), .ref (P.2.1 99)]) 1 rfl ?_
              refine me_iald rfl (g := 106) rfl rfl h.1 ?_
              replace h := h.2
              refine me_go (pc1 := 262) (lv1 := [(3, .int ((μ.1 103) + 1)), (0, .ref P.1), (1, .int x1), (2, .int x2)]) (st1 := [.int 0, .int (μ14.2.1 106 (((μ.1 103) + 1)).toNatClampNeg), .ref (P.2.1 99)]) 1 rfl ?_
              have hi := h.1
              replace h := h.2
              refine me_iast rfl (g := 99) rfl rfl hi ?_
              refine me_lv [(0, .ref P.1), (1, .int x1), (2, .int x2), (3, .int ((μ.1 103) + 1))] (fl_c rfl (fl_c rfl (fl_c rfl (fl_c rfl fl_0)))) ?_
              exact h
            · replace h := h.2 (cn_eq c)
              refine me_go (pc1 := 240) (lv1 := [(3, .int ((μ.1 103) + 1)), (0, .ref P.1), (1, .int x1), (2, .int x2)]) (st1 := [.ref P.1, .int x1, .ref P.1]) 3 rfl ?_
              refine me_getf (v := .ref (P.2.1 106)) rfl rfl rfl ?_
              refine me_go (pc1 := 244) (lv1 := [(3, .int ((μ.1 103) + 1)), (0, .ref P.1), (1, .int x1), (2, .int x2)]) (st1 := [.int ((μ.1 103) + 1), .ref (P.2.1 106), .int x1, .ref P.1]) 1 rfl ?_
              refine me_iald rfl (g := 106) rfl rfl h.1 ?_
              replace h := h.2
              refine me_callN rfl rfl rfl (h.mono (fun r15 μ15 h => ?_) (fun _ h => h))
              refine me_go (pc1 := 263) (lv1 := [(3, .int ((μ.1 103) + 1)), (0, .ref P.1), (1, .int x1), (2, .int x2)]) (st1 := []) 1 rfl ?_
              refine me_lv [(0, .ref P.1), (1, .int x1), (2, .int x2), (3, .int ((μ.1 103) + 1))] (fl_c rfl (fl_c rfl (fl_c rfl (fl_c rfl fl_0)))) ?_
              exact h
          · replace h := h.2 (cn_ne c)
            refine me_go (pc1 := 210) (lv1 := [(3, .int ((μ.1 103) + 1)), (0, .ref P.1), (1, .int x1), (2, .int x2)]) (st1 := [.ref P.1, .ref P.1]) 2 rfl ?_
            refine me_getf (v := .ref (P.2.1 22)) rfl rfl rfl ?_
            refine me_go (pc1 := 214) (lv1 := [(3, .int ((μ.1 103) + 1)), (0, .ref P.1), (1, .int x1), (2, .int x2)]) (st1 := [.int x1, .ref (P.2.1 22), .ref P.1]) 1 rfl ?_
            refine me_iald rfl (g := 22) rfl rfl h.1 ?_
            replace h := h.2
            refine me_go (pc1 := 216) (lv1 := [(3, .int ((μ.1 103) + 1)), (0, .ref P.1), (1, .int x1), (2, .int x2)]) (st1 := [.ref P.1, .int (μ13.2.1 22 x1.toNatClampNeg), .ref P.1]) 1 rfl ?_
            refine me_getf (v := .ref (P.2.1 106)) rfl rfl rfl ?_
            refine me_go (pc1 := 220) (lv1 := [(3, .int ((μ.1 103) + 1)), (0, .ref P.1), (1, .int x1), (2, .int x2)]) (st1 := [.int ((μ.1 103) + 1), .ref (P.2.1 106), .int (μ13.2.1 22 x1.toNatClampNeg), .ref P.1]) 1 rfl ?_
            refine me_iald rfl (g := 106) rfl rfl h.1 ?_
            replace h := h.2
            refine me_callN rfl rfl rfl (h.mono (fun r16 μ16 h => ?_) (fun _ h => h))
            refine me_go (pc1 := 263) (lv1 := [(4, .int r16), (3, .int ((μ.1 103) + 1)), (0, .ref P.1), (1, .int x1), (2, .int x2)]) (st1 := []) 2 rfl ?_
            refine me_lv [(0, .ref P.1), (1, .int x1), (2, .int x2), (3, .int ((μ.1 103) + 1))] (fl_c rfl (fl_c rfl (fl_c rfl (fl_c rfl fl_0)))) ?_
            exact h
        · replace h := h.2 (cn_ne c)
          refine me_go (pc1 := 186) (lv1 := [(3, .int ((μ.1 103) + 1)), (0, .ref P.1), (1, .int x1), (2, .int x2)]) (st1 := [.int 1, .int ((μ.1 103) + 1), .ref (P.2.1 109)]) 2 rfl ?_
          have hi := h.1
          replace h := h.2
          refine me_zast rfl (g := 109) rfl rfl hi (by decide) ?_
          refine me_go (pc1 := 189) (lv1 := [(3, .int ((μ.1 103) + 1)), (0, .ref P.1), (1, .int x1), (2, .int x2)]) (st1 := [.ref P.1, .ref P.1]) 2 rfl ?_
          refine me_getf (v := .int (μ13.1 104)) rfl rfl rfl ?_
          refine me_go (pc1 := 194) (lv1 := [(3, .int ((μ.1 103) + 1)), (0, .ref P.1), (1, .int x1), (2, .int x2)]) (st1 := [.int ((μ13.1 104) + x2), .ref P.1]) 2 rfl ?_
          refine me_put rfl rfl rfl ?_
          refine me_go (pc1 := 198) (lv1 := [(3, .int ((μ.1 103) + 1)), (0, .ref P.1), (1, .int x1), (2, .int x2)]) (st1 := [.ref P.1]) 1 rfl ?_
          refine me_getf (v := .ref (P.2.1 20)) rfl rfl rfl ?_
          refine me_go (pc1 := 202) (lv1 := [(3, .int ((μ.1 103) + 1)), (0, .ref P.1), (1, .int x1), (2, .int x2)]) (st1 := [.int x1, .ref (P.2.1 20)]) 1 rfl ?_
          refine me_iald rfl (g := 20) rfl rfl h.1 ?_
          replace h := h.2
          refine me_go (pc1 := 205) (lv1 := [(3, .int ((μ.1 103) + 1)), (0, .ref P.1), (1, .int x1), (2, .int x2)]) (st1 := [.int 30, .int (μ13.2.1 20 x1.toNatClampNeg)]) 1 rfl ?_
          refine me_icmp rfl rfl (fun c => ?_) (fun c => ?_)
          · replace h := h.1 (ci_ne c)
            refine me_go (pc1 := 231) (lv1 := [(3, .int ((μ.1 103) + 1)), (0, .ref P.1), (1, .int x1), (2, .int x2)]) (st1 := [.int x1, .ref P.1]) 2 rfl ?_
            refine me_callN rfl rfl rfl (h.mono (fun r17 μ17 h => ?_) (fun _ h => h))
            refine me_ifc rfl rfl (fun c => ?_) (fun c => ?_)
            · replace h := h.1 (ci_eq c)
              refine me_go (pc1 := 252) (lv1 := [(3, .int ((μ.1 103) + 1)), (0, .ref P.1), (1, .int x1), (2, .int x2)]) (st1 := [.ref P.1]) 1 rfl ?_
              refine me_getf (v := .ref (P.2.1 99)) rfl rfl rfl ?_
              refine me_go (pc1 := 256) (lv1 := [(3, .int ((μ.1 103) + 1)), (0, .ref P.1), (1, .int x1), (2, .int x2)]) (st1 := [.ref P.1, .ref (P.2.1 99)]) 1 rfl ?_
              refine me_getf (v := .ref (P.2.1 106)) rfl rfl rfl ?_
              refine me_go (pc1 := 260) (lv1 := [(3, .int ((μ.1 103) + 1)), (0, .ref P.1), (1, .int x1), (2, .int x2)]) (st1 := [.int ((μ.1 103) + 1), .ref (P.2.1 106), .ref (P.2.1 99)]) 1 rfl ?_
              refine me_iald rfl (g := 106) rfl rfl h.1 ?_
              replace h := h.2
              refine me_go (pc1 := 262) (lv1 := [(3, .int ((μ.1 103) + 1)), (0, .ref P.1), (1, .int x1), (2, .int x2)]) (st1 := [.int 0, .int (μ17.2.1 106 (((μ.1 103) + 1)).toNatClampNeg), .ref (P.2.1 99)]) 1 rfl ?_
              have hi := h.1
              replace h := h.2
              refine me_iast rfl (g := 99) rfl rfl hi ?_
              refine me_lv [(0, .ref P.1), (1, .int x1), (2, .int x2), (3, .int ((μ.1 103) + 1))] (fl_c rfl (fl_c rfl (fl_c rfl (fl_c rfl fl_0)))) ?_
              exact h
            · replace h := h.2 (cn_eq c)
              refine me_go (pc1 := 240) (lv1 := [(3, .int ((μ.1 103) + 1)), (0, .ref P.1), (1, .int x1), (2, .int x2)]) (st1 := [.ref P.1, .int x1, .ref P.1]) 3 rfl ?_
              refine me_getf (v := .ref (P.2.1 106)) rfl rfl rfl ?_
              refine me_go (pc1 := 244) (lv1 := [(3, .int ((μ.1 103) + 1)), (0, .ref P.1), (1, .int x1), (2, .int x2)]) (st1 := [.int ((μ.1 103) + 1), .ref (P.2.1 106), .int x1, .ref P.1]) 1 rfl ?_
              refine me_iald rfl (g := 106) rfl rfl h.1 ?_
              replace h := h.2
              refine me_callN rfl rfl rfl (h.mono (fun r18 μ18 h => ?_) (fun _ h => h))
              refine me_go (pc1 := 263) (lv1 := [(3, .int ((μ.1 103) + 1)), (0, .ref P.1), (1, .int x1), (2, .int x2)]) (st1 := []) 1 rfl ?_
              refine me_lv [(0, .ref P.1), (1, .int x1), (2, .int x2), (3, .int ((μ.1 103) + 1))] (fl_c rfl (fl_c rfl (fl_c rfl (fl_c rfl fl_0)))) ?_
              exact h
          · replace h := h.2 (cn_ne c)
            refine me_go (pc1 := 210) (lv1 := [(3, .int ((μ.1 103) + 1)), (0, .ref P.1), (1, .int x1), (2, .int x2)]) (st1 := [.ref P.1, .ref P.1]) 2 rfl ?_
            refine me_getf (v := .ref (P.2.1 22)) rfl rfl rfl ?_
            refine me_go (pc1 := 214) (lv1 := [(3, .int ((μ.1 103) + 1)), (0, .ref P.1), (1, .int x1), (2, .int x2)]) (st1 := [.int x1, .ref (P.2.1 22), .ref P.1]) 1 rfl ?_
            refine me_iald rfl (g := 22) rfl rfl h.1 ?_
            replace h := h.2
            refine me_go (pc1 := 216) (lv1 := [(3, .int ((μ.1 103) + 1)), (0, .ref P.1), (1, .int x1), (2, .int x2)]) (st1 := [.ref P.1, .int (μ13.2.1 22 x1.toNatClampNeg), .ref P.1]) 1 rfl ?_
            refine me_getf (v := .ref (P.2.1 106)) rfl rfl rfl ?_
            refine me_go (pc1 := 220) (lv1 := [(3, .int ((μ.1 103) + 1)), (0, .ref P.1), (1, .int x1), (2, .int x2)]) (st1 := [.int ((μ.1 103) + 1), .ref (P.2.1 106), .int (μ13.2.1 22 x1.toNatClampNeg), .ref P.1]) 1 rfl ?_
            refine me_iald rfl (g := 106) rfl rfl h.1 ?_
            replace h := h.2
            refine me_callN rfl rfl rfl (h.mono (fun r19 μ19 h => ?_) (fun _ h => h))
            refine me_go (pc1 := 263) (lv1 := [(4, .int r19), (3, .int ((μ.1 103) + 1)), (0, .ref P.1), (1, .int x1), (2, .int x2)]) (st1 := []) 2 rfl ?_
            refine me_lv [(0, .ref P.1), (1, .int x1), (2, .int x2), (3, .int ((μ.1 103) + 1))] (fl_c rfl (fl_c rfl (fl_c rfl (fl_c rfl fl_0)))) ?_
            exact h
      · replace h := h.2 (cn_ne c)
        refine me_go (pc1 := 164) (lv1 := [(3, .int ((μ.1 103) + 1)), (0, .ref P.1), (1, .int x1), (2, .int x2)]) (st1 := [.int (-1), .int ((μ.1 103) + 1), .ref (P.2.1 108)]) 2 rfl ?_
        have hi := h.1
        replace h := h.2
        refine me_iast rfl (g := 108) rfl rfl hi ?_
        refine me_go (pc1 := 166) (lv1 := [(3, .int ((μ.1 103) + 1)), (0, .ref P.1), (1, .int x1), (2, .int x2)]) (st1 := [.ref P.1]) 1 rfl ?_
        refine me_getf (v := .ref (P.2.1 109)) rfl rfl rfl ?_
        refine me_go (pc1 := 171) (lv1 := [(3, .int ((μ.1 103) + 1)), (0, .ref P.1), (1, .int x1), (2, .int x2)]) (st1 := [.ref P.1, .int ((μ.1 103) + 1), .ref (P.2.1 109)]) 2 rfl ?_
        refine me_getf (v := .ref (P.2.1 20)) rfl rfl rfl ?_
        refine me_go (pc1 := 175) (lv1 := [(3, .int ((μ.1 103) + 1)), (0, .ref P.1), (1, .int x1), (2, .int x2)]) (st1 := [.int x1, .ref (P.2.1 20), .int ((μ.1 103) + 1), .ref (P.2.1 109)]) 1 rfl ?_
        refine me_iald rfl (g := 20) rfl rfl h.1 ?_
        replace h := h.2
        refine me_go (pc1 := 178) (lv1 := [(3, .int ((μ.1 103) + 1)), (0, .ref P.1), (1, .int x1), (2, .int x2)]) (st1 := [.int 24, .int (μ13.2.1 20 x1.toNatClampNeg), .int ((μ.1 103) + 1), .ref (P.2.1 109)]) 1 rfl ?_
        refine me_icmp rfl rfl (fun c => ?_) (fun c => ?_)
        · replace h := h.1 (ci_ne c)
          refine me_go (pc1 := 186) (lv1 := [(3, .int ((μ.1 103) + 1)), (0, .ref P.1), (1, .int x1), (2, .int x2)]) (st1 := [.int 0, .int ((μ.1 103) + 1), .ref (P.2.1 109)]) 1 rfl ?_
          have hi := h.1
          replace h := h.2
          refine me_zast rfl (g := 109) rfl rfl hi (by decide) ?_
          refine me_go (pc1 := 189) (lv1 := [(3, .int ((μ.1 103) + 1)), (0, .ref P.1), (1, .int x1), (2, .int x2)]) (st1 := [.ref P.1, .ref P.1]) 2 rfl ?_
          refine me_getf (v := .int (μ13.1 104)) rfl rfl rfl ?_
          refine me_go (pc1 := 194) (lv1 := [(3, .int ((μ.1 103) + 1)), (0, .ref P.1), (1, .int x1), (2, .int x2)]) (st1 := [.int ((μ13.1 104) + x2), .ref P.1]) 2 rfl ?_
          refine me_put rfl rfl rfl ?_
          refine me_go (pc1 := 198) (lv1 := [(3, .int ((μ.1 103) + 1)), (0, .ref P.1), (1, .int x1), (2, .int x2)]) (st1 := [.ref P.1]) 1 rfl ?_
          refine me_getf (v := .ref (P.2.1 20)) rfl rfl rfl ?_
          refine me_go (pc1 := 202) (lv1 := [(3, .int ((μ.1 103) + 1)), (0, .ref P.1), (1, .int x1), (2, .int x2)]) (st1 := [.int x1, .ref (P.2.1 20)]) 1 rfl ?_
          refine me_iald rfl (g := 20) rfl rfl h.1 ?_
          replace h := h.2
          refine me_go (pc1 := 205) (lv1 := [(3, .int ((μ.1 103) + 1)), (0, .ref P.1), (1, .int x1), (2, .int x2)]) (st1 := [.int 30, .int (μ13.2.1 20 x1.toNatClampNeg)]) 1 rfl ?_
          refine me_icmp rfl rfl (fun c => ?_) (fun c => ?_)
          · replace h := h.1 (ci_ne c)
            refine me_go (pc1 := 231) (lv1 := [(3, .int ((μ.1 103) + 1)), (0, .ref P.1), (1, .int x1), (2, .int x2)]) (st1 := [.int x1, .ref P.1]) 2 rfl ?_
            refine me_callN rfl rfl rfl (h.mono (fun r20 μ20 h => ?_) (fun _ h => h))
            refine me_ifc rfl rfl (fun c => ?_) (fun c => ?_)
            · replace h := h.1 (ci_eq c)
              refine me_go (pc1 := 252) (lv1 := [(3, .int ((μ.1 103) + 1)), (0, .ref P.1), (1, .int x1), (2, .int x2)]) (st1 := [.ref P.1]) 1 rfl ?_
              refine me_getf (v := .ref (P.2.1 99)) rfl rfl rfl ?_
              refine me_go (pc1 := 256) (lv1 := [(3, .int ((μ.1 103) + 1)), (0, .ref P.1), (1, .int x1), (2, .int x2)]) (st1 := [.ref P.1, .ref (P.2.1 99)]) 1 rfl ?_
              refine me_getf (v := .ref (P.2.1 106)) rfl rfl rfl ?_
              refine me_go (pc1 := 260) (lv1 := [(3, .int ((μ.1 103) + 1)), (0, .ref P.1), (1, .int x1), (2, .int x2)]) (st1 := [.int ((μ.1 103) + 1), .ref (P.2.1 106), .ref (P.2.1 99)]) 1 rfl ?_
              refine me_iald rfl (g := 106) rfl rfl h.1 ?_
              replace h := h.2
              refine me_go (pc1 := 262) (lv1 := [(3, .int ((μ.1 103) + 1)), (0, .ref P.1), (1, .int x1), (2, .int x2)]) (st1 := [.int 0, .int (μ20.2.1 106 (((μ.1 103) + 1)).toNatClampNeg), .ref (P.2.1 99)]) 1 rfl ?_
              have hi := h.1
              replace h := h.2
              refine me_iast rfl (g := 99) rfl rfl hi ?_
              refine me_lv [(0, .ref P.1), (1, .int x1), (2, .int x2), (3, .int ((μ.1 103) + 1))] (fl_c rfl (fl_c rfl (fl_c rfl (fl_c rfl fl_0)))) ?_
              exact h
            · replace h := h.2 (cn_eq c)
              refine me_go (pc1 := 240) (lv1 := [(3, .int ((μ.1 103) + 1)), (0, .ref P.1), (1, .int x1), (2, .int x2)]) (st1 := [.ref P.1, .int x1, .ref P.1]) 3 rfl ?_
              refine me_getf (v := .ref (P.2.1 106)) rfl rfl rfl ?_
              refine me_go (pc1 := 244) (lv1 := [(3, .int ((μ.1 103) + 1)), (0, .ref P.1), (1, .int x1), (2, .int x2)]) (st1 := [.int ((μ.1 103) + 1), .ref (P.2.1 106), .int x1, .ref P.1]) 1 rfl ?_
              refine me_iald rfl (g := 106) rfl rfl h.1 ?_
              replace h := h.2
              refine me_callN rfl rfl rfl (h.mono (fun r21 μ21 h => ?_) (fun _ h => h))
              refine me_go (pc1 := 263) (lv1 := [(3, .int ((μ.1 103) + 1)), (0, .ref P.1), (1, .int x1), (2, .int x2)]) (st1 := []) 1 rfl ?_
              refine me_lv [(0, .ref P.1), (1, .int x1), (2, .int x2), (3, .int ((μ.1 103) + 1))] (fl_c rfl (fl_c rfl (fl_c rfl (fl_c rfl fl_0)))) ?_
              exact h
          · replace h := h.2 (cn_ne c)
            refine me_go (pc1 := 210) (lv1 := [(3, .int ((μ.1 103) + 1)), (0, .ref P.1), (1, .int x1), (2, .int x2)]) (st1 := [.ref P.1, .ref P.1]) 2 rfl ?_
            refine me_getf (v := .ref (P.2.1 22)) rfl rfl rfl ?_
            refine me_go (pc1 := 214) (lv1 := [(3, .int ((μ.1 103) + 1)), (0, .ref P.1), (1, .int x1), (2, .int x2)]) (st1 := [.int x1, .ref (P.2.1 22), .ref P.1]) 1 rfl ?_
            refine me_iald rfl (g := 22) rfl rfl h.1 ?_
            replace h := h.2
            refine me_go (pc1 := 216) (lv1 := [(3, .int ((μ.1 103) + 1)), (0, .ref P.1), (1, .int x1), (2, .int x2)]) (st1 := [.ref P.1, .int (μ13.2.1 22 x1.toNatClampNeg), .ref P.1]) 1 rfl ?_
            refine me_getf (v := .ref (P.2.1 106)) rfl rfl rfl ?_
            refine me_go (pc1 := 220) (lv1 := [(3, .int ((μ.1 103) + 1)), (0, .ref P.1), (1, .int x1), (2, .int x2)]) (st1 := [.int ((μ.1 103) + 1), .ref (P.2.1 106), .int (μ13.2.1 22 x1.toNatClampNeg), .ref P.1]) 1 rfl ?_
            refine me_iald rfl (g := 106) rfl rfl h.1 ?_
            replace h := h.2
            refine me_callN rfl rfl rfl (h.mono (fun r22 μ22 h => ?_) (fun _ h => h))
            refine me_go (pc1 := 263) (lv1 := [(4, .int r22), (3, .int ((μ.1 103) + 1)), (0, .ref P.1), (1, .int x1), (2, .int x2)]) (st1 := []) 2 rfl ?_
            refine me_lv [(0, .ref P.1), (1, .int x1), (2, .int x2), (3, .int ((μ.1 103) + 1))] (fl_c rfl (fl_c rfl (fl_c rfl (fl_c rfl fl_0)))) ?_
            exact h
        · replace h := h.2 (cn_ne c)
          refine me_go (pc1 := 186) (lv1 := [(3, .int ((μ.1 103) + 1)), (0, .ref P.1), (1, .int x1), (2, .int x2)]) (st1 := [.int 1, .int ((μ.1 103) + 1), .ref (P.2.1 109)]) 2 rfl ?_
          have hi := h.1
          replace h := h.2
          refine me_zast rfl (g := 109) rfl rfl hi (by decide) ?_
          refine me_go (pc1 := 189) (lv1 := [(3, .int ((μ.1 103) + 1)), (0, .ref P.1), (1, .int x1), (2, .int x2)]) (st1 := [.ref P.1, .ref P.1]) 2 rfl ?_
          refine me_getf (v := .int (μ13.1 104)) rfl rfl rfl ?_
          refine me_go (pc1 := 194) (lv1 := [(3, .int ((μ.1 103) + 1)), (0, .ref P.1), (1, .int x1), (2, .int x2)]) (st1 := [.int ((μ13.1 104) + x2), .ref P.1]) 2 rfl ?_
          refine me_put rfl rfl rfl ?_
          refine me_go (pc1 := 198) (lv1 := [(3, .int ((μ.1 103) + 1)), (0, .ref P.1), (1, .int x1), (2, .int x2)]) (st1 := [.ref P.1]) 1 rfl ?_
          refine me_getf (v := .ref (P.2.1 20)) rfl rfl rfl ?_
          refine me_go (pc1 := 202) (lv1 := [(3, .int ((μ.1 103) + 1)), (0, .ref P.1), (1, .int x1), (2, .int x2)]) (st1 := [.int x1, .ref (P.2.1 20)]) 1 rfl ?_
          refine me_iald rfl (g := 20) rfl rfl h.1 ?_
          replace h := h.2
          refine me_go (pc1 := 205) (lv1 := [(3, .int ((μ.1 103) + 1)), (0, .ref P.1), (1, .int x1), (2, .int x2)]) (st1 := [.int 30, .int (μ13.2.1 20 x1.toNatClampNeg)]) 1 rfl ?_
          refine me_icmp rfl rfl (fun c => ?_) (fun c => ?_)
          · replace h := h.1 (ci_ne c)
            refine me_go (pc1 := 231) (lv1 := [(3, .int ((μ.1 103) + 1)), (0, .ref P.1), (1, .int x1), (2, .int x2)]) (st1 := [.int x1, .ref P.1]) 2 rfl ?_
            refine me_callN rfl rfl rfl (h.mono (fun r23 μ23 h => ?_) (fun _ h => h))
            refine me_ifc rfl rfl (fun c => ?_) (fun c => ?_)
            · replace h := h.1 (ci_eq c)
              refine me_go (pc1 := 252) (lv1 := [(3, .int ((μ.1 103) + 1)), (0, .ref P.1), (1, .int x1), (2, .int x2)]) (st1 := [.ref P.1]) 1 rfl ?_
              refine me_getf (v := .ref (P.2.1 99)) rfl rfl rfl ?_
              refine me_go (pc1 := 256) (lv1 := [(3, .int ((μ.1 103) + 1)), (0, .ref P.1), (1, .int x1), (2, .int x2)]) (st1 := [.ref P.1, .ref (P.2.1 99)]) 1 rfl ?_
              refine me_getf (v := .ref (P.2.1 106)) rfl rfl rfl ?_
              refine me_go (pc1 := 260) (lv1 := [(3, .int ((μ.1 103) + 1)), (0, .ref P.1), (1, .int x1), (2, .int x2)]) (st1 := [.int ((μ.1 103) + 1), .ref (P.2.1 106), .ref (P.2.1 99)]) 1 rfl ?_
              refine me_iald rfl (g := 106) rfl rfl h.1 ?_
              replace h := h.2
              refine me_go (pc1 := 262) (lv1 := [(3, .int ((μ.1 103) + 1)), (0, .ref P.1), (1, .int x1), (2, .int x2)]) (st1 := [.int 0, .int (μ23.2.1 106 (((μ.1 103) + 1)).toNatClampNeg), .ref (P.2.1 99)]) 1 rfl ?_
              have hi := h.1
              replace h := h.2
              refine me_iast rfl (g := 99) rfl rfl hi ?_
              refine me_lv [(0, .ref P.1), (1, .int x1), (2, .int x2), (3, .int ((μ.1 103) + 1))] (fl_c rfl (fl_c rfl (fl_c rfl (fl_c rfl fl_0)))) ?_
              exact h
            · replace h := h.2 (cn_eq c)
              refine me_go (pc1 := 240) (lv1 := [(3, .int ((μ.1 103) + 1)), (0, .ref P.1), (1, .int x1), (2, .int x2)]) (st1 := [.ref P.1, .int x1, .ref P.1]) 3 rfl ?_
              refine me_getf (v := .ref (P.2.1 106)) rfl rfl rfl ?_
              refine me_go (pc1 := 244) (lv1 := [(3, .int ((μ.1 103) + 1)), (0, .ref P.1), (1, .int x1), (2, .int x2)]) (st1 := [.int ((μ.1 103) + 1), .ref (P.2.1 106), .int x1, .ref P.1]) 1 rfl ?_
              refine me_iald rfl (g := 106) rfl rfl h.1 ?_
              replace h := h.2
              refine me_callN rfl rfl rfl (h.mono (fun r24 μ24 h => ?_) (fun _ h => h))
              refine me_go (pc1 := 263) (lv1 := [(3, .int ((μ.1 103) + 1)), (0, .ref P.1), (1, .int x1), (2, .int x2)]) (st1 := []) 1 rfl ?_
              refine me_lv [(0, .ref P.1), (1, .int x1), (2, .int x2), (3, .int ((μ.1 103) + 1))] (fl_c rfl (fl_c rfl (fl_c rfl (fl_c rfl fl_0)))) ?_
              exact h
          · replace h := h.2 (cn_ne c)
            refine me_go (pc1 := 210) (lv1 := [(3, .int ((μ.1 103) + 1)), (0, .ref P.1), (1, .int x1), (2, .int x2)]) (st1 := [.ref P.1, .ref P.1]) 2 rfl ?_
            refine me_getf (v := .ref (P.2.1 22)) rfl rfl rfl ?_
            refine me_go (pc1 := 214) (lv1 := [(3, .int ((μ.1 103) + 1)), (0, .ref P.1), (1, .int x1), (2, .int x2)]) (st1 := [.int x1, .ref (P.2.1 22), .ref P.1]) 1 rfl ?_
            refine me_iald rfl (g := 22) rfl rfl h.1 ?_
            replace h := h.2
            refine me_go (pc1 := 216) (lv1 := [(3, .int ((μ.1 103) + 1)), (0, .ref P.1), (1, .int x1), (2, .int x2)]) (st1 := [.ref P.1, .int (μ13.2.1 22 x1.toNatClampNeg), .ref P.1]) 1 rfl ?_
            refine me_getf (v := .ref (P.2.1 106)) rfl rfl rfl ?_
            refine me_go (pc1 := 220) (lv1 := [(3, .int ((μ.1 103) + 1)), (0, .ref P.1), (1, .int x1), (2, .int x2)]) (st1 := [.int ((μ.1 103) + 1), .ref (P.2.1 106), .int (μ13.2.1 22 x1.toNatClampNeg), .ref P.1]) 1 rfl ?_
            refine me_iald rfl (g := 106) rfl rfl h.1 ?_
            replace h := h.2
            refine me_callN rfl rfl rfl (h.mono (fun r25 μ25 h => ?_) (fun _ h => h))
            refine me_go (pc1 := 263) (lv1 := [(4, .int r25), (3, .int ((μ.1 103) + 1)), (0, .ref P.1), (1, .int x1), (2, .int x2)]) (st1 := []) 2 rfl ?_
            refine me_lv [(0, .ref P.1), (1, .int x1), (2, .int x2), (3, .int ((μ.1 103) + 1))] (fl_c rfl (fl_c rfl (fl_c rfl (fl_c rfl fl_0)))) ?_
            exact h
    · replace h := h.2 (cn_eq c)
      refine me_go (pc1 := 120) (lv1 := [(3, .int ((μ.1 103) + 1)), (0, .ref P.1), (1, .int x1), (2, .int x2)]) (st1 := [.int x1, .int ((μ.1 103) + 1), .ref (P.2.1 105)]) 2 rfl ?_
      have hi := h.1
      replace h := h.2
      refine me_iast rfl (g := 105) rfl rfl hi ?_
      refine me_go (pc1 := 122) (lv1 := [(3, .int ((μ.1 103) + 1)), (0, .ref P.1), (1, .int x1), (2, .int x2)]) (st1 := [.ref P.1]) 1 rfl ?_
      refine me_getf (v := .ref (P.2.1 106)) rfl rfl rfl ?_
      refine me_go (pc1 := 130) (lv1 := [(3, .int ((μ.1 103) + 1)), (0, .ref P.1), (1, .int x1), (2, .int x2)]) (st1 := [.ref P.1, .int 5100, .int ((μ.1 103) + 1), .ref (P.2.1 106)]) 3 rfl ?_
      refine me_getf (v := .int (μ13.1 104)) rfl rfl rfl ?_
      refine me_go (pc1 := 134) (lv1 := [(3, .int ((μ.1 103) + 1)), (0, .ref P.1), (1, .int x1), (2, .int x2)]) (st1 := [.int (5100 + (μ13.1 104)), .int ((μ.1 103) + 1), .ref (P.2.1 106)]) 1 rfl ?_
      have hi := h.1
      replace h := h.2
      refine me_iast rfl (g := 106) rfl rfl hi ?_
      refine me_go (pc1 := 136) (lv1 := [(3, .int ((μ.1 103) + 1)), (0, .ref P.1), (1, .int x1), (2, .int x2)]) (st1 := [.ref P.1]) 1 rfl ?_
      refine me_getf (v := .ref (P.2.1 107)) rfl rfl rfl ?_
      refine me_go (pc1 := 141) (lv1 := [(3, .int ((μ.1 103) + 1)), (0, .ref P.1), (1, .int x1), (2, .int x2)]) (st1 := [.int x2, .int ((μ.1 103) + 1), .ref (P.2.1 107)]) 2 rfl ?_
      have hi := h.1
      replace h := h.2
      refine me_iast rfl (g := 107) rfl rfl hi ?_
      refine me_go (pc1 := 143) (lv1 := [(3, .int ((μ.1 103) + 1)), (0, .ref P.1), (1, .int x1), (2, .int x2)]) (st1 := [.ref P.1]) 1 rfl ?_
      refine me_getf (v := .ref (P.2.1 108)) rfl rfl rfl ?_
      refine me_go (pc1 := 148) (lv1 := [(3, .int ((μ.1 103) + 1)), (0, .ref P.1), (1, .int x1), (2, .int x2)]) (st1 := [.ref P.1, .int ((μ.1 103) + 1), .ref (P.2.1 108)]) 2 rfl ?_
      refine me_getf (v := .ref (P.2.1 20)) rfl rfl rfl ?_
      refine me_go (pc1 := 152) (lv1 := [(3, .int ((μ.1 103) + 1)), (0, .ref P.1), (1, .int x1), (2, .int x2)]) (st1 := [.int x1, .ref (P.2.1 20), .int ((μ.1 103) + 1), .ref (P.2.1 108)]) 1 rfl ?_
      refine me_iald rfl (g := 20) rfl rfl h.1 ?_
      replace h := h.2
      refine me_go (pc1 := 155) (lv1 := [(3, .int ((μ.1 103) + 1)), (0, .ref P.1), (1, .int x1), (2, .int x2)]) (st1 := [.int 23, .int (μ13.2.1 20 x1.toNatClampNeg), .int ((μ.1 103) + 1), .ref (P.2.1 108)]) 1 rfl ?_
      refine me_icmp rfl rfl (fun c => ?_) (fun c => ?_)
      · replace h := h.1 (ci_ne c)
        refine me_go (pc1 := 164) (lv1 := [(3, .int ((μ.1 103) + 1)), (0, .ref P.1), (1, .int x1), (2, .int x2)]) (st1 := [.int (-2), .int ((μ.1 103) + 1), .ref (P.2.1 108)]) 1 rfl ?_
        have hi := h.1
        replace h := h.2
        refine me_iast rfl (g := 108) rfl rfl hi ?_
        refine me_go (pc1 := 166) (lv1 := [(3, .int ((μ.1 103) + 1)), (0, .ref P.1), (1, .int x1), (2, .int x2)]) (st1 := [.ref P.1]) 1 rfl ?_
        refine me_getf (v := .ref (P.2.1 109)) rfl rfl rfl ?_
        refine me_go (pc1 := 171) (lv1 := [(3, .int ((μ.1 103) + 1)), (0, .ref P.1), (1, .int x1), (2, .int x2)]) (st1 := [.ref P.1, .int ((μ.1 103) + 1), .ref (P.2.1 109)]) 2 rfl ?_
        refine me_getf (v := .ref (P.2.1 20)) rfl rfl rfl ?_
        refine me_go (pc1 := 175) (lv1 := [(3, .int ((μ.1 103) + 1)), (0, .ref P.1), (1, .int x1), (2, .int x2)]) (st1 := [.int x1, .ref (P.2.1 20), .int ((μ.1 103) + 1), .ref (P.2.1 109)]) 1 rfl ?_
        refine me_iald rfl (g := 20) rfl rfl h.1 ?_
        replace h := h.2
        refine me_go (pc1 := 178) (lv1 := [(3, .int ((μ.1 103) + 1)), (0, .ref P.1), (1, .int x1), (2, .int x2)]) (st1 := [.int 24, .int (μ13.2.1 20 x1.toNatClampNeg), .int ((μ.1 103) + 1), .ref (P.2.1 109)]) 1 rfl ?_
        refine me_icmp rfl rfl (fun c => ?_) (fun c => ?_)
        · replace h := h.1 (ci_ne c)
          refine me_go (pc1 := 186) (lv1 := [(3, .int ((μ.1 103) + 1)), (0, .ref P.1), (1, .int x1), (2, .int x2)]) (st1 := [.int 0, .int ((μ.1 103) + 1), .ref (P.2.1 109)]) 1 rfl ?_
          have hi := h.1
          replace h := h.2
          refine me_zast rfl (g := 109) rfl rfl hi (by decide) ?_
          refine me_go (pc1 := 189) (lv1 := [(3, .int ((μ.1 103) + 1)), (0, .ref P.1), (1, .int x1), (2, .int x2)]) (st1 := [.ref P.1, .ref P.1]) 2 rfl ?_
          refine me_getf (v := .int (μ13.1 104)) rfl rfl rfl ?_
          refine me_go (pc1 := 194) (lv1 := [(3, .int ((μ.1 103) + 1)), (0, .ref P.1), (1, .int x1), (2, .int x2)]) (st1 := [.int ((μ13.1 104) + x2), .ref P.1]) 2 rfl ?_
          refine me_put rfl rfl rfl ?_
          refine me_go (pc1 := 198) (lv1 := [(3, .int ((μ.1 103) + 1)), (0, .ref P.1), (1, .int x1), (2, .int x2)]) (st1 := [.ref P.1]) 1 rfl ?_
          refine me_getf (v := .ref (P.2.1 20)) rfl rfl rfl ?_
          refine me_go (pc1 := 202) (lv1 := [(3, .int ((μ.1 103) + 1)), (0, .ref P.1), (1, .int x1), (2, .int x2)]) (st1 := [.int x1, .ref (P.2.1 20)]) 1 rfl ?_
          refine me_iald rfl (g := 20) rfl rfl h.1 ?_
          replace h := h.2
          refine me_go (pc1 := 205) (lv1 := [(3, .int ((μ.1 103) + 1)), (0, .ref P.1), (1, .int x1), (2, .int x2)]) (st1 := [.int 30, .int (μ13.2.1 20 x1.toNatClampNeg)]) 1 rfl ?_
          refine me_icmp rfl rfl (fun c => ?_) (fun c => ?_)
          · replace h := h.1 (ci_ne c)
            refine me_go (pc1 := 231) (lv1 := [(3, .int ((μ.1 103) + 1)), (0, .ref P.1), (1, .int x1), (2, .int x2)]) (st1 := [.int x1, .ref P.1]) 2 rfl ?_
            refine me_callN rfl rfl rfl (h.mono (fun r26 μ26 h => ?_) (fun _ h => h))
            refine me_ifc rfl rfl (fun c => ?_) (fun c => ?_)
            · replace h := h.1 (ci_eq c)
              refine me_go (pc1 := 252) (lv1 := [(3, .int ((μ.1 103) + 1)), (0, .ref P.1), (1, .int x1), (2, .int x2)]) (st1 := [.ref P.1]) 1 rfl ?_
              refine me_getf (v := .ref (P.2.1 99)) rfl rfl rfl ?_
              refine me_go (pc1 := 256) (lv1 := [(3, .int ((μ.1 103) + 1)), (0, .ref P.1), (1, .int x1), (2, .int x2)]) (st1 := [.ref P.1, .ref (P.2.1 99)]) 1 rfl ?_
              refine me_getf (v := .ref (P.2.1 106)) rfl rfl rfl ?_
              refine me_go (pc1 := 260) (lv1 := [(3, .int ((μ.1 103) + 1)), (0, .ref P.1), (1, .int x1), (2, .int x2)]) (st1 := [.int ((μ.1 103) + 1), .ref (P.2.1 106), .ref (P.2.1 99)]) 1 rfl ?_
              refine me_iald rfl (g := 106) rfl rfl h.1 ?_
              replace h := h.2
              refine me_go (pc1 := 262) (lv1 := [(3, .int ((μ.1 103) + 1)), (0, .ref P.1), (1, .int x1), (2, .int x2)]) (st1 := [.int 0, .int (μ26.2.1 106 (((μ.1 103) + 1)).toNatClampNeg), .ref (P.2.1 99)]) 1 rfl ?_
              have hi := h.1
              replace h := h.2
              refine me_iast rfl (g := 99) rfl rfl hi ?_
              refine me_lv [(0, .ref P.1), (1, .int x1), (2, .int x2), (3, .int ((μ.1 103) + 1))] (fl_c rfl (fl_c rfl (fl_c rfl (fl_c rfl fl_0)))) ?_
              exact h
            · replace h := h.2 (cn_eq c)
              refine me_go (pc1 := 240) (lv1 := [(3, .int ((μ.1 103) + 1)), (0, .ref P.1), (1, .int x1), (2, .int x2)]) (st1 := [.ref P.1, .int x1, .ref P.1]) 3 rfl ?_
              refine me_getf (v := .ref (P.2.1 106)) rfl rfl rfl ?_
              refine me_go (pc1 := 244) (lv1 := [(3, .int ((μ.1 103) + 1)), (0, .ref P.1), (1, .int x1), (2, .int x2)]) (st1 := [.int ((μ.1 103) + 1), .ref (P.2.1 106), .int x1, .ref P.1]) 1 rfl ?_
              refine me_iald rfl (g := 106) rfl rfl h.1 ?_
              replace h := h.2
              refine me_callN rfl rfl rfl (h.mono (fun r27 μ27 h => ?_) (fun _ h => h))
              refine me_go (pc1 := 263) (lv1 := [(3, .int ((μ.1 103) + 1)), (0, .ref P.1), (1, .int x1), (2, .int x2)]) (st1 := []) 1 rfl ?_
              refine me_lv [(0, .ref P.1), (1, .int x1), (2, .int x2), (3, .int ((μ.1 103) + 1))] (fl_c rfl (fl_c rfl (fl_c rfl (fl_c rfl fl_0)))) ?_
              exact h
          · replace h := h.2 (cn_ne c)
            refine me_go (pc1 := 210) (lv1 := [(3, .int ((μ.1 103) + 1)), (0, .ref P.1), (1, .int x1), (2, .int x2)]) (st1 := [.ref P.1, .ref P.1]) 2 rfl ?_
            refine me_getf (v := .ref (P.2.1 22)) rfl rfl rfl ?_
            refine me_go (pc1 := 214) (lv1 := [(3, .int ((μ.1 103) + 1)), (0, .ref P.1), (1, .int x1), (2, .int x2)]) (st1 := [.int x1, .ref (P.2.1 22), .ref P.1]) 1 rfl ?_
            refine me_iald rfl (g := 22) rfl rfl h.1 ?_
            replace h := h.2
            refine me_go (pc1 := 216) (lv1 := [(3, .int ((μ.1 103) + 1)), (0, .ref P.1), (1, .int x1), (2, .int x2)]) (st1 := [.ref P.1, .int (μ13.2.1 22 x1.toNatClampNeg), .ref P.1]) 1 rfl ?_
            refine me_getf (v := .ref (P.2.1 106)) rfl rfl rfl ?_
            refine me_go (pc1 := 220) (lv1 := [(3, .int ((μ.1 103) + 1)), (0, .ref P.1), (1, .int x1), (2, .int x2)]) (st1 := [.int ((μ.1 103) + 1), .ref (P.2.1 106), .int (μ13.2.1 22 x1.toNatClampNeg), .ref P.1]) 1 rfl ?_
            refine me_iald rfl (g := 106) rfl rfl h.1 ?_
            replace h := h.2
            refine me_callN rfl rfl rfl (h.mono (fun r28 μ28 h => ?_) (fun _ h => h))
            refine me_go (pc1 := 263) (lv1 := [(4, .int r28), (3, .int ((μ.1 103) + 1)), (0, .ref P.1), (1, .int x1), (2, .int x2)]) (st1 := []) 2 rfl ?_
            refine me_lv [(0, .ref P.1), (1, .int x1), (2, .int x2), (3, .int ((μ.1 103) + 1))] (fl_c rfl (fl_c rfl (fl_c rfl (fl_c rfl fl_0)))) ?_
            exact h
        · replace h := h.2 (cn_ne c)
          refine me_go (pc1 := 186) (lv1 := [(3, .int ((μ.1 103) + 1)), (0, .ref P.1), (1, .int x1), (2, .int x2)]) (st1 := [.int 1, .int ((μ.1 103) + 1), .ref (P.2.1 109)]) 2 rfl ?_
          have hi := h.1
          replace h := h.2
          refine me_zast rfl (g := 109) rfl rfl hi (by decide) ?_
          refine me_go (pc1 := 189) (lv1 := [(3, .int ((μ.1 103) + 1)), (0, .ref P.1), (1, .int x1), (2, .int x2)]) (st1 := [.ref P.1, .ref P.1]) 2 rfl ?_
          refine me_getf (v := .int (μ13.1 104)) rfl rfl rfl ?_
          refine me_go (pc1 := 194) (lv1 := [(3, .int ((μ.1 103) + 1)), (0, .ref P.1), (1, .int x1), (2, .int x2)]) (st1 := [.int ((μ13.1 104) + x2), .ref P.1]) 2 rfl ?_
          refine me_put rfl rfl rfl ?_
          refine me_go (pc1 := 198) (lv1 := [(3, .int ((μ.1 103) + 1)), (0, .ref P.1), (1, .int x1), (2, .int x2)]) (st1 := [.ref P.1]) 1 rfl ?_
          refine me_getf (v := .ref (P.2.1 20)) rfl rfl rfl ?_
          refine me_go (pc1 := 202) (lv1 := [(3, .int ((μ.1 103) + 1)), (0, .ref P.1), (1, .int x1), (2, .int x2)]) (st1 := [.int x1, .ref (P.2.1 20)]) 1 rfl ?_
          refine me_iald rfl (g := 20) rfl rfl h.1 ?_
          replace h := h.2
          refine me_go (pc1 := 205) (lv1 := [(3, .int ((μ.1 103) + 1)), (0, .ref P.1), (1, .int x1), (2, .int x2)]) (st1 := [.int 30, .int (μ13.2.1 20 x1.toNatClampNeg)]) 1 rfl ?_
          refine me_icmp rfl rfl (fun c => ?_) (fun c => ?_)
          · replace h := h.1 (ci_ne c)
            refine me_go (pc1 := 231) (lv1 := [(3, .int ((μ.1 103) + 1)), (0, .ref P.1), (1, .int x1), (2, .int x2)]) (st1 := [.int x1, .ref P.1]) 2 rfl ?_
            refine me_callN rfl rfl rfl (h.mono (fun r29 μ29 h => ?_) (fun _ h => h))
            refine me_ifc rfl rfl (fun c => ?_) (fun c => ?_)
            · replace h := h.1 (ci_eq c)
              refine me_go (pc1 := 252) (lv1 := [(3, .int ((μ.1 103) + 1)), (0, .ref P.1), (1, .int x1), (2, .int x2)]) (st1 := [.ref P.1]) 1 rfl ?_
              refine me_getf (v := .ref (P.2.1 99)) rfl rfl rfl ?_
              refine me_go (pc1 := 256) (lv1 := [(3, .int ((μ.1 103) + 1)), (0, .ref P.1), (1, .int x1), (2, .int x2)]) (st1 := [.ref P.1, .ref (P.2.1 99)]) 1 rfl ?_
              refine me_getf (v := .ref (P.2.1 106)) rfl rfl rfl ?_
              refine me_go (pc1 := 260) (lv1 := [(3, .int ((μ.1 103) + 1)), (0, .ref P.1), (1, .int x1), (2, .int x2)]) (st1 := [.int ((μ.1 103) + 1), .ref (P.2.1 106), .ref (P.2.1 99)]) 1 rfl ?_
              refine me_iald rfl (g := 106) rfl rfl h.1 ?_
              replace h := h.2
              refine me_go (pc1 := 262) (lv1 := [(3, .int ((μ.1 103) + 1)), (0, .ref P.1), (1, .int x1), (2, .int x2)]) (st1 := [.int 0, .int (μ29.2.1 106 (((μ.1 103) + 1)).toNatClampNeg), .ref (P.2.1 99)]) 1 rfl ?_
              have hi := h.1
              replace h := h.2
              refine me_iast rfl (g := 99) rfl rfl hi ?_
              refine me_lv [(0, .ref P.1), (1, .int x1), (2, .int x2), (3, .int ((μ.1 103) + 1))] (fl_c rfl (fl_c rfl (fl_c rfl (fl_c rfl fl_0)))) ?_
              exact h
            · replace h := h.2 (cn_eq c)
              refine me_go (pc1 := 240) (lv1 := [(3, .int ((μ.1 103) + 1)), (0, .ref P.1), (1, .int x1), (2, .int x2)]) (st1 := [.ref P.1, .int x1, .ref P.1]) 3 rfl ?_
              refine me_getf (v := .ref (P.2.1 106)) rfl rfl rfl ?_
              refine me_go (pc1 := 244) (lv1 := [(3, .int ((μ.1 103) + 1)), (0, .ref P.1), (1, .int x1), (2, .int x2)]) (st1 := [.int ((μ.1 103) + 1), .ref (P.2.1 106), .int x1, .ref P.1]) 1 rfl ?_
              refine me_iald rfl (g := 106) rfl rfl h.1 ?_
              replace h := h.2
              refine me_callN rfl rfl rfl (h.mono (fun r30 μ30 h => ?_) (fun _ h => h))
              refine me_go (pc1 := 263) (lv1 := [(3, .int ((μ.1 103) + 1)), (0, .ref P.1), (1, .int x1), (2, .int x2)]) (st1 := []) 1 rfl ?_
              refine me_lv [(0, .ref P.1), (1, .int x1), (2, .int x2), (3, .int ((μ.1 103) + 1))] (fl_c rfl (fl_c rfl (fl_c rfl (fl_c rfl fl_0)))) ?_
              exact h
          · replace h := h.2 (cn_ne c)
            refine me_go (pc1 := 210) (lv1 := [(3, .int ((μ.1 103) + 1)), (0, .ref P.1), (1, .int x1), (2, .int x2)]) (st1 := [.ref P.1, .ref P.1]) 2 rfl ?_
            refine me_getf (v := .ref (P.2.1 22)) rfl rfl rfl ?_
            refine me_go (pc1 := 214) (lv1 := [(3, .int ((μ.1 103) + 1)), (0, .ref P.1), (1, .int x1), (2, .int x2)]) (st1 := [.int x1, .ref (P.2.1 22), .ref P.1]) 1 rfl ?_
            refine me_iald rfl (g := 22) rfl rfl h.1 ?_
            replace h := h.2
            refine me_go (pc1 := 216) (lv1 := [(3, .int ((μ.1 103) + 1)), (0, .ref P.1), (1, .int x1), (2, .int x2)]) (st1 := [.ref P.1, .int (μ13.2.1 22 x1.toNatClampNeg), .ref P.1]) 1 rfl ?_
            refine me_getf (v := .ref (P.2.1 106)) rfl rfl rfl ?_
            refine me_go (pc1 := 220) (lv1 := [(3, .int ((μ.1 103) + 1)), (0, .ref P.1), (1, .int x1), (2, .int x2)]) (st1 := [.int ((μ.1 103) + 1), .ref (P.2.1 106), .int (μ13.2.1 22 x1.toNatClampNeg), .ref P.1]) 1 rfl ?_
            refine me_iald rfl (g := 106) rfl rfl h.1 ?_
            replace h := h.2
            refine me_callN rfl rfl rfl (h.mono (fun r31 μ31 h => ?_) (fun _ h => h))
            refine me_go (pc1 := 263) (lv1 := [(4, .int r31), (3, .int ((μ.1 103) + 1)), (0, .ref P.1), (1, .int x1), (2, .int x2)]) (st1 := []) 2 rfl ?_
            refine me_lv [(0, .ref P.1), (1, .int x1), (2, .int x2), (3, .int ((μ.1 103) + 1))] (fl_c rfl (fl_c rfl (fl_c rfl (fl_c rfl fl_0)))) ?_
            exact h
      · replace h := h.2 (cn_ne c)
        refine me_go (pc1 := 164) (lv1 := [(3, .int ((μ.1 103) + 1)), (0, .ref P.1), (1, .int x1), (2, .int x2)]) (st1 := [.int (-1), .int ((μ.1 103) + 1), .ref (P.2.1 108)]) 2 rfl ?_
        have hi := h.1
        replace h := h.2
        refine me_iast rfl (g := 108) rfl rfl hi ?_
        refine me_go (pc1 := 166) (lv1 := [(3, .int ((μ.1 103) + 1)), (0, .ref P.1), (1, .int x1), (2, .int x2)]) (st1 := [.ref P.1]) 1 rfl ?_
        refine me_getf (v := .ref (P.2.1 109)) rfl rfl rfl ?_
        refine me_go (pc1 := 171) (lv1 := [(3, .int ((μ.1 103) + 1)), (0, .ref P.1), (1, .int x1), (2, .int x2)]) (st1 := [.ref P.1, .int ((μ.1 103) + 1), .ref (P.2.1 109)]) 2 rfl ?_
        refine me_getf (v := .ref (P.2.1 20)) rfl rfl rfl ?_
        refine me_go (pc1 := 175) (lv1 := [(3, .int ((μ.1 103) + 1)), (0, .ref P.1), (1, .int x1), (2, .int x2)]) (st1 := [.int x1, .ref (P.2.1 20), .int ((μ.1 103) + 1), .ref (P.2.1 109)]) 1 rfl ?_
        refine me_iald rfl (g := 20) rfl rfl h.1 ?_
        replace h := h.2
        refine me_go (pc1 := 178) (lv1 := [(3, .int ((μ.1 103) + 1)), (0, .ref P.1), (1, .int x1), (2, .int x2)]) (st1 := [.int 24, .int (μ13.2.1 20 x1.toNatClampNeg), .int ((μ.1 103) + 1), .ref (P.2.1 109)]) 1 rfl ?_
        refine me_icmp rfl rfl (fun c => ?_) (fun c => ?_)
        · replace h := h.1 (ci_ne c)
          refine me_go (pc1 := 186) (lv1 := [(3, .int ((μ.1 103) + 1)), (0, .ref P.1), (1, .int x1), (2, .int x2)]) (st1 := [.int 0, .int ((μ.1 103) + 1), .ref (P.2.1 109)]) 1 rfl ?_
          have hi := h.1
          replace h := h.2
          refine me_zast rfl (g := 109) rfl rfl hi (by decide) ?_
          refine me_go (pc1 := 189) (lv1 := [(3, .int ((μ.1 103) + 1)), (0, .ref P.1), (1, .int x1), (2, .int x2)]) (st1 := [.ref P.1, .ref P.1]) 2 rfl ?_
          refine me_getf (v := .int (μ13.1 104)) rfl rfl rfl ?_
          refine me_go (pc1 := 194) (lv1 := [(3, .int ((μ.1 103) + 1)), (0, .ref P.1), (1, .int x1), (2, .int x2)]) (st1 := [.int ((μ13.1 104) + x2), .ref P.1]) 2 rfl ?_
          refine me_put rfl rfl rfl ?_
          refine me_go (pc1 := 198) (lv1 := [(3, .int ((μ.1 103) + 1)), (0, .ref P.1), (1, .int x1), (2, .int x2)]) (st1 := [.ref P.1]) 1 rfl ?_
          refine me_getf (v := .ref (P.2.1 20)) rfl rfl rfl ?_
          refine me_go (pc1 := 202) (lv1 := [(3, .int ((μ.1 103) + 1)), (0, .ref P.1), (1, .int x1), (2, .int x2)]) (st1 := [.int x1, .ref (P.2.1 20)]) 1 rfl ?_
          refine me_iald rfl (g := 20) rfl rfl h.1 ?_
          replace h := h.2
          refine me_go (pc1 := 205) (lv1 := [(3, .int ((μ.1 103) + 1)), (0, .ref P.1), (1, .int x1), (2, .int x2)]) (st1 := [.int 30, .int (μ13.2.1 20 x1.toNatClampNeg)]) 1 rfl ?_
          refine me_icmp rfl rfl (fun c => ?_) (fun c => ?_)
          · replace h := h.1 (ci_ne c)
            refine me_go (pc1 := 231) (lv1 := [(3, .int ((μ.1 103) + 1)), (0, .ref P.1), (1, .int x1), (2, .int x2)]) (st1 := [.int x1, .ref P.1]) 2 rfl ?_
            refine me_callN rfl rfl rfl (h.mono (fun r32 μ32 h => ?_) (fun _ h => h))
            refine me_ifc rfl rfl (fun c => ?_) (fun c => ?_)
            · replace h := h.1 (ci_eq c)
              refine me_go (pc1 := 252) (lv1 := [(3, .int ((μ.1 103) + 1)), (0, .ref P.1), (1, .int x1), (2, .int x2)]) (st1 := [.ref P.1]) 1 rfl ?_
              refine me_getf (v := .ref (P.2.1 99)) rfl rfl rfl ?_
              refine me_go (pc1 := 256) (lv1 := [(3, .int ((μ.1 103) + 1)), (0, .ref P.1), (1, .int x1), (2, .int x2)]) (st1 := [.ref P.1, .ref (P.2.1 99)]) 1 rfl ?_
              refine me_getf (v := .ref (P.2.1 106)) rfl rfl rfl ?_
              refine me_go (pc1 := 260) (lv1 := [(3, .int ((μ.1 103) + 1)), (0, .ref P.1), (1, .int x1), (2, .int x2)]) (st1 := [.int ((μ.1 103) + 1), .ref (P.2.1 106), .ref (P.2.1 99)]) 1 rfl ?_
              refine me_iald rfl (g := 106) rfl rfl h.1 ?_
              replace h := h.2
              refine me_go (pc1 := 262) (lv1 := [(3, .int ((μ.1 103) + 1)), (0, .ref P.1), (1, .int x1), (2, .int x2)]) (st1 := [.int 0, .int (μ32.2.1 106 (((μ.1 103) + 1)).toNatClampNeg), .ref (P.2.1 99)]) 1 rfl ?_
              have hi := h.1
              replace h := h.2
              refine me_iast rfl (g := 99) rfl rfl hi ?_
              refine me_lv [(0, .ref P.1), (1, .int x1), (2, .int x2), (3, .int ((μ.1 103) + 1))] (fl_c rfl (fl_c rfl (fl_c rfl (fl_c rfl fl_0)))) ?_
              exact h
            · replace h := h.2 (cn_eq c)
              refine me_go (pc1 := 240) (lv1 := [(3, .int ((μ.1 103) + 1)), (0, .ref P.1), (1, .int x1), (2, .int x2)]) (st1 := [.ref P.1, .int x1, .ref P.1]) 3 rfl ?_
              refine me_getf (v := .ref (P.2.1 106)) rfl rfl rfl ?_
              refine me_go (pc1 := 244) (lv1 := [(3, .int ((μ.1 103) + 1)), (0, .ref P.1), (1, .int x1), (2, .int x2)]) (st1 := [.int ((μ.1 103) + 1), .ref (P.2.1 106), .int x1, .ref P.1]) 1 rfl ?_
              refine me_iald rfl (g := 106) rfl rfl h.1 ?_
              replace h := h.2
              refine me_callN rfl rfl rfl (h.mono (fun r33 μ33 h => ?_) (fun _ h => h))
              refine me_go (pc1 := 263) (lv1 := [(3, .int ((μ.1 103) + 1)), (0, .ref P.1), (1, .int x1), (2, .int x2)]) (st1 := []) 1 rfl ?_
              refine me_lv [(0, .ref P.1), (1, .int x1), (2, .int x2), (3, .int ((μ.1 103) + 1))] (fl_c rfl (fl_c rfl (fl_c rfl (fl_c rfl fl_0)))) ?_
              exact h
          · replace h := h.2 (cn_ne c)
            refine me_go (pc1 := 210) (lv1 := [(3, .int ((μ.1 103) + 1)), (0, .ref P.1), (1, .int x1), (2, .int x2)]) (st1 := [.ref P.1, .ref P.1]) 2 rfl ?_
            refine me_getf (v := .ref (P.2.1 22)) rfl rfl rfl ?_
            refine me_go (pc1 := 214) (lv1 := [(3, .int ((μ.1 103) + 1)), (0, .ref P.1), (1, .int x1), (2, .int x2)]) (st1 := [.int x1, .ref (P.2.1 22), .ref P.1]) 1 rfl ?_
            refine me_iald rfl (g := 22) rfl rfl h.1 ?_
            replace h := h.2
            refine me_go (pc1 := 216) (lv1 := [(3, .int ((μ.1 103) + 1)), (0, .ref P.1), (1, .int x1), (2, .int x2)]) (st1 := [.ref P.1, .int (μ13.2.1 22 x1.toNatClampNeg), .ref P.1]) 1 rfl ?_
            refine me_getf (v := .ref (P.2.1 106)) rfl rfl rfl ?_
            refine me_go (pc1 := 220) (lv1 := [(3, .int ((μ.1 103) + 1)), (0, .ref P.1), (1, .int x1), (2, .int x2)]) (st1 := [.int ((μ.1 103) + 1), .ref (P.2.1 106), .int (μ13.2.1 22 x1.toNatClampNeg), .ref P.1]) 1 rfl ?_
            refine me_iald rfl (g := 106) rfl rfl h.1 ?_
            replace h := h.2
            refine me_callN rfl rfl rfl (h.mono (fun r34 μ34 h => ?_) (fun _ h => h))
            refine me_go (pc1 := 263) (lv1 := [(4, .int r34), (3, .int ((μ.1 103) + 1)), (0, .ref P.1), (1, .int x1), (2, .int x2)]) (st1 := []) 2 rfl ?_
            refine me_lv [(0, .ref P.1), (1, .int x1), (2, .int x2), (3, .int ((μ.1 103) + 1))] (fl_c rfl (fl_c rfl (fl_c rfl (fl_c rfl fl_0)))) ?_
            exact h
        · replace h := h.2 (cn_ne c)
          refine me_go (pc1 := 186) (lv1 := [(3, .int ((μ.1 103) + 1)), (0, .ref P.1), (1, .int x1), (2, .int x2)]) (st1 := [.int 1, .int ((μ.1 103) + 1), .ref (P.2.1 109)]) 2 rfl ?_
          have hi := h.1
          replace h := h.2
          refine me_zast rfl (g := 109) rfl rfl hi (by decide) ?_
          refine me_go (pc1 := 189) (lv1 := [(3, .int ((μ.1 103) + 1)), (0, .ref P.1), (1, .int x1), (2, .int x2)]) (st1 := [.ref P.1, .ref P.1]) 2 rfl ?_
          refine me_getf (v := .int (μ13.1 104)) rfl rfl rfl ?_
          refine me_go (pc1 := 194) (lv1 := [(3, .int ((μ.1 103) + 1)), (0, .ref P.1), (1, .int x1), (2, .int x2)]) (st1 := [.int ((μ13.1 104) + x2), .ref P.1]) 2 rfl ?_
          refine me_put rfl rfl rfl ?_
          refine me_go (pc1 := 198) (lv1 := [(3, .int ((μ.1 103) + 1)), (0, .ref P.1), (1, .int x1), (2, .int x2)]) (st1 := [.ref P.1]) 1 rfl ?_
          refine me_getf (v := .ref (P.2.1 20)) rfl rfl rfl ?_
          refine me_go (pc1 := 202) (lv1 := [(3, .int ((μ.1 103) + 1)), (0, .ref P.1), (1, .int x1), (2, .int x2)]) (st1 := [.int x1, .ref (P.2.1 20)]) 1 rfl ?_
          refine me_iald rfl (g := 20) rfl rfl h.1 ?_
          replace h := h.2
          refine me_go (pc1 := 205) (lv1 := [(3, .int ((μ.1 103) + 1)), (0, .ref P.1), (1, .int x1), (2, .int x2)]) (st1 := [.int 30, .int (μ13.2.1 20 x1.toNatClampNeg)]) 1 rfl ?_
          refine me_icmp rfl rfl (fun c => ?_) (fun c => ?_)
          · replace h := h.1 (ci_ne c)
            refine me_go (pc1 := 231) (lv1 := [(3, .int ((μ.1 103) + 1)), (0, .ref P.1), (1, .int x1), (2, .int x2)]) (st1 := [.int x1, .ref P.1]) 2 rfl ?_
            refine me_callN rfl rfl rfl (h.mono (fun r35 μ35 h => ?_) (fun _ h => h))
            refine me_ifc rfl rfl (fun c => ?_) (fun c => ?_)
            · replace h := h.1 (ci_eq c)
              refine me_go (pc1 := 252) (lv1 := [(3, .int ((μ.1 103) + 1)), (0, .ref P.1), (1, .int x1), (2, .int x2)]) (st1 := [.ref P.1]) 1 rfl ?_
              refine me_getf (v := .ref (P.2.1 99)) rfl rfl rfl ?_
              refine me_go (pc1 := 256) (lv1 := [(3, .int ((μ.1 103) + 1)), (0, .ref P.1), (1, .int x1), (2, .int x2)]) (st1 := [.ref P.1, .ref (P.2.1 99)]) 1 rfl ?_
              refine me_getf (v := .ref (P.2.1 106)) rfl rfl rfl ?_
              refine me_go (pc1 := 260) (lv1 := [(3, .int ((μ.1 103) + 1)), (0, .ref P.1), (1, .int x1), (2, .int x2)]) (st1 := [.int ((μ.1 103) + 1), .ref (P.2.1 106), .ref (P.2.1 99)]) 1 rfl ?_
              refine me_iald rfl (g := 106) rfl rfl h.1 ?_
              replace h := h.2
              refine me_go (pc1 := 262) (lv1 := [(3, .int ((μ.1 103) + 1)), (0, .ref P.1), (1, .int x1), (2, .int x2)]) (st1 := [.int 0, .int (μ35.2.1 106 (((μ.1 103) + 1)).toNatClampNeg), .ref (P.2.1 99)]) 1 rfl ?_
              have hi := h.1
              replace h := h.2
              refine me_iast rfl (g := 99) rfl rfl hi ?_
              refine me_lv [(0, .ref P.1), (1, .int x1), (2, .int x2), (3, .int ((μ.1 103) + 1))] (fl_c rfl (fl_c rfl (fl_c rfl (fl_c rfl fl_0)))) ?_
              exact h
            · replace h := h.2 (cn_eq c)
              refine me_go (pc1 := 240) (lv1 := [(3, .int ((μ.1 103) + 1)), (0, .ref P.1), (1, .int x1), (2, .int x2)]) (st1 := [.ref P.1, .int x1, .ref P.1]) 3 rfl ?_
              refine me_getf (v := .ref (P.2.1 106)) rfl rfl rfl ?_
              refine me_go (pc1 := 244) (lv1 := [(3, .int ((μ.1 103) + 1)), (0, .ref P.1), (1, .int x1), (2, .int x2)]) (st1 := [.int ((μ.1 103) + 1), .ref (P.2.1 106), .int x1, .ref P.1]) 1 rfl ?_
              refine me_iald rfl (g := 106) rfl rfl h.1 ?_
              replace h := h.2
              refine me_callN rfl rfl rfl (h.mono (fun r36 μ36 h => ?_) (fun _ h => h))
              refine me_go (pc1 := 263) (lv1 := [(3, .int ((μ.1 103) + 1)), (0, .ref P.1), (1, .int x1), (2, .int x2)]) (st1 := []) 1 rfl ?_
              refine me_lv [(0, .ref P.1), (1, .int x1), (2, .int x2), (3, .int ((μ.1 103) + 1))] (fl_c rfl (fl_c rfl (fl_c rfl (fl_c rfl fl_0)))) ?_
              exact h
          · replace h := h.2 (cn_ne c)
            refine me_go (pc1 := 210) (lv1 := [(3, .int ((μ.1 103) + 1)), (0, .ref P.1), (1, .int x1), (2, .int x2)]) (st1 := [.ref P.1, .ref P.1]) 2 rfl ?_
            refine me_getf (v := .ref (P.2.1 22)) rfl rfl rfl ?_
            refine me_go (pc1 := 214) (lv1 := [(3, .int ((μ.1 103) + 1)), (0, .ref P.1), (1, .int x1), (2, .int x2)]) (st1 := [.int x1, .ref (P.2.1 22), .ref P.1]) 1 rfl ?_
            refine me_iald rfl (g := 22) rfl rfl h.1 ?_
            replace h := h.2
            refine me_go (pc1 := 216) (lv1 := [(3, .int ((μ.1 103) + 1)), (0, .ref P.1), (1, .int x1), (2, .int x2)]) (st1 := [.ref P.1, .int (μ13.2.1 22 x1.toNatClampNeg), .ref P.1]) 1 rfl ?_
            refine me_getf (v := .ref (P.2.1 106)) rfl rfl rfl ?_
            refine me_go (pc1 := 220) (lv1 := [(3, .int ((μ.1 103) + 1)), (0, .ref P.1), (1, .int x1), (2, .int x2)]) (st1 := [.int ((μ.1 103) + 1), .ref (P.2.1 106), .int (μ13.2.1 22 x1.toNatClampNeg), .ref P.1]) 1 rfl ?_
            refine me_iald rfl (g := 106) rfl rfl h.1 ?_
            replace h := h.2
            refine me_callN rfl rfl rfl (h.mono (fun r37 μ37 h => ?_) (fun _ h => h))
            refine me_go (pc1 := 263) (lv1 := [(4, .int r37), (3, .int ((μ.1 103) + 1)), (0, .ref P.1), (1, .int x1), (2, .int x2)]) (st1 := []) 2 rfl ?_
            refine me_lv [(0, .ref P.1), (1, .int x1), (2, .int x2), (3, .int ((μ.1 103) + 1))] (fl_c rfl (fl_c rfl (fl_c rfl (fl_c rfl fl_0)))) ?_
            exact h
theorem v_create_263 {X : ev_X} {W : Nat → Prop} {d : Nat} {P : MP} {μ : MS} {R : Int32 → MS → Prop} {T : MS → Prop} (x1 : Int32) (x2 : Int32) (x3 : Int32) (h : R x3 μ) : ME X W true d 462 263 [(0, .ref P.1), (1, .int x1), (2, .int x2), (3, .int x3)] [] P μ R T := by
  refine me_go (pc1 := 264) (lv1 := [(0, .ref P.1), (1, .int x1), (2, .int x2), (3, .int x3)]) (st1 := [.int x3]) 1 rfl ?_
  exact me_ret rfl rfl rfl h
theorem v_clearObject_0 {X : ev_X} {W : Nat → Prop} {d : Nat} {P : MP} {μ : MS} {R : Int32 → MS → Prop} {T : MS → Prop} (x1 : Int32) (x2 : Int32) (h : MC X W true d 386 [.ref P.1, .int x1] P μ (fun r1 μ1 => ME X W true d 463 15 [(0, .ref P.1), (1, .int x1), (2, .int x2), (3, .int x2), (4, .int ((μ1.1 74) - 1))] [] P μ1 R T) (fun _ => False)) : ME X W true d 463 0 [(0, .ref P.1), (1, .int x1), (2, .int x2)] [] P μ R T := by
  refine me_go (pc1 := 2) (lv1 := [(0, .ref P.1), (1, .int x1), (2, .int x2)]) (st1 := [.int x1, .ref P.1]) 2 rfl ?_
  refine me_callN rfl rfl rfl (h.mono (fun r1 μ1 h => ?_) (fun _ h => h))
  refine me_go (pc1 := 8) (lv1 := [(3, .int x2), (0, .ref P.1), (1, .int x1), (2, .int x2)]) (st1 := [.ref P.1]) 3 rfl ?_
  refine me_getf (v := .int (μ1.1 74)) rfl rfl rfl ?_
  refine me_go (pc1 := 15) (lv1 := [(4, .int ((μ1.1 74) - 1)), (3, .int x2), (0, .ref P.1), (1, .int x1), (2, .int x2)]) (st1 := []) 3 rfl ?_
  refine me_lv [(0, .ref P.1), (1, .int x1), (2, .int x2), (3, .int x2), (4, .int ((μ1.1 74) - 1))] (fl_c rfl (fl_c rfl (fl_c rfl (fl_c rfl (fl_c rfl fl_0))))) ?_
  exact h
theorem v_clearObject_15 {X : ev_X} {W : Nat → Prop} {d : Nat} {P : MP} {μ : MS} {R : Int32 → MS → Prop} {T : MS → Prop} (x1 : Int32) (x2 : Int32) (x3 : Int32) (x4 : Int32) (h : ((x4.toInt < (0 : Int) → R 0 μ) ∧ ((0 : Int) ≤ x4.toInt → (MI x4 (μ.2.2 75) ∧ MC X W true d 392 [.ref P.1, .int (μ.2.1 75 x4.toNatClampNeg)] P μ (fun r1 μ1 => ((r1.toInt < (0 : Int) → ME X W true d 463 15 [(0, .ref P.1), (1, .int x1), (2, .int x2), (3, .int x3), (4, .int (x4 + (-1)))] [] P μ1 R T) ∧ ((0 : Int) ≤ r1.toInt → (MI r1 (μ1.2.2 23) ∧ MC X W true d 453 [.ref P.1, .int (μ1.2.1 23 r1.toNatClampNeg), .int x3] P μ1 (fun r2 μ2 => ME X W true d 463 15 [(0, .ref P.1), (1, .int x1), (2, .int x2), (3, .int r2), (4, .int (x4 + (-1)))] [] P μ2 R T) (fun _ => False))))) (fun _ => False))))) : ME X W true d 463 15 [(0, .ref P.1), (1, .int x1), (2, .int x2), (3, .int x3), (4, .int x4)] [] P μ R T := by
  refine me_go (pc1 := 17) (lv1 := [(0, .ref P.1), (1, .int x1), (2, .int x2), (3, .int x3), (4, .int x4)]) (st1 := [.int x4]) 1 rfl ?_
  refine me_ifc rfl rfl (fun c => ?_) (fun c => ?_)
  · replace h := h.1 (ci_lt c)
    exact me_ret (v := none) (r := 0) rfl rfl rfl h
  · replace h := h.2 (cn_lt c)
    refine me_go (pc1 := 22) (lv1 := [(0, .ref P.1), (1, .int x1), (2, .int x2), (3, .int x3), (4, .int x4)]) (st1 := [.ref P.1, .ref P.1]) 2 rfl ?_
    refine me_getf (v := .ref (P.2.1 75)) rfl rfl rfl ?_
    refine me_go (pc1 := 27) (lv1 := [(0, .ref P.1), (1, .int x1), (2, .int x2), (3, .int x3), (4, .int x4)]) (st1 := [.int x4, .ref (P.2.1 75), .ref P.1]) 1 rfl ?_
    refine me_iald rfl (g := 75) rfl rfl h.1 ?_
    replace h := h.2
    refine me_callN rfl rfl rfl (h.mono (fun r1 μ1 h => ?_) (fun _ h => h))
    refine me_go (pc1 := 35) (lv1 := [(5, .int r1), (0, .ref P.1), (1, .int x1), (2, .int x2), (3, .int x3), (4, .int x4)]) (st1 := [.int r1]) 2 rfl ?_
    refine me_ifc rfl rfl (fun c => ?_) (fun c => ?_)
    · replace h := h.1 (ci_lt c)
      refine me_go (pc1 := 15) (lv1 := [(4, .int (x4 + (-1))), (5, .int r1), (0, .ref P.1), (1, .int x1), (2, .int x2), (3, .int x3)]) (st1 := []) 2 rfl ?_
      refine me_lv [(0, .ref P.1), (1, .int x1), (2, .int x2), (3, .int x3), (4, .int (x4 + (-1)))] (fl_c rfl (fl_c rfl (fl_c rfl (fl_c rfl (fl_c rfl fl_0))))) ?_
      exact h
    · replace h := h.2 (cn_lt c)
      refine me_go (pc1 := 40) (lv1 := [(5, .int r1), (0, .ref P.1), (1, .int x1), (2, .int x2), (3, .int x3), (4, .int x4)]) (st1 := [.ref P.1, .ref P.1]) 2 rfl ?_
      refine me_getf (v := .ref (P.2.1 23)) rfl rfl rfl ?_
      refine me_go (pc1 := 45) (lv1 := [(5, .int r1), (0, .ref P.1), (1, .int x1), (2, .int x2), (3, .int x3), (4, .int x4)]) (st1 := [.int r1, .ref (P.2.1 23), .ref P.1]) 1 rfl ?_
      refine me_iald rfl (g := 23) rfl rfl h.1 ?_
      replace h := h.2
      refine me_go (pc1 := 47) (lv1 := [(5, .int r1), (0, .ref P.1), (1, .int x1), (2, .int x2), (3, .int x3), (4, .int x4)]) (st1 := [.int x3, .int (μ1.2.1 23 r1.toNatClampNeg), .ref P.1]) 1 rfl ?_
      refine me_callN rfl rfl rfl (h.mono (fun r2 μ2 h => ?_) (fun _ h => h))
      refine me_go (pc1 := 15) (lv1 := [(4, .int (x4 + (-1))), (3, .int r2), (5, .int r1), (0, .ref P.1), (1, .int x1), (2, .int x2)]) (st1 := []) 3 rfl ?_
      refine me_lv [(0, .ref P.1), (1, .int x1), (2, .int x2), (3, .int r2), (4, .int (x4 + (-1)))] (fl_c rfl (fl_c rfl (fl_c rfl (fl_c rfl (fl_c rfl fl_0))))) ?_
      exact h
theorem v_begins_0 {X : ev_X} {W : Nat → Prop} {d : Nat} {P : MP} {μ : MS} {R : Int32 → MS → Prop} {T : MS → Prop} (x1 : Int32) (h : (MI x1 (μ.2.2 20) ∧ ((¬ (μ.2.1 20 x1.toNatClampNeg) = 41 → ME X W false d 464 17 [(0, .ref P.1), (1, .int x1), (2, .int 0)] [] P μ R T) ∧ ((μ.2.1 20 x1.toNatClampNeg) = 41 → ME X W false d 464 17 [(0, .ref P.1), (1, .int x1), (2, .int 1)] [] P μ R T)))) : ME X W false d 464 0 [(0, .ref P.1), (1, .int x1)] [] P μ R T := by
  refine me_go (pc1 := 1) (lv1 := [(0, .ref P.1), (1, .int x1)]) (st1 := [.ref P.1]) 1 rfl ?_
  refine me_getf (v := .ref (P.2.1 20)) rfl rfl rfl ?_
  refine me_go (pc1 := 5) (lv1 := [(0, .ref P.1), (1, .int x1)]) (st1 := [.int x1, .ref (P.2.1 20)]) 1 rfl ?_
  refine me_iald rfl (g := 20) rfl rfl h.1 ?_
  replace h := h.2
  refine me_go (pc1 := 8) (lv1 := [(0, .ref P.1), (1, .int x1)]) (st1 := [.int 41, .int (μ.2.1 20 x1.toNatClampNeg)]) 1 rfl ?_
  refine me_icmp rfl rfl (fun c => ?_) (fun c => ?_)
  · replace h := h.1 (ci_ne c)
    refine me_go (pc1 := 17) (lv1 := [(2, .int 0), (0, .ref P.1), (1, .int x1)]) (st1 := []) 2 rfl ?_
    refine me_lv [(0, .ref P.1), (1, .int x1), (2, .int 0)] (fl_c rfl (fl_c rfl (fl_c rfl fl_0))) ?_
    exact h
  · replace h := h.2 (cn_ne c)
    refine me_go (pc1 := 17) (lv1 := [(2, .int 1), (0, .ref P.1), (1, .int x1)]) (st1 := []) 3 rfl ?_
    refine me_lv [(0, .ref P.1), (1, .int x1), (2, .int 1)] (fl_c rfl (fl_c rfl (fl_c rfl fl_0))) ?_
    exact h
theorem v_begins_17 {X : ev_X} {W : Nat → Prop} {d : Nat} {P : MP} {μ : MS} {R : Int32 → MS → Prop} {T : MS → Prop} (x1 : Int32) (x2 : Int32) (h : (MI x1 (μ.2.2 23) ∧ (MI x1 (μ.2.2 22) ∧ (((0 : Int) ≤ (μ.2.1 22 x1.toNatClampNeg).toInt → (MI x1 (μ.2.2 22) ∧ MC X W true d 456 [.ref P.1, .int (μ.2.1 22 x1.toNatClampNeg)] P μ (fun r1 μ1 => ME X W false d 464 49 [(0, .ref P.1), (1, .int x1), (2, .int x2), (3, .int (μ.2.1 23 x1.toNatClampNeg)), (4, .int r1)] [] P μ1 R T) T)) ∧ ((μ.2.1 22 x1.toNatClampNeg).toInt < (0 : Int) → ME X W false d 464 49 [(0, .ref P.1), (1, .int x1), (2, .int x2), (3, .int (μ.2.1 23 x1.toNatClampNeg)), (4, .int (-1))] [] P μ R T))))) : ME X W false d 464 17 [(0, .ref P.1), (1, .int x1), (2, .int x2)] [] P μ R T := by
  refine me_go (pc1 := 18) (lv1 := [(0, .ref P.1), (1, .int x1), (2, .int x2)]) (st1 := [.ref P.1]) 1 rfl ?_
  refine me_getf (v := .ref (P.2.1 23)) rfl rfl rfl ?_
  refine me_go (pc1 := 22) (lv1 := [(0, .ref P.1), (1, .int x1), (2, .int x2)]) (st1 := [.int x1, .ref (P.2.1 23)]) 1 rfl ?_
  refine me_iald rfl (g := 23) rfl rfl h.1 ?_
  replace h := h.2
  refine me_go (pc1 := 25) (lv1 := [(3, .int (μ.2.1 23 x1.toNatClampNeg)), (0, .ref P.1), (1, .int x1), (2, .int x2)]) (st1 := [.ref P.1]) 2 rfl ?_
  refine me_getf (v := .ref (P.2.1 22)) rfl rfl rfl ?_
  refine me_go (pc1 := 29) (lv1 := [(3, .int (μ.2.1 23 x1.toNatClampNeg)), (0, .ref P.1), (1, .int x1), (2, .int x2)]) (st1 := [.int x1, .ref (P.2.1 22)]) 1 rfl ?_
  refine me_iald rfl (g := 22) rfl rfl h.1 ?_
  replace h := h.2
  refine me_ifc rfl rfl (fun c => ?_) (fun c => ?_)
  · replace h := h.1 (ci_ge c)
    refine me_go (pc1 := 39) (lv1 := [(3, .int (μ.2.1 23 x1.toNatClampNeg)), (0, .ref P.1), (1, .int x1), (2, .int x2)]) (st1 := [.ref P.1, .ref P.1]) 2 rfl ?_
    refine me_getf (v := .ref (P.2.1 22)) rfl rfl rfl ?_
    refine me_go (pc1 := 43) (lv1 := [(3, .int (μ.2.1 23 x1.toNatClampNeg)), (0, .ref P.1), (1, .int x1), (2, .int x2)]) (st1 := [.int x1, .ref (P.2.1 22), .ref P.1]) 1 rfl ?_
    refine me_iald rfl (g := 22) rfl rfl h.1 ?_
    replace h := h.2
    refine me_call rfl rfl rfl rfl (h.mono (fun r1 μ1 h => ?_) (fun _ h => h))
    refine me_go (pc1 := 49) (lv1 := [(4, .int r1), (3, .int (μ.2.1 23 x1.toNatClampNeg)), (0, .ref P.1), (1, .int x1), (2, .int x2)]) (st1 := []) 1 rfl ?_
    refine me_lv [(0, .ref P.1), (1, .int x1), (2, .int x2), (3, .int (μ.2.1 23 x1.toNatClampNeg)), (4, .int r1)] (fl_c rfl (fl_c rfl (fl_c rfl (fl_c rfl (fl_c rfl fl_0))))) ?_
    exact h
  · replace h := h.2 (cn_ge c)
    refine me_go (pc1 := 49) (lv1 := [(4, .int (-1)), (3, .int (μ.2.1 23 x1.toNatClampNeg)), (0, .ref P.1), (1, .int x1), (2, .int x2)]) (st1 := []) 3 rfl ?_
    refine me_lv [(0, .ref P.1), (1, .int x1), (2, .int x2), (3, .int (μ.2.1 23 x1.toNatClampNeg)), (4, .int (-1))] (fl_c rfl (fl_c rfl (fl_c rfl (fl_c rfl (fl_c rfl fl_0))))) ?_
    exact h
theorem v_begins_49 {X : ev_X} {W : Nat → Prop} {d : Nat} {P : MP} {μ : MS} {R : Int32 → MS → Prop} {T : MS → Prop} (x1 : Int32) (x2 : Int32) (x3 : Int32) (x4 : Int32) (h : (MI x3 (μ.2.2 22) ∧ (MI x3 (μ.2.2 24) ∧ ((¬ (μ.2.1 24 x3.toNatClampNeg) = 0 → (MI x3 (μ.2.2 24) ∧ ((¬ (μ.2.1 24 x3.toNatClampNeg) = 1 → MC X W true d 456 [.ref P.1, .int (μ.2.1 22 x3.toNatClampNeg)] P (mS1 μ 133 0) (fun r1 μ1 => (MI r1 (μ1.2.2 99) ∧ ME X W false d 464 198 [(0, .ref P.1), (1, .int x1), (2, .int x2), (3, .int x3), (4, .int x4), (5, .int (μ.2.1 22 x3.toNatClampNeg)), (6, .int (μ1.2.1 99 r1.toNatClampNeg))] [] P μ1 R T)) T) ∧ ((μ.2.1 24 x3.toNatClampNeg) = 1 → (MI (μ.2.1 22 x3.toNatClampNeg) (μ.2.2 26) ∧ ME X W false d 464 102 [(0, .ref P.1), (1, .int x1), (2, .int x2), (3, .int x3), (4, .int x4), (5, .int (μ.2.1 22 x3.toNatClampNeg)), (7, .int (μ.2.1 26 ((μ.2.1 22 x3.toNatClampNeg)).toNatClampNeg))] [] P (mS1 μ 133 0) R T))))) ∧ ((μ.2.1 24 x3.toNatClampNeg) = 0 → (MI (μ.2.1 22 x3.toNatClampNeg) (μ.2.2 28) ∧ ME X W false d 464 198 [(0, .ref P.1), (1, .int x1), (2, .int x2), (3, .int x3), (4, .int x4), (5, .int (μ.2.1 22 x3.toNatClampNeg)), (6, .int (μ.2.1 28 ((μ.2.1 22 x3.toNatClampNeg)).toNatClampNeg))] [] P (mS1 μ 133 0) R T)))))) : ME X W false d 464 49 [(0, .ref P.1), (1, .int x1), (2, .int x2), (3, .int x3), (4, .int x4)] [] P μ R T := by
  refine me_go (pc1 := 50) (lv1 := [(0, .ref P.1), (1, .int x1), (2, .int x2), (3, .int x3), (4, .int x4)]) (st1 := [.ref P.1]) 1 rfl ?_
  refine me_getf (v := .ref (P.2.1 22)) rfl rfl rfl ?_
  refine me_go (pc1 := 54) (lv1 := [(0, .ref P.1), (1, .int x1), (2, .int x2), (3, .int x3), (4, .int x4)]) (st1 := [.int x3, .ref (P.2.1 22)]) 1 rfl ?_
  refine me_iald rfl (g := 22) rfl rfl h.1 ?_
  replace h := h.2
  refine me_go (pc1 := 59) (lv1 := [(5, .int (μ.2.1 22 x3.toNatClampNeg)), (0, .ref P.1), (1, .int x1), (2, .int x2), (3, .int x3), (4, .int x4)]) (st1 := [.int 0, .ref P.1]) 3 rfl ?_
  refine me_put rfl rfl rfl ?_
  refine me_go (pc1 := 63) (lv1 := [(5, .int (μ.2.1 22 x3.toNatClampNeg)), (0, .ref P.1), (1, .int x1), (2, .int x2), (3, .int x3), (4, .int x4)]) (st1 := [.ref P.1]) 1 rfl ?_
  refine me_getf (v := .ref (P.2.1 24)) rfl rfl rfl ?_
  refine me_go (pc1 := 67) (lv1 := [(5, .int (μ.2.1 22 x3.toNatClampNeg)), (0, .ref P.1), (1, .int x1), (2, .int x2), (3, .int x3), (4, .int x4)]) (st1 := [.int x3, .ref (P.2.1 24)]) 1 rfl ?_
  refine me_iald rfl (g := 24) rfl rfl h.1 ?_
  replace h := h.2
  refine me_ifc rfl rfl (fun c => ?_) (fun c => ?_)
  · replace h := h.1 (ci_ne c)
    refine me_go (pc1 := 84) (lv1 := [(5, .int (μ.2.1 22 x3.toNatClampNeg)), (0, .ref P.1), (1, .int x1), (2, .int x2), (3, .int x3), (4, .int x4)]) (st1 := [.ref P.1]) 1 rfl ?_
    refine me_getf (v := .ref (P.2.1 24)) rfl rfl rfl ?_
    refine me_go (pc1 := 88) (lv1 := [(5, .int (μ.2.1 22 x3.toNatClampNeg)), (0, .ref P.1), (1, .int x1), (2, .int x2), (3, .int x3), (4, .int x4)]) (st1 := [.int x3, .ref (P.2.1 24)]) 1 rfl ?_
    refine me_iald rfl (g := 24) rfl rfl h.1 ?_
    replace h := h.2
    refine me_go (pc1 := 90) (lv1 := [(5, .int (μ.2.1 22 x3.toNatClampNeg)), (0, .ref P.1), (1, .int x1), (2, .int x2), (3, .int x3), (4, .int x4)]) (st1 := [.int 1, .int (μ.2.1 24 x3.toNatClampNeg)]) 1 rfl ?_
    refine me_icmp rfl rfl (fun c => ?_) (fun c => ?_)
    · replace h := h.1 (ci_ne c)
      refine me_go (pc1 := 186) (lv1 := [(5, .int (μ.2.1 22 x3.toNatClampNeg)), (0, .ref P.1), (1, .int x1), (2, .int x2), (3, .int x3), (4, .int x4)]) (st1 := [.ref P.1]) 1 rfl ?_
      refine me_getf (v := .ref (P.2.1 99)) rfl rfl rfl ?_
      refine me_go (pc1 := 192) (lv1 := [(5, .int (μ.2.1 22 x3.toNatClampNeg)), (0, .ref P.1), (1, .int x1), (2, .int x2), (3, .int x3), (4, .int x4)]) (st1 := [.int (μ.2.1 22 x3.toNatClampNeg), .ref P.1, .ref (P.2.1 99)]) 2 rfl ?_
      refine me_call rfl rfl rfl rfl (h.mono (fun r1 μ1 h => ?_) (fun _ h => h))
      refine me_iald rfl (g := 99) rfl rfl h.1 ?_
      replace h := h.2
      refine me_go (pc1 := 198) (lv1 := [(6, .int (μ1.2.1 99 r1.toNatClampNeg)), (5, .int (μ.2.1 22 x3.toNatClampNeg)), (0, .ref P.1), (1, .int x1), (2, .int x2), (3, .int x3), (4, .int x4)]) (st1 := []) 1 rfl ?_
      refine me_lv [(0, .ref P.1), (1, .int x1), (2, .int x2), (3, .int x3), (4, .int x4), (5, .int (μ.2.1 22 x3.toNatClampNeg)), (6, .int (μ1.2.1 99 r1.toNatClampNeg))] (fl_c rfl (fl_c rfl (fl_c rfl (fl_c rfl (fl_c rfl (fl_c rfl (fl_c rfl fl_0))))))) ?_
      exact h
    · replace h := h.2 (cn_ne c)
      refine me_go (pc1 := 94) (lv1 := [(5, .int (μ.2.1 22 x3.toNatClampNeg)), (0, .ref P.1), (1, .int x1), (2, .int x2), (3, .int x3), (4, .int x4)]) (st1 := [.ref P.1]) 1 rfl ?_
      refine me_getf (v := .ref (P.2.1 26)) rfl rfl rfl ?_
      refine me_go (pc1 := 99) (lv1 := [(5, .int (μ.2.1 22 x3.toNatClampNeg)), (0, .ref P.1), (1, .int x1), (2, .int x2), (3, .int x3), (4, .int x4)]) (st1 := [.int (μ.2.1 22 x3.toNatClampNeg), .ref (P.2.1 26)]) 1 rfl ?_
      refine me_iald rfl (g := 26) rfl rfl h.1 ?_
      replace h := h.2
      refine me_go (pc1 := 102) (lv1 := [(7, .int (μ.2.1 26 ((μ.2.1 22 x3.toNatClampNeg)).toNatClampNeg)), (5, .int (μ.2.1 22 x3.toNatClampNeg)), (0, .ref P.1), (1, .int x1), (2, .int x2), (3, .int x3), (4, .int x4)]) (st1 := []) 1 rfl ?_
      refine me_lv [(0, .ref P.1), (1, .int x1), (2, .int x2), (3, .int x3), (4, .int x4), (5, .int (μ.2.1 22 x3.toNatClampNeg)), (7, .int (μ.2.1 26 ((μ.2.1 22 x3.toNatClampNeg)).toNatClampNeg))] (fl_c rfl (fl_c rfl (fl_c rfl (fl_c rfl (fl_c rfl (fl_c rfl (fl_c rfl fl_0))))))) ?_
      exact h
  · replace h := h.2 (cn_ne c)
    refine me_go (pc1 := 72) (lv1 := [(5, .int (μ.2.1 22 x3.toNatClampNeg)), (0, .ref P.1), (1, .int x1), (2, .int x2), (3, .int x3), (4, .int x4)]) (st1 := [.ref P.1]) 1 rfl ?_
    refine me_getf (v := .ref (P.2.1 28)) rfl rfl rfl ?_
    refine me_go (pc1 := 77) (lv1 := [(5, .int (μ.2.1 22 x3.toNatClampNeg)), (0, .ref P.1), (1, .int x1), (2, .int x2), (3, .int x3), (4, .int x4)]) (st1 := [.int (μ.2.1 22 x3.toNatClampNeg), .ref (P.2.1 28)]) 1 rfl ?_
    refine me_iald rfl (g := 28) rfl rfl h.1 ?_
    replace h := h.2
    refine me_go (pc1 := 198) (lv1 := [(6, .int (μ.2.1 28 ((μ.2.1 22 x3.toNatClampNeg)).toNatClampNeg)), (5, .int (μ.2.1 22 x3.toNatClampNeg)), (0, .ref P.1), (1, .int x1), (2, .int x2), (3, .int x3), (4, .int x4)]) (st1 := []) 2 rfl ?_
    refine me_lv [(0, .ref P.1), (1, .int x1), (2, .int x2), (3, .int x3), (4, .int x4), (5, .int (μ.2.1 22 x3.toNatClampNeg)), (6, .int (μ.2.1 28 ((μ.2.1 22 x3.toNatClampNeg)).toNatClampNeg))] (fl_c rfl (fl_c rfl (fl_c rfl (fl_c rfl (fl_c rfl (fl_c rfl (fl_c rfl fl_0))))))) ?_
    exact h
theorem v_begins_102 {X : ev_X} {W : Nat → Prop} {d : Nat} {P : MP} {μ : MS} {R : Int32 → MS → Prop} {T : MS → Prop} (x1 : Int32) (x2 : Int32) (x3 : Int32) (x4 : Int32) (x5 : Int32) (x7 : Int32) (h : (MI x7 (μ.2.2 27) ∧ (((μ.2.1 27 x7.toNatClampNeg).toInt < (0 : Int) → MC X W true d 465 [.ref P.1, .int x5, .int x7] P μ (fun r1 μ1 => (MI r1 (μ1.2.2 99) ∧ ((¬ (μ1.2.1 99 r1.toNatClampNeg) = 0 → ME X W false d 464 149 [(0, .ref P.1), (1, .int x1), (2, .int x2), (3, .int x3), (4, .int x4), (5, .int x5), (7, .int x7), (8, .int (μ1.2.1 99 r1.toNatClampNeg))] [] P μ1 R T) ∧ ((μ1.2.1 99 r1.toNatClampNeg) = 0 → MC X W true d 446 [.ref P.1, .int 5] P μ1 (fun r2 μ2 => ME X W false d 464 149 [(0, .ref P.1), (1, .int x1), (2, .int x2), (3, .int x3), (4, .int x4), (5, .int x5), (7, .int x7), (8, .int (μ1.2.1 99 r1.toNatClampNeg))] [] P μ2 R T) T)))) T) ∧ ((0 : Int) ≤ (μ.2.1 27 x7.toNatClampNeg).toInt → (MI x7 (μ.2.2 27) ∧ ME X W false d 464 102 [(0, .ref P.1), (1, .int x1), (2, .int x2), (3, .int x3), (4, .int x4), (5, .int x5), (7, .int (μ.2.1 27 x7.toNatClampNeg))] [] P μ R T))))) : ME X W false d 464 102 [(0, .ref P.1), (1, .int x1), (2, .int x2), (3, .int x3), (4, .int x4), (5, .int x5), (7, .int x7)] [] P μ R T := by
  refine me_go (pc1 := 103) (lv1 := [(0, .ref P.1), (1, .int x1), (2, .int x2), (3, .int x3), (4, .int x4), (5, .int x5), (7, .int x7)]) (st1 := [.ref P.1]) 1 rfl ?_
  refine me_getf (v := .ref (P.2.1 27)) rfl rfl rfl ?_
  refine me_go (pc1 := 108) (lv1 := [(0, .ref P.1), (1, .int x1), (2, .int x2), (3, .int x3), (4, .int x4), (5, .int x5), (7, .int x7)]) (st1 := [.int x7, .ref (P.2.1 27)]) 1 rfl ?_
  refine me_iald rfl (g := 27) rfl rfl h.1 ?_
  replace h := h.2
  refine me_ifc rfl rfl (fun c => ?_) (fun c => ?_)
  · replace h := h.1 (ci_lt c)
    refine me_go (pc1 := 125) (lv1 := [(0, .ref P.1), (1, .int x1), (2, .int x2), (3, .int x3), (4, .int x4), (5, .int x5), (7, .int x7)]) (st1 := [.ref P.1]) 1 rfl ?_
    refine me_getf (v := .ref (P.2.1 99)) rfl rfl rfl ?_
    refine me_go (pc1 := 133) (lv1 := [(0, .ref P.1), (1, .int x1), (2, .int x2), (3, .int x3), (4, .int x4), (5, .int x5), (7, .int x7)]) (st1 := [.int x7, .int x5, .ref P.1, .ref (P.2.1 99)]) 3 rfl ?_
    refine me_call rfl rfl rfl rfl (h.mono (fun r1 μ1 h => ?_) (fun _ h => h))
    refine me_iald rfl (g := 99) rfl rfl h.1 ?_
    replace h := h.2
    refine me_go (pc1 := 141) (lv1 := [(8, .int (μ1.2.1 99 r1.toNatClampNeg)), (0, .ref P.1), (1, .int x1), (2, .int x2), (3, .int x3), (4, .int x4), (5, .int x5), (7, .int x7)]) (st1 := [.int (μ1.2.1 99 r1.toNatClampNeg)]) 2 rfl ?_
    refine me_ifc rfl rfl (fun c => ?_) (fun c => ?_)
    · replace h := h.1 (ci_ne c)
      refine me_lv [(0, .ref P.1), (1, .int x1), (2, .int x2), (3, .int x3), (4, .int x4), (5, .int x5), (7, .int x7), (8, .int (μ1.2.1 99 r1.toNatClampNeg))] (fl_c rfl (fl_c rfl (fl_c rfl (fl_c rfl (fl_c rfl (fl_c rfl (fl_c rfl (fl_c rfl fl_0)))))))) ?_
      exact h
    · replace h := h.2 (cn_ne c)
      refine me_go (pc1 := 146) (lv1 := [(8, .int (μ1.2.1 99 r1.toNatClampNeg)), (0, .ref P.1), (1, .int x1), (2, .int x2), (3, .int x3), (4, .int x4), (5, .int x5), (7, .int x7)]) (st1 := [.int 5, .ref P.1]) 2 rfl ?_
      refine me_call rfl rfl rfl rfl (h.mono (fun r2 μ2 h => ?_) (fun _ h => h))
      refine me_lv [(0, .ref P.1), (1, .int x1), (2, .int x2), (3, .int x3), (4, .int x4), (5, .int x5), (7, .int x7), (8, .int (μ1.2.1 99 r1.toNatClampNeg))] (fl_c rfl (fl_c rfl (fl_c rfl (fl_c rfl (fl_c rfl (fl_c rfl (fl_c rfl (fl_c rfl fl_0)))))))) ?_
      exact h
  · replace h := h.2 (cn_lt c)
    refine me_go (pc1 := 113) (lv1 := [(0, .ref P.1), (1, .int x1), (2, .int x2), (3, .int x3), (4, .int x4), (5, .int x5), (7, .int x7)]) (st1 := [.ref P.1]) 1 rfl ?_
    refine me_getf (v := .ref (P.2.1 27)) rfl rfl rfl ?_
    refine me_go (pc1 := 118) (lv1 := [(0, .ref P.1), (1, .int x1), (2, .int x2), (3, .int x3), (4, .int x4), (5, .int x5), (7, .int x7)]) (st1 := [.int x7, .ref (P.2.1 27)]) 1 rfl ?_
    refine me_iald rfl (g := 27) rfl rfl h.1 ?_
    replace h := h.2
    refine me_go (pc1 := 102) (lv1 := [(7, .int (μ.2.1 27 x7.toNatClampNeg)), (0, .ref P.1), (1, .int x1), (2, .int x2), (3, .int x3), (4, .int x4), (5, .int x5)]) (st1 := []) 2 rfl ?_
    refine me_lv [(0, .ref P.1), (1, .int x1), (2, .int x2), (3, .int x3), (4, .int x4), (5, .int x5), (7, .int (μ.2.1 27 x7.toNatClampNeg))] (fl_c rfl (fl_c rfl (fl_c rfl (fl_c rfl (fl_c rfl (fl_c rfl (fl_c rfl fl_0))))))) ?_
    exact h
theorem v_begins_149 {X : ev_X} {W : Nat → Prop} {d : Nat} {P : MP} {μ : MS} {R : Int32 → MS → Prop} {T : MS → Prop} (x1 : Int32) (x2 : Int32) (x3 : Int32) (x4 : Int32) (x5 : Int32) (x7 : Int32) (x8 : Int32) (h : (MI 0 (μ.2.2 132) ∧ (MI x3 (μ.2.2 88) ∧ (MI x3 (μ.2.2 26) ∧ MC X W true d 467 [.ref P.1, .int x8, .int (μ.2.1 88 x3.toNatClampNeg), .int (μ.2.1 26 x3.toNatClampNeg)] P (mS1 (mA1 μ 132 (Int32.toNatClampNeg 0) x8) 133 1) (fun r1 μ1 => ME X W false d 464 198 [(0, .ref P.1), (1, .int x1), (2, .int x2), (3, .int x3), (4, .int x4), (5, .int x5), (6, .int r1)] [] P μ1 R T) (fun _ => False))))) : ME X W false d 464 149 [(0, .ref P.1), (1, .int x1), (2, .int x2), (3, .int x3), (4, .int x4), (5, .int x5), (7, .int x7), (8, .int x8)] [] P μ R T := by
  refine me_go (pc1 := 150) (lv1 := [(0, .ref P.1), (1, .int x1), (2, .int x2), (3, .int x3), (4, .int x4), (5, .int x5), (7, .int x7), (8, .int x8)]) (st1 := [.ref P.1]) 1 rfl ?_
  refine me_getf (v := .ref (P.2.1 132)) rfl rfl rfl ?_
  refine me_go (pc1 := 156) (lv1 := [(0, .ref P.1), (1, .int x1), (2, .int x2), (3, .int x3), (4, .int x4), (5, .int x5), (7, .int x7), (8, .int x8)]) (st1 := [.int x8, .int 0, .ref (P.2.1 132)]) 2 rfl ?_
  have hi := h.1
  replace h := h.2
  refine me_iast rfl (g := 132) rfl rfl hi ?_
  refine me_go (pc1 := 159) (lv1 := [(0, .ref P.1), (1, .int x1), (2, .int x2), (3, .int x3), (4, .int x4), (5, .int x5), (7, .int x7), (8, .int x8)]) (st1 := [.int 1, .ref P.1]) 2 rfl ?_
  refine me_put rfl rfl rfl ?_
  refine me_go (pc1 := 166) (lv1 := [(0, .ref P.1), (1, .int x1), (2, .int x2), (3, .int x3), (4, .int x4), (5, .int x5), (7, .int x7), (8, .int x8)]) (st1 := [.ref P.1, .int x8, .ref P.1]) 3 rfl ?_
  refine me_getf (v := .ref (P.2.1 88)) rfl rfl rfl ?_
  refine me_go (pc1 := 170) (lv1 := [(0, .ref P.1), (1, .int x1), (2, .int x2), (3, .int x3), (4, .int x4), (5, .int x5), (7, .int x7), (8, .int x8)]) (st1 := [.int x3, .ref (P.2.1 88), .int x8, .ref P.1]) 1 rfl ?_
  refine me_iald rfl (g := 88) rfl rfl h.1 ?_
  replace h := h.2
  refine me_go (pc1 := 172) (lv1 := [(0, .ref P.1), (1, .int x1), (2, .int x2), (3, .int x3), (4, .int x4), (5, .int x5), (7, .int x7), (8, .int x8)]) (st1 := [.ref P.1, .int (μ.2.1 88 x3.toNatClampNeg), .int x8, .ref P.1]) 1 rfl ?_
  refine me_getf (v := .ref (P.2.1 26)) rfl rfl rfl ?_
  refine me_go (pc1 := 176) (lv1 := [(0, .ref P.1), (1, .int x1), (2, .int x2), (3, .int x3), (4, .int x4), (5, .int x5), (7, .int x7), (8, .int x8)]) (st1 := [.int x3, .ref (P.2.1 26), .int (μ.2.1 88 x3.toNatClampNeg), .int x8, .ref P.1]) 1 rfl ?_
  refine me_iald rfl (g := 26) rfl rfl h.1 ?_
  replace h := h.2
  refine me_callN rfl rfl rfl (h.mono (fun r1 μ1 h => ?_) (fun _ h => h))
  refine me_go (pc1 := 198) (lv1 := [(6, .int r1), (0, .ref P.1), (1, .int x1), (2, .int x2), (3, .int x3), (4, .int x4), (5, .int x5), (7, .int x7), (8, .int x8)]) (st1 := []) 2 rfl ?_
  refine me_lv [(0, .ref P.1), (1, .int x1), (2, .int x2), (3, .int x3), (4, .int x4), (5, .int x5), (6, .int r1)] (fl_c rfl (fl_c rfl (fl_c rfl (fl_c rfl (fl_c rfl (fl_c rfl (fl_c rfl fl_0))))))) ?_
  exact h
theorem v_begins_198 {X : ev_X} {W : Nat → Prop} {d : Nat} {P : MP} {μ : MS} {R : Int32 → MS → Prop} {T : MS → Prop} (x1 : Int32) (x2 : Int32) (x3 : Int32) (x4 : Int32) (x5 : Int32) (x6 : Int32) (h : ((¬ x6 = 0 → ME X W false d 464 209 [(0, .ref P.1), (1, .int x1), (2, .int x2), (3, .int x3), (4, .int x4), (5, .int x5), (6, .int x6)] [] P μ R T) ∧ (x6 = 0 → MC X W true d 446 [.ref P.1, .int 10] P μ (fun r1 μ1 => ME X W false d 464 209 [(0, .ref P.1), (1, .int x1), (2, .int x2), (3, .int x3), (4, .int x4), (5, .int x5), (6, .int x6)] [] P μ1 R T) T))) : ME X W false d 464 198 [(0, .ref P.1), (1, .int x1), (2, .int x2), (3, .int x3), (4, .int x4), (5, .int x5), (6, .int x6)] [] P μ R T := by
  refine me_go (pc1 := 200) (lv1 := [(0, .ref P.1), (1, .int x1), (2, .int x2), (3, .int x3), (4, .int x4), (5, .int x5), (6, .int x6)]) (st1 := [.int x6]) 1 rfl ?_
  refine me_ifc rfl rfl (fun c => ?_) (fun c => ?_)
  · replace h := h.1 (ci_ne c)
    exact h
  · replace h := h.2 (cn_ne c)
    refine me_go (pc1 := 206) (lv1 := [(0, .ref P.1), (1, .int x1), (2, .int x2), (3, .int x3), (4, .int x4), (5, .int x5), (6, .int x6)]) (st1 := [.int 10, .ref P.1]) 2 rfl ?_
    refine me_call rfl rfl rfl rfl (h.mono (fun r1 μ1 h => ?_) (fun _ h => h))
    exact h
theorem v_begins_209 {X : ev_X} {W : Nat → Prop} {d : Nat} {P : MP} {μ : MS} {R : Int32 → MS → Prop} {T : MS → Prop} (x1 : Int32) (x2 : Int32) (x3 : Int32) (x4 : Int32) (x5 : Int32) (x6 : Int32) (h : (MI x3 (μ.2.2 25) ∧ (MI (μ.2.1 25 x3.toNatClampNeg) (μ.2.2 22) ∧ (MI x3 (μ.2.2 23) ∧ ME X W false d 464 230 [(0, .ref P.1), (1, .int x1), (2, .int x2), (3, .int x3), (4, .int x4), (5, .int x5), (6, .int x6), (7, .int (μ.2.1 22 ((μ.2.1 25 x3.toNatClampNeg)).toNatClampNeg)), (8, .int (μ.2.1 23 x3.toNatClampNeg))] [] P μ R T)))) : ME X W false d 464 209 [(0, .ref P.1), (1, .int x1), (2, .int x2), (3, .int x3), (4, .int x4), (5, .int x5), (6, .int x6)] [] P μ R T := by
  refine me_go (pc1 := 210) (lv1 := [(0, .ref P.1), (1, .int x1), (2, .int x2), (3, .int x3), (4, .int x4), (5, .int x5), (6, .int x6)]) (st1 := [.ref P.1]) 1 rfl ?_
  refine me_getf (v := .ref (P.2.1 22)) rfl rfl rfl ?_
  refine me_go (pc1 := 214) (lv1 := [(0, .ref P.1), (1, .int x1), (2, .int x2), (3, .int x3), (4, .int x4), (5, .int x5), (6, .int x6)]) (st1 := [.ref P.1, .ref (P.2.1 22)]) 1 rfl ?_
  refine me_getf (v := .ref (P.2.1 25)) rfl rfl rfl ?_
  refine me_go (pc1 := 218) (lv1 := [(0, .ref P.1), (1, .int x1), (2, .int x2), (3, .int x3), (4, .int x4), (5, .int x5), (6, .int x6)]) (st1 := [.int x3, .ref (P.2.1 25), .ref (P.2.1 22)]) 1 rfl ?_
  refine me_iald rfl (g := 25) rfl rfl h.1 ?_
  replace h := h.2
  refine me_iald rfl (g := 22) rfl rfl h.1 ?_
  replace h := h.2
  refine me_go (pc1 := 223) (lv1 := [(7, .int (μ.2.1 22 ((μ.2.1 25 x3.toNatClampNeg)).toNatClampNeg)), (0, .ref P.1), (1, .int x1), (2, .int x2), (3, .int x3), (4, .int x4), (5, .int x5), (6, .int x6)]) (st1 := [.ref P.1]) 2 rfl ?_
  refine me_getf (v := .ref (P.2.1 23)) rfl rfl rfl ?_
  refine me_go (pc1 := 227) (lv1 := [(7, .int (μ.2.1 22 ((μ.2.1 25 x3.toNatClampNeg)).toNatClampNeg)), (0, .ref P.1), (1, .int x1), (2, .int x2), (3, .int x3), (4, .int x4), (5, .int x5), (6, .int x6)]) (st1 := [.int x3, .ref (P.2.1 23)]) 1 rfl ?_
  refine me_iald rfl (g := 23) rfl rfl h.1 ?_
  replace h := h.2
  refine me_go (pc1 := 230) (lv1 := [(8, .int (μ.2.1 23 x3.toNatClampNeg)), (7, .int (μ.2.1 22 ((μ.2.1 25 x3.toNatClampNeg)).toNatClampNeg)), (0, .ref P.1), (1, .int x1), (2, .int x2), (3, .int x3), (4, .int x4), (5, .int x5), (6, .int x6)]) (st1 := []) 1 rfl ?_
  refine me_lv [(0, .ref P.1), (1, .int x1), (2, .int x2), (3, .int x3), (4, .int x4), (5, .int x5), (6, .int x6), (7, .int (μ.2.1 22 ((μ.2.1 25 x3.toNatClampNeg)).toNatClampNeg)), (8, .int (μ.2.1 23 x3.toNatClampNeg))] (fl_c rfl (fl_c rfl (fl_c rfl (fl_c rfl (fl_c rfl (fl_c rfl (fl_c rfl (fl_c rfl (fl_c rfl fl_0))))))))) ?_
  exact h
theorem v_begins_230 {X : ev_X} {W : Nat → Prop} {d : Nat} {P : MP} {μ : MS} {R : Int32 → MS → Prop} {T : MS → Prop} (x1 : Int32) (x2 : Int32) (x3 : Int32) (x4 : Int32) (x5 : Int32) (x6 : Int32) (x7 : Int32) (x8 : Int32) (h : ((x8.toInt < (0 : Int) → ((x2 = 0 → MC X W true d 468 [.ref P.1, .int x1, .int x6, .int x4] P μ (fun r1 μ1 => ME X W false d 464 308 [(0, .ref P.1), (1, .int x1), (2, .int x2), (3, .int x3), (4, .int x4), (5, .int x5), (6, .int x6), (7, .int x7), (8, .int x8)] [] P μ1 R T) T) ∧ (¬ x2 = 0 → MC X W false d 470 [.ref P.1, .int x1, .int x6, .int x4] P μ (fun r2 μ2 => ∀ aa2 : Nat → Nat, ME X W false d 464 308 [(0, .ref P.1), (1, .int x1), (2, .int x2), (3, .int x3), (4, .int x4), (5, .int x5), (6, .int x6), (7, .int x7), (8, .int x8)] [] (P.1, aa2, P.2.2) μ2 R T) T))) ∧ ((0 : Int) ≤ x8.toInt → MC X W true d 466 [.ref P.1, .int x8, .int x7] P μ (fun r3 μ3 => (MI (μ.1 133) (μ3.2.2 132) ∧ (MI x7 (μ3.2.2 27) ∧ (MI x8 (μ3.2.2 27) ∧ ME X W false d 464 230 [(0, .ref P.1), (1, .int x1), (2, .int x2), (3, .int x3), (4, .int x4), (5, .int x5), (6, .int x6), (7, .int (μ3.2.1 27 x7.toNatClampNeg)), (8, .int (μ3.2.1 27 x8.toNatClampNeg))] [] P (mS1 (mA1 μ3 132 (((μ.1 133)).toNatClampNeg) r3) 133 ((μ3.1 133) + 1)) R T)))) T))) : ME X W false d 464 230 [(0, .ref P.1), (1, .int x1), (2, .int x2), (3, .int x3), (4, .int x4), (5, .int x5), (6, .int x6), (7, .int x7), (8, .int x8)] [] P μ R T := by
  refine me_go (pc1 := 232) (lv1 := [(0, .ref P.1), (1, .int x1), (2, .int x2), (3, .int x3), (4, .int x4), (5, .int x5), (6, .int x6), (7, .int x7), (8, .int x8)]) (st1 := [.int x8]) 1 rfl ?_
  refine me_ifc rfl rfl (fun c => ?_) (fun c => ?_)
  · replace h := h.1 (ci_lt c)
    refine me_go (pc1 := 284) (lv1 := [(0, .ref P.1), (1, .int x1), (2, .int x2), (3, .int x3), (4, .int x4), (5, .int x5), (6, .int x6), (7, .int x7), (8, .int x8)]) (st1 := [.int x2]) 1 rfl ?_
    refine me_ifc rfl rfl (fun c => ?_) (fun c => ?_)
    · replace h := h.1 (ci_eq c)
      refine me_go (pc1 := 305) (lv1 := [(0, .ref P.1), (1, .int x1), (2, .int x2), (3, .int x3), (4, .int x4), (5, .int x5), (6, .int x6), (7, .int x7), (8, .int x8)]) (st1 := [.int x4, .int x6, .int x1, .ref P.1]) 4 rfl ?_
      refine me_call rfl rfl rfl rfl (h.mono (fun r1 μ1 h => ?_) (fun _ h => h))
      exact h
    · replace h := h.2 (cn_eq c)
      refine me_go (pc1 := 293) (lv1 := [(0, .ref P.1), (1, .int x1), (2, .int x2), (3, .int x3), (4, .int x4), (5, .int x5), (6, .int x6), (7, .int x7), (8, .int x8)]) (st1 := [.int x4, .int x6, .int x1, .ref P.1]) 4 rfl ?_
      refine me_callF rfl rfl rfl rfl rfl (h.mono (fun r2 μ2 h aa2 => ?_) (fun _ h => h))
      replace h := h aa2
      refine me_go (pc1 := 308) (lv1 := [(0, .ref P.1), (1, .int x1), (2, .int x2), (3, .int x3), (4, .int x4), (5, .int x5), (6, .int x6), (7, .int x7), (8, .int x8)]) (st1 := []) 1 rfl ?_
      exact h
  · replace h := h.2 (cn_lt c)
    refine me_go (pc1 := 236) (lv1 := [(0, .ref P.1), (1, .int x1), (2, .int x2), (3, .int x3), (4, .int x4), (5, .int x5), (6, .int x6), (7, .int x7), (8, .int x8)]) (st1 := [.ref P.1]) 1 rfl ?_
    refine me_getf (v := .ref (P.2.1 132)) rfl rfl rfl ?_
    refine me_go (pc1 := 240) (lv1 := [(0, .ref P.1), (1, .int x1), (2, .int x2), (3, .int x3), (4, .int x4), (5, .int x5), (6, .int x6), (7, .int x7), (8, .int x8)]) (st1 := [.ref P.1, .ref (P.2.1 132)]) 1 rfl ?_
    refine me_getf (v := .int (μ.1 133)) rfl rfl rfl ?_
    refine me_go (pc1 := 248) (lv1 := [(0, .ref P.1), (1, .int x1), (2, .int x2), (3, .int x3), (4, .int x4), (5, .int x5), (6, .int x6), (7, .int x7), (8, .int x8)]) (st1 := [.int x7, .int x8, .ref P.1, .int (μ.1 133), .ref (P.2.1 132)]) 3 rfl ?_
    refine me_call rfl rfl rfl rfl (h.mono (fun r3 μ3 h => ?_) (fun _ h => h))
    have hi := h.1
    replace h := h.2
    refine me_iast rfl (g := 132) rfl rfl hi ?_
    refine me_go (pc1 := 254) (lv1 := [(0, .ref P.1), (1, .int x1), (2, .int x2), (3, .int x3), (4, .int x4), (5, .int x5), (6, .int x6), (7, .int x7), (8, .int x8)]) (st1 := [.ref P.1, .ref P.1]) 2 rfl ?_
    refine me_getf (v := .int (μ3.1 133)) rfl rfl rfl ?_
    refine me_go (pc1 := 259) (lv1 := [(0, .ref P.1), (1, .int x1), (2, .int x2), (3, .int x3), (4, .int x4), (5, .int x5), (6, .int x6), (7, .int x7), (8, .int x8)]) (st1 := [.int ((μ3.1 133) + 1), .ref P.1]) 2 rfl ?_
    refine me_put rfl rfl rfl ?_
    refine me_go (pc1 := 263) (lv1 := [(0, .ref P.1), (1, .int x1), (2, .int x2), (3, .int x3), (4, .int x4), (5, .int x5), (6, .int x6), (7, .int x7), (8, .int x8)]) (st1 := [.ref P.1]) 1 rfl ?_
    refine me_getf (v := .ref (P.2.1 27)) rfl rfl rfl ?_
    refine me_go (pc1 := 268) (lv1 := [(0, .ref P.1), (1, .int x1), (2, .int x2), (3, .int x3), (4, .int x4), (5, .int x5), (6, .int x6), (7, .int x7), (8, .int x8)]) (st1 := [.int x7, .ref (P.2.1 27)]) 1 rfl ?_
    refine me_iald rfl (g := 27) rfl rfl h.1 ?_
    replace h := h.2
    refine me_go (pc1 := 272) (lv1 := [(7, .int (μ3.2.1 27 x7.toNatClampNeg)), (0, .ref P.1), (1, .int x1), (2, .int x2), (3, .int x3), (4, .int x4), (5, .int x5), (6, .int x6), (8, .int x8)]) (st1 := [.ref P.1]) 2 rfl ?_
    refine me_getf (v := .ref (P.2.1 27)) rfl rfl rfl ?_
    refine me_go (pc1 := 277) (lv1 := [(7, .int (μ3.2.1 27 x7.toNatClampNeg)), (0, .ref P.1), (1, .int x1), (2, .int x2), (3, .int x3), (4, .int x4), (5, .int x5), (6, .int x6), (8, .int x8)]) (st1 := [.int x8, .ref (P.2.1 27)]) 1 rfl ?_
    refine me_iald rfl (g := 27) rfl rfl h.1 ?_
    replace h := h.2
    refine me_go (pc1 := 230) (lv1 := [(8, .int (μ3.2.1 27 x8.toNatClampNeg)), (7, .int (μ3.2.1 27 x7.toNatClampNeg)), (0, .ref P.1), (1, .int x1), (2, .int x2), (3, .int x3), (4, .int x4), (5, .int x5), (6, .int x6)]) (st1 := []) 2 rfl ?_
    refine me_lv [(0, .ref P.1), (1, .int x1), (2, .int x2), (3, .int x3), (4, .int x4), (5, .int x5), (6, .int x6), (7, .int (μ3.2.1 27 x7.toNatClampNeg)), (8, .int (μ3.2.1 27 x8.toNatClampNeg))] (fl_c rfl (fl_c rfl (fl_c rfl (fl_c rfl (fl_c rfl (fl_c rfl (fl_c rfl (fl_c rfl (fl_c rfl fl_0))))))))) ?_
    exact h
theorem v_begins_308 {X : ev_X} {W : Nat → Prop} {d : Nat} {P : MP} {μ : MS} {R : Int32 → MS → Prop} {T : MS → Prop} (x1 : Int32) (x2 : Int32) (x3 : Int32) (x4 : Int32) (x5 : Int32) (x6 : Int32) (x7 : Int32) (x8 : Int32) (h : R 0 μ) : ME X W false d 464 308 [(0, .ref P.1), (1, .int x1), (2, .int x2), (3, .int x3), (4, .int x4), (5, .int x5), (6, .int x6), (7, .int x7), (8, .int x8)] [] P μ R T := by
  exact me_ret (v := none) (r := 0) rfl rfl rfl h
theorem v_methodPlace_0 {X : ev_X} {W : Nat → Prop} {d : Nat} {P : MP} {μ : MS} {R : Int32 → MS → Prop} {T : MS → Prop} (x1 : Int32) (x2 : Int32) (h : (MI x1 (μ.2.2 28) ∧ (MI (μ.2.1 28 x1.toNatClampNeg) (μ.2.2 55) ∧ (MI (μ.2.1 28 x1.toNatClampNeg) (μ.2.2 53) ∧ (((μ.2.1 53 ((μ.2.1 28 x1.toNatClampNeg)).toNatClampNeg) = 0 → (MI (μ.2.1 28 x1.toNatClampNeg) (μ.2.2 53) ∧ ((¬ (μ.2.1 53 ((μ.2.1 28 x1.toNatClampNeg)).toNatClampNeg) = 2 → (MI x1 (μ.2.2 26) ∧ MC X W true d 457 [.ref P.1, .int (μ.2.1 26 x1.toNatClampNeg), .int x2, .int (μ.2.1 55 ((μ.2.1 28 x1.toNatClampNeg)).toNatClampNeg)] P μ (fun r1 μ1 => R r1 μ1) T)) ∧ ((μ.2.1 53 ((μ.2.1 28 x1.toNatClampNeg)).toNatClampNeg) = 2 → (MI (μ.2.1 55 ((μ.2.1 28 x1.toNatClampNeg)).toNatClampNeg) (μ.2.2 99) ∧ (MI x1 (μ.2.2 26) ∧ MC X W true d 457 [.ref P.1, .int (μ.2.1 26 x1.toNatClampNeg), .int x2, .int (μ.2.1 99 ((μ.2.1 55 ((μ.2.1 28 x1.toNatClampNeg)).toNatClampNeg)).toNatClampNeg)] P μ (fun r2 μ2 => R r2 μ2) T)))))) ∧ (¬ (μ.2.1 53 ((μ.2.1 28 x1.toNatClampNeg)).toNatClampNeg) = 0 → (MI (μ.1 128) (μ.2.2 122) ∧ (MI (μ.2.1 28 x1.toNatClampNeg) (μ.2.2 53) ∧ ((¬ (μ.2.1 53 ((μ.2.1 28 x1.toNatClampNeg)).toNatClampNeg) = 2 → (MI x1 (μ.2.2 26) ∧ MC X W true d 457 [.ref P.1, .int (μ.2.1 26 x1.toNatClampNeg), .int x2, .int ((μ.2.1 55 ((μ.2.1 28 x1.toNatClampNeg)).toNatClampNeg) + (μ.2.1 122 ((μ.1 128)).toNatClampNeg))] P μ (fun r3 μ3 => R r3 μ3) T)) ∧ ((μ.2.1 53 ((μ.2.1 28 x1.toNatClampNeg)).toNatClampNeg) = 2 → (MI ((μ.2.1 55 ((μ.2.1 28 x1.toNatClampNeg)).toNatClampNeg) + (μ.2.1 122 ((μ.1 128)).toNatClampNeg)) (μ.2.2 99) ∧ (MI x1 (μ.2.2 26) ∧ MC X W true d 457 [.ref P.1, .int (μ.2.1 26 x1.toNatClampNeg), .int x2, .int (μ.2.1 99 (((μ.2.1 55 ((μ.2.1 28 x1.toNatClampNeg)).toNatClampNeg) + (μ.2.1 122 ((μ.1 128)).toNatClampNeg))).toNatClampNeg)] P μ (fun r4 μ4 => R r4 μ4) T)))))))))))) : ME X W true d 465 0 [(0, .ref P.1), (1, .int x1), (2, .int x2)] [] P μ R T := by
  refine me_go (pc1 := 1) (lv1 := [(0, .ref P.1), (1, .int x1), (2, .int x2)]) (st1 := [.ref P.1]) 1 rfl ?_
  refine me_getf (v := .ref (P.2.1 28)) rfl rfl rfl ?_
  refine me_go (pc1 := 5) (lv1 := [(0, .ref P.1), (1, .int x1), (2, .int x2)]) (st1 := [.int x1, .ref (P.2.1 28)]) 1 rfl ?_
  refine me_iald rfl (g := 28) rfl rfl h.1 ?_
  replace h := h.2
  refine me_go (pc1 := 8) (lv1 := [(3, .int (μ.2.1 28 x1.toNatClampNeg)), (0, .ref P.1), (1, .int x1), (2, .int x2)]) (st1 := [.ref P.1]) 2 rfl ?_
  refine me_getf (v := .ref (P.2.1 55)) rfl rfl rfl ?_
  refine me_go (pc1 := 12) (lv1 := [(3, .int (μ.2.1 28 x1.toNatClampNeg)), (0, .ref P.1), (1, .int x1), (2, .int x2)]) (st1 := [.int (μ.2.1 28 x1.toNatClampNeg), .ref (P.2.1 55)]) 1 rfl ?_
  refine me_iald rfl (g := 55) rfl rfl h.1 ?_
  replace h := h.2
  refine me_go (pc1 := 16) (lv1 := [(4, .int (μ.2.1 55 ((μ.2.1 28 x1.toNatClampNeg)).toNatClampNeg)), (3, .int (μ.2.1 28 x1.toNatClampNeg)), (0, .ref P.1), (1, .int x1), (2, .int x2)]) (st1 := [.ref P.1]) 2 rfl ?_
  refine me_getf (v := .ref (P.2.1 53)) rfl rfl rfl ?_
  refine me_go (pc1 := 20) (lv1 := [(4, .int (μ.2.1 55 ((μ.2.1 28 x1.toNatClampNeg)).toNatClampNeg)), (3, .int (μ.2.1 28 x1.toNatClampNeg)), (0, .ref P.1), (1, .int x1), (2, .int x2)]) (st1 := [.int (μ.2.1 28 x1.toNatClampNeg), .ref (P.2.1 53)]) 1 rfl ?_
  refine me_iald rfl (g := 53) rfl rfl h.1 ?_
  replace h := h.2
  refine me_ifc rfl rfl (fun c => ?_) (fun c => ?_)
  · replace h := h.1 (ci_eq c)
    refine me_go (pc1 := 39) (lv1 := [(4, .int (μ.2.1 55 ((μ.2.1 28 x1.toNatClampNeg)).toNatClampNeg)), (3, .int (μ.2.1 28 x1.toNatClampNeg)), (0, .ref P.1), (1, .int x1), (2, .int x2)]) (st1 := [.ref P.1]) 1 rfl ?_
    refine me_getf (v := .ref (P.2.1 53)) rfl rfl rfl ?_
    refine me_go (pc1 := 43) (lv1 := [(4, .int (μ.2.1 55 ((μ.2.1 28 x1.toNatClampNeg)).toNatClampNeg)), (3, .int (μ.2.1 28 x1.toNatClampNeg)), (0, .ref P.1), (1, .int x1), (2, .int x2)]) (st1 := [.int (μ.2.1 28 x1.toNatClampNeg), .ref (P.2.1 53)]) 1 rfl ?_
    refine me_iald rfl (g := 53) rfl rfl h.1 ?_
    replace h := h.2
    refine me_go (pc1 := 45) (lv1 := [(4, .int (μ.2.1 55 ((μ.2.1 28 x1.toNatClampNeg)).toNatClampNeg)), (3, .int (μ.2.1 28 x1.toNatClampNeg)), (0, .ref P.1), (1, .int x1), (2, .int x2)]) (st1 := [.int 2, .int (μ.2.1 53 ((μ.2.1 28 x1.toNatClampNeg)).toNatClampNeg)]) 1 rfl ?_
    refine me_icmp rfl rfl (fun c => ?_) (fun c => ?_)
    · replace h := h.1 (ci_ne c)
      refine me_go (pc1 := 59) (lv1 := [(4, .int (μ.2.1 55 ((μ.2.1 28 x1.toNatClampNeg)).toNatClampNeg)), (3, .int (μ.2.1 28 x1.toNatClampNeg)), (0, .ref P.1), (1, .int x1), (2, .int x2)]) (st1 := [.ref P.1, .ref P.1]) 2 rfl ?_
      refine me_getf (v := .ref (P.2.1 26)) rfl rfl rfl ?_
      refine me_go (pc1 := 63) (lv1 := [(4, .int (μ.2.1 55 ((μ.2.1 28 x1.toNatClampNeg)).toNatClampNeg)), (3, .int (μ.2.1 28 x1.toNatClampNeg)), (0, .ref P.1), (1, .int x1), (2, .int x2)]) (st1 := [.int x1, .ref (P.2.1 26), .ref P.1]) 1 rfl ?_
      refine me_iald rfl (g := 26) rfl rfl h.1 ?_
      replace h := h.2
      refine me_go (pc1 := 67) (lv1 := [(4, .int (μ.2.1 55 ((μ.2.1 28 x1.toNatClampNeg)).toNatClampNeg)), (3, .int (μ.2.1 28 x1.toNatClampNeg)), (0, .ref P.1), (1, .int x1), (2, .int x2)]) (st1 := [.int (μ.2.1 55 ((μ.2.1 28 x1.toNatClampNeg)).toNatClampNeg), .int x2, .int (μ.2.1 26 x1.toNatClampNeg), .ref P.1]) 2 rfl ?_
      refine me_call rfl rfl rfl rfl (h.mono (fun r1 μ1 h => ?_) (fun _ h => h))
      exact me_ret rfl rfl rfl h
    · replace h := h.2 (cn_ne c)
      refine me_go (pc1 := 49) (lv1 := [(4, .int (μ.2.1 55 ((μ.2.1 28 x1.toNatClampNeg)).toNatClampNeg)), (3, .int (μ.2.1 28 x1.toNatClampNeg)), (0, .ref P.1), (1, .int x1), (2, .int x2)]) (st1 := [.ref P.1]) 1 rfl ?_
      refine me_getf (v := .ref (P.2.1 99)) rfl rfl rfl ?_
      refine me_go (pc1 := 54) (lv1 := [(4, .int (μ.2.1 55 ((μ.2.1 28 x1.toNatClampNeg)).toNatClampNeg)), (3, .int (μ.2.1 28 x1.toNatClampNeg)), (0, .ref P.1), (1, .int x1), (2, .int x2)]) (st1 := [.int (μ.2.1 55 ((μ.2.1 28 x1.toNatClampNeg)).toNatClampNeg), .ref (P.2.1 99)]) 1 rfl ?_
      refine me_iald rfl (g := 99) rfl rfl h.1 ?_
      replace h := h.2
      refine me_go (pc1 := 59) (lv1 := [(4, .int (μ.2.1 99 ((μ.2.1 55 ((μ.2.1 28 x1.toNatClampNeg)).toNatClampNeg)).toNatClampNeg)), (3, .int (μ.2.1 28 x1.toNatClampNeg)), (0, .ref P.1), (1, .int x1), (2, .int x2)]) (st1 := [.ref P.1, .ref P.1]) 3 rfl ?_
      refine me_getf (v := .ref (P.2.1 26)) rfl rfl rfl ?_
      refine me_go (pc1 := 63) (lv1 := [(4, .int (μ.2.1 99 ((μ.2.1 55 ((μ.2.1 28 x1.toNatClampNeg)).toNatClampNeg)).toNatClampNeg)), (3, .int (μ.2.1 28 x1.toNatClampNeg)), (0, .ref P.1), (1, .int x1), (2, .int x2)]) (st1 := [.int x1, .ref (P.2.1 26), .ref P.1]) 1 rfl ?_
      refine me_iald rfl (g := 26) rfl rfl h.1 ?_
      replace h := h.2
      refine me_go (pc1 := 67) (lv1 := [(4, .int (μ.2.1 99 ((μ.2.1 55 ((μ.2.1 28 x1.toNatClampNeg)).toNatClampNeg)).toNatClampNeg)), (3, .int (μ.2.1 28 x1.toNatClampNeg)), (0, .ref P.1), (1, .int x1), (2, .int x2)]) (st1 := [.int (μ.2.1 99 ((μ.2.1 55 ((μ.2.1 28 x1.toNatClampNeg)).toNatClampNeg)).toNatClampNeg), .int x2, .int (μ.2.1 26 x1.toNatClampNeg), .ref P.1]) 2 rfl ?_
      refine me_call rfl rfl rfl rfl (h.mono (fun r2 μ2 h => ?_) (fun _ h => h))
      exact me_ret rfl rfl rfl h
  · replace h := h.2 (cn_eq c)
    refine me_go (pc1 := 27) (lv1 := [(4, .int (μ.2.1 55 ((μ.2.1 28 x1.toNatClampNeg)).toNatClampNeg)), (3, .int (μ.2.1 28 x1.toNatClampNeg)), (0, .ref P.1), (1, .int x1), (2, .int x2)]) (st1 := [.ref P.1, .int (μ.2.1 55 ((μ.2.1 28 x1.toNatClampNeg)).toNatClampNeg)]) 2 rfl ?_
    refine me_getf (v := .ref (P.2.1 122)) rfl rfl rfl ?_
    refine me_go (pc1 := 31) (lv1 := [(4, .int (μ.2.1 55 ((μ.2.1 28 x1.toNatClampNeg)).toNatClampNeg)), (3, .int (μ.2.1 28 x1.toNatClampNeg)), (0, .ref P.1), (1, .int x1), (2, .int x2)]) (st1 := [.ref P.1, .ref (P.2.1 122), .int (μ.2.1 55 ((μ.2.1 28 x1.toNatClampNeg)).toNatClampNeg)]) 1 rfl ?_
    refine me_getf (v := .int (μ.1 128)) rfl rfl rfl ?_
    refine me_iald rfl (g := 122) rfl rfl h.1 ?_
    replace h := h.2
    refine me_go (pc1 := 39) (lv1 := [(4, .int ((μ.2.1 55 ((μ.2.1 28 x1.toNatClampNeg)).toNatClampNeg) + (μ.2.1 122 ((μ.1 128)).toNatClampNeg))), (3, .int (μ.2.1 28 x1.toNatClampNeg)), (0, .ref P.1), (1, .int x1), (2, .int x2)]) (st1 := [.ref P.1]) 3 rfl ?_
    refine me_getf (v := .ref (P.2.1 53)) rfl rfl rfl ?_
    refine me_go (pc1 := 43) (lv1 := [(4, .int ((μ.2.1 55 ((μ.2.1 28 x1.toNatClampNeg)).toNatClampNeg) + (μ.2.1 122 ((μ.1 128)).toNatClampNeg))), (3, .int (μ.2.1 28 x1.toNatClampNeg)), (0, .ref P.1), (1, .int x1), (2, .int x2)]) (st1 := [.int (μ.2.1 28 x1.toNatClampNeg), .ref (P.2.1 53)]) 1 rfl ?_
    refine me_iald rfl (g := 53) rfl rfl h.1 ?_
    replace h := h.2
    refine me_go (pc1 := 45) (lv1 := [(4, .int ((μ.2.1 55 ((μ.2.1 28 x1.toNatClampNeg)).toNatClampNeg) + (μ.2.1 122 ((μ.1 128)).toNatClampNeg))), (3, .int (μ.2.1 28 x1.toNatClampNeg)), (0, .ref P.1), (1, .int x1), (2, .int x2)]) (st1 := [.int 2, .int (μ.2.1 53 ((μ.2.1 28 x1.toNatClampNeg)).toNatClampNeg)]) 1 rfl ?_
    refine me_icmp rfl rfl (fun c => ?_) (fun c => ?_)
    · replace h := h.1 (ci_ne c)
      refine me_go (pc1 := 59) (lv1 := [(4, .int ((μ.2.1 55 ((μ.2.1 28 x1.toNatClampNeg)).toNatClampNeg) + (μ.2.1 122 ((μ.1 128)).toNatClampNeg))), (3, .int (μ.2.1 28 x1.toNatClampNeg)), (0, .ref P.1), (1, .int x1), (2, .int x2)]) (st1 := [.ref P.1, .ref P.1]) 2 rfl ?_
      refine me_getf (v := .ref (P.2.1 26)) rfl rfl rfl ?_
      refine me_go (pc1 := 63) (lv1 := [(4, .int ((μ.2.1 55 ((μ.2.1 28 x1.toNatClampNeg)).toNatClampNeg) + (μ.2.1 122 ((μ.1 128)).toNatClampNeg))), (3, .int (μ.2.1 28 x1.toNatClampNeg)), (0, .ref P.1), (1, .int x1), (2, .int x2)]) (st1 := [.int x1, .ref (P.2.1 26), .ref P.1]) 1 rfl ?_
      refine me_iald rfl (g := 26) rfl rfl h.1 ?_
      replace h := h.2
      refine me_go (pc1 := 67) (lv1 := [(4, .int ((μ.2.1 55 ((μ.2.1 28 x1.toNatClampNeg)).toNatClampNeg) + (μ.2.1 122 ((μ.1 128)).toNatClampNeg))), (3, .int (μ.2.1 28 x1.toNatClampNeg)), (0, .ref P.1), (1, .int x1), (2, .int x2)]) (st1 := [.int ((μ.2.1 55 ((μ.2.1 28 x1.toNatClampNeg)).toNatClampNeg) + (μ.2.1 122 ((μ.1 128)).toNatClampNeg)), .int x2, .int (μ.2.1 26 x1.toNatClampNeg), .ref P.1]) 2 rfl ?_
      refine me_call rfl rfl rfl rfl (h.mono (fun r3 μ3 h => ?_) (fun _ h => h))
      exact me_ret rfl rfl rfl h
    · replace h := h.2 (cn_ne c)
      refine me_go (pc1 := 49) (lv1 := [(4, .int ((μ.2.1 55 ((μ.2.1 28 x1.toNatClampNeg)).toNatClampNeg) + (μ.2.1 122 ((μ.1 128)).toNatClampNeg))), (3, .int (μ.2.1 28 x1.toNatClampNeg)), (0, .ref P.1), (1, .int x1), (2, .int x2)]) (st1 := [.ref P.1]) 1 rfl ?_
      refine me_getf (v := .ref (P.2.1 99)) rfl rfl rfl ?_
      refine me_go (pc1 := 54) (lv1 := [(4, .int ((μ.2.1 55 ((μ.2.1 28 x1.toNatClampNeg)).toNatClampNeg) + (μ.2.1 122 ((μ.1 128)).toNatClampNeg))), (3, .int (μ.2.1 28 x1.toNatClampNeg)), (0, .ref P.1), (1, .int x1), (2, .int x2)]) (st1 := [.int ((μ.2.1 55 ((μ.2.1 28 x1.toNatClampNeg)).toNatClampNeg) + (μ.2.1 122 ((μ.1 128)).toNatClampNeg)), .ref (P.2.1 99)]) 1 rfl ?_
      refine me_iald rfl (g := 99) rfl rfl h.1 ?_
      replace h := h.2
      refine me_go (pc1 := 59) (lv1 := [(4, .int (μ.2.1 99 (((μ.2.1 55 ((μ.2.1 28 x1.toNatClampNeg)).toNatClampNeg) + (μ.2.1 122 ((μ.1 128)).toNatClampNeg))).toNatClampNeg)), (3, .int (μ.2.1 28 x1.toNatClampNeg)), (0, .ref P.1), (1, .int x1), (2, .int x2)]) (st1 := [.ref P.1, .ref P.1]) 3 rfl ?_
      refine me_getf (v := .ref (P.2.1 26)) rfl rfl rfl ?_
      refine me_go (pc1 := 63) (lv1 := [(4, .int (μ.2.1 99 (((μ.2.1 55 ((μ.2.1 28 x1.toNatClampNeg)).toNatClampNeg) + (μ.2.1 122 ((μ.1 128)).toNatClampNeg))).toNatClampNeg)), (3, .int (μ.2.1 28 x1.toNatClampNeg)), (0, .ref P.1), (1, .int x1), (2, .int x2)]) (st1 := [.int x1, .ref (P.2.1 26), .ref P.1]) 1 rfl ?_
      refine me_iald rfl (g := 26) rfl rfl h.1 ?_
      replace h := h.2
      refine me_go (pc1 := 67) (lv1 := [(4, .int (μ.2.1 99 (((μ.2.1 55 ((μ.2.1 28 x1.toNatClampNeg)).toNatClampNeg) + (μ.2.1 122 ((μ.1 128)).toNatClampNeg))).toNatClampNeg)), (3, .int (μ.2.1 28 x1.toNatClampNeg)), (0, .ref P.1), (1, .int x1), (2, .int x2)]) (st1 := [.int (μ.2.1 99 (((μ.2.1 55 ((μ.2.1 28 x1.toNatClampNeg)).toNatClampNeg) + (μ.2.1 122 ((μ.1 128)).toNatClampNeg))).toNatClampNeg), .int x2, .int (μ.2.1 26 x1.toNatClampNeg), .ref P.1]) 2 rfl ?_
      refine me_call rfl rfl rfl rfl (h.mono (fun r4 μ4 h => ?_) (fun _ h => h))
      exact me_ret rfl rfl rfl h
theorem v_parameter_0 {X : ev_X} {W : Nat → Prop} {d : Nat} {P : MP} {μ : MS} {R : Int32 → MS → Prop} {T : MS → Prop} (x1 : Int32) (x2 : Int32) (h : (MI x2 (μ.2.2 24) ∧ ((¬ (μ.2.1 24 x2.toNatClampNeg) = 1 → (MI x2 (μ.2.2 23) ∧ MC X W true d 365 [.ref P.1, .int (μ.2.1 23 x2.toNatClampNeg)] P μ (fun r1 μ1 => MC X W true d 458 [.ref P.1, .int r1] P μ1 (fun r2 μ2 => ((r2 = 0 → MC X W true d 459 [.ref P.1, .int x1] P μ2 (fun r3 μ3 => (MI x2 (μ3.2.2 23) ∧ MC X W true d 365 [.ref P.1, .int (μ3.2.1 23 x2.toNatClampNeg)] P μ3 (fun r4 μ4 => MC X W true d 455 [.ref P.1, .int r4, .int r3] P μ4 (fun r5 μ5 => R r3 μ5) T) (fun _ => False))) T) ∧ (¬ r2 = 0 → MC X W true d 456 [.ref P.1, .int x1] P μ2 (fun r6 μ6 => R r6 μ6) T))) (fun _ => False)) (fun _ => False))) ∧ ((μ.2.1 24 x2.toNatClampNeg) = 1 → MC X W true d 456 [.ref P.1, .int x1] P μ (fun r7 μ7 => R r7 μ7) T)))) : ME X W true d 466 0 [(0, .ref P.1), (1, .int x1), (2, .int x2)] [] P μ R T := by
  refine me_go (pc1 := 1) (lv1 := [(0, .ref P.1), (1, .int x1), (2, .int x2)]) (st1 := [.ref P.1]) 1 rfl ?_
  refine me_getf (v := .ref (P.2.1 24)) rfl rfl rfl ?_
  refine me_go (pc1 := 5) (lv1 := [(0, .ref P.1), (1, .int x1), (2, .int x2)]) (st1 := [.int x2, .ref (P.2.1 24)]) 1 rfl ?_
  refine me_iald rfl (g := 24) rfl rfl h.1 ?_
  replace h := h.2
  refine me_go (pc1 := 7) (lv1 := [(0, .ref P.1), (1, .int x1), (2, .int x2)]) (st1 := [.int 1, .int (μ.2.1 24 x2.toNatClampNeg)]) 1 rfl ?_
  refine me_icmp rfl rfl (fun c => ?_) (fun c => ?_)
  · replace h := h.1 (ci_ne c)
    refine me_go (pc1 := 19) (lv1 := [(0, .ref P.1), (1, .int x1), (2, .int x2)]) (st1 := [.ref P.1, .ref P.1, .ref P.1]) 3 rfl ?_
    refine me_getf (v := .ref (P.2.1 23)) rfl rfl rfl ?_
    refine me_go (pc1 := 23) (lv1 := [(0, .ref P.1), (1, .int x1), (2, .int x2)]) (st1 := [.int x2, .ref (P.2.1 23), .ref P.1, .ref P.1]) 1 rfl ?_
    refine me_iald rfl (g := 23) rfl rfl h.1 ?_
    replace h := h.2
    refine me_callN rfl rfl rfl (h.mono (fun r1 μ1 h => ?_) (fun _ h => h))
    refine me_callN rfl rfl rfl (h.mono (fun r2 μ2 h => ?_) (fun _ h => h))
    refine me_ifc rfl rfl (fun c => ?_) (fun c => ?_)
    · replace h := h.1 (ci_eq c)
      refine me_go (pc1 := 41) (lv1 := [(0, .ref P.1), (1, .int x1), (2, .int x2)]) (st1 := [.int x1, .ref P.1]) 2 rfl ?_
      refine me_call rfl rfl rfl rfl (h.mono (fun r3 μ3 h => ?_) (fun _ h => h))
      refine me_go (pc1 := 48) (lv1 := [(3, .int r3), (0, .ref P.1), (1, .int x1), (2, .int x2)]) (st1 := [.ref P.1, .ref P.1, .ref P.1]) 4 rfl ?_
      refine me_getf (v := .ref (P.2.1 23)) rfl rfl rfl ?_
      refine me_go (pc1 := 52) (lv1 := [(3, .int r3), (0, .ref P.1), (1, .int x1), (2, .int x2)]) (st1 := [.int x2, .ref (P.2.1 23), .ref P.1, .ref P.1]) 1 rfl ?_
      refine me_iald rfl (g := 23) rfl rfl h.1 ?_
      replace h := h.2
      refine me_callN rfl rfl rfl (h.mono (fun r4 μ4 h => ?_) (fun _ h => h))
      refine me_go (pc1 := 57) (lv1 := [(3, .int r3), (0, .ref P.1), (1, .int x1), (2, .int x2)]) (st1 := [.int r3, .int r4, .ref P.1]) 1 rfl ?_
      refine me_call rfl rfl rfl rfl (h.mono (fun r5 μ5 h => ?_) (fun _ h => h))
      refine me_go (pc1 := 61) (lv1 := [(3, .int r3), (0, .ref P.1), (1, .int x1), (2, .int x2)]) (st1 := [.int r3]) 1 rfl ?_
      exact me_ret rfl rfl rfl h
    · replace h := h.2 (cn_eq c)
      refine me_go (pc1 := 35) (lv1 := [(0, .ref P.1), (1, .int x1), (2, .int x2)]) (st1 := [.int x1, .ref P.1]) 2 rfl ?_
      refine me_call rfl rfl rfl rfl (h.mono (fun r6 μ6 h => ?_) (fun _ h => h))
      exact me_ret rfl rfl rfl h
  · replace h := h.2 (cn_ne c)
    refine me_go (pc1 := 12) (lv1 := [(0, .ref P.1), (1, .int x1), (2, .int x2)]) (st1 := [.int x1, .ref P.1]) 2 rfl ?_
    refine me_call rfl rfl rfl rfl (h.mono (fun r7 μ7 h => ?_) (fun _ h => h))
    exact me_ret rfl rfl rfl h
theorem v_methodOf_0 {X : ev_X} {W : Nat → Prop} {d : Nat} {P : MP} {μ : MS} {R : Int32 → MS → Prop} {T : MS → Prop} (x1 : Int32) (x2 : Int32) (x3 : Int32) (h : (MI x1 (μ.2.2 105) ∧ ME X W true d 467 8 [(0, .ref P.1), (1, .int x1), (2, .int x2), (3, .int x3), (4, .int (μ.2.1 105 x1.toNatClampNeg))] [] P μ R T)) : ME X W true d 467 0 [(0, .ref P.1), (1, .int x1), (2, .int x2), (3, .int x3)] [] P μ R T := by
  refine me_go (pc1 := 1) (lv1 := [(0, .ref P.1), (1, .int x1), (2, .int x2), (3, .int x3)]) (st1 := [.ref P.1]) 1 rfl ?_
  refine me_getf (v := .ref (P.2.1 105)) rfl rfl rfl ?_
  refine me_go (pc1 := 5) (lv1 := [(0, .ref P.1), (1, .int x1), (2, .int x2), (3, .int x3)]) (st1 := [.int x1, .ref (P.2.1 105)]) 1 rfl ?_
  refine me_iald rfl (g := 105) rfl rfl h.1 ?_
  replace h := h.2
  refine me_go (pc1 := 8) (lv1 := [(4, .int (μ.2.1 105 x1.toNatClampNeg)), (0, .ref P.1), (1, .int x1), (2, .int x2), (3, .int x3)]) (st1 := []) 1 rfl ?_
  refine me_lv [(0, .ref P.1), (1, .int x1), (2, .int x2), (3, .int x3), (4, .int (μ.2.1 105 x1.toNatClampNeg))] (fl_c rfl (fl_c rfl (fl_c rfl (fl_c rfl (fl_c rfl fl_0))))) ?_
  exact h
theorem v_methodOf_8 {X : ev_X} {W : Nat → Prop} {d : Nat} {P : MP} {μ : MS} {R : Int32 → MS → Prop} {T : MS → Prop} (x1 : Int32) (x2 : Int32) (x3 : Int32) (x4 : Int32) (h : ((x4.toInt < (0 : Int) → (MI x2 (μ.2.2 24) ∧ MC X W true d 376 [.ref P.1, .int (μ.2.1 24 x2.toNatClampNeg)] P μ (fun r1 μ1 => R r1 μ1) (fun _ => False))) ∧ ((0 : Int) ≤ x4.toInt → MC X W true d 392 [.ref P.1, .int x4] P μ (fun r2 μ2 => (((0 : Int) ≤ r2.toInt → (MI r2 (μ2.2.2 25) ∧ ME X W true d 467 39 [(0, .ref P.1), (1, .int x1), (2, .int x2), (3, .int x3), (4, .int x4), (5, .int r2), (6, .int (μ2.2.1 25 r2.toNatClampNeg))] [] P μ2 R T)) ∧ (r2.toInt < (0 : Int) → ME X W true d 467 39 [(0, .ref P.1), (1, .int x1), (2, .int x2), (3, .int x3), (4, .int x4), (5, .int r2), (6, .int (-1))] [] P μ2 R T))) (fun _ => False)))) : ME X W true d 467 8 [(0, .ref P.1), (1, .int x1), (2, .int x2), (3, .int x3), (4, .int x4)] [] P μ R T := by
  refine me_go (pc1 := 10) (lv1 := [(0, .ref P.1), (1, .int x1), (2, .int x2), (3, .int x3), (4, .int x4)]) (st1 := [.int x4]) 1 rfl ?_
  refine me_ifc rfl rfl (fun c => ?_) (fun c => ?_)
  · replace h := h.1 (ci_lt c)
    refine me_go (pc1 := 125) (lv1 := [(0, .ref P.1), (1, .int x1), (2, .int x2), (3, .int x3), (4, .int x4)]) (st1 := [.ref P.1, .ref P.1]) 2 rfl ?_
    refine me_getf (v := .ref (P.2.1 24)) rfl rfl rfl ?_
    refine me_go (pc1 := 129) (lv1 := [(0, .ref P.1), (1, .int x1), (2, .int x2), (3, .int x3), (4, .int x4)]) (st1 := [.int x2, .ref (P.2.1 24), .ref P.1]) 1 rfl ?_
    refine me_iald rfl (g := 24) rfl rfl h.1 ?_
    replace h := h.2
    refine me_callN rfl rfl rfl (h.mono (fun r1 μ1 h => ?_) (fun _ h => h))
    exact me_ret rfl rfl rfl h
  · replace h := h.2 (cn_lt c)
    refine me_go (pc1 := 16) (lv1 := [(0, .ref P.1), (1, .int x1), (2, .int x2), (3, .int x3), (4, .int x4)]) (st1 := [.int x4, .ref P.1]) 2 rfl ?_
    refine me_callN rfl rfl rfl (h.mono (fun r2 μ2 h => ?_) (fun _ h => h))
    refine me_go (pc1 := 23) (lv1 := [(5, .int r2), (0, .ref P.1), (1, .int x1), (2, .int x2), (3, .int x3), (4, .int x4)]) (st1 := [.int r2]) 2 rfl ?_
    refine me_ifc rfl rfl (fun c => ?_) (fun c => ?_)
    · replace h := h.1 (ci_ge c)
      refine me_go (pc1 := 31) (lv1 := [(5, .int r2), (0, .ref P.1), (1, .int x1), (2, .int x2), (3, .int x3), (4, .int x4)]) (st1 := [.ref P.1]) 1 rfl ?_
      refine me_getf (v := .ref (P.2.1 25)) rfl rfl rfl ?_
      refine me_go (pc1 := 36) (lv1 := [(5, .int r2), (0, .ref P.1), (1, .int x1), (2, .int x2), (3, .int x3), (4, .int x4)]) (st1 := [.int r2, .ref (P.2.1 25)]) 1 rfl ?_
      refine me_iald rfl (g := 25) rfl rfl h.1 ?_
      replace h := h.2
      refine me_go (pc1 := 39) (lv1 := [(6, .int (μ2.2.1 25 r2.toNatClampNeg)), (5, .int r2), (0, .ref P.1), (1, .int x1), (2, .int x2), (3, .int x3), (4, .int x4)]) (st1 := []) 1 rfl ?_
      refine me_lv [(0, .ref P.1), (1, .int x1), (2, .int x2), (3, .int x3), (4, .int x4), (5, .int r2), (6, .int (μ2.2.1 25 r2.toNatClampNeg))] (fl_c rfl (fl_c rfl (fl_c rfl (fl_c rfl (fl_c rfl (fl_c rfl (fl_c rfl fl_0))))))) ?_
      exact h
    · replace h := h.2 (cn_ge c)
      refine me_go (pc1 := 39) (lv1 := [(6, .int (-1)), (5, .int r2), (0, .ref P.1), (1, .int x1), (2, .int x2), (3, .int x3), (4, .int x4)]) (st1 := []) 3 rfl ?_
      refine me_lv [(0, .ref P.1), (1, .int x1), (2, .int x2), (3, .int x3), (4, .int x4), (5, .int r2), (6, .int (-1))] (fl_c rfl (fl_c rfl (fl_c rfl (fl_c rfl (fl_c rfl (fl_c rfl (fl_c rfl fl_0))))))) ?_
      exact h
theorem v_methodOf_39 {X : ev_X} {W : Nat → Prop} {d : Nat} {P : MP} {μ : MS} {R : Int32 → MS → Prop} {T : MS → Prop} (x1 : Int32) (x2 : Int32) (x3 : Int32) (x4 : Int32) (x5 : Int32) (x6 : Int32) (h : ((x6.toInt < (0 : Int) → MC X W true d 371 [.ref P.1, .int x4, .int x3] P μ (fun r1 μ1 => ((r1 = 0 → MC X W true d 385 [.ref P.1, .int x4] P μ1 (fun r2 μ2 => ME X W true d 467 8 [(0, .ref P.1), (1, .int x1), (2, .int x2), (3, .int x3), (4, .int r2)] [] P μ2 R T) (fun _ => False)) ∧ (¬ r1 = 0 → (MI x2 (μ1.2.2 24) ∧ MC X W true d 376 [.ref P.1, .int (μ1.2.1 24 x2.toNatClampNeg)] P μ1 (fun r3 μ3 => R r3 μ3) (fun _ => False))))) (fun _ => False)) ∧ ((0 : Int) ≤ x6.toInt → (MI x6 (μ.2.2 22) ∧ (MI x2 (μ.2.2 22) ∧ ((¬ (μ.2.1 22 x6.toNatClampNeg) = (μ.2.1 22 x2.toNatClampNeg) → (MI x6 (μ.2.2 27) ∧ ME X W true d 467 39 [(0, .ref P.1), (1, .int x1), (2, .int x2), (3, .int x3), (4, .int x4), (5, .int x5), (6, .int (μ.2.1 27 x6.toNatClampNeg))] [] P μ R T)) ∧ ((μ.2.1 22 x6.toNatClampNeg) = (μ.2.1 22 x2.toNatClampNeg) → (MI x6 (μ.2.2 28) ∧ MC X W true d 371 [.ref P.1, .int (μ.2.1 28 x6.toNatClampNeg), .int x3] P μ (fun r4 μ4 => ((r4 = 0 → (MI x6 (μ4.2.2 27) ∧ ME X W true d 467 39 [(0, .ref P.1), (1, .int x1), (2, .int x2), (3, .int x3), (4, .int x4), (5, .int x5), (6, .int (μ4.2.1 27 x6.toNatClampNeg))] [] P μ4 R T)) ∧ (¬ r4 = 0 → (MI x6 (μ4.2.2 24) ∧ MC X W true d 376 [.ref P.1, .int (μ4.2.1 24 x6.toNatClampNeg)] P μ4 (fun r5 μ5 => R r5 μ5) (fun _ => False))))) (fun _ => False))))))))) : ME X W true d 467 39 [(0, .ref P.1), (1, .int x1), (2, .int x2), (3, .int x3), (4, .int x4), (5, .int x5), (6, .int x6)] [] P μ R T := by
  refine me_go (pc1 := 41) (lv1 := [(0, .ref P.1), (1, .int x1), (2, .int x2), (3, .int x3), (4, .int x4), (5, .int x5), (6, .int x6)]) (st1 := [.int x6]) 1 rfl ?_
  refine me_ifc rfl rfl (fun c => ?_) (fun c => ?_)
  · replace h := h.1 (ci_lt c)
    refine me_go (pc1 := 103) (lv1 := [(0, .ref P.1), (1, .int x1), (2, .int x2), (3, .int x3), (4, .int x4), (5, .int x5), (6, .int x6)]) (st1 := [.int x3, .int x4, .ref P.1]) 3 rfl ?_
    refine me_callN rfl rfl rfl (h.mono (fun r1 μ1 h => ?_) (fun _ h => h))
    refine me_ifc rfl rfl (fun c => ?_) (fun c => ?_)
    · replace h := h.1 (ci_eq c)
      refine me_go (pc1 := 115) (lv1 := [(0, .ref P.1), (1, .int x1), (2, .int x2), (3, .int x3), (4, .int x4), (5, .int x5), (6, .int x6)]) (st1 := [.int x4, .ref P.1]) 2 rfl ?_
      refine me_callN rfl rfl rfl (h.mono (fun r2 μ2 h => ?_) (fun _ h => h))
      refine me_go (pc1 := 8) (lv1 := [(4, .int r2), (0, .ref P.1), (1, .int x1), (2, .int x2), (3, .int x3), (5, .int x5), (6, .int x6)]) (st1 := []) 2 rfl ?_
      refine me_lv [(0, .ref P.1), (1, .int x1), (2, .int x2), (3, .int x3), (4, .int r2)] (fl_c rfl (fl_c rfl (fl_c rfl (fl_c rfl (fl_c rfl fl_0))))) ?_
      exact h
    · replace h := h.2 (cn_eq c)
      refine me_go (pc1 := 125) (lv1 := [(0, .ref P.1), (1, .int x1), (2, .int x2), (3, .int x3), (4, .int x4), (5, .int x5), (6, .int x6)]) (st1 := [.ref P.1, .ref P.1]) 3 rfl ?_
      refine me_getf (v := .ref (P.2.1 24)) rfl rfl rfl ?_
      refine me_go (pc1 := 129) (lv1 := [(0, .ref P.1), (1, .int x1), (2, .int x2), (3, .int x3), (4, .int x4), (5, .int x5), (6, .int x6)]) (st1 := [.int x2, .ref (P.2.1 24), .ref P.1]) 1 rfl ?_
      refine me_iald rfl (g := 24) rfl rfl h.1 ?_
      replace h := h.2
      refine me_callN rfl rfl rfl (h.mono (fun r3 μ3 h => ?_) (fun _ h => h))
      exact me_ret rfl rfl rfl h
  · replace h := h.2 (cn_lt c)
    refine me_go (pc1 := 45) (lv1 := [(0, .ref P.1), (1, .int x1), (2, .int x2), (3, .int x3), (4, .int x4), (5, .int x5), (6, .int x6)]) (st1 := [.ref P.1]) 1 rfl ?_
    refine me_getf (v := .ref (P.2.1 22)) rfl rfl rfl ?_
    refine me_go (pc1 := 50) (lv1 := [(0, .ref P.1), (1, .int x1), (2, .int x2), (3, .int x3), (4, .int x4), (5, .int x5), (6, .int x6)]) (st1 := [.int x6, .ref (P.2.1 22)]) 1 rfl ?_
    refine me_iald rfl (g := 22) rfl rfl h.1 ?_
    replace h := h.2
    refine me_go (pc1 := 52) (lv1 := [(0, .ref P.1), (1, .int x1), (2, .int x2), (3, .int x3), (4, .int x4), (5, .int x5), (6, .int x6)]) (st1 := [.ref P.1, .int (μ.2.1 22 x6.toNatClampNeg)]) 1 rfl ?_
    refine me_getf (v := .ref (P.2.1 22)) rfl rfl rfl ?_
    refine me_go (pc1 := 56) (lv1 := [(0, .ref P.1), (1, .int x1), (2, .int x2), (3, .int x3), (4, .int x4), (5, .int x5), (6, .int x6)]) (st1 := [.int x2, .ref (P.2.1 22), .int (μ.2.1 22 x6.toNatClampNeg)]) 1 rfl ?_
    refine me_iald rfl (g := 22) rfl rfl h.1 ?_
    replace h := h.2
    refine me_icmp rfl rfl (fun c => ?_) (fun c => ?_)
    · replace h := h.1 (ci_ne c)
      refine me_go (pc1 := 88) (lv1 := [(0, .ref P.1), (1, .int x1), (2, .int x2), (3, .int x3), (4, .int x4), (5, .int x5), (6, .int x6)]) (st1 := [.ref P.1]) 1 rfl ?_
      refine me_getf (v := .ref (P.2.1 27)) rfl rfl rfl ?_
      refine me_go (pc1 := 93) (lv1 := [(0, .ref P.1), (1, .int x1), (2, .int x2), (3, .int x3), (4, .int x4), (5, .int x5), (6, .int x6)]) (st1 := [.int x6, .ref (P.2.1 27)]) 1 rfl ?_
      refine me_iald rfl (g := 27) rfl rfl h.1 ?_
      replace h := h.2
      refine me_go (pc1 := 39) (lv1 := [(6, .int (μ.2.1 27 x6.toNatClampNeg)), (0, .ref P.1), (1, .int x1), (2, .int x2), (3, .int x3), (4, .int x4), (5, .int x5)]) (st1 := []) 2 rfl ?_
      refine me_lv [(0, .ref P.1), (1, .int x1), (2, .int x2), (3, .int x3), (4, .int x4), (5, .int x5), (6, .int (μ.2.1 27 x6.toNatClampNeg))] (fl_c rfl (fl_c rfl (fl_c rfl (fl_c rfl (fl_c rfl (fl_c rfl (fl_c rfl fl_0))))))) ?_
      exact h
    · replace h := h.2 (cn_ne c)
      refine me_go (pc1 := 62) (lv1 := [(0, .ref P.1), (1, .int x1), (2, .int x2), (3, .int x3), (4, .int x4), (5, .int x5), (6, .int x6)]) (st1 := [.ref P.1, .ref P.1]) 2 rfl ?_
      refine me_getf (v := .ref (P.2.1 28)) rfl rfl rfl ?_
      refine me_go (pc1 := 67) (lv1 := [(0, .ref P.1), (1, .int x1), (2, .int x2), (3, .int x3), (4, .int x4), (5, .int x5), (6, .int x6)]) (st1 := [.int x6, .ref (P.2.1 28), .ref P.1]) 1 rfl ?_
      refine me_iald rfl (g := 28) rfl rfl h.1 ?_
      replace h := h.2
      refine me_go (pc1 := 69) (lv1 := [(0, .ref P.1), (1, .int x1), (2, .int x2), (3, .int x3), (4, .int x4), (5, .int x5), (6, .int x6)]) (st1 := [.int x3, .int (μ.2.1 28 x6.toNatClampNeg), .ref P.1]) 1 rfl ?_
      refine me_callN rfl rfl rfl (h.mono (fun r4 μ4 h => ?_) (fun _ h => h))
      refine me_ifc rfl rfl (fun c => ?_) (fun c => ?_)
      · replace h := h.1 (ci_eq c)
        refine me_go (pc1 := 88) (lv1 := [(0, .ref P.1), (1, .int x1), (2, .int x2), (3, .int x3), (4, .int x4), (5, .int x5), (6, .int x6)]) (st1 := [.ref P.1]) 1 rfl ?_
        refine me_getf (v := .ref (P.2.1 27)) rfl rfl rfl ?_
        refine me_go (pc1 := 93) (lv1 := [(0, .ref P.1), (1, .int x1), (2, .int x2), (3, .int x3), (4, .int x4), (5, .int x5), (6, .int x6)]) (st1 := [.int x6, .ref (P.2.1 27)]) 1 rfl ?_
        refine me_iald rfl (g := 27) rfl rfl h.1 ?_
        replace h := h.2
        refine me_go (pc1 := 39) (lv1 := [(6, .int (μ4.2.1 27 x6.toNatClampNeg)), (0, .ref P.1), (1, .int x1), (2, .int x2), (3, .int x3), (4, .int x4), (5, .int x5)]) (st1 := []) 2 rfl ?_
        refine me_lv [(0, .ref P.1), (1, .int x1), (2, .int x2), (3, .int x3), (4, .int x4), (5, .int x5), (6, .int (μ4.2.1 27 x6.toNatClampNeg))] (fl_c rfl (fl_c rfl (fl_c rfl (fl_c rfl (fl_c rfl (fl_c rfl (fl_c rfl fl_0))))))) ?_
        exact h
      · replace h := h.2 (cn_eq c)
        refine me_go (pc1 := 77) (lv1 := [(0, .ref P.1), (1, .int x1), (2, .int x2), (3, .int x3), (4, .int x4), (5, .int x5), (6, .int x6)]) (st1 := [.ref P.1, .ref P.1]) 2 rfl ?_
        refine me_getf (v := .ref (P.2.1 24)) rfl rfl rfl ?_
        refine me_go (pc1 := 82) (lv1 := [(0, .ref P.1), (1, .int x1), (2, .int x2), (3, .int x3), (4, .int x4), (5, .int x5), (6, .int x6)]) (st1 := [.int x6, .ref (P.2.1 24), .ref P.1]) 1 rfl ?_
        refine me_iald rfl (g := 24) rfl rfl h.1 ?_
        replace h := h.2
        refine me_callN rfl rfl rfl (h.mono (fun r5 μ5 h => ?_) (fun _ h => h))
        exact me_ret rfl rfl rfl h
theorem v_enter_0 {X : ev_X} {W : Nat → Prop} {d : Nat} {P : MP} {μ : MS} {R : Int32 → MS → Prop} {T : MS → Prop} (x1 : Int32) (x2 : Int32) (x3 : Int32) (h : (MI (μ.1 128) (μ.2.2 120) ∧ (((μ.2.1 120 ((μ.1 128)).toNatClampNeg) = 60 → MC X W true d 446 [.ref P.1, .int 9] P μ (fun r1 μ1 => MC X W true d 473 [.ref P.1] P μ1 (fun r2 μ2 => (MI (μ2.1 128) (μ2.2.2 122) ∧ (MI (μ2.1 128) (μ2.2.2 123) ∧ MC X W true d 448 [.ref P.1, .int 4, .int x1, .int (μ2.2.1 122 ((μ2.1 128)).toNatClampNeg), .int x2, .int x3, .int (μ2.2.1 123 ((μ2.1 128)).toNatClampNeg)] P μ2 (fun r3 μ3 => MC X W true d 469 [.ref P.1, .int x2] P μ3 (fun r4 μ4 => R 0 μ4) (fun _ => False)) (fun _ => False)))) (fun _ => False)) T) ∧ (¬ (μ.2.1 120 ((μ.1 128)).toNatClampNeg) = 60 → (MI (μ.1 128) (μ.2.2 121) ∧ (MI x2 (μ.2.2 95) ∧ ((((μ.2.1 121 ((μ.1 128)).toNatClampNeg) + (μ.2.1 95 x2.toNatClampNeg)).toInt ≤ (2000 : Int) → MC X W true d 473 [.ref P.1] P μ (fun r5 μ5 => (MI (μ5.1 128) (μ5.2.2 122) ∧ (MI (μ5.1 128) (μ5.2.2 123) ∧ MC X W true d 448 [.ref P.1, .int 4, .int x1, .int (μ5.2.1 122 ((μ5.1 128)).toNatClampNeg), .int x2, .int x3, .int (μ5.2.1 123 ((μ5.1 128)).toNatClampNeg)] P μ5 (fun r6 μ6 => MC X W true d 469 [.ref P.1, .int x2] P μ6 (fun r7 μ7 => R 0 μ7) (fun _ => False)) (fun _ => False)))) (fun _ => False)) ∧ ((2000 : Int) < ((μ.2.1 121 ((μ.1 128)).toNatClampNeg) + (μ.2.1 95 x2.toNatClampNeg)).toInt → MC X W true d 446 [.ref P.1, .int 9] P μ (fun r8 μ8 => MC X W true d 473 [.ref P.1] P μ8 (fun r9 μ9 => (MI (μ9.1 128) (μ9.2.2 122) ∧ (MI (μ9.1 128) (μ9.2.2 123) ∧ MC X W true d 448 [.ref P.1, .int 4, .int x1, .int (μ9.2.1 122 ((μ9.1 128)).toNatClampNeg), .int x2, .int x3, .int (μ9.2.1 123 ((μ9.1 128)).toNatClampNeg)] P μ9 (fun r10 μ10 => MC X W true d 469 [.ref P.1, .int x2] P μ10 (fun r11 μ11 => R 0 μ11) (fun _ => False)) (fun _ => False)))) (fun _ => False)) T)))))))) : ME X W true d 468 0 [(0, .ref P.1), (1, .int x1), (2, .int x2), (3, .int x3)] [] P μ R T := by
  refine me_go (pc1 := 1) (lv1 := [(0, .ref P.1), (1, .int x1), (2, .int x2), (3, .int x3)]) (st1 := [.ref P.1]) 1 rfl ?_
  refine me_getf (v := .ref (P.2.1 120)) rfl rfl rfl ?_
  refine me_go (pc1 := 5) (lv1 := [(0, .ref P.1), (1, .int x1), (2, .int x2), (3, .int x3)]) (st1 := [.ref P.1, .ref (P.2.1 120)]) 1 rfl ?_
  refine me_getf (v := .int (μ.1 128)) rfl rfl rfl ?_
  refine me_iald rfl (g := 120) rfl rfl h.1 ?_
  replace h := h.2
  refine me_go (pc1 := 11) (lv1 := [(0, .ref P.1), (1, .int x1), (2, .int x2), (3, .int x3)]) (st1 := [.int 60, .int (μ.2.1 120 ((μ.1 128)).toNatClampNeg)]) 1 rfl ?_
  refine me_icmp rfl rfl (fun c => ?_) (fun c => ?_)
  · replace h := h.1 (ci_eq c)
    refine me_go (pc1 := 39) (lv1 := [(0, .ref P.1), (1, .int x1), (2, .int x2), (3, .int x3)]) (st1 := [.int 9, .ref P.1]) 2 rfl ?_
    refine me_call rfl rfl rfl rfl (h.mono (fun r1 μ1 h => ?_) (fun _ h => h))
    refine me_go (pc1 := 43) (lv1 := [(0, .ref P.1), (1, .int x1), (2, .int x2), (3, .int x3)]) (st1 := [.ref P.1]) 1 rfl ?_
    refine me_callN rfl rfl rfl (h.mono (fun r2 μ2 h => ?_) (fun _ h => h))
    refine me_go (pc1 := 50) (lv1 := [(0, .ref P.1), (1, .int x1), (2, .int x2), (3, .int x3)]) (st1 := [.ref P.1, .int x1, .int 4, .ref P.1]) 4 rfl ?_
    refine me_getf (v := .ref (P.2.1 122)) rfl rfl rfl ?_
    refine me_go (pc1 := 54) (lv1 := [(0, .ref P.1), (1, .int x1), (2, .int x2), (3, .int x3)]) (st1 := [.ref P.1, .ref (P.2.1 122), .int x1, .int 4, .ref P.1]) 1 rfl ?_
    refine me_getf (v := .int (μ2.1 128)) rfl rfl rfl ?_
    refine me_iald rfl (g := 122) rfl rfl h.1 ?_
    replace h := h.2
    refine me_go (pc1 := 61) (lv1 := [(0, .ref P.1), (1, .int x1), (2, .int x2), (3, .int x3)]) (st1 := [.ref P.1, .int x3, .int x2, .int (μ2.2.1 122 ((μ2.1 128)).toNatClampNeg), .int x1, .int 4, .ref P.1]) 3 rfl ?_
    refine me_getf (v := .ref (P.2.1 123)) rfl rfl rfl ?_
    refine me_go (pc1 := 65) (lv1 := [(0, .ref P.1), (1, .int x1), (2, .int x2), (3, .int x3)]) (st1 := [.ref P.1, .ref (P.2.1 123), .int x3, .int x2, .int (μ2.2.1 122 ((μ2.1 128)).toNatClampNeg), .int x1, .int 4, .ref P.1]) 1 rfl ?_
    refine me_getf (v := .int (μ2.1 128)) rfl rfl rfl ?_
    refine me_iald rfl (g := 123) rfl rfl h.1 ?_
    replace h := h.2
    refine me_callN rfl rfl rfl (h.mono (fun r3 μ3 h => ?_) (fun _ h => h))
    refine me_go (pc1 := 74) (lv1 := [(0, .ref P.1), (1, .int x1), (2, .int x2), (3, .int x3)]) (st1 := [.int x2, .ref P.1]) 2 rfl ?_
    refine me_callN rfl rfl rfl (h.mono (fun r4 μ4 h => ?_) (fun _ h => h))
    exact me_ret (v := none) (r := 0) rfl rfl rfl h
  · replace h := h.2 (cn_eq c)
    refine me_go (pc1 := 15) (lv1 := [(0, .ref P.1), (1, .int x1), (2, .int x2), (3, .int x3)]) (st1 := [.ref P.1]) 1 rfl ?_
    refine me_getf (v := .ref (P.2.1 121)) rfl rfl rfl ?_
    refine me_go (pc1 := 19) (lv1 := [(0, .ref P.1), (1, .int x1), (2, .int x2), (3, .int x3)]) (st1 := [.ref P.1, .ref (P.2.1 121)]) 1 rfl ?_
    refine me_getf (v := .int (μ.1 128)) rfl rfl rfl ?_
    refine me_iald rfl (g := 121) rfl rfl h.1 ?_
    replace h := h.2
    refine me_go (pc1 := 24) (lv1 := [(0, .ref P.1), (1, .int x1), (2, .int x2), (3, .int x3)]) (st1 := [.ref P.1, .int (μ.2.1 121 ((μ.1 128)).toNatClampNeg)]) 1 rfl ?_
    refine me_getf (v := .ref (P.2.1 95)) rfl rfl rfl ?_
    refine me_go (pc1 := 28) (lv1 := [(0, .ref P.1), (1, .int x1), (2, .int x2), (3, .int x3)]) (st1 := [.int x2, .ref (P.2.1 95), .int (μ.2.1 121 ((μ.1 128)).toNatClampNeg)]) 1 rfl ?_
    refine me_iald rfl (g := 95) rfl rfl h.1 ?_
    replace h := h.2
    refine me_go (pc1 := 33) (lv1 := [(0, .ref P.1), (1, .int x1), (2, .int x2), (3, .int x3)]) (st1 := [.int 2000, .int ((μ.2.1 121 ((μ.1 128)).toNatClampNeg) + (μ.2.1 95 x2.toNatClampNeg))]) 2 rfl ?_
    refine me_icmp rfl rfl (fun c => ?_) (fun c => ?_)
    · replace h := h.1 (ci_le c)
      refine me_go (pc1 := 43) (lv1 := [(0, .ref P.1), (1, .int x1), (2, .int x2), (3, .int x3)]) (st1 := [.ref P.1]) 1 rfl ?_
      refine me_callN rfl rfl rfl (h.mono (fun r5 μ5 h => ?_) (fun _ h => h))
      refine me_go (pc1 := 50) (lv1 := [(0, .ref P.1), (1, .int x1), (2, .int x2), (3, .int x3)]) (st1 := [.ref P.1, .int x1, .int 4, .ref P.1]) 4 rfl ?_
      refine me_getf (v := .ref (P.2.1 122)) rfl rfl rfl ?_
      refine me_go (pc1 := 54) (lv1 := [(0, .ref P.1), (1, .int x1), (2, .int x2), (3, .int x3)]) (st1 := [.ref P.1, .ref (P.2.1 122), .int x1, .int 4, .ref P.1]) 1 rfl ?_
      refine me_getf (v := .int (μ5.1 128)) rfl rfl rfl ?_
      refine me_iald rfl (g := 122) rfl rfl h.1 ?_
      replace h := h.2
      refine me_go (pc1 := 61) (lv1 := [(0, .ref P.1), (1, .int x1), (2, .int x2), (3, .int x3)]) (st1 := [.ref P.1, .int x3, .int x2, .int (μ5.2.1 122 ((μ5.1 128)).toNatClampNeg), .int x1, .int 4, .ref P.1]) 3 rfl ?_
      refine me_getf (v := .ref (P.2.1 123)) rfl rfl rfl ?_
      refine me_go (pc1 := 65) (lv1 := [(0, .ref P.1), (1, .int x1), (2, .int x2), (3, .int x3)]) (st1 := [.ref P.1, .ref (P.2.1 123), .int x3, .int x2, .int (μ5.2.1 122 ((μ5.1 128)).toNatClampNeg), .int x1, .int 4, .ref P.1]) 1 rfl ?_
      refine me_getf (v := .int (μ5.1 128)) rfl rfl rfl ?_
      refine me_iald rfl (g := 123) rfl rfl h.1 ?_
      replace h := h.2
      refine me_callN rfl rfl rfl (h.mono (fun r6 μ6 h => ?_) (fun _ h => h))
      refine me_go (pc1 := 74) (lv1 := [(0, .ref P.1), (1, .int x1), (2, .int x2), (3, .int x3)]) (st1 := [.int x2, .ref P.1]) 2 rfl ?_
      refine me_callN rfl rfl rfl (h.mono (fun r7 μ7 h => ?_) (fun _ h => h))
      exact me_ret (v := none) (r := 0) rfl rfl rfl h
    · replace h := h.2 (cn_le c)
      refine me_go (pc1 := 39) (lv1 := [(0, .ref P.1), (1, .int x1), (2, .int x2), (3, .int x3)]) (st1 := [.int 9, .ref P.1]) 2 rfl ?_
      refine me_call rfl rfl rfl rfl (h.mono (fun r8 μ8 h => ?_) (fun _ h => h))
      refine me_go (pc1 := 43) (lv1 := [(0, .ref P.1), (1, .int x1), (2, .int x2), (3, .int x3)]) (st1 := [.ref P.1]) 1 rfl ?_
      refine me_callN rfl rfl rfl (h.mono (fun r9 μ9 h => ?_) (fun _ h => h))
      refine me_go (pc1 := 50) (lv1 := [(0, .ref P.1), (1, .int x1), (2, .int x2), (3, .int x3)]) (st1 := [.ref P.1, .int x1, .int 4, .ref P.1]) 4 rfl ?_
      refine me_getf (v := .ref (P.2.1 122)) rfl rfl rfl ?_
      refine me_go (pc1 := 54) (lv1 := [(0, .ref P.1), (1, .int x1), (2, .int x2), (3, .int x3)]) (st1 := [.ref P.1, .ref (P.2.1 122), .int x1, .int 4, .ref P.1]) 1 rfl ?_
      refine me_getf (v := .int (μ9.1 128)) rfl rfl rfl ?_
      refine me_iald rfl (g := 122) rfl rfl h.1 ?_
      replace h := h.2
      refine me_go (pc1 := 61) (lv1 := [(0, .ref P.1), (1, .int x1), (2, .int x2), (3, .int x3)]) (st1 := [.ref P.1, .int x3, .int x2, .int (μ9.2.1 122 ((μ9.1 128)).toNatClampNeg), .int x1, .int 4, .ref P.1]) 3 rfl ?_
      refine me_getf (v := .ref (P.2.1 123)) rfl rfl rfl ?_
      refine me_go (pc1 := 65) (lv1 := [(0, .ref P.1), (1, .int x1), (2, .int x2), (3, .int x3)]) (st1 := [.ref P.1, .ref (P.2.1 123), .int x3, .int x2, .int (μ9.2.1 122 ((μ9.1 128)).toNatClampNeg), .int x1, .int 4, .ref P.1]) 1 rfl ?_
      refine me_getf (v := .int (μ9.1 128)) rfl rfl rfl ?_
      refine me_iald rfl (g := 123) rfl rfl h.1 ?_
      replace h := h.2
      refine me_callN rfl rfl rfl (h.mono (fun r10 μ10 h => ?_) (fun _ h => h))
      refine me_go (pc1 := 74) (lv1 := [(0, .ref P.1), (1, .int x1), (2, .int x2), (3, .int x3)]) (st1 := [.int x2, .ref P.1]) 2 rfl ?_
      refine me_callN rfl rfl rfl (h.mono (fun r11 μ11 h => ?_) (fun _ h => h))
      exact me_ret (v := none) (r := 0) rfl rfl rfl h
theorem v_frame_0 {X : ev_X} {W : Nat → Prop} {d : Nat} {P : MP} {μ : MS} {R : Int32 → MS → Prop} {T : MS → Prop} (x1 : Int32) (h : (MI (μ.1 128) (μ.2.2 120) ∧ (MI (μ.1 128) (μ.2.2 120) ∧ (MI (μ.1 128) (μ.2.2 121) ∧ (MI x1 (μ.2.2 95) ∧ (MI (μ.1 128) (μ.2.2 121) ∧ (MI (μ.1 128) (μ.2.2 123) ∧ (MI (μ.1 128) (μ.2.2 122) ∧ (MI (μ.1 128) (μ.2.2 123) ∧ (MI x1 (μ.2.2 96) ∧ (MI (μ.1 128) (μ.2.2 123) ∧ (MI x1 (μ.2.2 58) ∧ (MI (μ.2.1 58 x1.toNatClampNeg) (μ.2.2 23) ∧ (MI (μ.2.1 23 ((μ.2.1 58 x1.toNatClampNeg)).toNatClampNeg) (μ.2.2 22) ∧ ME X W true d 469 89 [(0, .ref P.1), (1, .int x1), (2, .int (μ.2.1 58 x1.toNatClampNeg)), (3, .int 0), (4, .int (μ.2.1 22 ((μ.2.1 23 ((μ.2.1 58 x1.toNatClampNeg)).toNatClampNeg)).toNatClampNeg))] [] P (mA1 (mA1 (mA1 (mA1 μ 120 (((μ.1 128)).toNatClampNeg) ((μ.2.1 120 ((μ.1 128)).toNatClampNeg) + 1)) 121 (((μ.1 128)).toNatClampNeg) ((μ.2.1 121 ((μ.1 128)).toNatClampNeg) + (μ.2.1 95 x1.toNatClampNeg))) 122 (((μ.1 128)).toNatClampNeg) (μ.2.1 123 ((μ.1 128)).toNatClampNeg)) 123 (((μ.1 128)).toNatClampNeg) ((μ.2.1 123 ((μ.1 128)).toNatClampNeg) + (μ.2.1 96 x1.toNatClampNeg))) R T)))))))))))))) : ME X W true d 469 0 [(0, .ref P.1), (1, .int x1)] [] P μ R T := by
  refine me_go (pc1 := 1) (lv1 := [(0, .ref P.1), (1, .int x1)]) (st1 := [.ref P.1]) 1 rfl ?_
  refine me_getf (v := .ref (P.2.1 120)) rfl rfl rfl ?_
  refine me_go (pc1 := 5) (lv1 := [(0, .ref P.1), (1, .int x1)]) (st1 := [.ref P.1, .ref (P.2.1 120)]) 1 rfl ?_
  refine me_getf (v := .int (μ.1 128)) rfl rfl rfl ?_
  refine me_go (pc1 := 9) (lv1 := [(0, .ref P.1), (1, .int x1)]) (st1 := [.int (μ.1 128), .ref (P.2.1 120), .int (μ.1 128), .ref (P.2.1 120)]) 1 rfl ?_
  refine me_iald rfl (g := 120) rfl rfl h.1 ?_
  replace h := h.2
  refine me_go (pc1 := 12) (lv1 := [(0, .ref P.1), (1, .int x1)]) (st1 := [.int ((μ.2.1 120 ((μ.1 128)).toNatClampNeg) + 1), .int (μ.1 128), .ref (P.2.1 120)]) 2 rfl ?_
  have hi := h.1
  replace h := h.2
  refine me_iast rfl (g := 120) rfl rfl hi ?_
  refine me_go (pc1 := 14) (lv1 := [(0, .ref P.1), (1, .int x1)]) (st1 := [.ref P.1]) 1 rfl ?_
  refine me_getf (v := .ref (P.2.1 121)) rfl rfl rfl ?_
  refine me_go (pc1 := 18) (lv1 := [(0, .ref P.1), (1, .int x1)]) (st1 := [.ref P.1, .ref (P.2.1 121)]) 1 rfl ?_
  refine me_getf (v := .int (μ.1 128)) rfl rfl rfl ?_
  refine me_go (pc1 := 22) (lv1 := [(0, .ref P.1), (1, .int x1)]) (st1 := [.int (μ.1 128), .ref (P.2.1 121), .int (μ.1 128), .ref (P.2.1 121)]) 1 rfl ?_
  refine me_iald rfl (g := 121) rfl rfl h.1 ?_
  replace h := h.2
  refine me_go (pc1 := 24) (lv1 := [(0, .ref P.1), (1, .int x1)]) (st1 := [.ref P.1, .int (μ.2.1 121 ((μ.1 128)).toNatClampNeg), .int (μ.1 128), .ref (P.2.1 121)]) 1 rfl ?_
  refine me_getf (v := .ref (P.2.1 95)) rfl rfl rfl ?_
  refine me_go (pc1 := 28) (lv1 := [(0, .ref P.1), (1, .int x1)]) (st1 := [.int x1, .ref (P.2.1 95), .int (μ.2.1 121 ((μ.1 128)).toNatClampNeg), .int (μ.1 128), .ref (P.2.1 121)]) 1 rfl ?_
  refine me_iald rfl (g := 95) rfl rfl h.1 ?_
  replace h := h.2
  refine me_go (pc1 := 30) (lv1 := [(0, .ref P.1), (1, .int x1)]) (st1 := [.int ((μ.2.1 121 ((μ.1 128)).toNatClampNeg) + (μ.2.1 95 x1.toNatClampNeg)), .int (μ.1 128), .ref (P.2.1 121)]) 1 rfl ?_
  have hi := h.1
  replace h := h.2
  refine me_iast rfl (g := 121) rfl rfl hi ?_
  refine me_go (pc1 := 32) (lv1 := [(0, .ref P.1), (1, .int x1)]) (st1 := [.ref P.1]) 1 rfl ?_
  refine me_getf (v := .ref (P.2.1 122)) rfl rfl rfl ?_
  refine me_go (pc1 := 36) (lv1 := [(0, .ref P.1), (1, .int x1)]) (st1 := [.ref P.1, .ref (P.2.1 122)]) 1 rfl ?_
  refine me_getf (v := .int (μ.1 128)) rfl rfl rfl ?_
  refine me_go (pc1 := 40) (lv1 := [(0, .ref P.1), (1, .int x1)]) (st1 := [.ref P.1, .int (μ.1 128), .ref (P.2.1 122)]) 1 rfl ?_
  refine me_getf (v := .ref (P.2.1 123)) rfl rfl rfl ?_
  refine me_go (pc1 := 44) (lv1 := [(0, .ref P.1), (1, .int x1)]) (st1 := [.ref P.1, .ref (P.2.1 123), .int (μ.1 128), .ref (P.2.1 122)]) 1 rfl ?_
  refine me_getf (v := .int (μ.1 128)) rfl rfl rfl ?_
  refine me_iald rfl (g := 123) rfl rfl h.1 ?_
  replace h := h.2
  have hi := h.1
  replace h := h.2
  refine me_iast rfl (g := 122) rfl rfl hi ?_
  refine me_go (pc1 := 50) (lv1 := [(0, .ref P.1), (1, .int x1)]) (st1 := [.ref P.1]) 1 rfl ?_
  refine me_getf (v := .ref (P.2.1 123)) rfl rfl rfl ?_
  refine me_go (pc1 := 54) (lv1 := [(0, .ref P.1), (1, .int x1)]) (st1 := [.ref P.1, .ref (P.2.1 123)]) 1 rfl ?_
  refine me_getf (v := .int (μ.1 128)) rfl rfl rfl ?_
  refine me_go (pc1 := 58) (lv1 := [(0, .ref P.1), (1, .int x1)]) (st1 := [.int (μ.1 128), .ref (P.2.1 123), .int (μ.1 128), .ref (P.2.1 123)]) 1 rfl ?_
  refine me_iald rfl (g := 123) rfl rfl h.1 ?_
  replace h := h.2
  refine me_go (pc1 := 60) (lv1 := [(0, .ref P.1), (1, .int x1)]) (st1 := [.ref P.1, .int (μ.2.1 123 ((μ.1 128)).toNatClampNeg), .int (μ.1 128), .ref (P.2.1 123)]) 1 rfl ?_
  refine me_getf (v := .ref (P.2.1 96)) rfl rfl rfl ?_
  refine me_go (pc1 := 64) (lv1 := [(0, .ref P.1), (1, .int x1)]) (st1 := [.int x1, .ref (P.2.1 96), .int (μ.2.1 123 ((μ.1 128)).toNatClampNeg), .int (μ.1 128), .ref (P.2.1 123)]) 1 rfl ?_
  refine me_iald rfl (g := 96) rfl rfl h.1 ?_
  replace h := h.2
  refine me_go (pc1 := 66) (lv1 := [(0, .ref P.1), (1, .int x1)]) (st1 := [.int ((μ.2.1 123 ((μ.1 128)).toNatClampNeg) + (μ.2.1 96 x1.toNatClampNeg)), .int (μ.1 128), .ref (P.2.1 123)]) 1 rfl ?_
  have hi := h.1
  replace h := h.2
  refine me_iast rfl (g := 123) rfl rfl hi ?_
  refine me_go (pc1 := 68) (lv1 := [(0, .ref P.1), (1, .int x1)]) (st1 := [.ref P.1]) 1 rfl ?_
  refine me_getf (v := .ref (P.2.1 58)) rfl rfl rfl ?_
  refine me_go (pc1 := 72) (lv1 := [(0, .ref P.1), (1, .int x1)]) (st1 := [.int x1, .ref (P.2.1 58)]) 1 rfl ?_
  refine me_iald rfl (g := 58) rfl rfl h.1 ?_
  replace h := h.2
  refine me_go (pc1 := 77) (lv1 := [(3, .int 0), (2, .int (μ.2.1 58 x1.toNatClampNeg)), (0, .ref P.1), (1, .int x1)]) (st1 := [.ref P.1]) 4 rfl ?_
  refine me_getf (v := .ref (P.2.1 22)) rfl rfl rfl ?_
  refine me_go (pc1 := 81) (lv1 := [(3, .int 0), (2, .int (μ.2.1 58 x1.toNatClampNeg)), (0, .ref P.1), (1, .int x1)]) (st1 := [.ref P.1, .ref (P.2.1 22)]) 1 rfl ?_
  refine me_getf (v := .ref (P.2.1 23)) rfl rfl rfl ?_
  refine me_go (pc1 := 85) (lv1 := [(3, .int 0), (2, .int (μ.2.1 58 x1.toNatClampNeg)), (0, .ref P.1), (1, .int x1)]) (st1 := [.int (μ.2.1 58 x1.toNatClampNeg), .ref (P.2.1 23), .ref (P.2.1 22)]) 1 rfl ?_
  refine me_iald rfl (g := 23) rfl rfl h.1 ?_
  replace h := h.2
  refine me_iald rfl (g := 22) rfl rfl h.1 ?_
  replace h := h.2
  refine me_go (pc1 := 89) (lv1 := [(4, .int (μ.2.1 22 ((μ.2.1 23 ((μ.2.1 58 x1.toNatClampNeg)).toNatClampNeg)).toNatClampNeg)), (3, .int 0), (2, .int (μ.2.1 58 x1.toNatClampNeg)), (0, .ref P.1), (1, .int x1)]) (st1 := []) 1 rfl ?_
  refine me_lv [(0, .ref P.1), (1, .int x1), (2, .int (μ.2.1 58 x1.toNatClampNeg)), (3, .int 0), (4, .int (μ.2.1 22 ((μ.2.1 23 ((μ.2.1 58 x1.toNatClampNeg)).toNatClampNeg)).toNatClampNeg))] (fl_c rfl (fl_c rfl (fl_c rfl (fl_c rfl (fl_c rfl fl_0))))) ?_
  exact h
theorem v_frame_89 {X : ev_X} {W : Nat → Prop} {d : Nat} {P : MP} {μ : MS} {R : Int32 → MS → Prop} {T : MS → Prop} (x1 : Int32) (x2 : Int32) (x3 : Int32) (x4 : Int32) (h : ((x4.toInt < (0 : Int) → (MI x2 (μ.2.2 24) ∧ ME X W true d 469 215 [(0, .ref P.1), (1, .int x1), (2, .int x2), (3, .int x3), (4, .int (μ.2.1 24 x2.toNatClampNeg))] [] P μ R T)) ∧ ((0 : Int) ≤ x4.toInt → (MI (μ.1 128) (μ.2.2 122) ∧ (MI x4 (μ.2.2 28) ∧ (MI (μ.2.1 28 x4.toNatClampNeg) (μ.2.2 55) ∧ (MI x4 (μ.2.2 24) ∧ ((¬ (μ.2.1 24 x4.toNatClampNeg) = 0 → ME X W true d 469 179 [(0, .ref P.1), (1, .int x1), (2, .int x2), (3, .int x3), (4, .int x4), (5, .int ((μ.2.1 122 ((μ.1 128)).toNatClampNeg) + (μ.2.1 55 ((μ.2.1 28 x4.toNatClampNeg)).toNatClampNeg)))] [] P μ R T) ∧ ((μ.2.1 24 x4.toNatClampNeg) = 0 → (MI x4 (μ.2.2 23) ∧ MC X W true d 365 [.ref P.1, .int (μ.2.1 23 x4.toNatClampNeg)] P μ (fun r1 μ1 => MC X W true d 458 [.ref P.1, .int r1] P μ1 (fun r2 μ2 => ((r2 = 0 → ME X W true d 469 179 [(0, .ref P.1), (1, .int x1), (2, .int x2), (3, .int x3), (4, .int x4), (5, .int ((μ.2.1 122 ((μ.1 128)).toNatClampNeg) + (μ.2.1 55 ((μ.2.1 28 x4.toNatClampNeg)).toNatClampNeg)))] [] P μ2 R T) ∧ (¬ r2 = 0 → (MI x3 (μ2.2.2 132) ∧ (MI x4 (μ2.2.2 23) ∧ MC X W true d 393 [.ref P.1, .int (μ2.2.1 23 x4.toNatClampNeg)] P μ2 (fun r3 μ3 => ((0 ≤ (μ2.2.1 132 x3.toNatClampNeg).toInt ∧ 0 ≤ ((μ.2.1 122 ((μ.1 128)).toNatClampNeg) + (μ.2.1 55 ((μ.2.1 28 x4.toNatClampNeg)).toNatClampNeg)).toInt ∧ 0 ≤ r3.toInt ∧ (μ2.2.1 132 x3.toNatClampNeg).toInt + r3.toInt ≤ μ3.2.2 99 ∧ ((μ.2.1 122 ((μ.1 128)).toNatClampNeg) + (μ.2.1 55 ((μ.2.1 28 x4.toNatClampNeg)).toNatClampNeg)).toInt + r3.toInt ≤ μ3.2.2 99) ∧ ME X W true d 469 192 [(0, .ref P.1), (1, .int x1), (2, .int x2), (3, .int x3), (4, .int x4), (5, .int ((μ.2.1 122 ((μ.1 128)).toNatClampNeg) + (μ.2.1 55 ((μ.2.1 28 x4.toNatClampNeg)).toNatClampNeg)))] [] P (mR1 μ3 99 (va_cpy (μ3.2.1 99) (μ3.2.1 99) (((μ2.2.1 132 x3.toNatClampNeg)).toNatClampNeg) ((((μ.2.1 122 ((μ.1 128)).toNatClampNeg) + (μ.2.1 55 ((μ.2.1 28 x4.toNatClampNeg)).toNatClampNeg))).toNatClampNeg) r3.toNatClampNeg)) R T)) (fun _ => False)))))) (fun _ => False)) (fun _ => False))))))))))) : ME X W true d 469 89 [(0, .ref P.1), (1, .int x1), (2, .int x2), (3, .int x3), (4, .int x4)] [] P μ R T := by
  refine me_go (pc1 := 91) (lv1 := [(0, .ref P.1), (1, .int x1), (2, .int x2), (3, .int x3), (4, .int x4)]) (st1 := [.int x4]) 1 rfl ?_
  refine me_ifc rfl rfl (fun c => ?_) (fun c => ?_)
  · replace h := h.1 (ci_lt c)
    refine me_go (pc1 := 208) (lv1 := [(0, .ref P.1), (1, .int x1), (2, .int x2), (3, .int x3), (4, .int x4)]) (st1 := [.ref P.1]) 1 rfl ?_
    refine me_getf (v := .ref (P.2.1 24)) rfl rfl rfl ?_
    refine me_go (pc1 := 212) (lv1 := [(0, .ref P.1), (1, .int x1), (2, .int x2), (3, .int x3), (4, .int x4)]) (st1 := [.int x2, .ref (P.2.1 24)]) 1 rfl ?_
    refine me_iald rfl (g := 24) rfl rfl h.1 ?_
    replace h := h.2
    refine me_go (pc1 := 215) (lv1 := [(4, .int (μ.2.1 24 x2.toNatClampNeg)), (0, .ref P.1), (1, .int x1), (2, .int x2), (3, .int x3)]) (st1 := []) 1 rfl ?_
    refine me_lv [(0, .ref P.1), (1, .int x1), (2, .int x2), (3, .int x3), (4, .int (μ.2.1 24 x2.toNatClampNeg))] (fl_c rfl (fl_c rfl (fl_c rfl (fl_c rfl (fl_c rfl fl_0))))) ?_
    exact h
  · replace h := h.2 (cn_lt c)
    refine me_go (pc1 := 95) (lv1 := [(0, .ref P.1), (1, .int x1), (2, .int x2), (3, .int x3), (4, .int x4)]) (st1 := [.ref P.1]) 1 rfl ?_
    refine me_getf (v := .ref (P.2.1 122)) rfl rfl rfl ?_
    refine me_go (pc1 := 99) (lv1 := [(0, .ref P.1), (1, .int x1), (2, .int x2), (3, .int x3), (4, .int x4)]) (st1 := [.ref P.1, .ref (P.2.1 122)]) 1 rfl ?_
    refine me_getf (v := .int (μ.1 128)) rfl rfl rfl ?_
    refine me_iald rfl (g := 122) rfl rfl h.1 ?_
    replace h := h.2
    refine me_go (pc1 := 104) (lv1 := [(0, .ref P.1), (1, .int x1), (2, .int x2), (3, .int x3), (4, .int x4)]) (st1 := [.ref P.1, .int (μ.2.1 122 ((μ.1 128)).toNatClampNeg)]) 1 rfl ?_
    refine me_getf (v := .ref (P.2.1 55)) rfl rfl rfl ?_
    refine me_go (pc1 := 108) (lv1 := [(0, .ref P.1), (1, .int x1), (2, .int x2), (3, .int x3), (4, .int x4)]) (st1 := [.ref P.1, .ref (P.2.1 55), .int (μ.2.1 122 ((μ.1 128)).toNatClampNeg)]) 1 rfl ?_
    refine me_getf (v := .ref (P.2.1 28)) rfl rfl rfl ?_
    refine me_go (pc1 := 113) (lv1 := [(0, .ref P.1), (1, .int x1), (2, .int x2), (3, .int x3), (4, .int x4)]) (st1 := [.int x4, .ref (P.2.1 28), .ref (P.2.1 55), .int (μ.2.1 122 ((μ.1 128)).toNatClampNeg)]) 1 rfl ?_
    refine me_iald rfl (g := 28) rfl rfl h.1 ?_
    replace h := h.2
    refine me_iald rfl (g := 55) rfl rfl h.1 ?_
    replace h := h.2
    refine me_go (pc1 := 119) (lv1 := [(5, .int ((μ.2.1 122 ((μ.1 128)).toNatClampNeg) + (μ.2.1 55 ((μ.2.1 28 x4.toNatClampNeg)).toNatClampNeg))), (0, .ref P.1), (1, .int x1), (2, .int x2), (3, .int x3), (4, .int x4)]) (st1 := [.ref P.1]) 3 rfl ?_
    refine me_getf (v := .ref (P.2.1 24)) rfl rfl rfl ?_
    refine me_go (pc1 := 124) (lv1 := [(5, .int ((μ.2.1 122 ((μ.1 128)).toNatClampNeg) + (μ.2.1 55 ((μ.2.1 28 x4.toNatClampNeg)).toNatClampNeg))), (0, .ref P.1), (1, .int x1), (2, .int x2), (3, .int x3), (4, .int x4)]) (st1 := [.int x4, .ref (P.2.1 24)]) 1 rfl ?_
    refine me_iald rfl (g := 24) rfl rfl h.1 ?_
    replace h := h.2
    refine me_ifc rfl rfl (fun c => ?_) (fun c => ?_)
    · replace h := h.1 (ci_ne c)
      refine me_lv [(0, .ref P.1), (1, .int x1), (2, .int x2), (3, .int x3), (4, .int x4), (5, .int ((μ.2.1 122 ((μ.1 128)).toNatClampNeg) + (μ.2.1 55 ((μ.2.1 28 x4.toNatClampNeg)).toNatClampNeg)))] (fl_c rfl (fl_c rfl (fl_c rfl (fl_c rfl (fl_c rfl (fl_c rfl fl_0)))))) ?_
      exact h
    · replace h := h.2 (cn_ne c)
      refine me_go (pc1 := 131) (lv1 := [(5, .int ((μ.2.1 122 ((μ.1 128)).toNatClampNeg) + (μ.2.1 55 ((μ.2.1 28 x4.toNatClampNeg)).toNatClampNeg))), (0, .ref P.1), (1, .int x1), (2, .int x2), (3, .int x3), (4, .int x4)]) (st1 := [.ref P.1, .ref P.1, .ref P.1]) 3 rfl ?_
      refine me_getf (v := .ref (P.2.1 23)) rfl rfl rfl ?_
      refine me_go (pc1 := 136) (lv1 := [(5, .int ((μ.2.1 122 ((μ.1 128)).toNatClampNeg) + (μ.2.1 55 ((μ.2.1 28 x4.toNatClampNeg)).toNatClampNeg))), (0, .ref P.1), (1, .int x1), (2, .int x2), (3, .int x3), (4, .int x4)]) (st1 := [.int x4, .ref (P.2.1 23), .ref P.1, .ref P.1]) 1 rfl ?_
      refine me_iald rfl (g := 23) rfl rfl h.1 ?_
      replace h := h.2
      refine me_callN rfl rfl rfl (h.mono (fun r1 μ1 h => ?_) (fun _ h => h))
      refine me_callN rfl rfl rfl (h.mono (fun r2 μ2 h => ?_) (fun _ h => h))
      refine me_ifc rfl rfl (fun c => ?_) (fun c => ?_)
      · replace h := h.1 (ci_eq c)
        refine me_lv [(0, .ref P.1), (1, .int x1), (2, .int x2), (3, .int x3), (4, .int x4), (5, .int ((μ.2.1 122 ((μ.1 128)).toNatClampNeg) + (μ.2.1 55 ((μ.2.1 28 x4.toNatClampNeg)).toNatClampNeg)))] (fl_c rfl (fl_c rfl (fl_c rfl (fl_c rfl (fl_c rfl (fl_c rfl fl_0)))))) ?_
        exact h
      · replace h := h.2 (cn_eq c)
        refine me_go (pc1 := 147) (lv1 := [(5, .int ((μ.2.1 122 ((μ.1 128)).toNatClampNeg) + (μ.2.1 55 ((μ.2.1 28 x4.toNatClampNeg)).toNatClampNeg))), (0, .ref P.1), (1, .int x1), (2, .int x2), (3, .int x3), (4, .int x4)]) (st1 := [.ref P.1]) 1 rfl ?_
        refine me_getf (v := .ref (P.2.1 99)) rfl rfl rfl ?_
        refine me_go (pc1 := 151) (lv1 := [(5, .int ((μ.2.1 122 ((μ.1 128)).toNatClampNeg) + (μ.2.1 55 ((μ.2.1 28 x4.toNatClampNeg)).toNatClampNeg))), (0, .ref P.1), (1, .int x1), (2, .int x2), (3, .int x3), (4, .int x4)]) (st1 := [.ref P.1, .ref (P.2.1 99)]) 1 rfl ?_
        refine me_getf (v := .ref (P.2.1 132)) rfl rfl rfl ?_
        refine me_go (pc1 := 155) (lv1 := [(5, .int ((μ.2.1 122 ((μ.1 128)).toNatClampNeg) + (μ.2.1 55 ((μ.2.1 28 x4.toNatClampNeg)).toNatClampNeg))), (0, .ref P.1), (1, .int x1), (2, .int x2), (3, .int x3), (4, .int x4)]) (st1 := [.int x3, .ref (P.2.1 132), .ref (P.2.1 99)]) 1 rfl ?_
        refine me_iald rfl (g := 132) rfl rfl h.1 ?_
        replace h := h.2
        refine me_go (pc1 := 157) (lv1 := [(5, .int ((μ.2.1 122 ((μ.1 128)).toNatClampNeg) + (μ.2.1 55 ((μ.2.1 28 x4.toNatClampNeg)).toNatClampNeg))), (0, .ref P.1), (1, .int x1), (2, .int x2), (3, .int x3), (4, .int x4)]) (st1 := [.ref P.1, .int (μ2.2.1 132 x3.toNatClampNeg), .ref (P.2.1 99)]) 1 rfl ?_
        refine me_getf (v := .ref (P.2.1 99)) rfl rfl rfl ?_
        refine me_go (pc1 := 164) (lv1 := [(5, .int ((μ.2.1 122 ((μ.1 128)).toNatClampNeg) + (μ.2.1 55 ((μ.2.1 28 x4.toNatClampNeg)).toNatClampNeg))), (0, .ref P.1), (1, .int x1), (2, .int x2), (3, .int x3), (4, .int x4)]) (st1 := [.ref P.1, .ref P.1, .int ((μ.2.1 122 ((μ.1 128)).toNatClampNeg) + (μ.2.1 55 ((μ.2.1 28 x4.toNatClampNeg)).toNatClampNeg)), .ref (P.2.1 99), .int (μ2.2.1 132 x3.toNatClampNeg), .ref (P.2.1 99)]) 3 rfl ?_
        refine me_getf (v := .ref (P.2.1 23)) rfl rfl rfl ?_
        refine me_go (pc1 := 169) (lv1 := [(5, .int ((μ.2.1 122 ((μ.1 128)).toNatClampNeg) + (μ.2.1 55 ((μ.2.1 28 x4.toNatClampNeg)).toNatClampNeg))), (0, .ref P.1), (1, .int x1), (2, .int x2), (3, .int x3), (4, .int x4)]) (st1 := [.int x4, .ref (P.2.1 23), .ref P.1, .int ((μ.2.1 122 ((μ.1 128)).toNatClampNeg) + (μ.2.1 55 ((μ.2.1 28 x4.toNatClampNeg)).toNatClampNeg)), .ref (P.2.1 99), .int (μ2.2.1 132 x3.toNatClampNeg), .ref (P.2.1 99)]) 1 rfl ?_
        refine me_iald rfl (g := 23) rfl rfl h.1 ?_
        replace h := h.2
        refine me_callN rfl rfl rfl (h.mono (fun r3 μ3 h => ?_) (fun _ h => h))
        refine me_copy (g0 := 99) (g1 := 99) rfl rfl rfl rfl rfl rfl h.1 ?_
        replace h := h.2
        refine me_go (pc1 := 192) (lv1 := [(5, .int ((μ.2.1 122 ((μ.1 128)).toNatClampNeg) + (μ.2.1 55 ((μ.2.1 28 x4.toNatClampNeg)).toNatClampNeg))), (0, .ref P.1), (1, .int x1), (2, .int x2), (3, .int x3), (4, .int x4)]) (st1 := []) 1 rfl ?_
        refine me_lv [(0, .ref P.1), (1, .int x1), (2, .int x2), (3, .int x3), (4, .int x4), (5, .int ((μ.2.1 122 ((μ.1 128)).toNatClampNeg) + (μ.2.1 55 ((μ.2.1 28 x4.toNatClampNeg)).toNatClampNeg)))] (fl_c rfl (fl_c rfl (fl_c rfl (fl_c rfl (fl_c rfl (fl_c rfl fl_0)))))) ?_
        exact h
theorem v_frame_179 {X : ev_X} {W : Nat → Prop} {d : Nat} {P : MP} {μ : MS} {R : Int32 → MS → Prop} {T : MS → Prop} (x1 : Int32) (x2 : Int32) (x3 : Int32) (x4 : Int32) (x5 : Int32) (h : (MI x3 (μ.2.2 132) ∧ (MI x5 (μ.2.2 99) ∧ ME X W true d 469 192 [(0, .ref P.1), (1, .int x1), (2, .int x2), (3, .int x3), (4, .int x4), (5, .int x5)] [] P (mA1 μ 99 x5.toNatClampNeg (μ.2.1 132 x3.toNatClampNeg)) R T))) : ME X W true d 469 179 [(0, .ref P.1), (1, .int x1), (2, .int x2), (3, .int x3), (4, .int x4), (5, .int x5)] [] P μ R T := by
  refine me_go (pc1 := 180) (lv1 := [(0, .ref P.1), (1, .int x1), (2, .int x2), (3, .int x3), (4, .int x4), (5, .int x5)]) (st1 := [.ref P.1]) 1 rfl ?_
  refine me_getf (v := .ref (P.2.1 99)) rfl rfl rfl ?_
  refine me_go (pc1 := 186) (lv1 := [(0, .ref P.1), (1, .int x1), (2, .int x2), (3, .int x3), (4, .int x4), (5, .int x5)]) (st1 := [.ref P.1, .int x5, .ref (P.2.1 99)]) 2 rfl ?_
  refine me_getf (v := .ref (P.2.1 132)) rfl rfl rfl ?_
  refine me_go (pc1 := 190) (lv1 := [(0, .ref P.1), (1, .int x1), (2, .int x2), (3, .int x3), (4, .int x4), (5, .int x5)]) (st1 := [.int x3, .ref (P.2.1 132), .int x5, .ref (P.2.1 99)]) 1 rfl ?_
  refine me_iald rfl (g := 132) rfl rfl h.1 ?_
  replace h := h.2
  have hi := h.1
  replace h := h.2
  refine me_iast rfl (g := 99) rfl rfl hi ?_
  exact h
theorem v_frame_192 {X : ev_X} {W : Nat → Prop} {d : Nat} {P : MP} {μ : MS} {R : Int32 → MS → Prop} {T : MS → Prop} (x1 : Int32) (x2 : Int32) (x3 : Int32) (x4 : Int32) (x5 : Int32) (h : (MI x4 (μ.2.2 27) ∧ ME X W true d 469 89 [(0, .ref P.1), (1, .int x1), (2, .int x2), (3, .int (x3 + 1)), (4, .int (μ.2.1 27 x4.toNatClampNeg))] [] P μ R T)) : ME X W true d 469 192 [(0, .ref P.1), (1, .int x1), (2, .int x2), (3, .int x3), (4, .int x4), (5, .int x5)] [] P μ R T := by
  refine me_go (pc1 := 196) (lv1 := [(3, .int (x3 + 1)), (0, .ref P.1), (1, .int x1), (2, .int x2), (4, .int x4), (5, .int x5)]) (st1 := [.ref P.1]) 2 rfl ?_
  refine me_getf (v := .ref (P.2.1 27)) rfl rfl rfl ?_
  refine me_go (pc1 := 201) (lv1 := [(3, .int (x3 + 1)), (0, .ref P.1), (1, .int x1), (2, .int x2), (4, .int x4), (5, .int x5)]) (st1 := [.int x4, .ref (P.2.1 27)]) 1 rfl ?_
  refine me_iald rfl (g := 27) rfl rfl h.1 ?_
  replace h := h.2
  refine me_go (pc1 := 89) (lv1 := [(4, .int (μ.2.1 27 x4.toNatClampNeg)), (3, .int (x3 + 1)), (0, .ref P.1), (1, .int x1), (2, .int x2), (5, .int x5)]) (st1 := []) 2 rfl ?_
  refine me_lv [(0, .ref P.1), (1, .int x1), (2, .int x2), (3, .int (x3 + 1)), (4, .int (μ.2.1 27 x4.toNatClampNeg))] (fl_c rfl (fl_c rfl (fl_c rfl (fl_c rfl (fl_c rfl fl_0))))) ?_
  exact h
theorem v_frame_215 {X : ev_X} {W : Nat → Prop} {d : Nat} {P : MP} {μ : MS} {R : Int32 → MS → Prop} {T : MS → Prop} (x1 : Int32) (x2 : Int32) (x3 : Int32) (x4 : Int32) (h : ((x4.toInt < (0 : Int) → (MI x2 (μ.2.2 25) ∧ MC X W true d 449 [.ref P.1, .int (μ.2.1 25 x2.toNatClampNeg)] P μ (fun r1 μ1 => R 0 μ1) (fun _ => False))) ∧ ((0 : Int) ≤ x4.toInt → (MI x4 (μ.2.2 22) ∧ ME X W true d 469 229 [(0, .ref P.1), (1, .int x1), (2, .int x2), (3, .int x3), (4, .int x4), (5, .int (μ.2.1 22 x4.toNatClampNeg))] [] P μ R T)))) : ME X W true d 469 215 [(0, .ref P.1), (1, .int x1), (2, .int x2), (3, .int x3), (4, .int x4)] [] P μ R T := by
  refine me_go (pc1 := 217) (lv1 := [(0, .ref P.1), (1, .int x1), (2, .int x2), (3, .int x3), (4, .int x4)]) (st1 := [.int x4]) 1 rfl ?_
  refine me_ifc rfl rfl (fun c => ?_) (fun c => ?_)
  · replace h := h.1 (ci_lt c)
    refine me_go (pc1 := 295) (lv1 := [(0, .ref P.1), (1, .int x1), (2, .int x2), (3, .int x3), (4, .int x4)]) (st1 := [.ref P.1, .ref P.1]) 2 rfl ?_
    refine me_getf (v := .ref (P.2.1 25)) rfl rfl rfl ?_
    refine me_go (pc1 := 299) (lv1 := [(0, .ref P.1), (1, .int x1), (2, .int x2), (3, .int x3), (4, .int x4)]) (st1 := [.int x2, .ref (P.2.1 25), .ref P.1]) 1 rfl ?_
    refine me_iald rfl (g := 25) rfl rfl h.1 ?_
    replace h := h.2
    refine me_callN rfl rfl rfl (h.mono (fun r1 μ1 h => ?_) (fun _ h => h))
    exact me_ret (v := none) (r := 0) rfl rfl rfl h
  · replace h := h.2 (cn_lt c)
    refine me_go (pc1 := 221) (lv1 := [(0, .ref P.1), (1, .int x1), (2, .int x2), (3, .int x3), (4, .int x4)]) (st1 := [.ref P.1]) 1 rfl ?_
    refine me_getf (v := .ref (P.2.1 22)) rfl rfl rfl ?_
    refine me_go (pc1 := 226) (lv1 := [(0, .ref P.1), (1, .int x1), (2, .int x2), (3, .int x3), (4, .int x4)]) (st1 := [.int x4, .ref (P.2.1 22)]) 1 rfl ?_
    refine me_iald rfl (g := 22) rfl rfl h.1 ?_
    replace h := h.2
    refine me_go (pc1 := 229) (lv1 := [(5, .int (μ.2.1 22 x4.toNatClampNeg)), (0, .ref P.1), (1, .int x1), (2, .int x2), (3, .int x3), (4, .int x4)]) (st1 := []) 1 rfl ?_
    refine me_lv [(0, .ref P.1), (1, .int x1), (2, .int x2), (3, .int x3), (4, .int x4), (5, .int (μ.2.1 22 x4.toNatClampNeg))] (fl_c rfl (fl_c rfl (fl_c rfl (fl_c rfl (fl_c rfl (fl_c rfl fl_0)))))) ?_
    exact h
theorem v_frame_229 {X : ev_X} {W : Nat → Prop} {d : Nat} {P : MP} {μ : MS} {R : Int32 → MS → Prop} {T : MS → Prop} (x1 : Int32) (x2 : Int32) (x3 : Int32) (x4 : Int32) (x5 : Int32) (h : ((x5.toInt < (0 : Int) → (MI x4 (μ.2.2 27) ∧ ME X W true d 469 215 [(0, .ref P.1), (1, .int x1), (2, .int x2), (3, .int x3), (4, .int (μ.2.1 27 x4.toNatClampNeg))] [] P μ R T)) ∧ ((0 : Int) ≤ x5.toInt → (MI x4 (μ.2.2 23) ∧ (MI (μ.1 128) (μ.2.2 122) ∧ (MI x5 (μ.2.2 28) ∧ (MI (μ.2.1 28 x5.toNatClampNeg) (μ.2.2 55) ∧ MC X W true d 452 [.ref P.1, .int (μ.2.1 23 x4.toNatClampNeg), .int ((μ.2.1 122 ((μ.1 128)).toNatClampNeg) + (μ.2.1 55 ((μ.2.1 28 x5.toNatClampNeg)).toNatClampNeg))] P μ (fun r1 μ1 => (MI x5 (μ1.2.2 27) ∧ ME X W true d 469 229 [(0, .ref P.1), (1, .int x1), (2, .int x2), (3, .int x3), (4, .int x4), (5, .int (μ1.2.1 27 x5.toNatClampNeg))] [] P μ1 R T)) (fun _ => False)))))))) : ME X W true d 469 229 [(0, .ref P.1), (1, .int x1), (2, .int x2), (3, .int x3), (4, .int x4), (5, .int x5)] [] P μ R T := by
  refine me_go (pc1 := 231) (lv1 := [(0, .ref P.1), (1, .int x1), (2, .int x2), (3, .int x3), (4, .int x4), (5, .int x5)]) (st1 := [.int x5]) 1 rfl ?_
  refine me_ifc rfl rfl (fun c => ?_) (fun c => ?_)
  · replace h := h.1 (ci_lt c)
    refine me_go (pc1 := 282) (lv1 := [(0, .ref P.1), (1, .int x1), (2, .int x2), (3, .int x3), (4, .int x4), (5, .int x5)]) (st1 := [.ref P.1]) 1 rfl ?_
    refine me_getf (v := .ref (P.2.1 27)) rfl rfl rfl ?_
    refine me_go (pc1 := 287) (lv1 := [(0, .ref P.1), (1, .int x1), (2, .int x2), (3, .int x3), (4, .int x4), (5, .int x5)]) (st1 := [.int x4, .ref (P.2.1 27)]) 1 rfl ?_
    refine me_iald rfl (g := 27) rfl rfl h.1 ?_
    replace h := h.2
    refine me_go (pc1 := 215) (lv1 := [(4, .int (μ.2.1 27 x4.toNatClampNeg)), (0, .ref P.1), (1, .int x1), (2, .int x2), (3, .int x3), (5, .int x5)]) (st1 := []) 2 rfl ?_
    refine me_lv [(0, .ref P.1), (1, .int x1), (2, .int x2), (3, .int x3), (4, .int (μ.2.1 27 x4.toNatClampNeg))] (fl_c rfl (fl_c rfl (fl_c rfl (fl_c rfl (fl_c rfl fl_0))))) ?_
    exact h
  · replace h := h.2 (cn_lt c)
    refine me_go (pc1 := 236) (lv1 := [(0, .ref P.1), (1, .int x1), (2, .int x2), (3, .int x3), (4, .int x4), (5, .int x5)]) (st1 := [.ref P.1, .ref P.1]) 2 rfl ?_
    refine me_getf (v := .ref (P.2.1 23)) rfl rfl rfl ?_
    refine me_go (pc1 := 241) (lv1 := [(0, .ref P.1), (1, .int x1), (2, .int x2), (3, .int x3), (4, .int x4), (5, .int x5)]) (st1 := [.int x4, .ref (P.2.1 23), .ref P.1]) 1 rfl ?_
    refine me_iald rfl (g := 23) rfl rfl h.1 ?_
    replace h := h.2
    refine me_go (pc1 := 243) (lv1 := [(0, .ref P.1), (1, .int x1), (2, .int x2), (3, .int x3), (4, .int x4), (5, .int x5)]) (st1 := [.ref P.1, .int (μ.2.1 23 x4.toNatClampNeg), .ref P.1]) 1 rfl ?_
    refine me_getf (v := .ref (P.2.1 122)) rfl rfl rfl ?_
    refine me_go (pc1 := 247) (lv1 := [(0, .ref P.1), (1, .int x1), (2, .int x2), (3, .int x3), (4, .int x4), (5, .int x5)]) (st1 := [.ref P.1, .ref (P.2.1 122), .int (μ.2.1 23 x4.toNatClampNeg), .ref P.1]) 1 rfl ?_
    refine me_getf (v := .int (μ.1 128)) rfl rfl rfl ?_
    refine me_iald rfl (g := 122) rfl rfl h.1 ?_
    replace h := h.2
    refine me_go (pc1 := 252) (lv1 := [(0, .ref P.1), (1, .int x1), (2, .int x2), (3, .int x3), (4, .int x4), (5, .int x5)]) (st1 := [.ref P.1, .int (μ.2.1 122 ((μ.1 128)).toNatClampNeg), .int (μ.2.1 23 x4.toNatClampNeg), .ref P.1]) 1 rfl ?_
    refine me_getf (v := .ref (P.2.1 55)) rfl rfl rfl ?_
    refine me_go (pc1 := 256) (lv1 := [(0, .ref P.1), (1, .int x1), (2, .int x2), (3, .int x3), (4, .int x4), (5, .int x5)]) (st1 := [.ref P.1, .ref (P.2.1 55), .int (μ.2.1 122 ((μ.1 128)).toNatClampNeg), .int (μ.2.1 23 x4.toNatClampNeg), .ref P.1]) 1 rfl ?_
    refine me_getf (v := .ref (P.2.1 28)) rfl rfl rfl ?_
    refine me_go (pc1 := 261) (lv1 := [(0, .ref P.1), (1, .int x1), (2, .int x2), (3, .int x3), (4, .int x4), (5, .int x5)]) (st1 := [.int x5, .ref (P.2.1 28), .ref (P.2.1 55), .int (μ.2.1 122 ((μ.1 128)).toNatClampNeg), .int (μ.2.1 23 x4.toNatClampNeg), .ref P.1]) 1 rfl ?_
    refine me_iald rfl (g := 28) rfl rfl h.1 ?_
    replace h := h.2
    refine me_iald rfl (g := 55) rfl rfl h.1 ?_
    replace h := h.2
    refine me_go (pc1 := 264) (lv1 := [(0, .ref P.1), (1, .int x1), (2, .int x2), (3, .int x3), (4, .int x4), (5, .int x5)]) (st1 := [.int ((μ.2.1 122 ((μ.1 128)).toNatClampNeg) + (μ.2.1 55 ((μ.2.1 28 x5.toNatClampNeg)).toNatClampNeg)), .int (μ.2.1 23 x4.toNatClampNeg), .ref P.1]) 1 rfl ?_
    refine me_callN rfl rfl rfl (h.mono (fun r1 μ1 h => ?_) (fun _ h => h))
    refine me_go (pc1 := 270) (lv1 := [(6, .int r1), (0, .ref P.1), (1, .int x1), (2, .int x2), (3, .int x3), (4, .int x4), (5, .int x5)]) (st1 := [.ref P.1]) 2 rfl ?_
    refine me_getf (v := .ref (P.2.1 27)) rfl rfl rfl ?_
    refine me_go (pc1 := 275) (lv1 := [(6, .int r1), (0, .ref P.1), (1, .int x1), (2, .int x2), (3, .int x3), (4, .int x4), (5, .int x5)]) (st1 := [.int x5, .ref (P.2.1 27)]) 1 rfl ?_
    refine me_iald rfl (g := 27) rfl rfl h.1 ?_
    replace h := h.2
    refine me_go (pc1 := 229) (lv1 := [(5, .int (μ1.2.1 27 x5.toNatClampNeg)), (6, .int r1), (0, .ref P.1), (1, .int x1), (2, .int x2), (3, .int x3), (4, .int x4)]) (st1 := []) 2 rfl ?_
    refine me_lv [(0, .ref P.1), (1, .int x1), (2, .int x2), (3, .int x3), (4, .int x4), (5, .int (μ1.2.1 27 x5.toNatClampNeg))] (fl_c rfl (fl_c rfl (fl_c rfl (fl_c rfl (fl_c rfl (fl_c rfl fl_0)))))) ?_
    exact h
theorem v_fork_0 {X : ev_X} {W : Nat → Prop} {d : Nat} {P : MP} {μ : MS} {R : Int32 → MS → Prop} {T : MS → Prop} (x1 : Int32) (x2 : Int32) (x3 : Int32) (h : (((μ.1 110) = 64 → MC X W true d 446 [.ref P.1, .int 9] P μ (fun r1 μ1 => MC X W false d 471 [.ref P.1] P (mS1 μ1 110 ((μ1.1 110) + 1)) (fun r2 μ2 => ∀ aa2 : Nat → Nat, MC X W true d 472 [.ref P.1, .int (μ1.1 110)] (P.1, aa2, P.2.2) μ2 (fun r3 μ3 => (MI (μ1.1 110) (μ3.2.2 122) ∧ (MI (μ1.1 110) (μ3.2.2 123) ∧ MC X W true d 448 [.ref P.1, .int 4, .int (-1), .int (μ3.2.1 122 ((μ1.1 110)).toNatClampNeg), .int x2, .int (-1), .int (μ3.2.1 123 ((μ1.1 110)).toNatClampNeg)] (P.1, aa2, P.2.2) (mS1 μ3 128 (μ1.1 110)) (fun r4 μ4 => MC X W true d 469 [.ref P.1, .int x2] (P.1, aa2, P.2.2) μ4 (fun r5 μ5 => MC X W true d 480 [.ref P.1] (P.1, aa2, P.2.2) μ5 (fun r6 μ6 => (MI x3 (μ6.2.2 99) ∧ MC X W true d 473 [.ref P.1] (P.1, aa2, P.2.2) (mA1 (mS1 μ6 128 (μ1.1 128)) 99 x3.toNatClampNeg ((μ1.1 110) + 1)) (fun r7 μ7 => R 0 μ7) (fun _ => False))) (fun _ => False)) (fun _ => False)) (fun _ => False)))) (fun _ => False)) T) T) ∧ (¬ (μ.1 110) = 64 → (MI x2 (μ.2.2 95) ∧ (((μ.2.1 95 x2.toNatClampNeg).toInt ≤ (2000 : Int) → MC X W false d 471 [.ref P.1] P (mS1 μ 110 ((μ.1 110) + 1)) (fun r8 μ8 => ∀ aa8 : Nat → Nat, MC X W true d 472 [.ref P.1, .int (μ.1 110)] (P.1, aa8, P.2.2) μ8 (fun r9 μ9 => (MI (μ.1 110) (μ9.2.2 122) ∧ (MI (μ.1 110) (μ9.2.2 123) ∧ MC X W true d 448 [.ref P.1, .int 4, .int (-1), .int (μ9.2.1 122 ((μ.1 110)).toNatClampNeg), .int x2, .int (-1), .int (μ9.2.1 123 ((μ.1 110)).toNatClampNeg)] (P.1, aa8, P.2.2) (mS1 μ9 128 (μ.1 110)) (fun r10 μ10 => MC X W true d 469 [.ref P.1, .int x2] (P.1, aa8, P.2.2) μ10 (fun r11 μ11 => MC X W true d 480 [.ref P.1] (P.1, aa8, P.2.2) μ11 (fun r12 μ12 => (MI x3 (μ12.2.2 99) ∧ MC X W true d 473 [.ref P.1] (P.1, aa8, P.2.2) (mA1 (mS1 μ12 128 (μ.1 128)) 99 x3.toNatClampNeg ((μ.1 110) + 1)) (fun r13 μ13 => R 0 μ13) (fun _ => False))) (fun _ => False)) (fun _ => False)) (fun _ => False)))) (fun _ => False)) T) ∧ ((2000 : Int) < (μ.2.1 95 x2.toNatClampNeg).toInt → MC X W true d 446 [.ref P.1, .int 9] P μ (fun r14 μ14 => MC X W false d 471 [.ref P.1] P (mS1 μ14 110 ((μ14.1 110) + 1)) (fun r15 μ15 => ∀ aa15 : Nat → Nat, MC X W true d 472 [.ref P.1, .int (μ14.1 110)] (P.1, aa15, P.2.2) μ15 (fun r16 μ16 => (MI (μ14.1 110) (μ16.2.2 122) ∧ (MI (μ14.1 110) (μ16.2.2 123) ∧ MC X W true d 448 [.ref P.1, .int 4, .int (-1), .int (μ16.2.1 122 ((μ14.1 110)).toNatClampNeg), .int x2, .int (-1), .int (μ16.2.1 123 ((μ14.1 110)).toNatClampNeg)] (P.1, aa15, P.2.2) (mS1 μ16 128 (μ14.1 110)) (fun r17 μ17 => MC X W true d 469 [.ref P.1, .int x2] (P.1, aa15, P.2.2) μ17 (fun r18 μ18 => MC X W true d 480 [.ref P.1] (P.1, aa15, P.2.2) μ18 (fun r19 μ19 => (MI x3 (μ19.2.2 99) ∧ MC X W true d 473 [.ref P.1] (P.1, aa15, P.2.2) (mA1 (mS1 μ19 128 (μ14.1 128)) 99 x3.toNatClampNeg ((μ14.1 110) + 1)) (fun r20 μ20 => R 0 μ20) (fun _ => False))) (fun _ => False)) (fun _ => False)) (fun _ => False)))) (fun _ => False)) T) T)))))) : ME X W false d 470 0 [(0, .ref P.1), (1, .int x1), (2, .int x2), (3, .int x3)] [] P μ R T := by
  refine me_go (pc1 := 1) (lv1 := [(0, .ref P.1), (1, .int x1), (2, .int x2), (3, .int x3)]) (st1 := [.ref P.1]) 1 rfl ?_
  refine me_getf (v := .int (μ.1 110)) rfl rfl rfl ?_
  refine me_go (pc1 := 6) (lv1 := [(0, .ref P.1), (1, .int x1), (2, .int x2), (3, .int x3)]) (st1 := [.int 64, .int (μ.1 110)]) 1 rfl ?_
  refine me_icmp rfl rfl (fun c => ?_) (fun c => ?_)
  · replace h := h.1 (ci_eq c)
    refine me_go (pc1 := 24) (lv1 := [(0, .ref P.1), (1, .int x1), (2, .int x2), (3, .int x3)]) (st1 := [.int 9, .ref P.1]) 2 rfl ?_
    refine me_call rfl rfl rfl rfl (h.mono (fun r1 μ1 h => ?_) (fun _ h => h))
    refine me_go (pc1 := 28) (lv1 := [(0, .ref P.1), (1, .int x1), (2, .int x2), (3, .int x3)]) (st1 := [.ref P.1]) 1 rfl ?_
    refine me_getf (v := .int (μ1.1 128)) rfl rfl rfl ?_
    refine me_go (pc1 := 34) (lv1 := [(4, .int (μ1.1 128)), (0, .ref P.1), (1, .int x1), (2, .int x2), (3, .int x3)]) (st1 := [.ref P.1]) 2 rfl ?_
    refine me_getf (v := .int (μ1.1 110)) rfl rfl rfl ?_
    refine me_go (pc1 := 41) (lv1 := [(5, .int (μ1.1 110)), (4, .int (μ1.1 128)), (0, .ref P.1), (1, .int x1), (2, .int x2), (3, .int x3)]) (st1 := [.ref P.1, .ref P.1]) 3 rfl ?_
    refine me_getf (v := .int (μ1.1 110)) rfl rfl rfl ?_
    refine me_go (pc1 := 46) (lv1 := [(5, .int (μ1.1 110)), (4, .int (μ1.1 128)), (0, .ref P.1), (1, .int x1), (2, .int x2), (3, .int x3)]) (st1 := [.int ((μ1.1 110) + 1), .ref P.1]) 2 rfl ?_
    refine me_put rfl rfl rfl ?_
    refine me_go (pc1 := 50) (lv1 := [(5, .int (μ1.1 110)), (4, .int (μ1.1 128)), (0, .ref P.1), (1, .int x1), (2, .int x2), (3, .int x3)]) (st1 := [.ref P.1]) 1 rfl ?_
    refine me_callF rfl rfl rfl rfl rfl (h.mono (fun r2 μ2 h aa2 => ?_) (fun _ h => h))
    replace h := h aa2
    refine me_go (pc1 := 56) (lv1 := [(5, .int (μ1.1 110)), (4, .int (μ1.1 128)), (0, .ref P.1), (1, .int x1), (2, .int x2), (3, .int x3)]) (st1 := [.int (μ1.1 110), .ref P.1]) 2 rfl ?_
    refine me_callN rfl rfl rfl (h.mono (fun r3 μ3 h => ?_) (fun _ h => h))
    refine me_go (pc1 := 62) (lv1 := [(5, .int (μ1.1 110)), (4, .int (μ1.1 128)), (0, .ref P.1), (1, .int x1), (2, .int x2), (3, .int x3)]) (st1 := [.int (μ1.1 110), .ref P.1]) 2 rfl ?_
    refine me_put rfl rfl rfl ?_
    refine me_go (pc1 := 69) (lv1 := [(5, .int (μ1.1 110)), (4, .int (μ1.1 128)), (0, .ref P.1), (1, .int x1), (2, .int x2), (3, .int x3)]) (st1 := [.ref P.1, .int (-1), .int 4, .ref P.1]) 4 rfl ?_
    refine me_getf (v := .ref ((P.1, aa2, P.2.2).2.1 122)) rfl rfl rfl ?_
    refine me_go (pc1 := 73) (lv1 := [(5, .int (μ1.1 110)), (4, .int (μ1.1 128)), (0, .ref P.1), (1, .int x1), (2, .int x2), (3, .int x3)]) (st1 := [.ref P.1, .ref ((P.1, aa2, P.2.2).2.1 122), .int (-1), .int 4, .ref P.1]) 1 rfl ?_
    refine me_getf (v := .int (μ1.1 110)) rfl rfl rfl ?_
    refine me_iald rfl (g := 122) rfl rfl h.1 ?_
    replace h := h.2
    refine me_go (pc1 := 80) (lv1 := [(5, .int (μ1.1 110)), (4, .int (μ1.1 128)), (0, .ref P.1), (1, .int x1), (2, .int x2), (3, .int x3)]) (st1 := [.ref P.1, .int (-1), .int x2, .int (μ3.2.1 122 ((μ1.1 110)).toNatClampNeg), .int (-1), .int 4, .ref P.1]) 3 rfl ?_
    refine me_getf (v := .ref ((P.1, aa2, P.2.2).2.1 123)) rfl rfl rfl ?_
    refine me_go (pc1 := 84) (lv1 := [(5, .int (μ1.1 110)), (4, .int (μ1.1 128)), (0, .ref P.1), (1, .int x1), (2, .int x2), (3, .int x3)]) (st1 := [.ref P.1, .ref ((P.1, aa2, P.2.2).2.1 123), .int (-1), .int x2, .int (μ3.2.1 122 ((μ1.1 110)).toNatClampNeg), .int (-1), .int 4, .ref P.1]) 1 rfl ?_
    refine me_getf (v := .int (μ1.1 110)) rfl rfl rfl ?_
    refine me_iald rfl (g := 123) rfl rfl h.1 ?_
    replace h := h.2
    refine me_callN rfl rfl rfl (h.mono (fun r4 μ4 h => ?_) (fun _ h => h))
    refine me_go (pc1 := 93) (lv1 := [(5, .int (μ1.1 110)), (4, .int (μ1.1 128)), (0, .ref P.1), (1, .int x1), (2, .int x2), (3, .int x3)]) (st1 := [.int x2, .ref P.1]) 2 rfl ?_
    refine me_callN rfl rfl rfl (h.mono (fun r5 μ5 h => ?_) (fun _ h => h))
    refine me_go (pc1 := 97) (lv1 := [(5, .int (μ1.1 110)), (4, .int (μ1.1 128)), (0, .ref P.1), (1, .int x1), (2, .int x2), (3, .int x3)]) (st1 := [.ref P.1]) 1 rfl ?_
    refine me_callN rfl rfl rfl (h.mono (fun r6 μ6 h => ?_) (fun _ h => h))
    refine me_go (pc1 := 103) (lv1 := [(5, .int (μ1.1 110)), (4, .int (μ1.1 128)), (0, .ref P.1), (1, .int x1), (2, .int x2), (3, .int x3)]) (st1 := [.int (μ1.1 128), .ref P.1]) 2 rfl ?_
    refine me_put rfl rfl rfl ?_
    refine me_go (pc1 := 107) (lv1 := [(5, .int (μ1.1 110)), (4, .int (μ1.1 128)), (0, .ref P.1), (1, .int x1), (2, .int x2), (3, .int x3)]) (st1 := [.ref P.1]) 1 rfl ?_
    refine me_getf (v := .ref ((P.1, aa2, P.2.2).2.1 99)) rfl rfl rfl ?_
    refine me_go (pc1 := 115) (lv1 := [(5, .int (μ1.1 110)), (4, .int (μ1.1 128)), (0, .ref P.1), (1, .int x1), (2, .int x2), (3, .int x3)]) (st1 := [.int ((μ1.1 110) + 1), .int x3, .ref ((P.1, aa2, P.2.2).2.1 99)]) 4 rfl ?_
    have hi := h.1
    replace h := h.2
    refine me_iast rfl (g := 99) rfl rfl hi ?_
    refine me_go (pc1 := 117) (lv1 := [(5, .int (μ1.1 110)), (4, .int (μ1.1 128)), (0, .ref P.1), (1, .int x1), (2, .int x2), (3, .int x3)]) (st1 := [.ref P.1]) 1 rfl ?_
    refine me_callN rfl rfl rfl (h.mono (fun r7 μ7 h => ?_) (fun _ h => h))
    exact me_ret (v := none) (r := 0) rfl rfl rfl h
  · replace h := h.2 (cn_eq c)
    refine me_go (pc1 := 10) (lv1 := [(0, .ref P.1), (1, .int x1), (2, .int x2), (3, .int x3)]) (st1 := [.ref P.1]) 1 rfl ?_
    refine me_getf (v := .ref (P.2.1 95)) rfl rfl rfl ?_
    refine me_go (pc1 := 14) (lv1 := [(0, .ref P.1), (1, .int x1), (2, .int x2), (3, .int x3)]) (st1 := [.int x2, .ref (P.2.1 95)]) 1 rfl ?_
    refine me_iald rfl (g := 95) rfl rfl h.1 ?_
    replace h := h.2
    refine me_go (pc1 := 18) (lv1 := [(0, .ref P.1), (1, .int x1), (2, .int x2), (3, .int x3)]) (st1 := [.int 2000, .int (μ.2.1 95 x2.toNatClampNeg)]) 1 rfl ?_
    refine me_icmp rfl rfl (fun c => ?_) (fun c => ?_)
    · replace h := h.1 (ci_le c)
      refine me_go (pc1 := 28) (lv1 := [(0, .ref P.1), (1, .int x1), (2, .int x2), (3, .int x3)]) (st1 := [.ref P.1]) 1 rfl ?_
      refine me_getf (v := .int (μ.1 128)) rfl rfl rfl ?_
      refine me_go (pc1 := 34) (lv1 := [(4, .int (μ.1 128)), (0, .ref P.1), (1, .int x1), (2, .int x2), (3, .int x3)]) (st1 := [.ref P.1]) 2 rfl ?_
      refine me_getf (v := .int (μ.1 110)) rfl rfl rfl ?_
      refine me_go (pc1 := 41) (lv1 := [(5, .int (μ.1 110)), (4, .int (μ.1 128)), (0, .ref P.1), (1, .int x1), (2, .int x2), (3, .int x3)]) (st1 := [.ref P.1, .ref P.1]) 3 rfl ?_
      refine me_getf (v := .int (μ.1 110)) rfl rfl rfl ?_
      refine me_go (pc1 := 46) (lv1 := [(5, .int (μ.1 110)), (4, .int (μ.1 128)), (0, .ref P.1), (1, .int x1), (2, .int x2), (3, .int x3)]) (st1 := [.int ((μ.1 110) + 1), .ref P.1]) 2 rfl ?_
      refine me_put rfl rfl rfl ?_
      refine me_go (pc1 := 50) (lv1 := [(5, .int (μ.1 110)), (4, .int (μ.1 128)), (0, .ref P.1), (1, .int x1), (2, .int x2), (3, .int x3)]) (st1 := [.ref P.1]) 1 rfl ?_
      refine me_callF rfl rfl rfl rfl rfl (h.mono (fun r8 μ8 h aa8 => ?_) (fun _ h => h))
      replace h := h aa8
      refine me_go (pc1 := 56) (lv1 := [(5, .int (μ.1 110)), (4, .int (μ.1 128)), (0, .ref P.1), (1, .int x1), (2, .int x2), (3, .int x3)]) (st1 := [.int (μ.1 110), .ref P.1]) 2 rfl ?_
      refine me_callN rfl rfl rfl (h.mono (fun r9 μ9 h => ?_) (fun _ h => h))
      refine me_go (pc1 := 62) (lv1 := [(5, .int (μ.1 110)), (4, .int (μ.1 128)), (0, .ref P.1), (1, .int x1), (2, .int x2), (3, .int x3)]) (st1 := [.int (μ.1 110), .ref P.1]) 2 rfl ?_
      refine me_put rfl rfl rfl ?_
      refine me_go (pc1 := 69) (lv1 := [(5, .int (μ.1 110)), (4, .int (μ.1 128)), (0, .ref P.1), (1, .int x1), (2, .int x2), (3, .int x3)]) (st1 := [.ref P.1, .int (-1), .int 4, .ref P.1]) 4 rfl ?_
      refine me_getf (v := .ref ((P.1, aa8, P.2.2).2.1 122)) rfl rfl rfl ?_
      refine me_go (pc1 := 73) (lv1 := [(5, .int (μ.1 110)), (4, .int (μ.1 128)), (0, .ref P.1), (1, .int x1), (2, .int x2), (3, .int x3)]) (st1 := [.ref P.1, .ref ((P.1, aa8, P.2.2).2.1 122), .int (-1), .int 4, .ref P.1]) 1 rfl ?_
      refine me_getf (v := .int (μ.1 110)) rfl rfl rfl ?_
      refine me_iald rfl (g := 122) rfl rfl h.1 ?_
      replace h := h.2
      refine me_go (pc1 := 80) (lv1 := [(5, .int (μ.1 110)), (4, .int (μ.1 128)), (0, .ref P.1), (1, .int x1), (2, .int x2), (3, .int x3)]) (st1 := [.ref P.1, .int (-1), .int x2, .int (μ9.2.1 122 ((μ.1 110)).toNatClampNeg), .int (-1), .int 4, .ref P.1]) 3 rfl ?_
      refine me_getf (v := .ref ((P.1, aa8, P.2.2).2.1 123)) rfl rfl rfl ?_
      refine me_go (pc1 := 84) (lv1 := [(5, .int (μ.1 110)), (4, .int (μ.1 128)), (0, .ref P.1), (1, .int x1), (2, .int x2), (3, .int x3)]) (st1 := [.ref P.1, .ref ((P.1, aa8, P.2.2).2.1 123), .int (-1), .int x2, .int (μ9.2.1 122 ((μ.1 110)).toNatClampNeg), .int (-1), .int 4, .ref P.1]) 1 rfl ?_
      refine me_getf (v := .int (μ.1 110)) rfl rfl rfl ?_
      refine me_iald rfl (g := 123) rfl rfl h.1 ?_
      replace h := h.2
      refine me_callN rfl rfl rfl (h.mono (fun r10 μ10 h => ?_) (fun _ h => h))
      refine me_go (pc1 := 93) (lv1 := [(5, .int (μ.1 110)), (4, .int (μ.1 128)), (0, .ref P.1), (1, .int x1), (2, .int x2), (3, .int x3)]) (st1 := [.int x2, .ref P.1]) 2 rfl ?_
      refine me_callN rfl rfl rfl (h.mono (fun r11 μ11 h => ?_) (fun _ h => h))
      refine me_go (pc1 := 97) (lv1 := [(5, .int (μ.1 110)), (4, .int (μ.1 128)), (0, .ref P.1), (1, .int x1), (2, .int x2), (3, .int x3)]) (st1 := [.ref P.1]) 1 rfl ?_
      refine me_callN rfl rfl rfl (h.mono (fun r12 μ12 h => ?_) (fun _ h => h))
      refine me_go (pc1 := 103) (lv1 := [(5, .int (μ.1 110)), (4, .int (μ.1 128)), (0, .ref P.1), (1, .int x1), (2, .int x2), (3, .int x3)]) (st1 := [.int (μ.1 128), .ref P.1]) 2 rfl ?_
      refine me_put rfl rfl rfl ?_
      refine me_go (pc1 := 107) (lv1 := [(5, .int (μ.1 110)), (4, .int (μ.1 128)), (0, .ref P.1), (1, .int x1), (2, .int x2), (3, .int x3)]) (st1 := [.ref P.1]) 1 rfl ?_
      refine me_getf (v := .ref ((P.1, aa8, P.2.2).2.1 99)) rfl rfl rfl ?_
      refine me_go (pc1 := 115) (lv1 := [(5, .int (μ.1 110)), (4, .int (μ.1 128)), (0, .ref P.1), (1, .int x1), (2, .int x2), (3, .int x3)]) (st1 := [.int ((μ.1 110) + 1), .int x3, .ref ((P.1, aa8, P.2.2).2.1 99)]) 4 rfl ?_
      have hi := h.1
      replace h := h.2
      refine me_iast rfl (g := 99) rfl rfl hi ?_
      refine me_go (pc1 := 117) (lv1 := [(5, .int (μ.1 110)), (4, .int (μ.1 128)), (0, .ref P.1), (1, .int x1), (2, .int x2), (3, .int x3)]) (st1 := [.ref P.1]) 1 rfl ?_
      refine me_callN rfl rfl rfl (h.mono (fun r13 μ13 h => ?_) (fun _ h => h))
      exact me_ret (v := none) (r := 0) rfl rfl rfl h
    · replace h := h.2 (cn_le c)
      refine me_go (pc1 := 24) (lv1 := [(0, .ref P.1), (1, .int x1), (2, .int x2), (3, .int x3)]) (st1 := [.int 9, .ref P.1]) 2 rfl ?_
      refine me_call rfl rfl rfl rfl (h.mono (fun r14 μ14 h => ?_) (fun _ h => h))
      refine me_go (pc1 := 28) (lv1 := [(0, .ref P.1), (1, .int x1), (2, .int x2), (3, .int x3)]) (st1 := [.ref P.1]) 1 rfl ?_
      refine me_getf (v := .int (μ14.1 128)) rfl rfl rfl ?_
      refine me_go (pc1 := 34) (lv1 := [(4, .int (μ14.1 128)), (0, .ref P.1), (1, .int x1), (2, .int x2), (3, .int x3)]) (st1 := [.ref P.1]) 2 rfl ?_
      refine me_getf (v := .int (μ14.1 110)) rfl rfl rfl ?_
      refine me_go (pc1 := 41) (lv1 := [(5, .int (μ14.1 110)), (4, .int (μ14.1 128)), (0, .ref P.1), (1, .int x1), (2, .int x2), (3, .int x3)]) (st1 := [.ref P.1, .ref P.1]) 3 rfl ?_
      refine me_getf (v := .int (μ14.1 110)) rfl rfl rfl ?_
      refine me_go (pc1 := 46) (lv1 := [(5, .int (μ14.1 110)), (4, .int (μ14.1 128)), (0, .ref P.1), (1, .int x1), (2, .int x2), (3, .int x3)]) (st1 := [.int ((μ14.1 110) + 1), .ref P.1]) 2 rfl ?_
      refine me_put rfl rfl rfl ?_
      refine me_go (pc1 := 50) (lv1 := [(5, .int (μ14.1 110)), (4, .int (μ14.1 128)), (0, .ref P.1), (1, .int x1), (2, .int x2), (3, .int x3)]) (st1 := [.ref P.1]) 1 rfl ?_
      refine me_callF rfl rfl rfl rfl rfl (h.mono (fun r15 μ15 h aa15 => ?_) (fun _ h => h))
      replace h := h aa15
      refine me_go (pc1 := 56) (lv1 := [(5, .int (μ14.1 110)), (4, .int (μ14.1 128)), (0, .ref P.1), (1, .int x1), (2, .int x2), (3, .int x3)]) (st1 := [.int (μ14.1 110), .ref P.1]) 2 rfl ?_
      refine me_callN rfl rfl rfl (h.mono (fun r16 μ16 h => ?_) (fun _ h => h))
      refine me_go (pc1 := 62) (lv1 := [(5, .int (μ14.1 110)), (4, .int (μ14.1 128)), (0, .ref P.1), (1, .int x1), (2, .int x2), (3, .int x3)]) (st1 := [.int (μ14.1 110), .ref P.1]) 2 rfl ?_
      refine me_put rfl rfl rfl ?_
      refine me_go (pc1 := 69) (lv1 := [(5, .int (μ14.1 110)), (4, .int (μ14.1 128)), (0, .ref P.1), (1, .int x1), (2, .int x2), (3, .int x3)]) (st1 := [.ref P.1, .int (-1), .int 4, .ref P.1]) 4 rfl ?_
      refine me_getf (v := .ref ((P.1, aa15, P.2.2).2.1 122)) rfl rfl rfl ?_
      refine me_go (pc1 := 73) (lv1 := [(5, .int (μ14.1 110)), (4, .int (μ14.1 128)), (0, .ref P.1), (1, .int x1), (2, .int x2), (3, .int x3)]) (st1 := [.ref P.1, .ref ((P.1, aa15, P.2.2).2.1 122), .int (-1), .int 4, .ref P.1]) 1 rfl ?_
      refine me_getf (v := .int (μ14.1 110)) rfl rfl rfl ?_
      refine me_iald rfl (g := 122) rfl rfl h.1 ?_
      replace h := h.2
      refine me_go (pc1 := 80) (lv1 := [(5, .int (μ14.1 110)), (4, .int (μ14.1 128)), (0, .ref P.1), (1, .int x1), (2, .int x2), (3, .int x3)]) (st1 := [.ref P.1, .int (-1), .int x2, .int (μ16.2.1 122 ((μ14.1 110)).toNatClampNeg), .int (-1), .int 4, .ref P.1]) 3 rfl ?_
      refine me_getf (v := .ref ((P.1, aa15, P.2.2).2.1 123)) rfl rfl rfl ?_
      refine me_go (pc1 := 84) (lv1 := [(5, .int (μ14.1 110)), (4, .int (μ14.1 128)), (0, .ref P.1), (1, .int x1), (2, .int x2), (3, .int x3)]) (st1 := [.ref P.1, .ref ((P.1, aa15, P.2.2).2.1 123), .int (-1), .int x2, .int (μ16.2.1 122 ((μ14.1 110)).toNatClampNeg), .int (-1), .int 4, .ref P.1]) 1 rfl ?_
      refine me_getf (v := .int (μ14.1 110)) rfl rfl rfl ?_
      refine me_iald rfl (g := 123) rfl rfl h.1 ?_
      replace h := h.2
      refine me_callN rfl rfl rfl (h.mono (fun r17 μ17 h => ?_) (fun _ h => h))
      refine me_go (pc1 := 93) (lv1 := [(5, .int (μ14.1 110)), (4, .int (μ14.1 128)), (0, .ref P.1), (1, .int x1), (2, .int x2), (3, .int x3)]) (st1 := [.int x2, .ref P.1]) 2 rfl ?_
      refine me_callN rfl rfl rfl (h.mono (fun r18 μ18 h => ?_) (fun _ h => h))
      refine me_go (pc1 := 97) (lv1 := [(5, .int (μ14.1 110)), (4, .int (μ14.1 128)), (0, .ref P.1), (1, .int x1), (2, .int x2), (3, .int x3)]) (st1 := [.ref P.1]) 1 rfl ?_
      refine me_callN rfl rfl rfl (h.mono (fun r19 μ19 h => ?_) (fun _ h => h))
      refine me_go (pc1 := 103) (lv1 := [(5, .int (μ14.1 110)), (4, .int (μ14.1 128)), (0, .ref P.1), (1, .int x1), (2, .int x2), (3, .int x3)]) (st1 := [.int (μ14.1 128), .ref P.1]) 2 rfl ?_
      refine me_put rfl rfl rfl ?_
      refine me_go (pc1 := 107) (lv1 := [(5, .int (μ14.1 110)), (4, .int (μ14.1 128)), (0, .ref P.1), (1, .int x1), (2, .int x2), (3, .int x3)]) (st1 := [.ref P.1]) 1 rfl ?_
      refine me_getf (v := .ref ((P.1, aa15, P.2.2).2.1 99)) rfl rfl rfl ?_
      refine me_go (pc1 := 115) (lv1 := [(5, .int (μ14.1 110)), (4, .int (μ14.1 128)), (0, .ref P.1), (1, .int x1), (2, .int x2), (3, .int x3)]) (st1 := [.int ((μ14.1 110) + 1), .int x3, .ref ((P.1, aa15, P.2.2).2.1 99)]) 4 rfl ?_
      have hi := h.1
      replace h := h.2
      refine me_iast rfl (g := 99) rfl rfl hi ?_
      refine me_go (pc1 := 117) (lv1 := [(5, .int (μ14.1 110)), (4, .int (μ14.1 128)), (0, .ref P.1), (1, .int x1), (2, .int x2), (3, .int x3)]) (st1 := [.ref P.1]) 1 rfl ?_
      refine me_callN rfl rfl rfl (h.mono (fun r20 μ20 h => ?_) (fun _ h => h))
      exact me_ret (v := none) (r := 0) rfl rfl rfl h
theorem v_empty_0 {X : ev_X} {W : Nat → Prop} {d : Nat} {P : MP} {μ : MS} {R : Int32 → MS → Prop} {T : MS → Prop} (x1 : Int32) (h : (MI x1 (μ.2.2 111) ∧ (MI x1 (μ.2.2 116) ∧ (MI x1 (μ.2.2 117) ∧ (MI x1 (μ.2.2 118) ∧ (MI x1 (μ.2.2 119) ∧ (MI x1 (μ.2.2 120) ∧ (MI x1 (μ.2.2 121) ∧ (MI x1 (μ.2.2 122) ∧ (MI x1 (μ.2.2 122) ∧ (MI x1 (μ.2.2 123) ∧ (MI x1 (μ.2.2 124) ∧ R 0 (mA1 (mA1 (mA1 (mA1 (mA1 (mA1 (mA1 (mA1 (mA1 (mA1 μ 111 x1.toNatClampNeg 0) 116 x1.toNatClampNeg 0) 117 x1.toNatClampNeg 0) 118 x1.toNatClampNeg (-1)) 119 x1.toNatClampNeg 0) 120 x1.toNatClampNeg 0) 121 x1.toNatClampNeg 0) 122 x1.toNatClampNeg (26000 + (x1 * 3400))) 123 x1.toNatClampNeg (upd (μ.2.1 122) x1.toNatClampNeg (26000 + (x1 * 3400)) x1.toNatClampNeg)) 124 x1.toNatClampNeg 0))))))))))))) : ME X W true d 472 0 [(0, .ref P.1), (1, .int x1)] [] P μ R T := by
  refine me_go (pc1 := 1) (lv1 := [(0, .ref P.1), (1, .int x1)]) (st1 := [.ref P.1]) 1 rfl ?_
  refine me_getf (v := .ref (P.2.1 111)) rfl rfl rfl ?_
  refine me_go (pc1 := 6) (lv1 := [(0, .ref P.1), (1, .int x1)]) (st1 := [.int 0, .int x1, .ref (P.2.1 111)]) 2 rfl ?_
  have hi := h.1
  replace h := h.2
  refine me_iast rfl (g := 111) rfl rfl hi ?_
  refine me_go (pc1 := 8) (lv1 := [(0, .ref P.1), (1, .int x1)]) (st1 := [.ref P.1]) 1 rfl ?_
  refine me_getf (v := .ref (P.2.1 116)) rfl rfl rfl ?_
  refine me_go (pc1 := 13) (lv1 := [(0, .ref P.1), (1, .int x1)]) (st1 := [.int 0, .int x1, .ref (P.2.1 116)]) 2 rfl ?_
  have hi := h.1
  replace h := h.2
  refine me_iast rfl (g := 116) rfl rfl hi ?_
  refine me_go (pc1 := 15) (lv1 := [(0, .ref P.1), (1, .int x1)]) (st1 := [.ref P.1]) 1 rfl ?_
  refine me_getf (v := .ref (P.2.1 117)) rfl rfl rfl ?_
  refine me_go (pc1 := 20) (lv1 := [(0, .ref P.1), (1, .int x1)]) (st1 := [.int 0, .int x1, .ref (P.2.1 117)]) 2 rfl ?_
  have hi := h.1
  replace h := h.2
  refine me_iast rfl (g := 117) rfl rfl hi ?_
  refine me_go (pc1 := 22) (lv1 := [(0, .ref P.1), (1, .int x1)]) (st1 := [.ref P.1]) 1 rfl ?_
  refine me_getf (v := .ref (P.2.1 118)) rfl rfl rfl ?_
  refine me_go (pc1 := 27) (lv1 := [(0, .ref P.1), (1, .int x1)]) (st1 := [.int (-1), .int x1, .ref (P.2.1 118)]) 2 rfl ?_
  have hi := h.1
  replace h := h.2
  refine me_iast rfl (g := 118) rfl rfl hi ?_
  refine me_go (pc1 := 29) (lv1 := [(0, .ref P.1), (1, .int x1)]) (st1 := [.ref P.1]) 1 rfl ?_
  refine me_getf (v := .ref (P.2.1 119)) rfl rfl rfl ?_
  refine me_go (pc1 := 34) (lv1 := [(0, .ref P.1), (1, .int x1)]) (st1 := [.int 0, .int x1, .ref (P.2.1 119)]) 2 rfl ?_
  have hi := h.1
  replace h := h.2
  refine me_iast rfl (g := 119) rfl rfl hi ?_
  refine me_go (pc1 := 36) (lv1 := [(0, .ref P.1), (1, .int x1)]) (st1 := [.ref P.1]) 1 rfl ?_
  refine me_getf (v := .ref (P.2.1 120)) rfl rfl rfl ?_
  refine me_go (pc1 := 41) (lv1 := [(0, .ref P.1), (1, .int x1)]) (st1 := [.int 0, .int x1, .ref (P.2.1 120)]) 2 rfl ?_
  have hi := h.1
  replace h := h.2
  refine me_iast rfl (g := 120) rfl rfl hi ?_
  refine me_go (pc1 := 43) (lv1 := [(0, .ref P.1), (1, .int x1)]) (st1 := [.ref P.1]) 1 rfl ?_
  refine me_getf (v := .ref (P.2.1 121)) rfl rfl rfl ?_
  refine me_go (pc1 := 48) (lv1 := [(0, .ref P.1), (1, .int x1)]) (st1 := [.int 0, .int x1, .ref (P.2.1 121)]) 2 rfl ?_
  have hi := h.1
  replace h := h.2
  refine me_iast rfl (g := 121) rfl rfl hi ?_
  refine me_go (pc1 := 50) (lv1 := [(0, .ref P.1), (1, .int x1)]) (st1 := [.ref P.1]) 1 rfl ?_
  refine me_getf (v := .ref (P.2.1 122)) rfl rfl rfl ?_
  refine me_go (pc1 := 63) (lv1 := [(0, .ref P.1), (1, .int x1)]) (st1 := [.int (26000 + (x1 * 3400)), .int x1, .ref (P.2.1 122)]) 6 rfl ?_
  have hi := h.1
  replace h := h.2
  refine me_iast rfl (g := 122) rfl rfl hi ?_
  refine me_go (pc1 := 65) (lv1 := [(0, .ref P.1), (1, .int x1)]) (st1 := [.ref P.1]) 1 rfl ?_
  refine me_getf (v := .ref (P.2.1 123)) rfl rfl rfl ?_
  refine me_go (pc1 := 70) (lv1 := [(0, .ref P.1), (1, .int x1)]) (st1 := [.ref P.1, .int x1, .ref (P.2.1 123)]) 2 rfl ?_
  refine me_getf (v := .ref (P.2.1 122)) rfl rfl rfl ?_
  refine me_go (pc1 := 74) (lv1 := [(0, .ref P.1), (1, .int x1)]) (st1 := [.int x1, .ref (P.2.1 122), .int x1, .ref (P.2.1 123)]) 1 rfl ?_
  refine me_iald rfl (g := 122) rfl rfl h.1 ?_
  replace h := h.2
  have hi := h.1
  replace h := h.2
  refine me_iast rfl (g := 123) rfl rfl hi ?_
  refine me_go (pc1 := 77) (lv1 := [(0, .ref P.1), (1, .int x1)]) (st1 := [.ref P.1]) 1 rfl ?_
  refine me_getf (v := .ref (P.2.1 124)) rfl rfl rfl ?_
  refine me_go (pc1 := 82) (lv1 := [(0, .ref P.1), (1, .int x1)]) (st1 := [.int 0, .int x1, .ref (P.2.1 124)]) 2 rfl ?_
  have hi := h.1
  replace h := h.2
  refine me_iast rfl (g := 124) rfl rfl hi ?_
  exact me_ret (v := none) (r := 0) rfl rfl rfl h
theorem v_nextStatement_0 {X : ev_X} {W : Nat → Prop} {d : Nat} {P : MP} {μ : MS} {R : Int32 → MS → Prop} {T : MS → Prop}  (h : MC X W true d 447 [.ref P.1] P μ (fun r1 μ1 => (MI (r1 + 1) (μ1.2.2 125) ∧ (MI (μ1.2.1 125 ((r1 + 1)).toNatClampNeg) (μ1.2.2 27) ∧ (MI (r1 + 1) (μ1.2.2 125) ∧ R 0 (mA1 μ1 125 (((r1 + 1)).toNatClampNeg) (μ1.2.1 27 ((μ1.2.1 125 ((r1 + 1)).toNatClampNeg)).toNatClampNeg)))))) (fun _ => False)) : ME X W true d 473 0 [(0, .ref P.1)] [] P μ R T := by
  refine me_go (pc1 := 1) (lv1 := [(0, .ref P.1)]) (st1 := [.ref P.1]) 1 rfl ?_
  refine me_callN rfl rfl rfl (h.mono (fun r1 μ1 h => ?_) (fun _ h => h))
  refine me_go (pc1 := 6) (lv1 := [(1, .int r1), (0, .ref P.1)]) (st1 := [.ref P.1]) 2 rfl ?_
  refine me_getf (v := .ref (P.2.1 125)) rfl rfl rfl ?_
  refine me_go (pc1 := 13) (lv1 := [(1, .int r1), (0, .ref P.1)]) (st1 := [.ref P.1, .int (r1 + 1), .ref (P.2.1 125)]) 4 rfl ?_
  refine me_getf (v := .ref (P.2.1 27)) rfl rfl rfl ?_
  refine me_go (pc1 := 17) (lv1 := [(1, .int r1), (0, .ref P.1)]) (st1 := [.ref P.1, .ref (P.2.1 27), .int (r1 + 1), .ref (P.2.1 125)]) 1 rfl ?_
  refine me_getf (v := .ref (P.2.1 125)) rfl rfl rfl ?_
  refine me_go (pc1 := 23) (lv1 := [(1, .int r1), (0, .ref P.1)]) (st1 := [.int (r1 + 1), .ref (P.2.1 125), .ref (P.2.1 27), .int (r1 + 1), .ref (P.2.1 125)]) 3 rfl ?_
  refine me_iald rfl (g := 125) rfl rfl h.1 ?_
  replace h := h.2
  refine me_iald rfl (g := 27) rfl rfl h.1 ?_
  replace h := h.2
  have hi := h.1
  replace h := h.2
  refine me_iast rfl (g := 125) rfl rfl hi ?_
  exact me_ret (v := none) (r := 0) rfl rfl rfl h
theorem v_leaveCall_0 {X : ev_X} {W : Nat → Prop} {d : Nat} {P : MP} {μ : MS} {R : Int32 → MS → Prop} {T : MS → Prop}  (h : MC X W true d 447 [.ref P.1] P μ (fun r1 μ1 => (MI (r1 + 3) (μ1.2.2 125) ∧ (MI (μ1.1 128) (μ1.2.2 120) ∧ (MI (μ1.1 128) (μ1.2.2 120) ∧ (MI (μ1.1 128) (μ1.2.2 121) ∧ (MI (μ1.2.1 125 ((r1 + 3)).toNatClampNeg) (μ1.2.2 95) ∧ (MI (μ1.1 128) (μ1.2.2 121) ∧ (MI (r1 + 5) (μ1.2.2 125) ∧ (MI (μ1.1 128) (μ1.2.2 123) ∧ (MI (r1 + 2) (μ1.2.2 125) ∧ (MI (μ1.1 128) (μ1.2.2 122) ∧ MC X W true d 450 [.ref P.1] P (mA1 (mA1 (mA1 (mA1 μ1 120 (((μ1.1 128)).toNatClampNeg) ((μ1.2.1 120 ((μ1.1 128)).toNatClampNeg) - 1)) 121 (((μ1.1 128)).toNatClampNeg) ((μ1.2.1 121 ((μ1.1 128)).toNatClampNeg) - (μ1.2.1 95 ((μ1.2.1 125 ((r1 + 3)).toNatClampNeg)).toNatClampNeg))) 123 (((μ1.1 128)).toNatClampNeg) (μ1.2.1 125 ((r1 + 5)).toNatClampNeg)) 122 (((μ1.1 128)).toNatClampNeg) (μ1.2.1 125 ((r1 + 2)).toNatClampNeg)) (fun r2 μ2 => R r1 μ2) (fun _ => False)))))))))))) (fun _ => False)) : ME X W true d 474 0 [(0, .ref P.1)] [] P μ R T := by
  refine me_go (pc1 := 1) (lv1 := [(0, .ref P.1)]) (st1 := [.ref P.1]) 1 rfl ?_
  refine me_callN rfl rfl rfl (h.mono (fun r1 μ1 h => ?_) (fun _ h => h))
  refine me_go (pc1 := 6) (lv1 := [(1, .int r1), (0, .ref P.1)]) (st1 := [.ref P.1]) 2 rfl ?_
  refine me_getf (v := .ref (P.2.1 125)) rfl rfl rfl ?_
  refine me_go (pc1 := 12) (lv1 := [(1, .int r1), (0, .ref P.1)]) (st1 := [.int (r1 + 3), .ref (P.2.1 125)]) 3 rfl ?_
  refine me_iald rfl (g := 125) rfl rfl h.1 ?_
  replace h := h.2
  refine me_go (pc1 := 15) (lv1 := [(2, .int (μ1.2.1 125 ((r1 + 3)).toNatClampNeg)), (1, .int r1), (0, .ref P.1)]) (st1 := [.ref P.1]) 2 rfl ?_
  refine me_getf (v := .ref (P.2.1 120)) rfl rfl rfl ?_
  refine me_go (pc1 := 19) (lv1 := [(2, .int (μ1.2.1 125 ((r1 + 3)).toNatClampNeg)), (1, .int r1), (0, .ref P.1)]) (st1 := [.ref P.1, .ref (P.2.1 120)]) 1 rfl ?_
  refine me_getf (v := .int (μ1.1 128)) rfl rfl rfl ?_
  refine me_go (pc1 := 23) (lv1 := [(2, .int (μ1.2.1 125 ((r1 + 3)).toNatClampNeg)), (1, .int r1), (0, .ref P.1)]) (st1 := [.int (μ1.1 128), .ref (P.2.1 120), .int (μ1.1 128), .ref (P.2.1 120)]) 1 rfl ?_
  refine me_iald rfl (g := 120) rfl rfl h.1 ?_
  replace h := h.2
  refine me_go (pc1 := 26) (lv1 := [(2, .int (μ1.2.1 125 ((r1 + 3)).toNatClampNeg)), (1, .int r1), (0, .ref P.1)]) (st1 := [.int ((μ1.2.1 120 ((μ1.1 128)).toNatClampNeg) - 1), .int (μ1.1 128), .ref (P.2.1 120)]) 2 rfl ?_
  have hi := h.1
  replace h := h.2
  refine me_iast rfl (g := 120) rfl rfl hi ?_
  refine me_go (pc1 := 28) (lv1 := [(2, .int (μ1.2.1 125 ((r1 + 3)).toNatClampNeg)), (1, .int r1), (0, .ref P.1)]) (st1 := [.ref P.1]) 1 rfl ?_
  refine me_getf (v := .ref (P.2.1 121)) rfl rfl rfl ?_
  refine me_go (pc1 := 32) (lv1 := [(2, .int (μ1.2.1 125 ((r1 + 3)).toNatClampNeg)), (1, .int r1), (0, .ref P.1)]) (st1 := [.ref P.1, .ref (P.2.1 121)]) 1 rfl ?_
  refine me_getf (v := .int (μ1.1 128)) rfl rfl rfl ?_
  refine me_go (pc1 := 36) (lv1 := [(2, .int (μ1.2.1 125 ((r1 + 3)).toNatClampNeg)), (1, .int r1), (0, .ref P.1)]) (st1 := [.int (μ1.1 128), .ref (P.2.1 121), .int (μ1.1 128), .ref (P.2.1 121)]) 1 rfl ?_
  refine me_iald rfl (g := 121) rfl rfl h.1 ?_
  replace h := h.2
  refine me_go (pc1 := 38) (lv1 := [(2, .int (μ1.2.1 125 ((r1 + 3)).toNatClampNeg)), (1, .int r1), (0, .ref P.1)]) (st1 := [.ref P.1, .int (μ1.2.1 121 ((μ1.1 128)).toNatClampNeg), .int (μ1.1 128), .ref (P.2.1 121)]) 1 rfl ?_
  refine me_getf (v := .ref (P.2.1 95)) rfl rfl rfl ?_
  refine me_go (pc1 := 42) (lv1 := [(2, .int (μ1.2.1 125 ((r1 + 3)).toNatClampNeg)), (1, .int r1), (0, .ref P.1)]) (st1 := [.int (μ1.2.1 125 ((r1 + 3)).toNatClampNeg), .ref (P.2.1 95), .int (μ1.2.1 121 ((μ1.1 128)).toNatClampNeg), .int (μ1.1 128), .ref (P.2.1 121)]) 1 rfl ?_
  refine me_iald rfl (g := 95) rfl rfl h.1 ?_
  replace h := h.2
  refine me_go (pc1 := 44) (lv1 := [(2, .int (μ1.2.1 125 ((r1 + 3)).toNatClampNeg)), (1, .int r1), (0, .ref P.1)]) (st1 := [.int ((μ1.2.1 121 ((μ1.1 128)).toNatClampNeg) - (μ1.2.1 95 ((μ1.2.1 125 ((r1 + 3)).toNatClampNeg)).toNatClampNeg)), .int (μ1.1 128), .ref (P.2.1 121)]) 1 rfl ?_
  have hi := h.1
  replace h := h.2
  refine me_iast rfl (g := 121) rfl rfl hi ?_
  refine me_go (pc1 := 46) (lv1 := [(2, .int (μ1.2.1 125 ((r1 + 3)).toNatClampNeg)), (1, .int r1), (0, .ref P.1)]) (st1 := [.ref P.1]) 1 rfl ?_
  refine me_getf (v := .ref (P.2.1 123)) rfl rfl rfl ?_
  refine me_go (pc1 := 50) (lv1 := [(2, .int (μ1.2.1 125 ((r1 + 3)).toNatClampNeg)), (1, .int r1), (0, .ref P.1)]) (st1 := [.ref P.1, .ref (P.2.1 123)]) 1 rfl ?_
  refine me_getf (v := .int (μ1.1 128)) rfl rfl rfl ?_
  refine me_go (pc1 := 54) (lv1 := [(2, .int (μ1.2.1 125 ((r1 + 3)).toNatClampNeg)), (1, .int r1), (0, .ref P.1)]) (st1 := [.ref P.1, .int (μ1.1 128), .ref (P.2.1 123)]) 1 rfl ?_
  refine me_getf (v := .ref (P.2.1 125)) rfl rfl rfl ?_
  refine me_go (pc1 := 60) (lv1 := [(2, .int (μ1.2.1 125 ((r1 + 3)).toNatClampNeg)), (1, .int r1), (0, .ref P.1)]) (st1 := [.int (r1 + 5), .ref (P.2.1 125), .int (μ1.1 128), .ref (P.2.1 123)]) 3 rfl ?_
  refine me_iald rfl (g := 125) rfl rfl h.1 ?_
  replace h := h.2
  have hi := h.1
  replace h := h.2
  refine me_iast rfl (g := 123) rfl rfl hi ?_
  refine me_go (pc1 := 63) (lv1 := [(2, .int (μ1.2.1 125 ((r1 + 3)).toNatClampNeg)), (1, .int r1), (0, .ref P.1)]) (st1 := [.ref P.1]) 1 rfl ?_
  refine me_getf (v := .ref (P.2.1 122)) rfl rfl rfl ?_
  refine me_go (pc1 := 67) (lv1 := [(2, .int (μ1.2.1 125 ((r1 + 3)).toNatClampNeg)), (1, .int r1), (0, .ref P.1)]) (st1 := [.ref P.1, .ref (P.2.1 122)]) 1 rfl ?_
  refine me_getf (v := .int (μ1.1 128)) rfl rfl rfl ?_
  refine me_go (pc1 := 71) (lv1 := [(2, .int (μ1.2.1 125 ((r1 + 3)).toNatClampNeg)), (1, .int r1), (0, .ref P.1)]) (st1 := [.ref P.1, .int (μ1.1 128), .ref (P.2.1 122)]) 1 rfl ?_
  refine me_getf (v := .ref (P.2.1 125)) rfl rfl rfl ?_
  refine me_go (pc1 := 77) (lv1 := [(2, .int (μ1.2.1 125 ((r1 + 3)).toNatClampNeg)), (1, .int r1), (0, .ref P.1)]) (st1 := [.int (r1 + 2), .ref (P.2.1 125), .int (μ1.1 128), .ref (P.2.1 122)]) 3 rfl ?_
  refine me_iald rfl (g := 125) rfl rfl h.1 ?_
  replace h := h.2
  have hi := h.1
  replace h := h.2
  refine me_iast rfl (g := 122) rfl rfl hi ?_
  refine me_go (pc1 := 80) (lv1 := [(2, .int (μ1.2.1 125 ((r1 + 3)).toNatClampNeg)), (1, .int r1), (0, .ref P.1)]) (st1 := [.ref P.1]) 1 rfl ?_
  refine me_callN rfl rfl rfl (h.mono (fun r2 μ2 h => ?_) (fun _ h => h))
  refine me_go (pc1 := 84) (lv1 := [(2, .int (μ1.2.1 125 ((r1 + 3)).toNatClampNeg)), (1, .int r1), (0, .ref P.1)]) (st1 := [.int r1]) 1 rfl ?_
  exact me_ret rfl rfl rfl h
theorem v_release_0 {X : ev_X} {W : Nat → Prop} {d : Nat} {P : MP} {μ : MS} {R : Int32 → MS → Prop} {T : MS → Prop} (x1 : Int32) (h : (MI x1 (μ.2.2 108) ∧ R 0 (mA1 μ 108 x1.toNatClampNeg (-1)))) : ME X W true d 475 0 [(0, .ref P.1), (1, .int x1)] [] P μ R T := by
  refine me_go (pc1 := 1) (lv1 := [(0, .ref P.1), (1, .int x1)]) (st1 := [.ref P.1]) 1 rfl ?_
  refine me_getf (v := .ref (P.2.1 108)) rfl rfl rfl ?_
  refine me_go (pc1 := 6) (lv1 := [(0, .ref P.1), (1, .int x1)]) (st1 := [.int (-1), .int x1, .ref (P.2.1 108)]) 2 rfl ?_
  have hi := h.1
  replace h := h.2
  refine me_iast rfl (g := 108) rfl rfl hi ?_
  exact me_ret (v := none) (r := 0) rfl rfl rfl h
theorem v_leave_0 {X : ev_X} {W : Nat → Prop} {d : Nat} {P : MP} {μ : MS} {R : Int32 → MS → Prop} {T : MS → Prop} (x1 : Int32) (x2 : Int32) (x3 : Int32) (x4 : Int32) (h : (MI (μ.1 128) (μ.2.2 124) ∧ (((μ.2.1 124 ((μ.1 128)).toNatClampNeg).toInt ≤ (0 : Int) → MC X W true d 479 [.ref P.1, .int 5, .int x4, .int x2, .int x3] P μ (fun r1 μ1 => R 0 μ1) (fun _ => False)) ∧ ((0 : Int) < (μ.2.1 124 ((μ.1 128)).toNatClampNeg).toInt → MC X W true d 447 [.ref P.1] P μ (fun r2 μ2 => (MI r2 (μ2.2.2 125) ∧ (MI (r2 + 1) (μ2.2.2 125) ∧ ((¬ (μ2.2.1 125 r2.toNatClampNeg) = 8 → ((¬ (μ2.2.1 125 r2.toNatClampNeg) = 6 → ((¬ (μ2.2.1 125 r2.toNatClampNeg) = 5 → ME X W true d 476 123 [(0, .ref P.1), (1, .int x1), (2, .int x2), (3, .int x3), (4, .int x4), (5, .int r2), (6, .int (μ2.2.1 125 r2.toNatClampNeg)), (7, .int (μ2.2.1 125 ((r2 + 1)).toNatClampNeg))] [] P μ2 R T) ∧ ((μ2.2.1 125 r2.toNatClampNeg) = 5 → ((¬ x1 = 1 → ME X W true d 476 123 [(0, .ref P.1), (1, .int x1), (2, .int x2), (3, .int x3), (4, .int x4), (5, .int r2), (6, .int (μ2.2.1 125 r2.toNatClampNeg)), (7, .int (μ2.2.1 125 ((r2 + 1)).toNatClampNeg))] [] P μ2 R T) ∧ (x1 = 1 → MC X W true d 477 [.ref P.1, .int (μ2.2.1 125 ((r2 + 1)).toNatClampNeg), .int x2, .int x3] P μ2 (fun r3 μ3 => ((r3 = 0 → ME X W true d 476 123 [(0, .ref P.1), (1, .int x1), (2, .int x2), (3, .int x3), (4, .int x4), (5, .int r2), (6, .int (μ2.2.1 125 r2.toNatClampNeg)), (7, .int (μ2.2.1 125 ((r2 + 1)).toNatClampNeg))] [] P μ3 R T) ∧ (¬ r3 = 0 → R 0 μ3))) (fun _ => False)))))) ∧ ((μ2.2.1 125 r2.toNatClampNeg) = 6 → MC X W true d 450 [.ref P.1] P μ2 (fun r4 μ4 => MC X W true d 448 [.ref P.1, .int 7, .int x1, .int x2, .int x3, .int x4, .int 0] P μ4 (fun r5 μ5 => (MI (μ2.2.1 125 ((r2 + 1)).toNatClampNeg) (μ5.2.2 23) ∧ MC X W true d 449 [.ref P.1, .int (μ5.2.1 23 ((μ2.2.1 125 ((r2 + 1)).toNatClampNeg)).toNatClampNeg)] P μ5 (fun r6 μ6 => R 0 μ6) (fun _ => False))) (fun _ => False)) (fun _ => False)))) ∧ ((μ2.2.1 125 r2.toNatClampNeg) = 8 → (MI (r2 + 2) (μ2.2.2 125) ∧ MC X W true d 475 [.ref P.1, .int (μ2.2.1 125 ((r2 + 2)).toNatClampNeg)] P μ2 (fun r7 μ7 => MC X W true d 450 [.ref P.1] P μ7 (fun r8 μ8 => ME X W true d 476 183 [(0, .ref P.1), (1, .int x1), (2, .int x2), (3, .int x3), (4, .int x4), (5, .int r2), (6, .int (μ2.2.1 125 r2.toNatClampNeg)), (7, .int (μ2.2.1 125 ((r2 + 1)).toNatClampNeg))] [] P μ8 R T) (fun _ => False)) (fun _ => False))))))) (fun _ => False))))) : ME X W true d 476 0 [(0, .ref P.1), (1, .int x1), (2, .int x2), (3, .int x3), (4, .int x4)] [] P μ R T := by
  refine me_go (pc1 := 1) (lv1 := [(0, .ref P.1), (1, .int x1), (2, .int x2), (3, .int x3), (4, .int x4)]) (st1 := [.ref P.1]) 1 rfl ?_
  refine me_getf (v := .ref (P.2.1 124)) rfl rfl rfl ?_
  refine me_go (pc1 := 5) (lv1 := [(0, .ref P.1), (1, .int x1), (2, .int x2), (3, .int x3), (4, .int x4)]) (st1 := [.ref P.1, .ref (P.2.1 124)]) 1 rfl ?_
  refine me_getf (v := .int (μ.1 128)) rfl rfl rfl ?_
  refine me_iald rfl (g := 124) rfl rfl h.1 ?_
  replace h := h.2
  refine me_ifc rfl rfl (fun c => ?_) (fun c => ?_)
  · replace h := h.1 (ci_le c)
    refine me_go (pc1 := 192) (lv1 := [(0, .ref P.1), (1, .int x1), (2, .int x2), (3, .int x3), (4, .int x4)]) (st1 := [.int x3, .int x2, .int x4, .int 5, .ref P.1]) 5 rfl ?_
    refine me_callN rfl rfl rfl (h.mono (fun r1 μ1 h => ?_) (fun _ h => h))
    exact me_ret (v := none) (r := 0) rfl rfl rfl h
  · replace h := h.2 (cn_le c)
    refine me_go (pc1 := 13) (lv1 := [(0, .ref P.1), (1, .int x1), (2, .int x2), (3, .int x3), (4, .int x4)]) (st1 := [.ref P.1]) 1 rfl ?_
    refine me_callN rfl rfl rfl (h.mono (fun r2 μ2 h => ?_) (fun _ h => h))
    refine me_go (pc1 := 19) (lv1 := [(5, .int r2), (0, .ref P.1), (1, .int x1), (2, .int x2), (3, .int x3), (4, .int x4)]) (st1 := [.ref P.1]) 2 rfl ?_
    refine me_getf (v := .ref (P.2.1 125)) rfl rfl rfl ?_
    refine me_go (pc1 := 24) (lv1 := [(5, .int r2), (0, .ref P.1), (1, .int x1), (2, .int x2), (3, .int x3), (4, .int x4)]) (st1 := [.int r2, .ref (P.2.1 125)]) 1 rfl ?_
    refine me_iald rfl (g := 125) rfl rfl h.1 ?_
    replace h := h.2
    refine me_go (pc1 := 28) (lv1 := [(6, .int (μ2.2.1 125 r2.toNatClampNeg)), (5, .int r2), (0, .ref P.1), (1, .int x1), (2, .int x2), (3, .int x3), (4, .int x4)]) (st1 := [.ref P.1]) 2 rfl ?_
    refine me_getf (v := .ref (P.2.1 125)) rfl rfl rfl ?_
    refine me_go (pc1 := 35) (lv1 := [(6, .int (μ2.2.1 125 r2.toNatClampNeg)), (5, .int r2), (0, .ref P.1), (1, .int x1), (2, .int x2), (3, .int x3), (4, .int x4)]) (st1 := [.int (r2 + 1), .ref (P.2.1 125)]) 3 rfl ?_
    refine me_iald rfl (g := 125) rfl rfl h.1 ?_
    replace h := h.2
    refine me_go (pc1 := 42) (lv1 := [(7, .int (μ2.2.1 125 ((r2 + 1)).toNatClampNeg)), (6, .int (μ2.2.1 125 r2.toNatClampNeg)), (5, .int r2), (0, .ref P.1), (1, .int x1), (2, .int x2), (3, .int x3), (4, .int x4)]) (st1 := [.int 8, .int (μ2.2.1 125 r2.toNatClampNeg)]) 3 rfl ?_
    refine me_icmp rfl rfl (fun c => ?_) (fun c => ?_)
    · replace h := h.1 (ci_ne c)
      refine me_go (pc1 := 69) (lv1 := [(7, .int (μ2.2.1 125 ((r2 + 1)).toNatClampNeg)), (6, .int (μ2.2.1 125 r2.toNatClampNeg)), (5, .int r2), (0, .ref P.1), (1, .int x1), (2, .int x2), (3, .int x3), (4, .int x4)]) (st1 := [.int 6, .int (μ2.2.1 125 r2.toNatClampNeg)]) 2 rfl ?_
      refine me_icmp rfl rfl (fun c => ?_) (fun c => ?_)
      · replace h := h.1 (ci_ne c)
        refine me_go (pc1 := 103) (lv1 := [(7, .int (μ2.2.1 125 ((r2 + 1)).toNatClampNeg)), (6, .int (μ2.2.1 125 r2.toNatClampNeg)), (5, .int r2), (0, .ref P.1), (1, .int x1), (2, .int x2), (3, .int x3), (4, .int x4)]) (st1 := [.int 5, .int (μ2.2.1 125 r2.toNatClampNeg)]) 2 rfl ?_
        refine me_icmp rfl rfl (fun c => ?_) (fun c => ?_)
        · replace h := h.1 (ci_ne c)
          refine me_lv [(0, .ref P.1), (1, .int x1), (2, .int x2), (3, .int x3), (4, .int x4), (5, .int r2), (6, .int (μ2.2.1 125 r2.toNatClampNeg)), (7, .int (μ2.2.1 125 ((r2 + 1)).toNatClampNeg))] (fl_c rfl (fl_c rfl (fl_c rfl (fl_c rfl (fl_c rfl (fl_c rfl (fl_c rfl (fl_c rfl fl_0)))))))) ?_
          exact h
        · replace h := h.2 (cn_ne c)
          refine me_go (pc1 := 108) (lv1 := [(7, .int (μ2.2.1 125 ((r2 + 1)).toNatClampNeg)), (6, .int (μ2.2.1 125 r2.toNatClampNeg)), (5, .int r2), (0, .ref P.1), (1, .int x1), (2, .int x2), (3, .int x3), (4, .int x4)]) (st1 := [.int 1, .int x1]) 2 rfl ?_
          refine me_icmp rfl rfl (fun c => ?_) (fun c => ?_)
          · replace h := h.1 (ci_ne c)
            refine me_lv [(0, .ref P.1), (1, .int x1), (2, .int x2), (3, .int x3), (4, .int x4), (5, .int r2), (6, .int (μ2.2.1 125 r2.toNatClampNeg)), (7, .int (μ2.2.1 125 ((r2 + 1)).toNatClampNeg))] (fl_c rfl (fl_c rfl (fl_c rfl (fl_c rfl (fl_c rfl (fl_c rfl (fl_c rfl (fl_c rfl fl_0)))))))) ?_
            exact h
          · replace h := h.2 (cn_ne c)
            refine me_go (pc1 := 116) (lv1 := [(7, .int (μ2.2.1 125 ((r2 + 1)).toNatClampNeg)), (6, .int (μ2.2.1 125 r2.toNatClampNeg)), (5, .int r2), (0, .ref P.1), (1, .int x1), (2, .int x2), (3, .int x3), (4, .int x4)]) (st1 := [.int x3, .int x2, .int (μ2.2.1 125 ((r2 + 1)).toNatClampNeg), .ref P.1]) 4 rfl ?_
            refine me_callN rfl rfl rfl (h.mono (fun r3 μ3 h => ?_) (fun _ h => h))
            refine me_ifc rfl rfl (fun c => ?_) (fun c => ?_)
            · replace h := h.1 (ci_eq c)
              refine me_lv [(0, .ref P.1), (1, .int x1), (2, .int x2), (3, .int x3), (4, .int x4), (5, .int r2), (6, .int (μ2.2.1 125 r2.toNatClampNeg)), (7, .int (μ2.2.1 125 ((r2 + 1)).toNatClampNeg))] (fl_c rfl (fl_c rfl (fl_c rfl (fl_c rfl (fl_c rfl (fl_c rfl (fl_c rfl (fl_c rfl fl_0)))))))) ?_
              exact h
            · replace h := h.2 (cn_eq c)
              exact me_ret (v := none) (r := 0) rfl rfl rfl h
      · replace h := h.2 (cn_ne c)
        refine me_go (pc1 := 73) (lv1 := [(7, .int (μ2.2.1 125 ((r2 + 1)).toNatClampNeg)), (6, .int (μ2.2.1 125 r2.toNatClampNeg)), (5, .int r2), (0, .ref P.1), (1, .int x1), (2, .int x2), (3, .int x3), (4, .int x4)]) (st1 := [.ref P.1]) 1 rfl ?_
        refine me_callN rfl rfl rfl (h.mono (fun r4 μ4 h => ?_) (fun _ h => h))
        refine me_go (pc1 := 85) (lv1 := [(7, .int (μ2.2.1 125 ((r2 + 1)).toNatClampNeg)), (6, .int (μ2.2.1 125 r2.toNatClampNeg)), (5, .int r2), (0, .ref P.1), (1, .int x1), (2, .int x2), (3, .int x3), (4, .int x4)]) (st1 := [.int 0, .int x4, .int x3, .int x2, .int x1, .int 7, .ref P.1]) 7 rfl ?_
        refine me_callN rfl rfl rfl (h.mono (fun r5 μ5 h => ?_) (fun _ h => h))
        refine me_go (pc1 := 90) (lv1 := [(7, .int (μ2.2.1 125 ((r2 + 1)).toNatClampNeg)), (6, .int (μ2.2.1 125 r2.toNatClampNeg)), (5, .int r2), (0, .ref P.1), (1, .int x1), (2, .int x2), (3, .int x3), (4, .int x4)]) (st1 := [.ref P.1, .ref P.1]) 2 rfl ?_
        refine me_getf (v := .ref (P.2.1 23)) rfl rfl rfl ?_
        refine me_go (pc1 := 95) (lv1 := [(7, .int (μ2.2.1 125 ((r2 + 1)).toNatClampNeg)), (6, .int (μ2.2.1 125 r2.toNatClampNeg)), (5, .int r2), (0, .ref P.1), (1, .int x1), (2, .int x2), (3, .int x3), (4, .int x4)]) (st1 := [.int (μ2.2.1 125 ((r2 + 1)).toNatClampNeg), .ref (P.2.1 23), .ref P.1]) 1 rfl ?_
        refine me_iald rfl (g := 23) rfl rfl h.1 ?_
        replace h := h.2
        refine me_callN rfl rfl rfl (h.mono (fun r6 μ6 h => ?_) (fun _ h => h))
        exact me_ret (v := none) (r := 0) rfl rfl rfl h
    · replace h := h.2 (cn_ne c)
      refine me_go (pc1 := 47) (lv1 := [(7, .int (μ2.2.1 125 ((r2 + 1)).toNatClampNeg)), (6, .int (μ2.2.1 125 r2.toNatClampNeg)), (5, .int r2), (0, .ref P.1), (1, .int x1), (2, .int x2), (3, .int x3), (4, .int x4)]) (st1 := [.ref P.1, .ref P.1]) 2 rfl ?_
      refine me_getf (v := .ref (P.2.1 125)) rfl rfl rfl ?_
      refine me_go (pc1 := 54) (lv1 := [(7, .int (μ2.2.1 125 ((r2 + 1)).toNatClampNeg)), (6, .int (μ2.2.1 125 r2.toNatClampNeg)), (5, .int r2), (0, .ref P.1), (1, .int x1), (2, .int x2), (3, .int x3), (4, .int x4)]) (st1 := [.int (r2 + 2), .ref (P.2.1 125), .ref P.1]) 3 rfl ?_
      refine me_iald rfl (g := 125) rfl rfl h.1 ?_
      replace h := h.2
      refine me_callN rfl rfl rfl (h.mono (fun r7 μ7 h => ?_) (fun _ h => h))
      refine me_go (pc1 := 59) (lv1 := [(7, .int (μ2.2.1 125 ((r2 + 1)).toNatClampNeg)), (6, .int (μ2.2.1 125 r2.toNatClampNeg)), (5, .int r2), (0, .ref P.1), (1, .int x1), (2, .int x2), (3, .int x3), (4, .int x4)]) (st1 := [.ref P.1]) 1 rfl ?_
      refine me_callN rfl rfl rfl (h.mono (fun r8 μ8 h => ?_) (fun _ h => h))
      refine me_go (pc1 := 183) (lv1 := [(7, .int (μ2.2.1 125 ((r2 + 1)).toNatClampNeg)), (6, .int (μ2.2.1 125 r2.toNatClampNeg)), (5, .int r2), (0, .ref P.1), (1, .int x1), (2, .int x2), (3, .int x3), (4, .int x4)]) (st1 := []) 1 rfl ?_
      refine me_lv [(0, .ref P.1), (1, .int x1), (2, .int x2), (3, .int x3), (4, .int x4), (5, .int r2), (6, .int (μ2.2.1 125 r2.toNatClampNeg)), (7, .int (μ2.2.1 125 ((r2 + 1)).toNatClampNeg))] (fl_c rfl (fl_c rfl (fl_c rfl (fl_c rfl (fl_c rfl (fl_c rfl (fl_c rfl (fl_c rfl fl_0)))))))) ?_
      exact h
theorem v_leave_123 {X : ev_X} {W : Nat → Prop} {d : Nat} {P : MP} {μ : MS} {R : Int32 → MS → Prop} {T : MS → Prop} (x1 : Int32) (x2 : Int32) (x3 : Int32) (x4 : Int32) (x5 : Int32) (x6 : Int32) (x7 : Int32) (h : ((¬ x6 = 4 → ME X W true d 476 140 [(0, .ref P.1), (1, .int x1), (2, .int x2), (3, .int x3), (4, .int x4), (5, .int x5), (6, .int x6), (7, .int x7)] [] P μ R T) ∧ (x6 = 4 → ((¬ x1 = 2 → ME X W true d 476 140 [(0, .ref P.1), (1, .int x1), (2, .int x2), (3, .int x3), (4, .int x4), (5, .int x5), (6, .int x6), (7, .int x7)] [] P μ R T) ∧ (x1 = 2 → MC X W true d 478 [.ref P.1, .int x3] P μ (fun r1 μ1 => R 0 μ1) T))))) : ME X W true d 476 123 [(0, .ref P.1), (1, .int x1), (2, .int x2), (3, .int x3), (4, .int x4), (5, .int x5), (6, .int x6), (7, .int x7)] [] P μ R T := by
  refine me_go (pc1 := 126) (lv1 := [(0, .ref P.1), (1, .int x1), (2, .int x2), (3, .int x3), (4, .int x4), (5, .int x5), (6, .int x6), (7, .int x7)]) (st1 := [.int 4, .int x6]) 2 rfl ?_
  refine me_icmp rfl rfl (fun c => ?_) (fun c => ?_)
  · replace h := h.1 (ci_ne c)
    exact h
  · replace h := h.2 (cn_ne c)
    refine me_go (pc1 := 131) (lv1 := [(0, .ref P.1), (1, .int x1), (2, .int x2), (3, .int x3), (4, .int x4), (5, .int x5), (6, .int x6), (7, .int x7)]) (st1 := [.int 2, .int x1]) 2 rfl ?_
    refine me_icmp rfl rfl (fun c => ?_) (fun c => ?_)
    · replace h := h.1 (ci_ne c)
      exact h
    · replace h := h.2 (cn_ne c)
      refine me_go (pc1 := 136) (lv1 := [(0, .ref P.1), (1, .int x1), (2, .int x2), (3, .int x3), (4, .int x4), (5, .int x5), (6, .int x6), (7, .int x7)]) (st1 := [.int x3, .ref P.1]) 2 rfl ?_
      refine me_call rfl rfl rfl rfl (h.mono (fun r1 μ1 h => ?_) (fun _ h => h))
      exact me_ret (v := none) (r := 0) rfl rfl rfl h
theorem v_leave_140 {X : ev_X} {W : Nat → Prop} {d : Nat} {P : MP} {μ : MS} {R : Int32 → MS → Prop} {T : MS → Prop} (x1 : Int32) (x2 : Int32) (x3 : Int32) (x4 : Int32) (x5 : Int32) (x6 : Int32) (x7 : Int32) (h : ((¬ x6 = 4 → MC X W true d 450 [.ref P.1] P μ (fun r1 μ1 => ((¬ x1 = 3 → ME X W true d 476 183 [(0, .ref P.1), (1, .int x1), (2, .int x2), (3, .int x3), (4, .int x4), (5, .int x5), (6, .int x6), (7, .int x7)] [] P μ1 R T) ∧ (x1 = 3 → ((x6 = 1 → ME X W true d 476 182 [(0, .ref P.1), (1, .int x1), (2, .int x2), (3, .int x3), (4, .int x4), (5, .int x5), (6, .int x6), (7, .int x7)] [] P μ1 R T) ∧ (¬ x6 = 1 → ((x6 = 2 → ME X W true d 476 182 [(0, .ref P.1), (1, .int x1), (2, .int x2), (3, .int x3), (4, .int x4), (5, .int x5), (6, .int x6), (7, .int x7)] [] P μ1 R T) ∧ (¬ x6 = 2 → ((¬ x6 = 3 → ME X W true d 476 183 [(0, .ref P.1), (1, .int x1), (2, .int x2), (3, .int x3), (4, .int x4), (5, .int x5), (6, .int x6), (7, .int x7)] [] P μ1 R T) ∧ (x6 = 3 → ME X W true d 476 182 [(0, .ref P.1), (1, .int x1), (2, .int x2), (3, .int x3), (4, .int x4), (5, .int x5), (6, .int x6), (7, .int x7)] [] P μ1 R T))))))))) (fun _ => False)) ∧ (x6 = 4 → MC X W true d 474 [.ref P.1] P μ (fun r2 μ2 => ME X W true d 476 183 [(0, .ref P.1), (1, .int x1), (2, .int x2), (3, .int x3), (4, .int x4), (5, .int x5), (6, .int x6), (7, .int x7)] [] P μ2 R T) (fun _ => False)))) : ME X W true d 476 140 [(0, .ref P.1), (1, .int x1), (2, .int x2), (3, .int x3), (4, .int x4), (5, .int x5), (6, .int x6), (7, .int x7)] [] P μ R T := by
  refine me_go (pc1 := 143) (lv1 := [(0, .ref P.1), (1, .int x1), (2, .int x2), (3, .int x3), (4, .int x4), (5, .int x5), (6, .int x6), (7, .int x7)]) (st1 := [.int 4, .int x6]) 2 rfl ?_
  refine me_icmp rfl rfl (fun c => ?_) (fun c => ?_)
  · replace h := h.1 (ci_ne c)
    refine me_go (pc1 := 156) (lv1 := [(0, .ref P.1), (1, .int x1), (2, .int x2), (3, .int x3), (4, .int x4), (5, .int x5), (6, .int x6), (7, .int x7)]) (st1 := [.ref P.1]) 1 rfl ?_
    refine me_callN rfl rfl rfl (h.mono (fun r1 μ1 h => ?_) (fun _ h => h))
    refine me_go (pc1 := 161) (lv1 := [(0, .ref P.1), (1, .int x1), (2, .int x2), (3, .int x3), (4, .int x4), (5, .int x5), (6, .int x6), (7, .int x7)]) (st1 := [.int 3, .int x1]) 2 rfl ?_
    refine me_icmp rfl rfl (fun c => ?_) (fun c => ?_)
    · replace h := h.1 (ci_ne c)
      exact h
    · replace h := h.2 (cn_ne c)
      refine me_go (pc1 := 167) (lv1 := [(0, .ref P.1), (1, .int x1), (2, .int x2), (3, .int x3), (4, .int x4), (5, .int x5), (6, .int x6), (7, .int x7)]) (st1 := [.int 1, .int x6]) 2 rfl ?_
      refine me_icmp rfl rfl (fun c => ?_) (fun c => ?_)
      · replace h := h.1 (ci_eq c)
        exact h
      · replace h := h.2 (cn_eq c)
        refine me_go (pc1 := 173) (lv1 := [(0, .ref P.1), (1, .int x1), (2, .int x2), (3, .int x3), (4, .int x4), (5, .int x5), (6, .int x6), (7, .int x7)]) (st1 := [.int 2, .int x6]) 2 rfl ?_
        refine me_icmp rfl rfl (fun c => ?_) (fun c => ?_)
        · replace h := h.1 (ci_eq c)
          exact h
        · replace h := h.2 (cn_eq c)
          refine me_go (pc1 := 179) (lv1 := [(0, .ref P.1), (1, .int x1), (2, .int x2), (3, .int x3), (4, .int x4), (5, .int x5), (6, .int x6), (7, .int x7)]) (st1 := [.int 3, .int x6]) 2 rfl ?_
          refine me_icmp rfl rfl (fun c => ?_) (fun c => ?_)
          · replace h := h.1 (ci_ne c)
            exact h
          · replace h := h.2 (cn_ne c)
            exact h
  · replace h := h.2 (cn_ne c)
    refine me_go (pc1 := 147) (lv1 := [(0, .ref P.1), (1, .int x1), (2, .int x2), (3, .int x3), (4, .int x4), (5, .int x5), (6, .int x6), (7, .int x7)]) (st1 := [.ref P.1]) 1 rfl ?_
    refine me_callN rfl rfl rfl (h.mono (fun r2 μ2 h => ?_) (fun _ h => h))
    refine me_go (pc1 := 183) (lv1 := [(8, .int r2), (0, .ref P.1), (1, .int x1), (2, .int x2), (3, .int x3), (4, .int x4), (5, .int x5), (6, .int x6), (7, .int x7)]) (st1 := []) 2 rfl ?_
    refine me_lv [(0, .ref P.1), (1, .int x1), (2, .int x2), (3, .int x3), (4, .int x4), (5, .int x5), (6, .int x6), (7, .int x7)] (fl_c rfl (fl_c rfl (fl_c rfl (fl_c rfl (fl_c rfl (fl_c rfl (fl_c rfl (fl_c rfl fl_0)))))))) ?_
    exact h
theorem v_leave_182 {X : ev_X} {W : Nat → Prop} {d : Nat} {P : MP} {μ : MS} {R : Int32 → MS → Prop} {T : MS → Prop} (x1 : Int32) (x2 : Int32) (x3 : Int32) (x4 : Int32) (x5 : Int32) (x6 : Int32) (x7 : Int32) (h : R 0 μ) : ME X W true d 476 182 [(0, .ref P.1), (1, .int x1), (2, .int x2), (3, .int x3), (4, .int x4), (5, .int x5), (6, .int x6), (7, .int x7)] [] P μ R T := by
  exact me_ret (v := none) (r := 0) rfl rfl rfl h
theorem v_leave_183 {X : ev_X} {W : Nat → Prop} {d : Nat} {P : MP} {μ : MS} {R : Int32 → MS → Prop} {T : MS → Prop} (x1 : Int32) (x2 : Int32) (x3 : Int32) (x4 : Int32) (x5 : Int32) (x6 : Int32) (x7 : Int32) (h : ME X W true d 476 0 [(0, .ref P.1), (1, .int x1), (2, .int x2), (3, .int x3), (4, .int x4)] [] P μ R T) : ME X W true d 476 183 [(0, .ref P.1), (1, .int x1), (2, .int x2), (3, .int x3), (4, .int x4), (5, .int x5), (6, .int x6), (7, .int x7)] [] P μ R T := by
  refine me_go (pc1 := 0) (lv1 := [(0, .ref P.1), (1, .int x1), (2, .int x2), (3, .int x3), (4, .int x4), (5, .int x5), (6, .int x6), (7, .int x7)]) (st1 := []) 1 rfl ?_
  refine me_lv [(0, .ref P.1), (1, .int x1), (2, .int x2), (3, .int x3), (4, .int x4)] (fl_c rfl (fl_c rfl (fl_c rfl (fl_c rfl (fl_c rfl fl_0))))) ?_
  exact h
theorem v_catches_0 {X : ev_X} {W : Nat → Prop} {d : Nat} {P : MP} {μ : MS} {R : Int32 → MS → Prop} {T : MS → Prop} (x1 : Int32) (x2 : Int32) (x3 : Int32) (h : MC X W true d 431 [.ref P.1, .int x1, .int x2] P μ (fun r1 μ1 => (((0 : Int) ≤ r1.toInt → MC X W true d 450 [.ref P.1] P μ1 (fun r2 μ2 => ((r1.toInt < (0 : Int) → ((r1.toInt < (0 : Int) → (MI x1 (μ2.2.2 24) ∧ MC X W true d 449 [.ref P.1, .int (μ2.2.1 24 x1.toNatClampNeg)] P μ2 (fun r3 μ3 => R 1 μ3) (fun _ => False))) ∧ ((0 : Int) ≤ r1.toInt → (MI r1 (μ2.2.2 24) ∧ MC X W true d 449 [.ref P.1, .int (μ2.2.1 24 r1.toNatClampNeg)] P μ2 (fun r4 μ4 => R 1 μ4) (fun _ => False))))) ∧ ((0 : Int) ≤ r1.toInt → (MI (μ2.1 128) (μ2.2.2 122) ∧ (MI r1 (μ2.2.2 23) ∧ (MI (μ2.2.1 23 r1.toNatClampNeg) (μ2.2.2 28) ∧ (MI (μ2.2.1 28 ((μ2.2.1 23 r1.toNatClampNeg)).toNatClampNeg) (μ2.2.2 55) ∧ (MI ((μ2.2.1 122 ((μ2.1 128)).toNatClampNeg) + (μ2.2.1 55 ((μ2.2.1 28 ((μ2.2.1 23 r1.toNatClampNeg)).toNatClampNeg)).toNatClampNeg)) (μ2.2.2 99) ∧ ((r1.toInt < (0 : Int) → (MI x1 (μ2.2.2 24) ∧ MC X W true d 449 [.ref P.1, .int (μ2.2.1 24 x1.toNatClampNeg)] P (mA1 μ2 99 ((((μ2.2.1 122 ((μ2.1 128)).toNatClampNeg) + (μ2.2.1 55 ((μ2.2.1 28 ((μ2.2.1 23 r1.toNatClampNeg)).toNatClampNeg)).toNatClampNeg))).toNatClampNeg) x3) (fun r5 μ5 => R 1 μ5) (fun _ => False))) ∧ ((0 : Int) ≤ r1.toInt → (MI r1 (μ2.2.2 24) ∧ MC X W true d 449 [.ref P.1, .int (μ2.2.1 24 r1.toNatClampNeg)] P (mA1 μ2 99 ((((μ2.2.1 122 ((μ2.1 128)).toNatClampNeg) + (μ2.2.1 55 ((μ2.2.1 28 ((μ2.2.1 23 r1.toNatClampNeg)).toNatClampNeg)).toNatClampNeg))).toNatClampNeg) x3) (fun r6 μ6 => R 1 μ6) (fun _ => False)))))))))))) (fun _ => False)) ∧ (r1.toInt < (0 : Int) → (MI x1 (μ1.2.2 25) ∧ ((¬ (μ1.2.1 25 x1.toNatClampNeg) = 0 → MC X W true d 450 [.ref P.1] P μ1 (fun r7 μ7 => ((r1.toInt < (0 : Int) → ((r1.toInt < (0 : Int) → (MI x1 (μ7.2.2 24) ∧ MC X W true d 449 [.ref P.1, .int (μ7.2.1 24 x1.toNatClampNeg)] P μ7 (fun r8 μ8 => R 1 μ8) (fun _ => False))) ∧ ((0 : Int) ≤ r1.toInt → (MI r1 (μ7.2.2 24) ∧ MC X W true d 449 [.ref P.1, .int (μ7.2.1 24 r1.toNatClampNeg)] P μ7 (fun r9 μ9 => R 1 μ9) (fun _ => False))))) ∧ ((0 : Int) ≤ r1.toInt → (MI (μ7.1 128) (μ7.2.2 122) ∧ (MI r1 (μ7.2.2 23) ∧ (MI (μ7.2.1 23 r1.toNatClampNeg) (μ7.2.2 28) ∧ (MI (μ7.2.1 28 ((μ7.2.1 23 r1.toNatClampNeg)).toNatClampNeg) (μ7.2.2 55) ∧ (MI ((μ7.2.1 122 ((μ7.1 128)).toNatClampNeg) + (μ7.2.1 55 ((μ7.2.1 28 ((μ7.2.1 23 r1.toNatClampNeg)).toNatClampNeg)).toNatClampNeg)) (μ7.2.2 99) ∧ ((r1.toInt < (0 : Int) → (MI x1 (μ7.2.2 24) ∧ MC X W true d 449 [.ref P.1, .int (μ7.2.1 24 x1.toNatClampNeg)] P (mA1 μ7 99 ((((μ7.2.1 122 ((μ7.1 128)).toNatClampNeg) + (μ7.2.1 55 ((μ7.2.1 28 ((μ7.2.1 23 r1.toNatClampNeg)).toNatClampNeg)).toNatClampNeg))).toNatClampNeg) x3) (fun r10 μ10 => R 1 μ10) (fun _ => False))) ∧ ((0 : Int) ≤ r1.toInt → (MI r1 (μ7.2.2 24) ∧ MC X W true d 449 [.ref P.1, .int (μ7.2.1 24 r1.toNatClampNeg)] P (mA1 μ7 99 ((((μ7.2.1 122 ((μ7.1 128)).toNatClampNeg) + (μ7.2.1 55 ((μ7.2.1 28 ((μ7.2.1 23 r1.toNatClampNeg)).toNatClampNeg)).toNatClampNeg))).toNatClampNeg) x3) (fun r11 μ11 => R 1 μ11) (fun _ => False)))))))))))) (fun _ => False)) ∧ ((μ1.2.1 25 x1.toNatClampNeg) = 0 → R 0 μ1)))))) (fun _ => False)) : ME X W true d 477 0 [(0, .ref P.1), (1, .int x1), (2, .int x2), (3, .int x3)] [] P μ R T := by
  refine me_go (pc1 := 3) (lv1 := [(0, .ref P.1), (1, .int x1), (2, .int x2), (3, .int x3)]) (st1 := [.int x2, .int x1, .ref P.1]) 3 rfl ?_
  refine me_callN rfl rfl rfl (h.mono (fun r1 μ1 h => ?_) (fun _ h => h))
  refine me_go (pc1 := 10) (lv1 := [(4, .int r1), (0, .ref P.1), (1, .int x1), (2, .int x2), (3, .int x3)]) (st1 := [.int r1]) 2 rfl ?_
  refine me_ifc rfl rfl (fun c => ?_) (fun c => ?_)
  · replace h := h.1 (ci_ge c)
    refine me_go (pc1 := 25) (lv1 := [(4, .int r1), (0, .ref P.1), (1, .int x1), (2, .int x2), (3, .int x3)]) (st1 := [.ref P.1]) 1 rfl ?_
    refine me_callN rfl rfl rfl (h.mono (fun r2 μ2 h => ?_) (fun _ h => h))
    refine me_go (pc1 := 30) (lv1 := [(4, .int r1), (0, .ref P.1), (1, .int x1), (2, .int x2), (3, .int x3)]) (st1 := [.int r1]) 1 rfl ?_
    refine me_ifc rfl rfl (fun c => ?_) (fun c => ?_)
    · replace h := h.1 (ci_lt c)
      refine me_go (pc1 := 69) (lv1 := [(4, .int r1), (0, .ref P.1), (1, .int x1), (2, .int x2), (3, .int x3)]) (st1 := [.int r1, .ref P.1]) 2 rfl ?_
      refine me_ifc rfl rfl (fun c => ?_) (fun c => ?_)
      · replace h := h.1 (ci_lt c)
        refine me_go (pc1 := 83) (lv1 := [(4, .int r1), (0, .ref P.1), (1, .int x1), (2, .int x2), (3, .int x3)]) (st1 := [.ref P.1, .ref P.1]) 1 rfl ?_
        refine me_getf (v := .ref (P.2.1 24)) rfl rfl rfl ?_
        refine me_go (pc1 := 87) (lv1 := [(4, .int r1), (0, .ref P.1), (1, .int x1), (2, .int x2), (3, .int x3)]) (st1 := [.int x1, .ref (P.2.1 24), .ref P.1]) 1 rfl ?_
        refine me_iald rfl (g := 24) rfl rfl h.1 ?_
        replace h := h.2
        refine me_callN rfl rfl rfl (h.mono (fun r3 μ3 h => ?_) (fun _ h => h))
        refine me_go (pc1 := 92) (lv1 := [(4, .int r1), (0, .ref P.1), (1, .int x1), (2, .int x2), (3, .int x3)]) (st1 := [.int 1]) 1 rfl ?_
        exact me_retB rfl rfl (by decide) h
      · replace h := h.2 (cn_lt c)
        refine me_go (pc1 := 73) (lv1 := [(4, .int r1), (0, .ref P.1), (1, .int x1), (2, .int x2), (3, .int x3)]) (st1 := [.ref P.1, .ref P.1]) 1 rfl ?_
        refine me_getf (v := .ref (P.2.1 24)) rfl rfl rfl ?_
        refine me_go (pc1 := 78) (lv1 := [(4, .int r1), (0, .ref P.1), (1, .int x1), (2, .int x2), (3, .int x3)]) (st1 := [.int r1, .ref (P.2.1 24), .ref P.1]) 1 rfl ?_
        refine me_iald rfl (g := 24) rfl rfl h.1 ?_
        replace h := h.2
        refine me_go (pc1 := 88) (lv1 := [(4, .int r1), (0, .ref P.1), (1, .int x1), (2, .int x2), (3, .int x3)]) (st1 := [.int (μ2.2.1 24 r1.toNatClampNeg), .ref P.1]) 1 rfl ?_
        refine me_callN rfl rfl rfl (h.mono (fun r4 μ4 h => ?_) (fun _ h => h))
        refine me_go (pc1 := 92) (lv1 := [(4, .int r1), (0, .ref P.1), (1, .int x1), (2, .int x2), (3, .int x3)]) (st1 := [.int 1]) 1 rfl ?_
        exact me_retB rfl rfl (by decide) h
    · replace h := h.2 (cn_lt c)
      refine me_go (pc1 := 34) (lv1 := [(4, .int r1), (0, .ref P.1), (1, .int x1), (2, .int x2), (3, .int x3)]) (st1 := [.ref P.1]) 1 rfl ?_
      refine me_getf (v := .ref (P.2.1 99)) rfl rfl rfl ?_
      refine me_go (pc1 := 38) (lv1 := [(4, .int r1), (0, .ref P.1), (1, .int x1), (2, .int x2), (3, .int x3)]) (st1 := [.ref P.1, .ref (P.2.1 99)]) 1 rfl ?_
      refine me_getf (v := .ref (P.2.1 122)) rfl rfl rfl ?_
      refine me_go (pc1 := 42) (lv1 := [(4, .int r1), (0, .ref P.1), (1, .int x1), (2, .int x2), (3, .int x3)]) (st1 := [.ref P.1, .ref (P.2.1 122), .ref (P.2.1 99)]) 1 rfl ?_
      refine me_getf (v := .int (μ2.1 128)) rfl rfl rfl ?_
      refine me_iald rfl (g := 122) rfl rfl h.1 ?_
      replace h := h.2
      refine me_go (pc1 := 47) (lv1 := [(4, .int r1), (0, .ref P.1), (1, .int x1), (2, .int x2), (3, .int x3)]) (st1 := [.ref P.1, .int (μ2.2.1 122 ((μ2.1 128)).toNatClampNeg), .ref (P.2.1 99)]) 1 rfl ?_
      refine me_getf (v := .ref (P.2.1 55)) rfl rfl rfl ?_
      refine me_go (pc1 := 51) (lv1 := [(4, .int r1), (0, .ref P.1), (1, .int x1), (2, .int x2), (3, .int x3)]) (st1 := [.ref P.1, .ref (P.2.1 55), .int (μ2.2.1 122 ((μ2.1 128)).toNatClampNeg), .ref (P.2.1 99)]) 1 rfl ?_
      refine me_getf (v := .ref (P.2.1 28)) rfl rfl rfl ?_
      refine me_go (pc1 := 55) (lv1 := [(4, .int r1), (0, .ref P.1), (1, .int x1), (2, .int x2), (3, .int x3)]) (st1 := [.ref P.1, .ref (P.2.1 28), .ref (P.2.1 55), .int (μ2.2.1 122 ((μ2.1 128)).toNatClampNeg), .ref (P.2.1 99)]) 1 rfl ?_
      refine me_getf (v := .ref (P.2.1 23)) rfl rfl rfl ?_
      refine me_go (pc1 := 60) (lv1 := [(4, .int r1), (0, .ref P.1), (1, .int x1), (2, .int x2), (3, .int x3)]) (st1 := [.int r1, .ref (P.2.1 23), .ref (P.2.1 28), .ref (P.2.1 55), .int (μ2.2.1 122 ((μ2.1 128)).toNatClampNeg), .ref (P.2.1 99)]) 1 rfl ?_
      refine me_iald rfl (g := 23) rfl rfl h.1 ?_
      replace h := h.2
      refine me_iald rfl (g := 28) rfl rfl h.1 ?_
      replace h := h.2
      refine me_iald rfl (g := 55) rfl rfl h.1 ?_
      replace h := h.2
      refine me_go (pc1 := 65) (lv1 := [(4, .int r1), (0, .ref P.1), (1, .int x1), (2, .int x2), (3, .int x3)]) (st1 := [.int x3, .int ((μ2.2.1 122 ((μ2.1 128)).toNatClampNeg) + (μ2.2.1 55 ((μ2.2.1 28 ((μ2.2.1 23 r1.toNatClampNeg)).toNatClampNeg)).toNatClampNeg)), .ref (P.2.1 99)]) 2 rfl ?_
      have hi := h.1
      replace h := h.2
      refine me_iast rfl (g := 99) rfl rfl hi ?_
      refine me_go (pc1 := 69) (lv1 := [(4, .int r1), (0, .ref P.1), (1, .int x1), (2, .int x2), (3, .int x3)]) (st1 := [.int r1, .ref P.1]) 2 rfl ?_
      refine me_ifc rfl rfl (fun c => ?_) (fun c => ?_)
      · replace h := h.1 (ci_lt c)
        refine me_go (pc1 := 83) (lv1 := [(4, .int r1), (0, .ref P.1), (1, .int x1), (2, .int x2), (3, .int x3)]) (st1 := [.ref P.1, .ref P.1]) 1 rfl ?_
        refine me_getf (v := .ref (P.2.1 24)) rfl rfl rfl ?_
        refine me_go (pc1 := 87) (lv1 := [(4, .int r1), (0, .ref P.1), (1, .int x1), (2, .int x2), (3, .int x3)]) (st1 := [.int x1, .ref (P.2.1 24), .ref P.1]) 1 rfl ?_
        refine me_iald rfl (g := 24) rfl rfl h.1 ?_
        replace h := h.2
        refine me_callN rfl rfl rfl (h.mono (fun r5 μ5 h => ?_) (fun _ h => h))
        refine me_go (pc1 := 92) (lv1 := [(4, .int r1), (0, .ref P.1), (1, .int x1), (2, .int x2), (3, .int x3)]) (st1 := [.int 1]) 1 rfl ?_
        exact me_retB rfl rfl (by decide) h
      · replace h := h.2 (cn_lt c)
        refine me_go (pc1 := 73) (lv1 := [(4, .int r1), (0, .ref P.1), (1, .int x1), (2, .int x2), (3, .int x3)]) (st1 := [.ref P.1, .ref P.1]) 1 rfl ?_
        refine me_getf (v := .ref (P.2.1 24)) rfl rfl rfl ?_
        refine me_go (pc1 := 78) (lv1 := [(4, .int r1), (0, .ref P.1), (1, .int x1), (2, .int x2), (3, .int x3)]) (st1 := [.int r1, .ref (P.2.1 24), .ref P.1]) 1 rfl ?_
        refine me_iald rfl (g := 24) rfl rfl h.1 ?_
        replace h := h.2
        refine me_go (pc1 := 88) (lv1 := [(4, .int r1), (0, .ref P.1), (1, .int x1), (2, .int x2), (3, .int x3)]) (st1 := [.int (μ2.2.1 24 r1.toNatClampNeg), .ref P.1]) 1 rfl ?_
        refine me_callN rfl rfl rfl (h.mono (fun r6 μ6 h => ?_) (fun _ h => h))
        refine me_go (pc1 := 92) (lv1 := [(4, .int r1), (0, .ref P.1), (1, .int x1), (2, .int x2), (3, .int x3)]) (st1 := [.int 1]) 1 rfl ?_
        exact me_retB rfl rfl (by decide) h
  · replace h := h.2 (cn_ge c)
    refine me_go (pc1 := 14) (lv1 := [(4, .int r1), (0, .ref P.1), (1, .int x1), (2, .int x2), (3, .int x3)]) (st1 := [.ref P.1]) 1 rfl ?_
    refine me_getf (v := .ref (P.2.1 25)) rfl rfl rfl ?_
    refine me_go (pc1 := 18) (lv1 := [(4, .int r1), (0, .ref P.1), (1, .int x1), (2, .int x2), (3, .int x3)]) (st1 := [.int x1, .ref (P.2.1 25)]) 1 rfl ?_
    refine me_iald rfl (g := 25) rfl rfl h.1 ?_
    replace h := h.2
    refine me_ifc rfl rfl (fun c => ?_) (fun c => ?_)
    · replace h := h.1 (ci_ne c)
      refine me_go (pc1 := 25) (lv1 := [(4, .int r1), (0, .ref P.1), (1, .int x1), (2, .int x2), (3, .int x3)]) (st1 := [.ref P.1]) 1 rfl ?_
      refine me_callN rfl rfl rfl (h.mono (fun r7 μ7 h => ?_) (fun _ h => h))
      refine me_go (pc1 := 30) (lv1 := [(4, .int r1), (0, .ref P.1), (1, .int x1), (2, .int x2), (3, .int x3)]) (st1 := [.int r1]) 1 rfl ?_
      refine me_ifc rfl rfl (fun c => ?_) (fun c => ?_)
      · replace h := h.1 (ci_lt c)
        refine me_go (pc1 := 69) (lv1 := [(4, .int r1), (0, .ref P.1), (1, .int x1), (2, .int x2), (3, .int x3)]) (st1 := [.int r1, .ref P.1]) 2 rfl ?_
        refine me_ifc rfl rfl (fun c => ?_) (fun c => ?_)
        · replace h := h.1 (ci_lt c)
          refine me_go (pc1 := 83) (lv1 := [(4, .int r1), (0, .ref P.1), (1, .int x1), (2, .int x2), (3, .int x3)]) (st1 := [.ref P.1, .ref P.1]) 1 rfl ?_
          refine me_getf (v := .ref (P.2.1 24)) rfl rfl rfl ?_
          refine me_go (pc1 := 87) (lv1 := [(4, .int r1), (0, .ref P.1), (1, .int x1), (2, .int x2), (3, .int x3)]) (st1 := [.int x1, .ref (P.2.1 24), .ref P.1]) 1 rfl ?_
          refine me_iald rfl (g := 24) rfl rfl h.1 ?_
          replace h := h.2
          refine me_callN rfl rfl rfl (h.mono (fun r8 μ8 h => ?_) (fun _ h => h))
          refine me_go (pc1 := 92) (lv1 := [(4, .int r1), (0, .ref P.1), (1, .int x1), (2, .int x2), (3, .int x3)]) (st1 := [.int 1]) 1 rfl ?_
          exact me_retB rfl rfl (by decide) h
        · replace h := h.2 (cn_lt c)
          refine me_go (pc1 := 73) (lv1 := [(4, .int r1), (0, .ref P.1), (1, .int x1), (2, .int x2), (3, .int x3)]) (st1 := [.ref P.1, .ref P.1]) 1 rfl ?_
          refine me_getf (v := .ref (P.2.1 24)) rfl rfl rfl ?_
          refine me_go (pc1 := 78) (lv1 := [(4, .int r1), (0, .ref P.1), (1, .int x1), (2, .int x2), (3, .int x3)]) (st1 := [.int r1, .ref (P.2.1 24), .ref P.1]) 1 rfl ?_
          refine me_iald rfl (g := 24) rfl rfl h.1 ?_
          replace h := h.2
          refine me_go (pc1 := 88) (lv1 := [(4, .int r1), (0, .ref P.1), (1, .int x1), (2, .int x2), (3, .int x3)]) (st1 := [.int (μ7.2.1 24 r1.toNatClampNeg), .ref P.1]) 1 rfl ?_
          refine me_callN rfl rfl rfl (h.mono (fun r9 μ9 h => ?_) (fun _ h => h))
          refine me_go (pc1 := 92) (lv1 := [(4, .int r1), (0, .ref P.1), (1, .int x1), (2, .int x2), (3, .int x3)]) (st1 := [.int 1]) 1 rfl ?_
          exact me_retB rfl rfl (by decide) h
      · replace h := h.2 (cn_lt c)
        refine me_go (pc1 := 34) (lv1 := [(4, .int r1), (0, .ref P.1), (1, .int x1), (2, .int x2), (3, .int x3)]) (st1 := [.ref P.1]) 1 rfl ?_
        refine me_getf (v := .ref (P.2.1 99)) rfl rfl rfl ?_
        refine me_go (pc1 := 38) (lv1 := [(4, .int r1), (0, .ref P.1), (1, .int x1), (2, .int x2), (3, .int x3)]) (st1 := [.ref P.1, .ref (P.2.1 99)]) 1 rfl ?_
        refine me_getf (v := .ref (P.2.1 122)) rfl rfl rfl ?_
        refine me_go (pc1 := 42) (lv1 := [(4, .int r1), (0, .ref P.1), (1, .int x1), (2, .int x2), (3, .int x3)]) (st1 := [.ref P.1, .ref (P.2.1 122), .ref (P.2.1 99)]) 1 rfl ?_
        refine me_getf (v := .int (μ7.1 128)) rfl rfl rfl ?_
        refine me_iald rfl (g := 122) rfl rfl h.1 ?_
        replace h := h.2
        refine me_go (pc1 := 47) (lv1 := [(4, .int r1), (0, .ref P.1), (1, .int x1), (2, .int x2), (3, .int x3)]) (st1 := [.ref P.1, .int (μ7.2.1 122 ((μ7.1 128)).toNatClampNeg), .ref (P.2.1 99)]) 1 rfl ?_
        refine me_getf (v := .ref (P.2.1 55)) rfl rfl rfl ?_
        refine me_go (pc1 := 51) (lv1 := [(4, .int r1), (0, .ref P.1), (1, .int x1), (2, .int x2), (3, .int x3)]) (st1 := [.ref P.1, .ref (P.2.1 55), .int (μ7.2.1 122 ((μ7.1 128)).toNatClampNeg), .ref (P.2.1 99)]) 1 rfl ?_
        refine me_getf (v := .ref (P.2.1 28)) rfl rfl rfl ?_
        refine me_go (pc1 := 55) (lv1 := [(4, .int r1), (0, .ref P.1), (1, .int x1), (2, .int x2), (3, .int x3)]) (st1 := [.ref P.1, .ref (P.2.1 28), .ref (P.2.1 55), .int (μ7.2.1 122 ((μ7.1 128)).toNatClampNeg), .ref (P.2.1 99)]) 1 rfl ?_
        refine me_getf (v := .ref (P.2.1 23)) rfl rfl rfl ?_
        refine me_go (pc1 := 60) (lv1 := [(4, .int r1), (0, .ref P.1), (1, .int x1), (2, .int x2), (3, .int x3)]) (st1 := [.int r1, .ref (P.2.1 23), .ref (P.2.1 28), .ref (P.2.1 55), .int (μ7.2.1 122 ((μ7.1 128)).toNatClampNeg), .ref (P.2.1 99)]) 1 rfl ?_
        refine me_iald rfl (g := 23) rfl rfl h.1 ?_
        replace h := h.2
        refine me_iald rfl (g := 28) rfl rfl h.1 ?_
        replace h := h.2
        refine me_iald rfl (g := 55) rfl rfl h.1 ?_
        replace h := h.2
        refine me_go (pc1 := 65) (lv1 := [(4, .int r1), (0, .ref P.1), (1, .int x1), (2, .int x2), (3, .int x3)]) (st1 := [.int x3, .int ((μ7.2.1 122 ((μ7.1 128)).toNatClampNeg) + (μ7.2.1 55 ((μ7.2.1 28 ((μ7.2.1 23 r1.toNatClampNeg)).toNatClampNeg)).toNatClampNeg)), .ref (P.2.1 99)]) 2 rfl ?_
        have hi := h.1
        replace h := h.2
        refine me_iast rfl (g := 99) rfl rfl hi ?_
        refine me_go (pc1 := 69) (lv1 := [(4, .int r1), (0, .ref P.1), (1, .int x1), (2, .int x2), (3, .int x3)]) (st1 := [.int r1, .ref P.1]) 2 rfl ?_
        refine me_ifc rfl rfl (fun c => ?_) (fun c => ?_)
        · replace h := h.1 (ci_lt c)
          refine me_go (pc1 := 83) (lv1 := [(4, .int r1), (0, .ref P.1), (1, .int x1), (2, .int x2), (3, .int x3)]) (st1 := [.ref P.1, .ref P.1]) 1 rfl ?_
          refine me_getf (v := .ref (P.2.1 24)) rfl rfl rfl ?_
          refine me_go (pc1 := 87) (lv1 := [(4, .int r1), (0, .ref P.1), (1, .int x1), (2, .int x2), (3, .int x3)]) (st1 := [.int x1, .ref (P.2.1 24), .ref P.1]) 1 rfl ?_
          refine me_iald rfl (g := 24) rfl rfl h.1 ?_
          replace h := h.2
          refine me_callN rfl rfl rfl (h.mono (fun r10 μ10 h => ?_) (fun _ h => h))
          refine me_go (pc1 := 92) (lv1 := [(4, .int r1), (0, .ref P.1), (1, .int x1), (2, .int x2), (3, .int x3)]) (st1 := [.int 1]) 1 rfl ?_
          exact me_retB rfl rfl (by decide) h
        · replace h := h.2 (cn_lt c)
          refine me_go (pc1 := 73) (lv1 := [(4, .int r1), (0, .ref P.1), (1, .int x1), (2, .int x2), (3, .int x3)]) (st1 := [.ref P.1, .ref P.1]) 1 rfl ?_
          refine me_getf (v := .ref (P.2.1 24)) rfl rfl rfl ?_
          refine me_go (pc1 := 78) (lv1 := [(4, .int r1), (0, .ref P.1), (1, .int x1), (2, .int x2), (3, .int x3)]) (st1 := [.int r1, .ref (P.2.1 24), .ref P.1]) 1 rfl ?_
          refine me_iald rfl (g := 24) rfl rfl h.1 ?_
          replace h := h.2
          refine me_go (pc1 := 88) (lv1 := [(4, .int r1), (0, .ref P.1), (1, .int x1), (2, .int x2), (3, .int x3)]) (st1 := [.int (μ7.2.1 24 r1.toNatClampNeg), .ref P.1]) 1 rfl ?_
          refine me_callN rfl rfl rfl (h.mono (fun r11 μ11 h => ?_) (fun _ h => h))
          refine me_go (pc1 := 92) (lv1 := [(4, .int r1), (0, .ref P.1), (1, .int x1), (2, .int x2), (3, .int x3)]) (st1 := [.int 1]) 1 rfl ?_
          exact me_retB rfl rfl (by decide) h
    · replace h := h.2 (cn_ne c)
      refine me_go (pc1 := 23) (lv1 := [(4, .int r1), (0, .ref P.1), (1, .int x1), (2, .int x2), (3, .int x3)]) (st1 := [.int 0]) 1 rfl ?_
      exact me_retB rfl rfl (by decide) h
theorem v_returned_0 {X : ev_X} {W : Nat → Prop} {d : Nat} {P : MP} {μ : MS} {R : Int32 → MS → Prop} {T : MS → Prop} (x1 : Int32) (h : MC X W true d 474 [.ref P.1] P μ (fun r1 μ1 => (MI (r1 + 1) (μ1.2.2 125) ∧ (MI (r1 + 4) (μ1.2.2 125) ∧ (((μ1.2.1 125 ((r1 + 1)).toNatClampNeg).toInt < (0 : Int) → R 0 μ1) ∧ ((0 : Int) ≤ (μ1.2.1 125 ((r1 + 1)).toNatClampNeg).toInt → (((0 : Int) ≤ (μ1.2.1 125 ((r1 + 4)).toNatClampNeg).toInt → (MI (μ1.2.1 125 ((r1 + 1)).toNatClampNeg) (μ1.2.2 21) ∧ (MI (μ1.2.1 125 ((r1 + 1)).toNatClampNeg) (μ1.2.2 22) ∧ (MI (μ1.2.1 22 ((μ1.2.1 125 ((r1 + 1)).toNatClampNeg)).toNatClampNeg) (μ1.2.2 88) ∧ MC X W true d 455 [.ref P.1, .int (μ1.2.1 88 ((μ1.2.1 22 ((μ1.2.1 125 ((r1 + 1)).toNatClampNeg)).toNatClampNeg)).toNatClampNeg), .int x1] P (mS1 μ1 130 (μ1.2.1 21 ((μ1.2.1 125 ((r1 + 1)).toNatClampNeg)).toNatClampNeg)) (fun r2 μ2 => (MI (μ1.2.1 125 ((r1 + 4)).toNatClampNeg) (μ2.2.2 99) ∧ R 0 (mA1 μ2 99 (((μ1.2.1 125 ((r1 + 4)).toNatClampNeg)).toNatClampNeg) x1))) T)))) ∧ ((μ1.2.1 125 ((r1 + 4)).toNatClampNeg).toInt < (0 : Int) → R 0 μ1))))))) (fun _ => False)) : ME X W true d 478 0 [(0, .ref P.1), (1, .int x1)] [] P μ R T := by
  refine me_go (pc1 := 1) (lv1 := [(0, .ref P.1), (1, .int x1)]) (st1 := [.ref P.1]) 1 rfl ?_
  refine me_callN rfl rfl rfl (h.mono (fun r1 μ1 h => ?_) (fun _ h => h))
  refine me_go (pc1 := 6) (lv1 := [(2, .int r1), (0, .ref P.1), (1, .int x1)]) (st1 := [.ref P.1]) 2 rfl ?_
  refine me_getf (v := .ref (P.2.1 125)) rfl rfl rfl ?_
  refine me_go (pc1 := 12) (lv1 := [(2, .int r1), (0, .ref P.1), (1, .int x1)]) (st1 := [.int (r1 + 1), .ref (P.2.1 125)]) 3 rfl ?_
  refine me_iald rfl (g := 125) rfl rfl h.1 ?_
  replace h := h.2
  refine me_go (pc1 := 15) (lv1 := [(3, .int (μ1.2.1 125 ((r1 + 1)).toNatClampNeg)), (2, .int r1), (0, .ref P.1), (1, .int x1)]) (st1 := [.ref P.1]) 2 rfl ?_
  refine me_getf (v := .ref (P.2.1 125)) rfl rfl rfl ?_
  refine me_go (pc1 := 21) (lv1 := [(3, .int (μ1.2.1 125 ((r1 + 1)).toNatClampNeg)), (2, .int r1), (0, .ref P.1), (1, .int x1)]) (st1 := [.int (r1 + 4), .ref (P.2.1 125)]) 3 rfl ?_
  refine me_iald rfl (g := 125) rfl rfl h.1 ?_
  replace h := h.2
  refine me_go (pc1 := 25) (lv1 := [(4, .int (μ1.2.1 125 ((r1 + 4)).toNatClampNeg)), (3, .int (μ1.2.1 125 ((r1 + 1)).toNatClampNeg)), (2, .int r1), (0, .ref P.1), (1, .int x1)]) (st1 := [.int (μ1.2.1 125 ((r1 + 1)).toNatClampNeg)]) 2 rfl ?_
  refine me_ifc rfl rfl (fun c => ?_) (fun c => ?_)
  · replace h := h.1 (ci_lt c)
    exact me_ret (v := none) (r := 0) rfl rfl rfl h
  · replace h := h.2 (cn_lt c)
    refine me_go (pc1 := 30) (lv1 := [(4, .int (μ1.2.1 125 ((r1 + 4)).toNatClampNeg)), (3, .int (μ1.2.1 125 ((r1 + 1)).toNatClampNeg)), (2, .int r1), (0, .ref P.1), (1, .int x1)]) (st1 := [.int (μ1.2.1 125 ((r1 + 4)).toNatClampNeg)]) 1 rfl ?_
    refine me_ifc rfl rfl (fun c => ?_) (fun c => ?_)
    · replace h := h.1 (ci_ge c)
      refine me_go (pc1 := 36) (lv1 := [(4, .int (μ1.2.1 125 ((r1 + 4)).toNatClampNeg)), (3, .int (μ1.2.1 125 ((r1 + 1)).toNatClampNeg)), (2, .int r1), (0, .ref P.1), (1, .int x1)]) (st1 := [.ref P.1, .ref P.1]) 2 rfl ?_
      refine me_getf (v := .ref (P.2.1 21)) rfl rfl rfl ?_
      refine me_go (pc1 := 40) (lv1 := [(4, .int (μ1.2.1 125 ((r1 + 4)).toNatClampNeg)), (3, .int (μ1.2.1 125 ((r1 + 1)).toNatClampNeg)), (2, .int r1), (0, .ref P.1), (1, .int x1)]) (st1 := [.int (μ1.2.1 125 ((r1 + 1)).toNatClampNeg), .ref (P.2.1 21), .ref P.1]) 1 rfl ?_
      refine me_iald rfl (g := 21) rfl rfl h.1 ?_
      replace h := h.2
      refine me_put rfl rfl rfl ?_
      refine me_go (pc1 := 46) (lv1 := [(4, .int (μ1.2.1 125 ((r1 + 4)).toNatClampNeg)), (3, .int (μ1.2.1 125 ((r1 + 1)).toNatClampNeg)), (2, .int r1), (0, .ref P.1), (1, .int x1)]) (st1 := [.ref P.1, .ref P.1]) 2 rfl ?_
      refine me_getf (v := .ref (P.2.1 88)) rfl rfl rfl ?_
      refine me_go (pc1 := 50) (lv1 := [(4, .int (μ1.2.1 125 ((r1 + 4)).toNatClampNeg)), (3, .int (μ1.2.1 125 ((r1 + 1)).toNatClampNeg)), (2, .int r1), (0, .ref P.1), (1, .int x1)]) (st1 := [.ref P.1, .ref (P.2.1 88), .ref P.1]) 1 rfl ?_
      refine me_getf (v := .ref (P.2.1 22)) rfl rfl rfl ?_
      refine me_go (pc1 := 54) (lv1 := [(4, .int (μ1.2.1 125 ((r1 + 4)).toNatClampNeg)), (3, .int (μ1.2.1 125 ((r1 + 1)).toNatClampNeg)), (2, .int r1), (0, .ref P.1), (1, .int x1)]) (st1 := [.int (μ1.2.1 125 ((r1 + 1)).toNatClampNeg), .ref (P.2.1 22), .ref (P.2.1 88), .ref P.1]) 1 rfl ?_
      refine me_iald rfl (g := 22) rfl rfl h.1 ?_
      replace h := h.2
      refine me_iald rfl (g := 88) rfl rfl h.1 ?_
      replace h := h.2
      refine me_go (pc1 := 57) (lv1 := [(4, .int (μ1.2.1 125 ((r1 + 4)).toNatClampNeg)), (3, .int (μ1.2.1 125 ((r1 + 1)).toNatClampNeg)), (2, .int r1), (0, .ref P.1), (1, .int x1)]) (st1 := [.int x1, .int (μ1.2.1 88 ((μ1.2.1 22 ((μ1.2.1 125 ((r1 + 1)).toNatClampNeg)).toNatClampNeg)).toNatClampNeg), .ref P.1]) 1 rfl ?_
      refine me_call rfl rfl rfl rfl (h.mono (fun r2 μ2 h => ?_) (fun _ h => h))
      refine me_go (pc1 := 61) (lv1 := [(4, .int (μ1.2.1 125 ((r1 + 4)).toNatClampNeg)), (3, .int (μ1.2.1 125 ((r1 + 1)).toNatClampNeg)), (2, .int r1), (0, .ref P.1), (1, .int x1)]) (st1 := [.ref P.1]) 1 rfl ?_
      refine me_getf (v := .ref (P.2.1 99)) rfl rfl rfl ?_
      refine me_go (pc1 := 67) (lv1 := [(4, .int (μ1.2.1 125 ((r1 + 4)).toNatClampNeg)), (3, .int (μ1.2.1 125 ((r1 + 1)).toNatClampNeg)), (2, .int r1), (0, .ref P.1), (1, .int x1)]) (st1 := [.int x1, .int (μ1.2.1 125 ((r1 + 4)).toNatClampNeg), .ref (P.2.1 99)]) 2 rfl ?_
      have hi := h.1
      replace h := h.2
      refine me_iast rfl (g := 99) rfl rfl hi ?_
      exact me_ret (v := none) (r := 0) rfl rfl rfl h
    · replace h := h.2 (cn_ge c)
      exact me_ret (v := none) (r := 0) rfl rfl rfl h
theorem v_ends_0 {X : ev_X} {W : Nat → Prop} {d : Nat} {P : MP} {μ : MS} {R : Int32 → MS → Prop} {T : MS → Prop} (x1 : Int32) (x2 : Int32) (x3 : Int32) (x4 : Int32) (h : (MI (μ.1 128) (μ.2.2 116) ∧ (MI (μ.1 128) (μ.2.2 117) ∧ (MI (μ.1 128) (μ.2.2 118) ∧ (MI (μ.1 128) (μ.2.2 119) ∧ (MI (μ.1 128) (μ.2.2 120) ∧ (MI (μ.1 128) (μ.2.2 121) ∧ (MI (μ.1 128) (μ.2.2 124) ∧ (MI (μ.1 128) (μ.2.2 111) ∧ R 0 (mA1 (mA1 (mA1 (mA1 (mA1 (mA1 (mA1 (mA1 μ 116 (((μ.1 128)).toNatClampNeg) x1) 117 (((μ.1 128)).toNatClampNeg) x2) 118 (((μ.1 128)).toNatClampNeg) x3) 119 (((μ.1 128)).toNatClampNeg) x4) 120 (((μ.1 128)).toNatClampNeg) 0) 121 (((μ.1 128)).toNatClampNeg) 0) 124 (((μ.1 128)).toNatClampNeg) 0) 111 (((μ.1 128)).toNatClampNeg) 0)))))))))) : ME X W true d 479 0 [(0, .ref P.1), (1, .int x1), (2, .int x2), (3, .int x3), (4, .int x4)] [] P μ R T := by
  refine me_go (pc1 := 1) (lv1 := [(0, .ref P.1), (1, .int x1), (2, .int x2), (3, .int x3), (4, .int x4)]) (st1 := [.ref P.1]) 1 rfl ?_
  refine me_getf (v := .ref (P.2.1 116)) rfl rfl rfl ?_
  refine me_go (pc1 := 5) (lv1 := [(0, .ref P.1), (1, .int x1), (2, .int x2), (3, .int x3), (4, .int x4)]) (st1 := [.ref P.1, .ref (P.2.1 116)]) 1 rfl ?_
  refine me_getf (v := .int (μ.1 128)) rfl rfl rfl ?_
  refine me_go (pc1 := 9) (lv1 := [(0, .ref P.1), (1, .int x1), (2, .int x2), (3, .int x3), (4, .int x4)]) (st1 := [.int x1, .int (μ.1 128), .ref (P.2.1 116)]) 1 rfl ?_
  have hi := h.1
  replace h := h.2
  refine me_iast rfl (g := 116) rfl rfl hi ?_
  refine me_go (pc1 := 11) (lv1 := [(0, .ref P.1), (1, .int x1), (2, .int x2), (3, .int x3), (4, .int x4)]) (st1 := [.ref P.1]) 1 rfl ?_
  refine me_getf (v := .ref (P.2.1 117)) rfl rfl rfl ?_
  refine me_go (pc1 := 15) (lv1 := [(0, .ref P.1), (1, .int x1), (2, .int x2), (3, .int x3), (4, .int x4)]) (st1 := [.ref P.1, .ref (P.2.1 117)]) 1 rfl ?_
  refine me_getf (v := .int (μ.1 128)) rfl rfl rfl ?_
  refine me_go (pc1 := 19) (lv1 := [(0, .ref P.1), (1, .int x1), (2, .int x2), (3, .int x3), (4, .int x4)]) (st1 := [.int x2, .int (μ.1 128), .ref (P.2.1 117)]) 1 rfl ?_
  have hi := h.1
  replace h := h.2
  refine me_iast rfl (g := 117) rfl rfl hi ?_
  refine me_go (pc1 := 21) (lv1 := [(0, .ref P.1), (1, .int x1), (2, .int x2), (3, .int x3), (4, .int x4)]) (st1 := [.ref P.1]) 1 rfl ?_
  refine me_getf (v := .ref (P.2.1 118)) rfl rfl rfl ?_
  refine me_go (pc1 := 25) (lv1 := [(0, .ref P.1), (1, .int x1), (2, .int x2), (3, .int x3), (4, .int x4)]) (st1 := [.ref P.1, .ref (P.2.1 118)]) 1 rfl ?_
  refine me_getf (v := .int (μ.1 128)) rfl rfl rfl ?_
  refine me_go (pc1 := 29) (lv1 := [(0, .ref P.1), (1, .int x1), (2, .int x2), (3, .int x3), (4, .int x4)]) (st1 := [.int x3, .int (μ.1 128), .ref (P.2.1 118)]) 1 rfl ?_
  have hi := h.1
  replace h := h.2
  refine me_iast rfl (g := 118) rfl rfl hi ?_
  refine me_go (pc1 := 31) (lv1 := [(0, .ref P.1), (1, .int x1), (2, .int x2), (3, .int x3), (4, .int x4)]) (st1 := [.ref P.1]) 1 rfl ?_
  refine me_getf (v := .ref (P.2.1 119)) rfl rfl rfl ?_
  refine me_go (pc1 := 35) (lv1 := [(0, .ref P.1), (1, .int x1), (2, .int x2), (3, .int x3), (4, .int x4)]) (st1 := [.ref P.1, .ref (P.2.1 119)]) 1 rfl ?_
  refine me_getf (v := .int (μ.1 128)) rfl rfl rfl ?_
  refine me_go (pc1 := 40) (lv1 := [(0, .ref P.1), (1, .int x1), (2, .int x2), (3, .int x3), (4, .int x4)]) (st1 := [.int x4, .int (μ.1 128), .ref (P.2.1 119)]) 1 rfl ?_
  have hi := h.1
  replace h := h.2
  refine me_iast rfl (g := 119) rfl rfl hi ?_
  refine me_go (pc1 := 42) (lv1 := [(0, .ref P.1), (1, .int x1), (2, .int x2), (3, .int x3), (4, .int x4)]) (st1 := [.ref P.1]) 1 rfl ?_
  refine me_getf (v := .ref (P.2.1 120)) rfl rfl rfl ?_
  refine me_go (pc1 := 46) (lv1 := [(0, .ref P.1), (1, .int x1), (2, .int x2), (3, .int x3), (4, .int x4)]) (st1 := [.ref P.1, .ref (P.2.1 120)]) 1 rfl ?_
  refine me_getf (v := .int (μ.1 128)) rfl rfl rfl ?_
  refine me_go (pc1 := 50) (lv1 := [(0, .ref P.1), (1, .int x1), (2, .int x2), (3, .int x3), (4, .int x4)]) (st1 := [.int 0, .int (μ.1 128), .ref (P.2.1 120)]) 1 rfl ?_
  have hi := h.1
  replace h := h.2
  refine me_iast rfl (g := 120) rfl rfl hi ?_
  refine me_go (pc1 := 52) (lv1 := [(0, .ref P.1), (1, .int x1), (2, .int x2), (3, .int x3), (4, .int x4)]) (st1 := [.ref P.1]) 1 rfl ?_
  refine me_getf (v := .ref (P.2.1 121)) rfl rfl rfl ?_
  refine me_go (pc1 := 56) (lv1 := [(0, .ref P.1), (1, .int x1), (2, .int x2), (3, .int x3), (4, .int x4)]) (st1 := [.ref P.1, .ref (P.2.1 121)]) 1 rfl ?_
  refine me_getf (v := .int (μ.1 128)) rfl rfl rfl ?_
  refine me_go (pc1 := 60) (lv1 := [(0, .ref P.1), (1, .int x1), (2, .int x2), (3, .int x3), (4, .int x4)]) (st1 := [.int 0, .int (μ.1 128), .ref (P.2.1 121)]) 1 rfl ?_
  have hi := h.1
  replace h := h.2
  refine me_iast rfl (g := 121) rfl rfl hi ?_
  refine me_go (pc1 := 62) (lv1 := [(0, .ref P.1), (1, .int x1), (2, .int x2), (3, .int x3), (4, .int x4)]) (st1 := [.ref P.1]) 1 rfl ?_
  refine me_getf (v := .ref (P.2.1 124)) rfl rfl rfl ?_
  refine me_go (pc1 := 66) (lv1 := [(0, .ref P.1), (1, .int x1), (2, .int x2), (3, .int x3), (4, .int x4)]) (st1 := [.ref P.1, .ref (P.2.1 124)]) 1 rfl ?_
  refine me_getf (v := .int (μ.1 128)) rfl rfl rfl ?_
  refine me_go (pc1 := 70) (lv1 := [(0, .ref P.1), (1, .int x1), (2, .int x2), (3, .int x3), (4, .int x4)]) (st1 := [.int 0, .int (μ.1 128), .ref (P.2.1 124)]) 1 rfl ?_
  have hi := h.1
  replace h := h.2
  refine me_iast rfl (g := 124) rfl rfl hi ?_
  refine me_go (pc1 := 72) (lv1 := [(0, .ref P.1), (1, .int x1), (2, .int x2), (3, .int x3), (4, .int x4)]) (st1 := [.ref P.1]) 1 rfl ?_
  refine me_getf (v := .ref (P.2.1 111)) rfl rfl rfl ?_
  refine me_go (pc1 := 76) (lv1 := [(0, .ref P.1), (1, .int x1), (2, .int x2), (3, .int x3), (4, .int x4)]) (st1 := [.ref P.1, .ref (P.2.1 111)]) 1 rfl ?_
  refine me_getf (v := .int (μ.1 128)) rfl rfl rfl ?_
  refine me_go (pc1 := 80) (lv1 := [(0, .ref P.1), (1, .int x1), (2, .int x2), (3, .int x3), (4, .int x4)]) (st1 := [.int 0, .int (μ.1 128), .ref (P.2.1 111)]) 1 rfl ?_
  have hi := h.1
  replace h := h.2
  refine me_iast rfl (g := 111) rfl rfl hi ?_
  exact me_ret (v := none) (r := 0) rfl rfl rfl h
theorem v_goesOn_0 {X : ev_X} {W : Nat → Prop} {d : Nat} {P : MP} {μ : MS} {R : Int32 → MS → Prop} {T : MS → Prop}  (h : (MI (μ.1 128) (μ.2.2 116) ∧ ((¬ (μ.2.1 116 ((μ.1 128)).toNatClampNeg) = 0 → R 0 μ) ∧ ((μ.2.1 116 ((μ.1 128)).toNatClampNeg) = 0 → MC X W true d 481 [.ref P.1] P μ (fun r1 μ1 => ((¬ r1 = 0 → R 0 μ1) ∧ (r1 = 0 → MC X W true d 482 [.ref P.1] P μ1 (fun r2 μ2 => ME X W true d 480 0 [(0, .ref P.1)] [] P μ2 R T) (fun μ2 => MC X W true d 479 [.ref P.1, .int 6, .int (μ2.1 130), .int (μ2.1 129), .int 0] P μ2 (fun r3 μ3 => R 0 μ3) (fun _ => False))))) (fun _ => False))))) : ME X W true d 480 0 [(0, .ref P.1)] [] P μ R T := by
  refine me_go (pc1 := 1) (lv1 := [(0, .ref P.1)]) (st1 := [.ref P.1]) 1 rfl ?_
  refine me_getf (v := .ref (P.2.1 116)) rfl rfl rfl ?_
  refine me_go (pc1 := 5) (lv1 := [(0, .ref P.1)]) (st1 := [.ref P.1, .ref (P.2.1 116)]) 1 rfl ?_
  refine me_getf (v := .int (μ.1 128)) rfl rfl rfl ?_
  refine me_iald rfl (g := 116) rfl rfl h.1 ?_
  replace h := h.2
  refine me_ifc rfl rfl (fun c => ?_) (fun c => ?_)
  · replace h := h.1 (ci_ne c)
    refine me_go (pc1 := 45) (lv1 := [(0, .ref P.1)]) (st1 := []) 1 rfl ?_
    exact me_ret (v := none) (r := 0) rfl rfl rfl h
  · replace h := h.2 (cn_ne c)
    refine me_go (pc1 := 13) (lv1 := [(0, .ref P.1)]) (st1 := [.ref P.1]) 1 rfl ?_
    refine me_callN rfl rfl rfl (h.mono (fun r1 μ1 h => ?_) (fun _ h => h))
    refine me_ifc rfl rfl (fun c => ?_) (fun c => ?_)
    · replace h := h.1 (ci_ne c)
      refine me_go (pc1 := 45) (lv1 := [(0, .ref P.1)]) (st1 := []) 1 rfl ?_
      exact me_ret (v := none) (r := 0) rfl rfl rfl h
    · replace h := h.2 (cn_ne c)
      refine me_go (pc1 := 20) (lv1 := [(0, .ref P.1)]) (st1 := [.ref P.1]) 1 rfl ?_
      refine me_callHT (i := 1) (lv1 := [(0, .ref P.1)]) rfl rfl rfl rfl rfl rfl rfl rfl rfl rfl rfl (h.mono (fun r2 μ2 h => ?_) (fun μ2 h => ?_))
      · skip
        refine me_go (pc1 := 0) (lv1 := [(0, .ref P.1)]) (st1 := []) 1 rfl ?_
        exact h
      · skip
        refine me_go (pc1 := 34) (lv1 := [(0, .ref P.1)]) (st1 := [.ref P.1, .int 6, .ref P.1]) 3 rfl ?_
        refine me_getf (v := .int (μ2.1 130)) rfl rfl rfl ?_
        refine me_go (pc1 := 38) (lv1 := [(0, .ref P.1)]) (st1 := [.ref P.1, .int (μ2.1 130), .int 6, .ref P.1]) 1 rfl ?_
        refine me_getf (v := .int (μ2.1 129)) rfl rfl rfl ?_
        refine me_go (pc1 := 42) (lv1 := [(0, .ref P.1)]) (st1 := [.int 0, .int (μ2.1 129), .int (μ2.1 130), .int 6, .ref P.1]) 1 rfl ?_
        refine me_callN rfl rfl rfl (h.mono (fun r3 μ3 h => ?_) (fun _ h => h))
        exact me_ret (v := none) (r := 0) rfl rfl rfl h
theorem v_isAhead_0 {X : ev_X} {W : Nat → Prop} {d : Nat} {P : MP} {μ : MS} {R : Int32 → MS → Prop} {T : MS → Prop}  (h : (MI (μ.1 128) (μ.2.2 124) ∧ ((¬ (μ.2.1 124 ((μ.1 128)).toNatClampNeg) = 0 → MC X W true d 447 [.ref P.1] P μ (fun r1 μ1 => (MI r1 (μ1.2.2 125) ∧ (MI (r1 + 1) (μ1.2.2 125) ∧ ((¬ (μ1.2.1 125 r1.toNatClampNeg) = 0 → (((μ1.2.1 125 r1.toNatClampNeg) = 1 → R 1 μ1) ∧ (¬ (μ1.2.1 125 r1.toNatClampNeg) = 1 → (((μ1.2.1 125 r1.toNatClampNeg) = 2 → R 1 μ1) ∧ (¬ (μ1.2.1 125 r1.toNatClampNeg) = 2 → ((¬ (μ1.2.1 125 r1.toNatClampNeg) = 3 → R 0 μ1) ∧ ((μ1.2.1 125 r1.toNatClampNeg) = 3 → R 1 μ1))))))) ∧ ((μ1.2.1 125 r1.toNatClampNeg) = 0 → (((μ1.2.1 125 ((r1 + 1)).toNatClampNeg).toInt < (0 : Int) → R 0 μ1) ∧ ((0 : Int) ≤ (μ1.2.1 125 ((r1 + 1)).toNatClampNeg).toInt → (MI (μ1.2.1 125 ((r1 + 1)).toNatClampNeg) (μ1.2.2 20) ∧ (((μ1.2.1 20 ((μ1.2.1 125 ((r1 + 1)).toNatClampNeg)).toNatClampNeg) = 51 → R 0 μ1) ∧ (¬ (μ1.2.1 20 ((μ1.2.1 125 ((r1 + 1)).toNatClampNeg)).toNatClampNeg) = 51 → (MI (μ1.2.1 125 ((r1 + 1)).toNatClampNeg) (μ1.2.2 20) ∧ (((μ1.2.1 20 ((μ1.2.1 125 ((r1 + 1)).toNatClampNeg)).toNatClampNeg) = 53 → R 0 μ1) ∧ (¬ (μ1.2.1 20 ((μ1.2.1 125 ((r1 + 1)).toNatClampNeg)).toNatClampNeg) = 53 → R 1 μ1))))))))))))) (fun _ => False)) ∧ ((μ.2.1 124 ((μ.1 128)).toNatClampNeg) = 0 → R 0 μ)))) : ME X W true d 481 0 [(0, .ref P.1)] [] P μ R T := by
  refine me_go (pc1 := 1) (lv1 := [(0, .ref P.1)]) (st1 := [.ref P.1]) 1 rfl ?_
  refine me_getf (v := .ref (P.2.1 124)) rfl rfl rfl ?_
  refine me_go (pc1 := 5) (lv1 := [(0, .ref P.1)]) (st1 := [.ref P.1, .ref (P.2.1 124)]) 1 rfl ?_
  refine me_getf (v := .int (μ.1 128)) rfl rfl rfl ?_
  refine me_iald rfl (g := 124) rfl rfl h.1 ?_
  replace h := h.2
  refine me_ifc rfl rfl (fun c => ?_) (fun c => ?_)
  · replace h := h.1 (ci_ne c)
    refine me_go (pc1 := 15) (lv1 := [(0, .ref P.1)]) (st1 := [.ref P.1]) 1 rfl ?_
    refine me_callN rfl rfl rfl (h.mono (fun r1 μ1 h => ?_) (fun _ h => h))
    refine me_go (pc1 := 20) (lv1 := [(1, .int r1), (0, .ref P.1)]) (st1 := [.ref P.1]) 2 rfl ?_
    refine me_getf (v := .ref (P.2.1 125)) rfl rfl rfl ?_
    refine me_go (pc1 := 24) (lv1 := [(1, .int r1), (0, .ref P.1)]) (st1 := [.int r1, .ref (P.2.1 125)]) 1 rfl ?_
    refine me_iald rfl (g := 125) rfl rfl h.1 ?_
    replace h := h.2
    refine me_go (pc1 := 27) (lv1 := [(2, .int (μ1.2.1 125 r1.toNatClampNeg)), (1, .int r1), (0, .ref P.1)]) (st1 := [.ref P.1]) 2 rfl ?_
    refine me_getf (v := .ref (P.2.1 125)) rfl rfl rfl ?_
    refine me_go (pc1 := 33) (lv1 := [(2, .int (μ1.2.1 125 r1.toNatClampNeg)), (1, .int r1), (0, .ref P.1)]) (st1 := [.int (r1 + 1), .ref (P.2.1 125)]) 3 rfl ?_
    refine me_iald rfl (g := 125) rfl rfl h.1 ?_
    replace h := h.2
    refine me_go (pc1 := 36) (lv1 := [(3, .int (μ1.2.1 125 ((r1 + 1)).toNatClampNeg)), (2, .int (μ1.2.1 125 r1.toNatClampNeg)), (1, .int r1), (0, .ref P.1)]) (st1 := [.int (μ1.2.1 125 r1.toNatClampNeg)]) 2 rfl ?_
    refine me_ifc rfl rfl (fun c => ?_) (fun c => ?_)
    · replace h := h.1 (ci_ne c)
      refine me_go (pc1 := 73) (lv1 := [(3, .int (μ1.2.1 125 ((r1 + 1)).toNatClampNeg)), (2, .int (μ1.2.1 125 r1.toNatClampNeg)), (1, .int r1), (0, .ref P.1)]) (st1 := [.int 1, .int (μ1.2.1 125 r1.toNatClampNeg)]) 2 rfl ?_
      refine me_icmp rfl rfl (fun c => ?_) (fun c => ?_)
      · replace h := h.1 (ci_eq c)
        refine me_go (pc1 := 91) (lv1 := [(3, .int (μ1.2.1 125 ((r1 + 1)).toNatClampNeg)), (2, .int (μ1.2.1 125 r1.toNatClampNeg)), (1, .int r1), (0, .ref P.1)]) (st1 := [.int 1]) 2 rfl ?_
        exact me_retB rfl rfl (by decide) h
      · replace h := h.2 (cn_eq c)
        refine me_go (pc1 := 78) (lv1 := [(3, .int (μ1.2.1 125 ((r1 + 1)).toNatClampNeg)), (2, .int (μ1.2.1 125 r1.toNatClampNeg)), (1, .int r1), (0, .ref P.1)]) (st1 := [.int 2, .int (μ1.2.1 125 r1.toNatClampNeg)]) 2 rfl ?_
        refine me_icmp rfl rfl (fun c => ?_) (fun c => ?_)
        · replace h := h.1 (ci_eq c)
          refine me_go (pc1 := 91) (lv1 := [(3, .int (μ1.2.1 125 ((r1 + 1)).toNatClampNeg)), (2, .int (μ1.2.1 125 r1.toNatClampNeg)), (1, .int r1), (0, .ref P.1)]) (st1 := [.int 1]) 2 rfl ?_
          exact me_retB rfl rfl (by decide) h
        · replace h := h.2 (cn_eq c)
          refine me_go (pc1 := 83) (lv1 := [(3, .int (μ1.2.1 125 ((r1 + 1)).toNatClampNeg)), (2, .int (μ1.2.1 125 r1.toNatClampNeg)), (1, .int r1), (0, .ref P.1)]) (st1 := [.int 3, .int (μ1.2.1 125 r1.toNatClampNeg)]) 2 rfl ?_
          refine me_icmp rfl rfl (fun c => ?_) (fun c => ?_)
          · replace h := h.1 (ci_ne c)
            refine me_go (pc1 := 91) (lv1 := [(3, .int (μ1.2.1 125 ((r1 + 1)).toNatClampNeg)), (2, .int (μ1.2.1 125 r1.toNatClampNeg)), (1, .int r1), (0, .ref P.1)]) (st1 := [.int 0]) 1 rfl ?_
            exact me_retB rfl rfl (by decide) h
          · replace h := h.2 (cn_ne c)
            refine me_go (pc1 := 91) (lv1 := [(3, .int (μ1.2.1 125 ((r1 + 1)).toNatClampNeg)), (2, .int (μ1.2.1 125 r1.toNatClampNeg)), (1, .int r1), (0, .ref P.1)]) (st1 := [.int 1]) 2 rfl ?_
            exact me_retB rfl rfl (by decide) h
    · replace h := h.2 (cn_ne c)
      refine me_go (pc1 := 40) (lv1 := [(3, .int (μ1.2.1 125 ((r1 + 1)).toNatClampNeg)), (2, .int (μ1.2.1 125 r1.toNatClampNeg)), (1, .int r1), (0, .ref P.1)]) (st1 := [.int (μ1.2.1 125 ((r1 + 1)).toNatClampNeg)]) 1 rfl ?_
      refine me_ifc rfl rfl (fun c => ?_) (fun c => ?_)
      · replace h := h.1 (ci_lt c)
        refine me_go (pc1 := 70) (lv1 := [(3, .int (μ1.2.1 125 ((r1 + 1)).toNatClampNeg)), (2, .int (μ1.2.1 125 r1.toNatClampNeg)), (1, .int r1), (0, .ref P.1)]) (st1 := [.int 0]) 1 rfl ?_
        exact me_retB rfl rfl (by decide) h
      · replace h := h.2 (cn_lt c)
        refine me_go (pc1 := 44) (lv1 := [(3, .int (μ1.2.1 125 ((r1 + 1)).toNatClampNeg)), (2, .int (μ1.2.1 125 r1.toNatClampNeg)), (1, .int r1), (0, .ref P.1)]) (st1 := [.ref P.1]) 1 rfl ?_
        refine me_getf (v := .ref (P.2.1 20)) rfl rfl rfl ?_
        refine me_go (pc1 := 48) (lv1 := [(3, .int (μ1.2.1 125 ((r1 + 1)).toNatClampNeg)), (2, .int (μ1.2.1 125 r1.toNatClampNeg)), (1, .int r1), (0, .ref P.1)]) (st1 := [.int (μ1.2.1 125 ((r1 + 1)).toNatClampNeg), .ref (P.2.1 20)]) 1 rfl ?_
        refine me_iald rfl (g := 20) rfl rfl h.1 ?_
        replace h := h.2
        refine me_go (pc1 := 51) (lv1 := [(3, .int (μ1.2.1 125 ((r1 + 1)).toNatClampNeg)), (2, .int (μ1.2.1 125 r1.toNatClampNeg)), (1, .int r1), (0, .ref P.1)]) (st1 := [.int 51, .int (μ1.2.1 20 ((μ1.2.1 125 ((r1 + 1)).toNatClampNeg)).toNatClampNeg)]) 1 rfl ?_
        refine me_icmp rfl rfl (fun c => ?_) (fun c => ?_)
        · replace h := h.1 (ci_eq c)
          refine me_go (pc1 := 70) (lv1 := [(3, .int (μ1.2.1 125 ((r1 + 1)).toNatClampNeg)), (2, .int (μ1.2.1 125 r1.toNatClampNeg)), (1, .int r1), (0, .ref P.1)]) (st1 := [.int 0]) 1 rfl ?_
          exact me_retB rfl rfl (by decide) h
        · replace h := h.2 (cn_eq c)
          refine me_go (pc1 := 55) (lv1 := [(3, .int (μ1.2.1 125 ((r1 + 1)).toNatClampNeg)), (2, .int (μ1.2.1 125 r1.toNatClampNeg)), (1, .int r1), (0, .ref P.1)]) (st1 := [.ref P.1]) 1 rfl ?_
          refine me_getf (v := .ref (P.2.1 20)) rfl rfl rfl ?_
          refine me_go (pc1 := 59) (lv1 := [(3, .int (μ1.2.1 125 ((r1 + 1)).toNatClampNeg)), (2, .int (μ1.2.1 125 r1.toNatClampNeg)), (1, .int r1), (0, .ref P.1)]) (st1 := [.int (μ1.2.1 125 ((r1 + 1)).toNatClampNeg), .ref (P.2.1 20)]) 1 rfl ?_
          refine me_iald rfl (g := 20) rfl rfl h.1 ?_
          replace h := h.2
          refine me_go (pc1 := 62) (lv1 := [(3, .int (μ1.2.1 125 ((r1 + 1)).toNatClampNeg)), (2, .int (μ1.2.1 125 r1.toNatClampNeg)), (1, .int r1), (0, .ref P.1)]) (st1 := [.int 53, .int (μ1.2.1 20 ((μ1.2.1 125 ((r1 + 1)).toNatClampNeg)).toNatClampNeg)]) 1 rfl ?_
          refine me_icmp rfl rfl (fun c => ?_) (fun c => ?_)
          · replace h := h.1 (ci_eq c)
            refine me_go (pc1 := 70) (lv1 := [(3, .int (μ1.2.1 125 ((r1 + 1)).toNatClampNeg)), (2, .int (μ1.2.1 125 r1.toNatClampNeg)), (1, .int r1), (0, .ref P.1)]) (st1 := [.int 0]) 1 rfl ?_
            exact me_retB rfl rfl (by decide) h
          · replace h := h.2 (cn_eq c)
            refine me_go (pc1 := 70) (lv1 := [(3, .int (μ1.2.1 125 ((r1 + 1)).toNatClampNeg)), (2, .int (μ1.2.1 125 r1.toNatClampNeg)), (1, .int r1), (0, .ref P.1)]) (st1 := [.int 1]) 2 rfl ?_
            exact me_retB rfl rfl (by decide) h
  · replace h := h.2 (cn_ne c)
    refine me_go (pc1 := 13) (lv1 := [(0, .ref P.1)]) (st1 := [.int 0]) 1 rfl ?_
    exact me_retB rfl rfl (by decide) h
theorem v_further_0 {X : ev_X} {W : Nat → Prop} {d : Nat} {P : MP} {μ : MS} {R : Int32 → MS → Prop} {T : MS → Prop}  (h : (MI (μ.1 128) (μ.2.2 124) ∧ ((¬ (μ.2.1 124 ((μ.1 128)).toNatClampNeg) = 0 → MC X W true d 447 [.ref P.1] P μ (fun r1 μ1 => (MI (r1 + 1) (μ1.2.2 125) ∧ (MI r1 (μ1.2.2 125) ∧ ((((μ1.2.1 125 r1.toNatClampNeg) = 0) → (((0 : Int) ≤ (μ1.2.1 125 ((r1 + 1)).toNatClampNeg).toInt → (MI (μ1.2.1 125 ((r1 + 1)).toNatClampNeg) (μ1.2.2 27) ∧ (MI (r1 + 1) (μ1.2.2 125) ∧ (MI (μ1.2.1 125 ((r1 + 1)).toNatClampNeg) (μ1.2.2 20) ∧ ((¬ (μ1.2.1 20 ((μ1.2.1 125 ((r1 + 1)).toNatClampNeg)).toNatClampNeg) = 51 → MC X W true d 448 [.ref P.1, .int 6, .int (μ1.2.1 125 ((r1 + 1)).toNatClampNeg), .int 0, .int 0, .int 0, .int 0] P (mA1 μ1 125 (((r1 + 1)).toNatClampNeg) (μ1.2.1 27 ((μ1.2.1 125 ((r1 + 1)).toNatClampNeg)).toNatClampNeg)) (fun r2 μ2 => (MI (μ1.2.1 125 ((r1 + 1)).toNatClampNeg) (μ2.2.2 22) ∧ MC X W true d 449 [.ref P.1, .int (μ2.2.1 22 ((μ1.2.1 125 ((r1 + 1)).toNatClampNeg)).toNatClampNeg)] P μ2 (fun r3 μ3 => ME X W true d 482 372 [(0, .ref P.1), (1, .int r1), (2, .int (μ1.2.1 125 ((r1 + 1)).toNatClampNeg))] [] P μ3 R T) (fun _ => False))) (fun _ => False)) ∧ ((μ1.2.1 20 ((μ1.2.1 125 ((r1 + 1)).toNatClampNeg)).toNatClampNeg) = 51 → MC X W true d 448 [.ref P.1, .int 5, .int (μ1.2.1 125 ((r1 + 1)).toNatClampNeg), .int 0, .int 0, .int 0, .int 0] P (mA1 μ1 125 (((r1 + 1)).toNatClampNeg) (μ1.2.1 27 ((μ1.2.1 125 ((r1 + 1)).toNatClampNeg)).toNatClampNeg)) (fun r4 μ4 => (MI (μ1.2.1 125 ((r1 + 1)).toNatClampNeg) (μ4.2.2 22) ∧ MC X W true d 449 [.ref P.1, .int (μ4.2.1 22 ((μ1.2.1 125 ((r1 + 1)).toNatClampNeg)).toNatClampNeg)] P μ4 (fun r5 μ5 => ME X W true d 482 372 [(0, .ref P.1), (1, .int r1), (2, .int (μ1.2.1 125 ((r1 + 1)).toNatClampNeg))] [] P μ5 R T) (fun _ => False))) (fun _ => False))))))) ∧ ((μ1.2.1 125 ((r1 + 1)).toNatClampNeg).toInt < (0 : Int) → MC X W true d 450 [.ref P.1] P μ1 (fun r6 μ6 => ME X W true d 482 372 [(0, .ref P.1), (1, .int r1), (2, .int (μ1.2.1 125 ((r1 + 1)).toNatClampNeg))] [] P μ6 R T) (fun _ => False)))) ∧ (((μ1.2.1 125 r1.toNatClampNeg) = 4) → (MI (r1 + 3) (μ1.2.2 125) ∧ (MI (μ1.2.1 125 ((r1 + 3)).toNatClampNeg) (μ1.2.2 58) ∧ (MI (μ1.2.1 58 ((μ1.2.1 125 ((r1 + 3)).toNatClampNeg)).toNatClampNeg) (μ1.2.2 23) ∧ (MI (μ1.2.1 23 ((μ1.2.1 58 ((μ1.2.1 125 ((r1 + 3)).toNatClampNeg)).toNatClampNeg)).toNatClampNeg) (μ1.2.2 23) ∧ (((μ1.2.1 23 ((μ1.2.1 23 ((μ1.2.1 58 ((μ1.2.1 125 ((r1 + 3)).toNatClampNeg)).toNatClampNeg)).toNatClampNeg)).toNatClampNeg).toInt < (0 : Int) → ME X W true d 482 304 [(0, .ref P.1), (1, .int r1), (2, .int (μ1.2.1 125 ((r1 + 1)).toNatClampNeg)), (3, .int (μ1.2.1 58 ((μ1.2.1 125 ((r1 + 3)).toNatClampNeg)).toNatClampNeg))] [] P μ1 R T) ∧ ((0 : Int) ≤ (μ1.2.1 23 ((μ1.2.1 23 ((μ1.2.1 58 ((μ1.2.1 125 ((r1 + 3)).toNatClampNeg)).toNatClampNeg)).toNatClampNeg)).toNatClampNeg).toInt → (MI (μ1.2.1 58 ((μ1.2.1 125 ((r1 + 3)).toNatClampNeg)).toNatClampNeg) (μ1.2.2 26) ∧ MC X W true d 446 [.ref P.1, .int 11] P (mS1 μ1 130 (μ1.2.1 26 ((μ1.2.1 58 ((μ1.2.1 125 ((r1 + 3)).toNatClampNeg)).toNatClampNeg)).toNatClampNeg)) (fun r7 μ7 => ME X W true d 482 304 [(0, .ref P.1), (1, .int r1), (2, .int (μ1.2.1 125 ((r1 + 1)).toNatClampNeg)), (3, .int (μ1.2.1 58 ((μ1.2.1 125 ((r1 + 3)).toNatClampNeg)).toNatClampNeg))] [] P μ7 R T) T)))))))) ∧ (((μ1.2.1 125 r1.toNatClampNeg) = 5) → MC X W true d 450 [.ref P.1] P μ1 (fun r8 μ8 => ME X W true d 482 372 [(0, .ref P.1), (1, .int r1), (2, .int (μ1.2.1 125 ((r1 + 1)).toNatClampNeg))] [] P μ8 R T) (fun _ => False)) ∧ (((μ1.2.1 125 r1.toNatClampNeg) = 6) → MC X W true d 450 [.ref P.1] P μ1 (fun r9 μ9 => MC X W true d 448 [.ref P.1, .int 7, .int 0, .int 0, .int 0, .int 0, .int 0] P μ9 (fun r10 μ10 => (MI (μ1.2.1 125 ((r1 + 1)).toNatClampNeg) (μ10.2.2 23) ∧ MC X W true d 449 [.ref P.1, .int (μ10.2.1 23 ((μ1.2.1 125 ((r1 + 1)).toNatClampNeg)).toNatClampNeg)] P μ10 (fun r11 μ11 => ME X W true d 482 372 [(0, .ref P.1), (1, .int r1), (2, .int (μ1.2.1 125 ((r1 + 1)).toNatClampNeg))] [] P μ11 R T) (fun _ => False))) (fun _ => False)) (fun _ => False)) ∧ (((μ1.2.1 125 r1.toNatClampNeg) = 7) → (MI (r1 + 2) (μ1.2.2 125) ∧ (MI (r1 + 3) (μ1.2.2 125) ∧ (MI (r1 + 4) (μ1.2.2 125) ∧ MC X W true d 450 [.ref P.1] P μ1 (fun r12 μ12 => (((μ1.2.1 125 ((r1 + 1)).toNatClampNeg).toInt ≤ (0 : Int) → ME X W true d 482 372 [(0, .ref P.1), (1, .int r1), (2, .int (μ1.2.1 125 ((r1 + 1)).toNatClampNeg))] [] P μ12 R T) ∧ ((0 : Int) < (μ1.2.1 125 ((r1 + 1)).toNatClampNeg).toInt → MC X W true d 476 [.ref P.1, .int (μ1.2.1 125 ((r1 + 1)).toNatClampNeg), .int (μ1.2.1 125 ((r1 + 2)).toNatClampNeg), .int (μ1.2.1 125 ((r1 + 3)).toNatClampNeg), .int (μ1.2.1 125 ((r1 + 4)).toNatClampNeg)] P μ12 (fun r13 μ13 => ME X W true d 482 372 [(0, .ref P.1), (1, .int r1), (2, .int (μ1.2.1 125 ((r1 + 1)).toNatClampNeg))] [] P μ13 R T) T))) (fun _ => False))))) ∧ (((μ1.2.1 125 r1.toNatClampNeg) = 8) → (MI (r1 + 2) (μ1.2.2 125) ∧ MC X W true d 475 [.ref P.1, .int (μ1.2.1 125 ((r1 + 2)).toNatClampNeg)] P μ1 (fun r14 μ14 => MC X W true d 450 [.ref P.1] P μ14 (fun r15 μ15 => ME X W true d 482 372 [(0, .ref P.1), (1, .int r1), (2, .int (μ1.2.1 125 ((r1 + 1)).toNatClampNeg))] [] P μ15 R T) (fun _ => False)) (fun _ => False))) ∧ ((∀ v ∈ [(0 : Int32), (4 : Int32), (5 : Int32), (6 : Int32), (7 : Int32), (8 : Int32)], ¬ (μ1.2.1 125 r1.toNatClampNeg) = v) → (MI (r1 + 2) (μ1.2.2 125) ∧ (MI (r1 + 2) (μ1.2.2 125) ∧ ((((μ1.2.1 125 ((r1 + 2)).toNatClampNeg) + 1).toInt < (μ1.1 41).toInt → (MI ((μ1.2.1 125 ((r1 + 2)).toNatClampNeg) + 1) (μ1.2.2 51) ∧ (((μ1.2.1 51 (((μ1.2.1 125 ((r1 + 2)).toNatClampNeg) + 1)).toNatClampNeg) = 0 → ME X W true d 482 372 [(0, .ref P.1), (1, .int r1), (2, .int (μ1.2.1 125 ((r1 + 1)).toNatClampNeg))] [] P (mA1 μ1 125 (((r1 + 2)).toNatClampNeg) ((μ1.2.1 125 ((r1 + 2)).toNatClampNeg) + 1)) R T) ∧ (¬ (μ1.2.1 51 (((μ1.2.1 125 ((r1 + 2)).toNatClampNeg) + 1)).toNatClampNeg) = 0 → (MI ((μ1.2.1 125 ((r1 + 2)).toNatClampNeg) + 1) (μ1.2.2 42) ∧ (MI (μ1.2.1 42 (((μ1.2.1 125 ((r1 + 2)).toNatClampNeg) + 1)).toNatClampNeg) (μ1.2.2 25) ∧ MC X W true d 449 [.ref P.1, .int (μ1.2.1 25 ((μ1.2.1 42 (((μ1.2.1 125 ((r1 + 2)).toNatClampNeg) + 1)).toNatClampNeg)).toNatClampNeg)] P (mA1 μ1 125 (((r1 + 2)).toNatClampNeg) ((μ1.2.1 125 ((r1 + 2)).toNatClampNeg) + 1)) (fun r16 μ16 => ME X W true d 482 372 [(0, .ref P.1), (1, .int r1), (2, .int (μ1.2.1 125 ((r1 + 1)).toNatClampNeg))] [] P μ16 R T) (fun _ => False))))))) ∧ ((μ1.1 41).toInt ≤ ((μ1.2.1 125 ((r1 + 2)).toNatClampNeg) + 1).toInt → MC X W true d 450 [.ref P.1] P (mA1 μ1 125 (((r1 + 2)).toNatClampNeg) ((μ1.2.1 125 ((r1 + 2)).toNatClampNeg) + 1)) (fun r17 μ17 => ME X W true d 482 372 [(0, .ref P.1), (1, .int r1), (2, .int (μ1.2.1 125 ((r1 + 1)).toNatClampNeg))] [] P μ17 R T) (fun _ => False)))))))))) (fun _ => False)) ∧ ((μ.2.1 124 ((μ.1 128)).toNatClampNeg) = 0 → MC X W true d 479 [.ref P.1, .int 4, .int 0, .int (-1), .int 0] P μ (fun r18 μ18 => R 0 μ18) (fun _ => False))))) : ME X W true d 482 0 [(0, .ref P.1)] [] P μ R T := by
  refine me_go (pc1 := 1) (lv1 := [(0, .ref P.1)]) (st1 := [.ref P.1]) 1 rfl ?_
  refine me_getf (v := .ref (P.2.1 124)) rfl rfl rfl ?_
  refine me_go (pc1 := 5) (lv1 := [(0, .ref P.1)]) (st1 := [.ref P.1, .ref (P.2.1 124)]) 1 rfl ?_
  refine me_getf (v := .int (μ.1 128)) rfl rfl rfl ?_
  refine me_iald rfl (g := 124) rfl rfl h.1 ?_
  replace h := h.2
  refine me_ifc rfl rfl (fun c => ?_) (fun c => ?_)
  · replace h := h.1 (ci_ne c)
    refine me_go (pc1 := 22) (lv1 := [(0, .ref P.1)]) (st1 := [.ref P.1]) 1 rfl ?_
    refine me_callN rfl rfl rfl (h.mono (fun r1 μ1 h => ?_) (fun _ h => h))
    refine me_go (pc1 := 27) (lv1 := [(1, .int r1), (0, .ref P.1)]) (st1 := [.ref P.1]) 2 rfl ?_
    refine me_getf (v := .ref (P.2.1 125)) rfl rfl rfl ?_
    refine me_go (pc1 := 33) (lv1 := [(1, .int r1), (0, .ref P.1)]) (st1 := [.int (r1 + 1), .ref (P.2.1 125)]) 3 rfl ?_
    refine me_iald rfl (g := 125) rfl rfl h.1 ?_
    replace h := h.2
    refine me_go (pc1 := 36) (lv1 := [(2, .int (μ1.2.1 125 ((r1 + 1)).toNatClampNeg)), (1, .int r1), (0, .ref P.1)]) (st1 := [.ref P.1]) 2 rfl ?_
    refine me_getf (v := .ref (P.2.1 125)) rfl rfl rfl ?_
    refine me_go (pc1 := 40) (lv1 := [(2, .int (μ1.2.1 125 ((r1 + 1)).toNatClampNeg)), (1, .int r1), (0, .ref P.1)]) (st1 := [.int r1, .ref (P.2.1 125)]) 1 rfl ?_
    refine me_iald rfl (g := 125) rfl rfl h.1 ?_
    replace h := h.2
    have hD := h
    have q41_0 : ((μ1.2.1 125 r1.toNatClampNeg) = 0) → ME X W true d 482 92 [(2, .int (μ1.2.1 125 ((r1 + 1)).toNatClampNeg)), (1, .int r1), (0, .ref P.1)] [] P μ1 R T := fun c => by
        replace h := hD.1 c
        refine me_go (pc1 := 93) (lv1 := [(2, .int (μ1.2.1 125 ((r1 + 1)).toNatClampNeg)), (1, .int r1), (0, .ref P.1)]) (st1 := [.int (μ1.2.1 125 ((r1 + 1)).toNatClampNeg)]) 1 rfl ?_
        refine me_ifc rfl rfl (fun c => ?_) (fun c => ?_)
        · replace h := h.1 (ci_ge c)
          refine me_go (pc1 := 104) (lv1 := [(2, .int (μ1.2.1 125 ((r1 + 1)).toNatClampNeg)), (1, .int r1), (0, .ref P.1)]) (st1 := [.ref P.1]) 1 rfl ?_
          refine me_getf (v := .ref (P.2.1 125)) rfl rfl rfl ?_
          refine me_go (pc1 := 111) (lv1 := [(2, .int (μ1.2.1 125 ((r1 + 1)).toNatClampNeg)), (1, .int r1), (0, .ref P.1)]) (st1 := [.ref P.1, .int (r1 + 1), .ref (P.2.1 125)]) 4 rfl ?_
          refine me_getf (v := .ref (P.2.1 27)) rfl rfl rfl ?_
          refine me_go (pc1 := 115) (lv1 := [(2, .int (μ1.2.1 125 ((r1 + 1)).toNatClampNeg)), (1, .int r1), (0, .ref P.1)]) (st1 := [.int (μ1.2.1 125 ((r1 + 1)).toNatClampNeg), .ref (P.2.1 27), .int (r1 + 1), .ref (P.2.1 125)]) 1 rfl ?_
          refine me_iald rfl (g := 27) rfl rfl h.1 ?_
          replace h := h.2
          have hi := h.1
          replace h := h.2
          refine me_iast rfl (g := 125) rfl rfl hi ?_
          refine me_go (pc1 := 119) (lv1 := [(2, .int (μ1.2.1 125 ((r1 + 1)).toNatClampNeg)), (1, .int r1), (0, .ref P.1)]) (st1 := [.ref P.1, .ref P.1]) 2 rfl ?_
          refine me_getf (v := .ref (P.2.1 20)) rfl rfl rfl ?_
          refine me_go (pc1 := 123) (lv1 := [(2, .int (μ1.2.1 125 ((r1 + 1)).toNatClampNeg)), (1, .int r1), (0, .ref P.1)]) (st1 := [.int (μ1.2.1 125 ((r1 + 1)).toNatClampNeg), .ref (P.2.1 20), .ref P.1]) 1 rfl ?_
          refine me_iald rfl (g := 20) rfl rfl h.1 ?_
          replace h := h.2
          refine me_go (pc1 := 126) (lv1 := [(2, .int (μ1.2.1 125 ((r1 + 1)).toNatClampNeg)), (1, .int r1), (0, .ref P.1)]) (st1 := [.int 51, .int (μ1.2.1 20 ((μ1.2.1 125 ((r1 + 1)).toNatClampNeg)).toNatClampNeg), .ref P.1]) 1 rfl ?_
          refine me_icmp rfl rfl (fun c => ?_) (fun c => ?_)
          · replace h := h.1 (ci_ne c)
            refine me_go (pc1 := 140) (lv1 := [(2, .int (μ1.2.1 125 ((r1 + 1)).toNatClampNeg)), (1, .int r1), (0, .ref P.1)]) (st1 := [.int 0, .int 0, .int 0, .int 0, .int (μ1.2.1 125 ((r1 + 1)).toNatClampNeg), .int 6, .ref P.1]) 6 rfl ?_
            refine me_callN rfl rfl rfl (h.mono (fun r2 μ2 h => ?_) (fun _ h => h))
            refine me_go (pc1 := 145) (lv1 := [(2, .int (μ1.2.1 125 ((r1 + 1)).toNatClampNeg)), (1, .int r1), (0, .ref P.1)]) (st1 := [.ref P.1, .ref P.1]) 2 rfl ?_
            refine me_getf (v := .ref (P.2.1 22)) rfl rfl rfl ?_
            refine me_go (pc1 := 149) (lv1 := [(2, .int (μ1.2.1 125 ((r1 + 1)).toNatClampNeg)), (1, .int r1), (0, .ref P.1)]) (st1 := [.int (μ1.2.1 125 ((r1 + 1)).toNatClampNeg), .ref (P.2.1 22), .ref P.1]) 1 rfl ?_
            refine me_iald rfl (g := 22) rfl rfl h.1 ?_
            replace h := h.2
            refine me_callN rfl rfl rfl (h.mono (fun r3 μ3 h => ?_) (fun _ h => h))
            refine me_go (pc1 := 372) (lv1 := [(2, .int (μ1.2.1 125 ((r1 + 1)).toNatClampNeg)), (1, .int r1), (0, .ref P.1)]) (st1 := []) 1 rfl ?_
            refine me_lv [(0, .ref P.1), (1, .int r1), (2, .int (μ1.2.1 125 ((r1 + 1)).toNatClampNeg))] (fl_c rfl (fl_c rfl (fl_c rfl fl_0))) ?_
            exact h
          · replace h := h.2 (cn_ne c)
            refine me_go (pc1 := 140) (lv1 := [(2, .int (μ1.2.1 125 ((r1 + 1)).toNatClampNeg)), (1, .int r1), (0, .ref P.1)]) (st1 := [.int 0, .int 0, .int 0, .int 0, .int (μ1.2.1 125 ((r1 + 1)).toNatClampNeg), .int 5, .ref P.1]) 7 rfl ?_
            refine me_callN rfl rfl rfl (h.mono (fun r4 μ4 h => ?_) (fun _ h => h))
            refine me_go (pc1 := 145) (lv1 := [(2, .int (μ1.2.1 125 ((r1 + 1)).toNatClampNeg)), (1, .int r1), (0, .ref P.1)]) (st1 := [.ref P.1, .ref P.1]) 2 rfl ?_
            refine me_getf (v := .ref (P.2.1 22)) rfl rfl rfl ?_
            refine me_go (pc1 := 149) (lv1 := [(2, .int (μ1.2.1 125 ((r1 + 1)).toNatClampNeg)), (1, .int r1), (0, .ref P.1)]) (st1 := [.int (μ1.2.1 125 ((r1 + 1)).toNatClampNeg), .ref (P.2.1 22), .ref P.1]) 1 rfl ?_
            refine me_iald rfl (g := 22) rfl rfl h.1 ?_
            replace h := h.2
            refine me_callN rfl rfl rfl (h.mono (fun r5 μ5 h => ?_) (fun _ h => h))
            refine me_go (pc1 := 372) (lv1 := [(2, .int (μ1.2.1 125 ((r1 + 1)).toNatClampNeg)), (1, .int r1), (0, .ref P.1)]) (st1 := []) 1 rfl ?_
            refine me_lv [(0, .ref P.1), (1, .int r1), (2, .int (μ1.2.1 125 ((r1 + 1)).toNatClampNeg))] (fl_c rfl (fl_c rfl (fl_c rfl fl_0))) ?_
            exact h
        · replace h := h.2 (cn_ge c)
          refine me_go (pc1 := 97) (lv1 := [(2, .int (μ1.2.1 125 ((r1 + 1)).toNatClampNeg)), (1, .int r1), (0, .ref P.1)]) (st1 := [.ref P.1]) 1 rfl ?_
          refine me_callN rfl rfl rfl (h.mono (fun r6 μ6 h => ?_) (fun _ h => h))
          refine me_go (pc1 := 372) (lv1 := [(2, .int (μ1.2.1 125 ((r1 + 1)).toNatClampNeg)), (1, .int r1), (0, .ref P.1)]) (st1 := []) 1 rfl ?_
          refine me_lv [(0, .ref P.1), (1, .int r1), (2, .int (μ1.2.1 125 ((r1 + 1)).toNatClampNeg))] (fl_c rfl (fl_c rfl (fl_c rfl fl_0))) ?_
          exact h
    have q41_1 : ((μ1.2.1 125 r1.toNatClampNeg) = 4) → ME X W true d 482 260 [(2, .int (μ1.2.1 125 ((r1 + 1)).toNatClampNeg)), (1, .int r1), (0, .ref P.1)] [] P μ1 R T := fun c => by
        replace h := hD.2.1 c
        refine me_go (pc1 := 261) (lv1 := [(2, .int (μ1.2.1 125 ((r1 + 1)).toNatClampNeg)), (1, .int r1), (0, .ref P.1)]) (st1 := [.ref P.1]) 1 rfl ?_
        refine me_getf (v := .ref (P.2.1 58)) rfl rfl rfl ?_
        refine me_go (pc1 := 265) (lv1 := [(2, .int (μ1.2.1 125 ((r1 + 1)).toNatClampNeg)), (1, .int r1), (0, .ref P.1)]) (st1 := [.ref P.1, .ref (P.2.1 58)]) 1 rfl ?_
        refine me_getf (v := .ref (P.2.1 125)) rfl rfl rfl ?_
        refine me_go (pc1 := 271) (lv1 := [(2, .int (μ1.2.1 125 ((r1 + 1)).toNatClampNeg)), (1, .int r1), (0, .ref P.1)]) (st1 := [.int (r1 + 3), .ref (P.2.1 125), .ref (P.2.1 58)]) 3 rfl ?_
        refine me_iald rfl (g := 125) rfl rfl h.1 ?_
        replace h := h.2
        refine me_iald rfl (g := 58) rfl rfl h.1 ?_
        replace h := h.2
        refine me_go (pc1 := 275) (lv1 := [(3, .int (μ1.2.1 58 ((μ1.2.1 125 ((r1 + 3)).toNatClampNeg)).toNatClampNeg)), (2, .int (μ1.2.1 125 ((r1 + 1)).toNatClampNeg)), (1, .int r1), (0, .ref P.1)]) (st1 := [.ref P.1]) 2 rfl ?_
        refine me_getf (v := .ref (P.2.1 23)) rfl rfl rfl ?_
        refine me_go (pc1 := 279) (lv1 := [(3, .int (μ1.2.1 58 ((μ1.2.1 125 ((r1 + 3)).toNatClampNeg)).toNatClampNeg)), (2, .int (μ1.2.1 125 ((r1 + 1)).toNatClampNeg)), (1, .int r1), (0, .ref P.1)]) (st1 := [.ref P.1, .ref (P.2.1 23)]) 1 rfl ?_
        refine me_getf (v := .ref (P.2.1 23)) rfl rfl rfl ?_
        refine me_go (pc1 := 283) (lv1 := [(3, .int (μ1.2.1 58 ((μ1.2.1 125 ((r1 + 3)).toNatClampNeg)).toNatClampNeg)), (2, .int (μ1.2.1 125 ((r1 + 1)).toNatClampNeg)), (1, .int r1), (0, .ref P.1)]) (st1 := [.int (μ1.2.1 58 ((μ1.2.1 125 ((r1 + 3)).toNatClampNeg)).toNatClampNeg), .ref (P.2.1 23), .ref (P.2.1 23)]) 1 rfl ?_
        refine me_iald rfl (g := 23) rfl rfl h.1 ?_
        replace h := h.2
        refine me_iald rfl (g := 23) rfl rfl h.1 ?_
        replace h := h.2
        refine me_ifc rfl rfl (fun c => ?_) (fun c => ?_)
        · replace h := h.1 (ci_lt c)
          refine me_lv [(0, .ref P.1), (1, .int r1), (2, .int (μ1.2.1 125 ((r1 + 1)).toNatClampNeg)), (3, .int (μ1.2.1 58 ((μ1.2.1 125 ((r1 + 3)).toNatClampNeg)).toNatClampNeg))] (fl_c rfl (fl_c rfl (fl_c rfl (fl_c rfl fl_0)))) ?_
          exact h
        · replace h := h.2 (cn_lt c)
          refine me_go (pc1 := 290) (lv1 := [(3, .int (μ1.2.1 58 ((μ1.2.1 125 ((r1 + 3)).toNatClampNeg)).toNatClampNeg)), (2, .int (μ1.2.1 125 ((r1 + 1)).toNatClampNeg)), (1, .int r1), (0, .ref P.1)]) (st1 := [.ref P.1, .ref P.1]) 2 rfl ?_
          refine me_getf (v := .ref (P.2.1 26)) rfl rfl rfl ?_
          refine me_go (pc1 := 294) (lv1 := [(3, .int (μ1.2.1 58 ((μ1.2.1 125 ((r1 + 3)).toNatClampNeg)).toNatClampNeg)), (2, .int (μ1.2.1 125 ((r1 + 1)).toNatClampNeg)), (1, .int r1), (0, .ref P.1)]) (st1 := [.int (μ1.2.1 58 ((μ1.2.1 125 ((r1 + 3)).toNatClampNeg)).toNatClampNeg), .ref (P.2.1 26), .ref P.1]) 1 rfl ?_
          refine me_iald rfl (g := 26) rfl rfl h.1 ?_
          replace h := h.2
          refine me_put rfl rfl rfl ?_
          refine me_go (pc1 := 301) (lv1 := [(3, .int (μ1.2.1 58 ((μ1.2.1 125 ((r1 + 3)).toNatClampNeg)).toNatClampNeg)), (2, .int (μ1.2.1 125 ((r1 + 1)).toNatClampNeg)), (1, .int r1), (0, .ref P.1)]) (st1 := [.int 11, .ref P.1]) 2 rfl ?_
          refine me_call rfl rfl rfl rfl (h.mono (fun r7 μ7 h => ?_) (fun _ h => h))
          refine me_lv [(0, .ref P.1), (1, .int r1), (2, .int (μ1.2.1 125 ((r1 + 1)).toNatClampNeg)), (3, .int (μ1.2.1 58 ((μ1.2.1 125 ((r1 + 3)).toNatClampNeg)).toNatClampNeg))] (fl_c rfl (fl_c rfl (fl_c rfl (fl_c rfl fl_0)))) ?_
          exact h
    have q41_2 : ((μ1.2.1 125 r1.toNatClampNeg) = 5) → ME X W true d 482 156 [(2, .int (μ1.2.1 125 ((r1 + 1)).toNatClampNeg)), (1, .int r1), (0, .ref P.1)] [] P μ1 R T := fun c => by
        replace h := hD.2.2.1 c
        refine me_go (pc1 := 157) (lv1 := [(2, .int (μ1.2.1 125 ((r1 + 1)).toNatClampNeg)), (1, .int r1), (0, .ref P.1)]) (st1 := [.ref P.1]) 1 rfl ?_
        refine me_callN rfl rfl rfl (h.mono (fun r8 μ8 h => ?_) (fun _ h => h))
        refine me_go (pc1 := 372) (lv1 := [(2, .int (μ1.2.1 125 ((r1 + 1)).toNatClampNeg)), (1, .int r1), (0, .ref P.1)]) (st1 := []) 1 rfl ?_
        refine me_lv [(0, .ref P.1), (1, .int r1), (2, .int (μ1.2.1 125 ((r1 + 1)).toNatClampNeg))] (fl_c rfl (fl_c rfl (fl_c rfl fl_0))) ?_
        exact h
    have q41_3 : ((μ1.2.1 125 r1.toNatClampNeg) = 6) → ME X W true d 482 163 [(2, .int (μ1.2.1 125 ((r1 + 1)).toNatClampNeg)), (1, .int r1), (0, .ref P.1)] [] P μ1 R T := fun c => by
        replace h := hD.2.2.2.1 c
        refine me_go (pc1 := 164) (lv1 := [(2, .int (μ1.2.1 125 ((r1 + 1)).toNatClampNeg)), (1, .int r1), (0, .ref P.1)]) (st1 := [.ref P.1]) 1 rfl ?_
        refine me_callN rfl rfl rfl (h.mono (fun r9 μ9 h => ?_) (fun _ h => h))
        refine me_go (pc1 := 175) (lv1 := [(2, .int (μ1.2.1 125 ((r1 + 1)).toNatClampNeg)), (1, .int r1), (0, .ref P.1)]) (st1 := [.int 0, .int 0, .int 0, .int 0, .int 0, .int 7, .ref P.1]) 7 rfl ?_
        refine me_callN rfl rfl rfl (h.mono (fun r10 μ10 h => ?_) (fun _ h => h))
        refine me_go (pc1 := 180) (lv1 := [(2, .int (μ1.2.1 125 ((r1 + 1)).toNatClampNeg)), (1, .int r1), (0, .ref P.1)]) (st1 := [.ref P.1, .ref P.1]) 2 rfl ?_
        refine me_getf (v := .ref (P.2.1 23)) rfl rfl rfl ?_
        refine me_go (pc1 := 184) (lv1 := [(2, .int (μ1.2.1 125 ((r1 + 1)).toNatClampNeg)), (1, .int r1), (0, .ref P.1)]) (st1 := [.int (μ1.2.1 125 ((r1 + 1)).toNatClampNeg), .ref (P.2.1 23), .ref P.1]) 1 rfl ?_
        refine me_iald rfl (g := 23) rfl rfl h.1 ?_
        replace h := h.2
        refine me_callN rfl rfl rfl (h.mono (fun r11 μ11 h => ?_) (fun _ h => h))
        refine me_go (pc1 := 372) (lv1 := [(2, .int (μ1.2.1 125 ((r1 + 1)).toNatClampNeg)), (1, .int r1), (0, .ref P.1)]) (st1 := []) 1 rfl ?_
        refine me_lv [(0, .ref P.1), (1, .int r1), (2, .int (μ1.2.1 125 ((r1 + 1)).toNatClampNeg))] (fl_c rfl (fl_c rfl (fl_c rfl fl_0))) ?_
        exact h
    have q41_4 : ((μ1.2.1 125 r1.toNatClampNeg) = 7) → ME X W true d 482 191 [(2, .int (μ1.2.1 125 ((r1 + 1)).toNatClampNeg)), (1, .int r1), (0, .ref P.1)] [] P μ1 R T := fun c => by
        replace h := hD.2.2.2.2.1 c
        refine me_go (pc1 := 192) (lv1 := [(2, .int (μ1.2.1 125 ((r1 + 1)).toNatClampNeg)), (1, .int r1), (0, .ref P.1)]) (st1 := [.ref P.1]) 1 rfl ?_
        refine me_getf (v := .ref (P.2.1 125)) rfl rfl rfl ?_
        refine me_go (pc1 := 198) (lv1 := [(2, .int (μ1.2.1 125 ((r1 + 1)).toNatClampNeg)), (1, .int r1), (0, .ref P.1)]) (st1 := [.int (r1 + 2), .ref (P.2.1 125)]) 3 rfl ?_
        refine me_iald rfl (g := 125) rfl rfl h.1 ?_
        replace h := h.2
        refine me_go (pc1 := 201) (lv1 := [(3, .int (μ1.2.1 125 ((r1 + 2)).toNatClampNeg)), (2, .int (μ1.2.1 125 ((r1 + 1)).toNatClampNeg)), (1, .int r1), (0, .ref P.1)]) (st1 := [.ref P.1]) 2 rfl ?_
        refine me_getf (v := .ref (P.2.1 125)) rfl rfl rfl ?_
        refine me_go (pc1 := 207) (lv1 := [(3, .int (μ1.2.1 125 ((r1 + 2)).toNatClampNeg)), (2, .int (μ1.2.1 125 ((r1 + 1)).toNatClampNeg)), (1, .int r1), (0, .ref P.1)]) (st1 := [.int (r1 + 3), .ref (P.2.1 125)]) 3 rfl ?_
        refine me_iald rfl (g := 125) rfl rfl h.1 ?_
        replace h := h.2
        refine me_go (pc1 := 211) (lv1 := [(4, .int (μ1.2.1 125 ((r1 + 3)).toNatClampNeg)), (3, .int (μ1.2.1 125 ((r1 + 2)).toNatClampNeg)), (2, .int (μ1.2.1 125 ((r1 + 1)).toNatClampNeg)), (1, .int r1), (0, .ref P.1)]) (st1 := [.ref P.1]) 2 rfl ?_
        refine me_getf (v := .ref (P.2.1 125)) rfl rfl rfl ?_
        refine me_go (pc1 := 217) (lv1 := [(4, .int (μ1.2.1 125 ((r1 + 3)).toNatClampNeg)), (3, .int (μ1.2.1 125 ((r1 + 2)).toNatClampNeg)), (2, .int (μ1.2.1 125 ((r1 + 1)).toNatClampNeg)), (1, .int r1), (0, .ref P.1)]) (st1 := [.int (r1 + 4), .ref (P.2.1 125)]) 3 rfl ?_
        refine me_iald rfl (g := 125) rfl rfl h.1 ?_
        replace h := h.2
        refine me_go (pc1 := 221) (lv1 := [(5, .int (μ1.2.1 125 ((r1 + 4)).toNatClampNeg)), (4, .int (μ1.2.1 125 ((r1 + 3)).toNatClampNeg)), (3, .int (μ1.2.1 125 ((r1 + 2)).toNatClampNeg)), (2, .int (μ1.2.1 125 ((r1 + 1)).toNatClampNeg)), (1, .int r1), (0, .ref P.1)]) (st1 := [.ref P.1]) 2 rfl ?_
        refine me_callN rfl rfl rfl (h.mono (fun r12 μ12 h => ?_) (fun _ h => h))
        refine me_go (pc1 := 225) (lv1 := [(5, .int (μ1.2.1 125 ((r1 + 4)).toNatClampNeg)), (4, .int (μ1.2.1 125 ((r1 + 3)).toNatClampNeg)), (3, .int (μ1.2.1 125 ((r1 + 2)).toNatClampNeg)), (2, .int (μ1.2.1 125 ((r1 + 1)).toNatClampNeg)), (1, .int r1), (0, .ref P.1)]) (st1 := [.int (μ1.2.1 125 ((r1 + 1)).toNatClampNeg)]) 1 rfl ?_
        refine me_ifc rfl rfl (fun c => ?_) (fun c => ?_)
        · replace h := h.1 (ci_le c)
          refine me_lv [(0, .ref P.1), (1, .int r1), (2, .int (μ1.2.1 125 ((r1 + 1)).toNatClampNeg))] (fl_c rfl (fl_c rfl (fl_c rfl fl_0))) ?_
          exact h
        · replace h := h.2 (cn_le c)
          refine me_go (pc1 := 235) (lv1 := [(5, .int (μ1.2.1 125 ((r1 + 4)).toNatClampNeg)), (4, .int (μ1.2.1 125 ((r1 + 3)).toNatClampNeg)), (3, .int (μ1.2.1 125 ((r1 + 2)).toNatClampNeg)), (2, .int (μ1.2.1 125 ((r1 + 1)).toNatClampNeg)), (1, .int r1), (0, .ref P.1)]) (st1 := [.int (μ1.2.1 125 ((r1 + 4)).toNatClampNeg), .int (μ1.2.1 125 ((r1 + 3)).toNatClampNeg), .int (μ1.2.1 125 ((r1 + 2)).toNatClampNeg), .int (μ1.2.1 125 ((r1 + 1)).toNatClampNeg), .ref P.1]) 5 rfl ?_
          refine me_call rfl rfl rfl rfl (h.mono (fun r13 μ13 h => ?_) (fun _ h => h))
          refine me_go (pc1 := 372) (lv1 := [(5, .int (μ1.2.1 125 ((r1 + 4)).toNatClampNeg)), (4, .int (μ1.2.1 125 ((r1 + 3)).toNatClampNeg)), (3, .int (μ1.2.1 125 ((r1 + 2)).toNatClampNeg)), (2, .int (μ1.2.1 125 ((r1 + 1)).toNatClampNeg)), (1, .int r1), (0, .ref P.1)]) (st1 := []) 1 rfl ?_
          refine me_lv [(0, .ref P.1), (1, .int r1), (2, .int (μ1.2.1 125 ((r1 + 1)).toNatClampNeg))] (fl_c rfl (fl_c rfl (fl_c rfl fl_0))) ?_
          exact h
    have q41_5 : ((μ1.2.1 125 r1.toNatClampNeg) = 8) → ME X W true d 482 241 [(2, .int (μ1.2.1 125 ((r1 + 1)).toNatClampNeg)), (1, .int r1), (0, .ref P.1)] [] P μ1 R T := fun c => by
        replace h := hD.2.2.2.2.2.1 c
        refine me_go (pc1 := 243) (lv1 := [(2, .int (μ1.2.1 125 ((r1 + 1)).toNatClampNeg)), (1, .int r1), (0, .ref P.1)]) (st1 := [.ref P.1, .ref P.1]) 2 rfl ?_
        refine me_getf (v := .ref (P.2.1 125)) rfl rfl rfl ?_
        refine me_go (pc1 := 249) (lv1 := [(2, .int (μ1.2.1 125 ((r1 + 1)).toNatClampNeg)), (1, .int r1), (0, .ref P.1)]) (st1 := [.int (r1 + 2), .ref (P.2.1 125), .ref P.1]) 3 rfl ?_
        refine me_iald rfl (g := 125) rfl rfl h.1 ?_
        replace h := h.2
        refine me_callN rfl rfl rfl (h.mono (fun r14 μ14 h => ?_) (fun _ h => h))
        refine me_go (pc1 := 254) (lv1 := [(2, .int (μ1.2.1 125 ((r1 + 1)).toNatClampNeg)), (1, .int r1), (0, .ref P.1)]) (st1 := [.ref P.1]) 1 rfl ?_
        refine me_callN rfl rfl rfl (h.mono (fun r15 μ15 h => ?_) (fun _ h => h))
        refine me_go (pc1 := 372) (lv1 := [(2, .int (μ1.2.1 125 ((r1 + 1)).toNatClampNeg)), (1, .int r1), (0, .ref P.1)]) (st1 := []) 1 rfl ?_
        refine me_lv [(0, .ref P.1), (1, .int r1), (2, .int (μ1.2.1 125 ((r1 + 1)).toNatClampNeg))] (fl_c rfl (fl_c rfl (fl_c rfl fl_0))) ?_
        exact h
    by_cases c : (μ1.2.1 125 r1.toNatClampNeg) = 0
    · exact me_sw rfl c (t := 92) rfl (q41_0 (c))
    rename ¬ (μ1.2.1 125 r1.toNatClampNeg) = 0 => n0
    by_cases c : (μ1.2.1 125 r1.toNatClampNeg) = 4
    · exact me_sw rfl c (t := 260) rfl (q41_1 (c))
    rename ¬ (μ1.2.1 125 r1.toNatClampNeg) = 4 => n1
    by_cases c : (μ1.2.1 125 r1.toNatClampNeg) = 5
    · exact me_sw rfl c (t := 156) rfl (q41_2 (c))
    rename ¬ (μ1.2.1 125 r1.toNatClampNeg) = 5 => n2
    by_cases c : (μ1.2.1 125 r1.toNatClampNeg) = 6
    · exact me_sw rfl c (t := 163) rfl (q41_3 (c))
    rename ¬ (μ1.2.1 125 r1.toNatClampNeg) = 6 => n3
    by_cases c : (μ1.2.1 125 r1.toNatClampNeg) = 7
    · exact me_sw rfl c (t := 191) rfl (q41_4 (c))
    rename ¬ (μ1.2.1 125 r1.toNatClampNeg) = 7 => n4
    by_cases c : (μ1.2.1 125 r1.toNatClampNeg) = 8
    · exact me_sw rfl c (t := 241) rfl (q41_5 (c))
    rename ¬ (μ1.2.1 125 r1.toNatClampNeg) = 8 => n5
    have hk : ∀ v ∈ [(0 : Int32), (4 : Int32), (5 : Int32), (6 : Int32), (7 : Int32), (8 : Int32)], ¬ (μ1.2.1 125 r1.toNatClampNeg) = v := fun v hv => by
      simp only [List.mem_cons, List.not_mem_nil, or_false] at hv
      rcases hv with rfl | rfl | rfl | rfl | rfl | rfl <;> assumption
    refine me_tsD (t := 313) rfl _ rfl rfl hk ?_
    replace h := hD.2.2.2.2.2.2 hk
    refine me_go (pc1 := 314) (lv1 := [(2, .int (μ1.2.1 125 ((r1 + 1)).toNatClampNeg)), (1, .int r1), (0, .ref P.1)]) (st1 := [.ref P.1]) 1 rfl ?_
    refine me_getf (v := .ref (P.2.1 125)) rfl rfl rfl ?_
    refine me_go (pc1 := 320) (lv1 := [(2, .int (μ1.2.1 125 ((r1 + 1)).toNatClampNeg)), (1, .int r1), (0, .ref P.1)]) (st1 := [.int (r1 + 2), .ref (P.2.1 125)]) 3 rfl ?_
    refine me_iald rfl (g := 125) rfl rfl h.1 ?_
    replace h := h.2
    refine me_go (pc1 := 325) (lv1 := [(3, .int ((μ1.2.1 125 ((r1 + 2)).toNatClampNeg) + 1)), (2, .int (μ1.2.1 125 ((r1 + 1)).toNatClampNeg)), (1, .int r1), (0, .ref P.1)]) (st1 := [.ref P.1]) 4 rfl ?_
    refine me_getf (v := .ref (P.2.1 125)) rfl rfl rfl ?_
    refine me_go (pc1 := 332) (lv1 := [(3, .int ((μ1.2.1 125 ((r1 + 2)).toNatClampNeg) + 1)), (2, .int (μ1.2.1 125 ((r1 + 1)).toNatClampNeg)), (1, .int r1), (0, .ref P.1)]) (st1 := [.int ((μ1.2.1 125 ((r1 + 2)).toNatClampNeg) + 1), .int (r1 + 2), .ref (P.2.1 125)]) 4 rfl ?_
    have hi := h.1
    replace h := h.2
    refine me_iast rfl (g := 125) rfl rfl hi ?_
    refine me_go (pc1 := 335) (lv1 := [(3, .int ((μ1.2.1 125 ((r1 + 2)).toNatClampNeg) + 1)), (2, .int (μ1.2.1 125 ((r1 + 1)).toNatClampNeg)), (1, .int r1), (0, .ref P.1)]) (st1 := [.ref P.1, .int ((μ1.2.1 125 ((r1 + 2)).toNatClampNeg) + 1)]) 2 rfl ?_
    refine me_getf (v := .int (μ1.1 41)) rfl rfl rfl ?_
    refine me_icmp rfl rfl (fun c => ?_) (fun c => ?_)
    · replace h := h.1 (ci_lt c)
      refine me_go (pc1 := 349) (lv1 := [(3, .int ((μ1.2.1 125 ((r1 + 2)).toNatClampNeg) + 1)), (2, .int (μ1.2.1 125 ((r1 + 1)).toNatClampNeg)), (1, .int r1), (0, .ref P.1)]) (st1 := [.ref P.1]) 1 rfl ?_
      refine me_getf (v := .ref (P.2.1 51)) rfl rfl rfl ?_
      refine me_go (pc1 := 353) (lv1 := [(3, .int ((μ1.2.1 125 ((r1 + 2)).toNatClampNeg) + 1)), (2, .int (μ1.2.1 125 ((r1 + 1)).toNatClampNeg)), (1, .int r1), (0, .ref P.1)]) (st1 := [.int ((μ1.2.1 125 ((r1 + 2)).toNatClampNeg) + 1), .ref (P.2.1 51)]) 1 rfl ?_
      refine me_bald rfl (g := 51) rfl (Or.inr rfl) h.1 ?_
      replace h := h.2
      refine me_ifc rfl rfl (fun c => ?_) (fun c => ?_)
      · replace h := h.1 (ci_eq c)
        refine me_lv [(0, .ref P.1), (1, .int r1), (2, .int (μ1.2.1 125 ((r1 + 1)).toNatClampNeg))] (fl_c rfl (fl_c rfl (fl_c rfl fl_0))) ?_
        exact h
      · replace h := h.2 (cn_eq c)
        refine me_go (pc1 := 359) (lv1 := [(3, .int ((μ1.2.1 125 ((r1 + 2)).toNatClampNeg) + 1)), (2, .int (μ1.2.1 125 ((r1 + 1)).toNatClampNeg)), (1, .int r1), (0, .ref P.1)]) (st1 := [.ref P.1, .ref P.1]) 2 rfl ?_
        refine me_getf (v := .ref (P.2.1 25)) rfl rfl rfl ?_
        refine me_go (pc1 := 363) (lv1 := [(3, .int ((μ1.2.1 125 ((r1 + 2)).toNatClampNeg) + 1)), (2, .int (μ1.2.1 125 ((r1 + 1)).toNatClampNeg)), (1, .int r1), (0, .ref P.1)]) (st1 := [.ref P.1, .ref (P.2.1 25), .ref P.1]) 1 rfl ?_
        refine me_getf (v := .ref (P.2.1 42)) rfl rfl rfl ?_
        refine me_go (pc1 := 367) (lv1 := [(3, .int ((μ1.2.1 125 ((r1 + 2)).toNatClampNeg) + 1)), (2, .int (μ1.2.1 125 ((r1 + 1)).toNatClampNeg)), (1, .int r1), (0, .ref P.1)]) (st1 := [.int ((μ1.2.1 125 ((r1 + 2)).toNatClampNeg) + 1), .ref (P.2.1 42), .ref (P.2.1 25), .ref P.1]) 1 rfl ?_
        refine me_iald rfl (g := 42) rfl rfl h.1 ?_
        replace h := h.2
        refine me_iald rfl (g := 25) rfl rfl h.1 ?_
        replace h := h.2
        refine me_callN rfl rfl rfl (h.mono (fun r16 μ16 h => ?_) (fun _ h => h))
        refine me_lv [(0, .ref P.1), (1, .int r1), (2, .int (μ1.2.1 125 ((r1 + 1)).toNatClampNeg))] (fl_c rfl (fl_c rfl (fl_c rfl fl_0))) ?_
        exact h
    · replace h := h.2 (cn_lt c)
      refine me_go (pc1 := 342) (lv1 := [(3, .int ((μ1.2.1 125 ((r1 + 2)).toNatClampNeg) + 1)), (2, .int (μ1.2.1 125 ((r1 + 1)).toNatClampNeg)), (1, .int r1), (0, .ref P.1)]) (st1 := [.ref P.1]) 1 rfl ?_
      refine me_callN rfl rfl rfl (h.mono (fun r17 μ17 h => ?_) (fun _ h => h))
      refine me_go (pc1 := 372) (lv1 := [(3, .int ((μ1.2.1 125 ((r1 + 2)).toNatClampNeg) + 1)), (2, .int (μ1.2.1 125 ((r1 + 1)).toNatClampNeg)), (1, .int r1), (0, .ref P.1)]) (st1 := []) 1 rfl ?_
      refine me_lv [(0, .ref P.1), (1, .int r1), (2, .int (μ1.2.1 125 ((r1 + 1)).toNatClampNeg))] (fl_c rfl (fl_c rfl (fl_c rfl fl_0))) ?_
      exact h
  · replace h := h.2 (cn_ne c)
    refine me_go (pc1 := 17) (lv1 := [(0, .ref P.1)]) (st1 := [.int 0, .int (-1), .int 0, .int 4, .ref P.1]) 5 rfl ?_
    refine me_callN rfl rfl rfl (h.mono (fun r18 μ18 h => ?_) (fun _ h => h))
    exact me_ret (v := none) (r := 0) rfl rfl rfl h
theorem v_further_304 {X : ev_X} {W : Nat → Prop} {d : Nat} {P : MP} {μ : MS} {R : Int32 → MS → Prop} {T : MS → Prop} (x1 : Int32) (x2 : Int32) (x3 : Int32) (h : MC X W true d 474 [.ref P.1] P μ (fun r1 μ1 => ME X W true d 482 372 [(0, .ref P.1), (1, .int x1), (2, .int x2)] [] P μ1 R T) (fun _ => False)) : ME X W true d 482 304 [(0, .ref P.1), (1, .int x1), (2, .int x2), (3, .int x3)] [] P μ R T := by
  refine me_go (pc1 := 305) (lv1 := [(0, .ref P.1), (1, .int x1), (2, .int x2), (3, .int x3)]) (st1 := [.ref P.1]) 1 rfl ?_
  refine me_callN rfl rfl rfl (h.mono (fun r1 μ1 h => ?_) (fun _ h => h))
  refine me_go (pc1 := 372) (lv1 := [(4, .int r1), (0, .ref P.1), (1, .int x1), (2, .int x2), (3, .int x3)]) (st1 := []) 2 rfl ?_
  refine me_lv [(0, .ref P.1), (1, .int x1), (2, .int x2)] (fl_c rfl (fl_c rfl (fl_c rfl fl_0))) ?_
  exact h
theorem v_further_372 {X : ev_X} {W : Nat → Prop} {d : Nat} {P : MP} {μ : MS} {R : Int32 → MS → Prop} {T : MS → Prop} (x1 : Int32) (x2 : Int32) (h : R 0 μ) : ME X W true d 482 372 [(0, .ref P.1), (1, .int x1), (2, .int x2)] [] P μ R T := by
  exact me_ret (v := none) (r := 0) rfl rfl rfl h
theorem v_isReady_0 {X : ev_X} {W : Nat → Prop} {d : Nat} {P : MP} {μ : MS} {R : Int32 → MS → Prop} {T : MS → Prop} (x1 : Int32) (h : (MI x1 (μ.2.2 116) ∧ (((μ.2.1 116 x1.toNatClampNeg) = 0 → (MI x1 (μ.2.2 111) ∧ (((μ.2.1 111 x1.toNatClampNeg) = 0 → R 1 μ) ∧ (¬ (μ.2.1 111 x1.toNatClampNeg) = 0 → (MI x1 (μ.2.2 111) ∧ ((¬ (μ.2.1 111 x1.toNatClampNeg) = 1 → (MI x1 (μ.2.2 111) ∧ ((¬ (μ.2.1 111 x1.toNatClampNeg) = 3 → R 0 μ) ∧ ((μ.2.1 111 x1.toNatClampNeg) = 3 → (MI x1 (μ.2.2 112) ∧ (MI (μ.2.1 112 x1.toNatClampNeg) (μ.2.2 116) ∧ (((μ.2.1 116 ((μ.2.1 112 x1.toNatClampNeg)).toNatClampNeg) = 0 → R 0 μ) ∧ (¬ (μ.2.1 116 ((μ.2.1 112 x1.toNatClampNeg)).toNatClampNeg) = 0 → R 1 μ)))))))) ∧ ((μ.2.1 111 x1.toNatClampNeg) = 1 → (MI x1 (μ.2.2 112) ∧ (MI (μ.2.1 112 x1.toNatClampNeg) (μ.2.2 108) ∧ (((μ.2.1 108 ((μ.2.1 112 x1.toNatClampNeg)).toNatClampNeg) = (-1) → R 1 μ) ∧ (¬ (μ.2.1 108 ((μ.2.1 112 x1.toNatClampNeg)).toNatClampNeg) = (-1) → (MI x1 (μ.2.2 111) ∧ ((¬ (μ.2.1 111 x1.toNatClampNeg) = 3 → R 0 μ) ∧ ((μ.2.1 111 x1.toNatClampNeg) = 3 → (MI x1 (μ.2.2 112) ∧ (MI (μ.2.1 112 x1.toNatClampNeg) (μ.2.2 116) ∧ (((μ.2.1 116 ((μ.2.1 112 x1.toNatClampNeg)).toNatClampNeg) = 0 → R 0 μ) ∧ (¬ (μ.2.1 116 ((μ.2.1 112 x1.toNatClampNeg)).toNatClampNeg) = 0 → R 1 μ)))))))))))))))))) ∧ (¬ (μ.2.1 116 x1.toNatClampNeg) = 0 → R 0 μ)))) : ME X W true d 483 0 [(0, .ref P.1), (1, .int x1)] [] P μ R T := by
  refine me_go (pc1 := 1) (lv1 := [(0, .ref P.1), (1, .int x1)]) (st1 := [.ref P.1]) 1 rfl ?_
  refine me_getf (v := .ref (P.2.1 116)) rfl rfl rfl ?_
  refine me_go (pc1 := 5) (lv1 := [(0, .ref P.1), (1, .int x1)]) (st1 := [.int x1, .ref (P.2.1 116)]) 1 rfl ?_
  refine me_iald rfl (g := 116) rfl rfl h.1 ?_
  replace h := h.2
  refine me_ifc rfl rfl (fun c => ?_) (fun c => ?_)
  · replace h := h.1 (ci_eq c)
    refine me_go (pc1 := 12) (lv1 := [(0, .ref P.1), (1, .int x1)]) (st1 := [.ref P.1]) 1 rfl ?_
    refine me_getf (v := .ref (P.2.1 111)) rfl rfl rfl ?_
    refine me_go (pc1 := 16) (lv1 := [(0, .ref P.1), (1, .int x1)]) (st1 := [.int x1, .ref (P.2.1 111)]) 1 rfl ?_
    refine me_iald rfl (g := 111) rfl rfl h.1 ?_
    replace h := h.2
    refine me_ifc rfl rfl (fun c => ?_) (fun c => ?_)
    · replace h := h.1 (ci_eq c)
      refine me_go (pc1 := 74) (lv1 := [(0, .ref P.1), (1, .int x1)]) (st1 := [.int 1]) 2 rfl ?_
      exact me_retB rfl rfl (by decide) h
    · replace h := h.2 (cn_eq c)
      refine me_go (pc1 := 21) (lv1 := [(0, .ref P.1), (1, .int x1)]) (st1 := [.ref P.1]) 1 rfl ?_
      refine me_getf (v := .ref (P.2.1 111)) rfl rfl rfl ?_
      refine me_go (pc1 := 25) (lv1 := [(0, .ref P.1), (1, .int x1)]) (st1 := [.int x1, .ref (P.2.1 111)]) 1 rfl ?_
      refine me_iald rfl (g := 111) rfl rfl h.1 ?_
      replace h := h.2
      refine me_go (pc1 := 27) (lv1 := [(0, .ref P.1), (1, .int x1)]) (st1 := [.int 1, .int (μ.2.1 111 x1.toNatClampNeg)]) 1 rfl ?_
      refine me_icmp rfl rfl (fun c => ?_) (fun c => ?_)
      · replace h := h.1 (ci_ne c)
        refine me_go (pc1 := 46) (lv1 := [(0, .ref P.1), (1, .int x1)]) (st1 := [.ref P.1]) 1 rfl ?_
        refine me_getf (v := .ref (P.2.1 111)) rfl rfl rfl ?_
        refine me_go (pc1 := 50) (lv1 := [(0, .ref P.1), (1, .int x1)]) (st1 := [.int x1, .ref (P.2.1 111)]) 1 rfl ?_
        refine me_iald rfl (g := 111) rfl rfl h.1 ?_
        replace h := h.2
        refine me_go (pc1 := 52) (lv1 := [(0, .ref P.1), (1, .int x1)]) (st1 := [.int 3, .int (μ.2.1 111 x1.toNatClampNeg)]) 1 rfl ?_
        refine me_icmp rfl rfl (fun c => ?_) (fun c => ?_)
        · replace h := h.1 (ci_ne c)
          refine me_go (pc1 := 74) (lv1 := [(0, .ref P.1), (1, .int x1)]) (st1 := [.int 0]) 1 rfl ?_
          exact me_retB rfl rfl (by decide) h
        · replace h := h.2 (cn_ne c)
          refine me_go (pc1 := 56) (lv1 := [(0, .ref P.1), (1, .int x1)]) (st1 := [.ref P.1]) 1 rfl ?_
          refine me_getf (v := .ref (P.2.1 116)) rfl rfl rfl ?_
          refine me_go (pc1 := 60) (lv1 := [(0, .ref P.1), (1, .int x1)]) (st1 := [.ref P.1, .ref (P.2.1 116)]) 1 rfl ?_
          refine me_getf (v := .ref (P.2.1 112)) rfl rfl rfl ?_
          refine me_go (pc1 := 64) (lv1 := [(0, .ref P.1), (1, .int x1)]) (st1 := [.int x1, .ref (P.2.1 112), .ref (P.2.1 116)]) 1 rfl ?_
          refine me_iald rfl (g := 112) rfl rfl h.1 ?_
          replace h := h.2
          refine me_iald rfl (g := 116) rfl rfl h.1 ?_
          replace h := h.2
          refine me_ifc rfl rfl (fun c => ?_) (fun c => ?_)
          · replace h := h.1 (ci_eq c)
            refine me_go (pc1 := 74) (lv1 := [(0, .ref P.1), (1, .int x1)]) (st1 := [.int 0]) 1 rfl ?_
            exact me_retB rfl rfl (by decide) h
          · replace h := h.2 (cn_eq c)
            refine me_go (pc1 := 74) (lv1 := [(0, .ref P.1), (1, .int x1)]) (st1 := [.int 1]) 2 rfl ?_
            exact me_retB rfl rfl (by decide) h
      · replace h := h.2 (cn_ne c)
        refine me_go (pc1 := 31) (lv1 := [(0, .ref P.1), (1, .int x1)]) (st1 := [.ref P.1]) 1 rfl ?_
        refine me_getf (v := .ref (P.2.1 108)) rfl rfl rfl ?_
        refine me_go (pc1 := 35) (lv1 := [(0, .ref P.1), (1, .int x1)]) (st1 := [.ref P.1, .ref (P.2.1 108)]) 1 rfl ?_
        refine me_getf (v := .ref (P.2.1 112)) rfl rfl rfl ?_
        refine me_go (pc1 := 39) (lv1 := [(0, .ref P.1), (1, .int x1)]) (st1 := [.int x1, .ref (P.2.1 112), .ref (P.2.1 108)]) 1 rfl ?_
        refine me_iald rfl (g := 112) rfl rfl h.1 ?_
        replace h := h.2
        refine me_iald rfl (g := 108) rfl rfl h.1 ?_
        replace h := h.2
        refine me_go (pc1 := 42) (lv1 := [(0, .ref P.1), (1, .int x1)]) (st1 := [.int (-1), .int (μ.2.1 108 ((μ.2.1 112 x1.toNatClampNeg)).toNatClampNeg)]) 1 rfl ?_
        refine me_icmp rfl rfl (fun c => ?_) (fun c => ?_)
        · replace h := h.1 (ci_eq c)
          refine me_go (pc1 := 74) (lv1 := [(0, .ref P.1), (1, .int x1)]) (st1 := [.int 1]) 2 rfl ?_
          exact me_retB rfl rfl (by decide) h
        · replace h := h.2 (cn_eq c)
          refine me_go (pc1 := 46) (lv1 := [(0, .ref P.1), (1, .int x1)]) (st1 := [.ref P.1]) 1 rfl ?_
          refine me_getf (v := .ref (P.2.1 111)) rfl rfl rfl ?_
          refine me_go (pc1 := 50) (lv1 := [(0, .ref P.1), (1, .int x1)]) (st1 := [.int x1, .ref (P.2.1 111)]) 1 rfl ?_
          refine me_iald rfl (g := 111) rfl rfl h.1 ?_
          replace h := h.2
          refine me_go (pc1 := 52) (lv1 := [(0, .ref P.1), (1, .int x1)]) (st1 := [.int 3, .int (μ.2.1 111 x1.toNatClampNeg)]) 1 rfl ?_
          refine me_icmp rfl rfl (fun c => ?_) (fun c => ?_)
          · replace h := h.1 (ci_ne c)
            refine me_go (pc1 := 74) (lv1 := [(0, .ref P.1), (1, .int x1)]) (st1 := [.int 0]) 1 rfl ?_
            exact me_retB rfl rfl (by decide) h
          · replace h := h.2 (cn_ne c)
            refine me_go (pc1 := 56) (lv1 := [(0, .ref P.1), (1, .int x1)]) (st1 := [.ref P.1]) 1 rfl ?_
            refine me_getf (v := .ref (P.2.1 116)) rfl rfl rfl ?_
            refine me_go (pc1 := 60) (lv1 := [(0, .ref P.1), (1, .int x1)]) (st1 := [.ref P.1, .ref (P.2.1 116)]) 1 rfl ?_
            refine me_getf (v := .ref (P.2.1 112)) rfl rfl rfl ?_
            refine me_go (pc1 := 64) (lv1 := [(0, .ref P.1), (1, .int x1)]) (st1 := [.int x1, .ref (P.2.1 112), .ref (P.2.1 116)]) 1 rfl ?_
            refine me_iald rfl (g := 112) rfl rfl h.1 ?_
            replace h := h.2
            refine me_iald rfl (g := 116) rfl rfl h.1 ?_
            replace h := h.2
            refine me_ifc rfl rfl (fun c => ?_) (fun c => ?_)
            · replace h := h.1 (ci_eq c)
              refine me_go (pc1 := 74) (lv1 := [(0, .ref P.1), (1, .int x1)]) (st1 := [.int 0]) 1 rfl ?_
              exact me_retB rfl rfl (by decide) h
            · replace h := h.2 (cn_eq c)
              refine me_go (pc1 := 74) (lv1 := [(0, .ref P.1), (1, .int x1)]) (st1 := [.int 1]) 2 rfl ?_
              exact me_retB rfl rfl (by decide) h
  · replace h := h.2 (cn_eq c)
    refine me_go (pc1 := 10) (lv1 := [(0, .ref P.1), (1, .int x1)]) (st1 := [.int 0]) 1 rfl ?_
    exact me_retB rfl rfl (by decide) h
theorem v_ready_0 {X : ev_X} {W : Nat → Prop} {d : Nat} {P : MP} {μ : MS} {R : Int32 → MS → Prop} {T : MS → Prop}  (h : ME X W true d 484 4 [(0, .ref P.1), (1, .int 0), (2, .int 0)] [] P μ R T) : ME X W true d 484 0 [(0, .ref P.1)] [] P μ R T := by
  refine me_go (pc1 := 4) (lv1 := [(2, .int 0), (1, .int 0), (0, .ref P.1)]) (st1 := []) 4 rfl ?_
  refine me_lv [(0, .ref P.1), (1, .int 0), (2, .int 0)] (fl_c rfl (fl_c rfl (fl_c rfl fl_0))) ?_
  exact h
theorem v_ready_4 {X : ev_X} {W : Nat → Prop} {d : Nat} {P : MP} {μ : MS} {R : Int32 → MS → Prop} {T : MS → Prop} (x1 : Int32) (x2 : Int32) (h : (((μ.1 110).toInt ≤ x2.toInt → R x1 μ) ∧ (x2.toInt < (μ.1 110).toInt → MC X W true d 483 [.ref P.1, .int x2] P μ (fun r1 μ1 => ((r1 = 0 → ME X W true d 484 4 [(0, .ref P.1), (1, .int x1), (2, .int (x2 + 1))] [] P μ1 R T) ∧ (¬ r1 = 0 → ME X W true d 484 4 [(0, .ref P.1), (1, .int (x1 + 1)), (2, .int (x2 + 1))] [] P μ1 R T))) (fun _ => False)))) : ME X W true d 484 4 [(0, .ref P.1), (1, .int x1), (2, .int x2)] [] P μ R T := by
  refine me_go (pc1 := 6) (lv1 := [(0, .ref P.1), (1, .int x1), (2, .int x2)]) (st1 := [.ref P.1, .int x2]) 2 rfl ?_
  refine me_getf (v := .int (μ.1 110)) rfl rfl rfl ?_
  refine me_icmp rfl rfl (fun c => ?_) (fun c => ?_)
  · replace h := h.1 (ci_ge c)
    refine me_go (pc1 := 35) (lv1 := [(0, .ref P.1), (1, .int x1), (2, .int x2)]) (st1 := [.int x1]) 1 rfl ?_
    exact me_ret rfl rfl rfl h
  · replace h := h.2 (cn_ge c)
    refine me_go (pc1 := 14) (lv1 := [(0, .ref P.1), (1, .int x1), (2, .int x2)]) (st1 := [.int x2, .ref P.1]) 2 rfl ?_
    refine me_callN rfl rfl rfl (h.mono (fun r1 μ1 h => ?_) (fun _ h => h))
    refine me_ifc rfl rfl (fun c => ?_) (fun c => ?_)
    · replace h := h.1 (ci_eq c)
      refine me_go (pc1 := 4) (lv1 := [(2, .int (x2 + 1)), (1, .int x1), (0, .ref P.1)]) (st1 := []) 4 rfl ?_
      refine me_lv [(0, .ref P.1), (1, .int x1), (2, .int (x2 + 1))] (fl_c rfl (fl_c rfl (fl_c rfl fl_0))) ?_
      exact h
    · replace h := h.2 (cn_eq c)
      refine me_go (pc1 := 4) (lv1 := [(2, .int (x2 + 1)), (1, .int (x1 + 1)), (0, .ref P.1)]) (st1 := []) 7 rfl ?_
      refine me_lv [(0, .ref P.1), (1, .int (x1 + 1)), (2, .int (x2 + 1))] (fl_c rfl (fl_c rfl (fl_c rfl fl_0))) ?_
      exact h
theorem v_begin_0 {X : ev_X} {W : Nat → Prop} {d : Nat} {P : MP} {μ : MS} {R : Int32 → MS → Prop} {T : MS → Prop} (x1 : Int32) (h : ((¬ (μ.1 98) = 0 → MC X W true d 271 [.ref P.1, .int 0, .int 0] P μ (fun r1 μ1 => ((r1 = 0 → ME X W true d 485 58 [(0, .ref P.1), (1, .int x1), (2, .int 0)] [] P (mS1 (mS1 (mS1 (mS1 (mS1 (mS1 (mS1 μ1 100 1) 101 x1) 102 0) 103 0) 104 0) 115 0) 127 0) R T) ∧ (¬ r1 = 0 → R 0 μ1))) (fun _ => False)) ∧ ((μ.1 98) = 0 → MC X W true d 271 [.ref P.1, .int 1, .int 0] P μ (fun r2 μ2 => ((r2 = 0 → ME X W true d 485 58 [(0, .ref P.1), (1, .int x1), (2, .int 0)] [] P (mS1 (mS1 (mS1 (mS1 (mS1 (mS1 (mS1 μ2 100 1) 101 x1) 102 0) 103 0) 104 0) 115 0) 127 0) R T) ∧ (¬ r2 = 0 → R 0 μ2))) (fun _ => False)))) : ME X W true d 485 0 [(0, .ref P.1), (1, .int x1)] [] P μ R T := by
  refine me_go (pc1 := 2) (lv1 := [(0, .ref P.1), (1, .int x1)]) (st1 := [.ref P.1, .ref P.1]) 2 rfl ?_
  refine me_getf (v := .int (μ.1 98)) rfl rfl rfl ?_
  refine me_ifc rfl rfl (fun c => ?_) (fun c => ?_)
  · replace h := h.1 (ci_ne c)
    refine me_go (pc1 := 14) (lv1 := [(0, .ref P.1), (1, .int x1)]) (st1 := [.int 0, .int 0, .ref P.1]) 2 rfl ?_
    refine me_callN rfl rfl rfl (h.mono (fun r1 μ1 h => ?_) (fun _ h => h))
    refine me_ifc rfl rfl (fun c => ?_) (fun c => ?_)
    · replace h := h.1 (ci_eq c)
      refine me_go (pc1 := 23) (lv1 := [(0, .ref P.1), (1, .int x1)]) (st1 := [.int 1, .ref P.1]) 2 rfl ?_
      refine me_put rfl rfl rfl ?_
      refine me_go (pc1 := 28) (lv1 := [(0, .ref P.1), (1, .int x1)]) (st1 := [.int x1, .ref P.1]) 2 rfl ?_
      refine me_put rfl rfl rfl ?_
      refine me_go (pc1 := 33) (lv1 := [(0, .ref P.1), (1, .int x1)]) (st1 := [.int 0, .ref P.1]) 2 rfl ?_
      refine me_put rfl rfl rfl ?_
      refine me_go (pc1 := 38) (lv1 := [(0, .ref P.1), (1, .int x1)]) (st1 := [.int 0, .ref P.1]) 2 rfl ?_
      refine me_put rfl rfl rfl ?_
      refine me_go (pc1 := 43) (lv1 := [(0, .ref P.1), (1, .int x1)]) (st1 := [.int 0, .ref P.1]) 2 rfl ?_
      refine me_put rfl rfl rfl ?_
      refine me_go (pc1 := 48) (lv1 := [(0, .ref P.1), (1, .int x1)]) (st1 := [.int 0, .ref P.1]) 2 rfl ?_
      refine me_put rfl rfl rfl ?_
      refine me_go (pc1 := 53) (lv1 := [(0, .ref P.1), (1, .int x1)]) (st1 := [.int 0, .ref P.1]) 2 rfl ?_
      refine me_put rfl rfl rfl ?_
      refine me_go (pc1 := 58) (lv1 := [(2, .int 0), (0, .ref P.1), (1, .int x1)]) (st1 := []) 2 rfl ?_
      refine me_lv [(0, .ref P.1), (1, .int x1), (2, .int 0)] (fl_c rfl (fl_c rfl (fl_c rfl fl_0))) ?_
      exact h
    · replace h := h.2 (cn_eq c)
      exact me_ret (v := none) (r := 0) rfl rfl rfl h
  · replace h := h.2 (cn_ne c)
    refine me_go (pc1 := 14) (lv1 := [(0, .ref P.1), (1, .int x1)]) (st1 := [.int 0, .int 1, .ref P.1]) 3 rfl ?_
    refine me_callN rfl rfl rfl (h.mono (fun r2 μ2 h => ?_) (fun _ h => h))
    refine me_ifc rfl rfl (fun c => ?_) (fun c => ?_)
    · replace h := h.1 (ci_eq c)
      refine me_go (pc1 := 23) (lv1 := [(0, .ref P.1), (1, .int x1)]) (st1 := [.int 1, .ref P.1]) 2 rfl ?_
      refine me_put rfl rfl rfl ?_
      refine me_go (pc1 := 28) (lv1 := [(0, .ref P.1), (1, .int x1)]) (st1 := [.int x1, .ref P.1]) 2 rfl ?_
      refine me_put rfl rfl rfl ?_
      refine me_go (pc1 := 33) (lv1 := [(0, .ref P.1), (1, .int x1)]) (st1 := [.int 0, .ref P.1]) 2 rfl ?_
      refine me_put rfl rfl rfl ?_
      refine me_go (pc1 := 38) (lv1 := [(0, .ref P.1), (1, .int x1)]) (st1 := [.int 0, .ref P.1]) 2 rfl ?_
      refine me_put rfl rfl rfl ?_
      refine me_go (pc1 := 43) (lv1 := [(0, .ref P.1), (1, .int x1)]) (st1 := [.int 0, .ref P.1]) 2 rfl ?_
      refine me_put rfl rfl rfl ?_
      refine me_go (pc1 := 48) (lv1 := [(0, .ref P.1), (1, .int x1)]) (st1 := [.int 0, .ref P.1]) 2 rfl ?_
      refine me_put rfl rfl rfl ?_
      refine me_go (pc1 := 53) (lv1 := [(0, .ref P.1), (1, .int x1)]) (st1 := [.int 0, .ref P.1]) 2 rfl ?_
      refine me_put rfl rfl rfl ?_
      refine me_go (pc1 := 58) (lv1 := [(2, .int 0), (0, .ref P.1), (1, .int x1)]) (st1 := []) 2 rfl ?_
      refine me_lv [(0, .ref P.1), (1, .int x1), (2, .int 0)] (fl_c rfl (fl_c rfl (fl_c rfl fl_0))) ?_
      exact h
    · replace h := h.2 (cn_eq c)
      exact me_ret (v := none) (r := 0) rfl rfl rfl h
theorem v_begin_58 {X : ev_X} {W : Nat → Prop} {d : Nat} {P : MP} {μ : MS} {R : Int32 → MS → Prop} {T : MS → Prop} (x1 : Int32) (x2 : Int32) (h : (((μ.1 41).toInt ≤ x2.toInt → MC X W true d 472 [.ref P.1, .int 0] P (mS1 (mS1 μ 110 1) 128 0) (fun r1 μ1 => MC X W true d 448 [.ref P.1, .int 9, .int (-1), .int (-1), .int 0, .int 0, .int 0] P μ1 (fun r2 μ2 => (MI 0 (μ2.2.2 123) ∧ (MI 0 (μ2.2.2 123) ∧ MC X W true d 480 [.ref P.1] P (mA1 μ2 123 (Int32.toNatClampNeg 0) ((μ2.2.1 123 (Int32.toNatClampNeg 0)) + 24)) (fun r3 μ3 => R 0 μ3) (fun _ => False)))) (fun _ => False)) (fun _ => False)) ∧ (x2.toInt < (μ.1 41).toInt → (MI x2 (μ.2.2 42) ∧ (MI (μ.2.1 42 x2.toNatClampNeg) (μ.2.2 24) ∧ ME X W true d 485 78 [(0, .ref P.1), (1, .int x1), (2, .int x2), (3, .int (μ.2.1 24 ((μ.2.1 42 x2.toNatClampNeg)).toNatClampNeg))] [] P μ R T))))) : ME X W true d 485 58 [(0, .ref P.1), (1, .int x1), (2, .int x2)] [] P μ R T := by
  refine me_go (pc1 := 60) (lv1 := [(0, .ref P.1), (1, .int x1), (2, .int x2)]) (st1 := [.ref P.1, .int x2]) 2 rfl ?_
  refine me_getf (v := .int (μ.1 41)) rfl rfl rfl ?_
  refine me_icmp rfl rfl (fun c => ?_) (fun c => ?_)
  · replace h := h.1 (ci_ge c)
    refine me_go (pc1 := 163) (lv1 := [(0, .ref P.1), (1, .int x1), (2, .int x2)]) (st1 := [.int 1, .ref P.1]) 2 rfl ?_
    refine me_put rfl rfl rfl ?_
    refine me_go (pc1 := 168) (lv1 := [(0, .ref P.1), (1, .int x1), (2, .int x2)]) (st1 := [.int 0, .ref P.1]) 2 rfl ?_
    refine me_put rfl rfl rfl ?_
    refine me_go (pc1 := 173) (lv1 := [(0, .ref P.1), (1, .int x1), (2, .int x2)]) (st1 := [.int 0, .ref P.1]) 2 rfl ?_
    refine me_callN rfl rfl rfl (h.mono (fun r1 μ1 h => ?_) (fun _ h => h))
    refine me_go (pc1 := 184) (lv1 := [(0, .ref P.1), (1, .int x1), (2, .int x2)]) (st1 := [.int 0, .int 0, .int 0, .int (-1), .int (-1), .int 9, .ref P.1]) 7 rfl ?_
    refine me_callN rfl rfl rfl (h.mono (fun r2 μ2 h => ?_) (fun _ h => h))
    refine me_go (pc1 := 188) (lv1 := [(0, .ref P.1), (1, .int x1), (2, .int x2)]) (st1 := [.ref P.1]) 1 rfl ?_
    refine me_getf (v := .ref (P.2.1 123)) rfl rfl rfl ?_
    refine me_go (pc1 := 193) (lv1 := [(0, .ref P.1), (1, .int x1), (2, .int x2)]) (st1 := [.int 0, .ref (P.2.1 123), .int 0, .ref (P.2.1 123)]) 2 rfl ?_
    refine me_iald rfl (g := 123) rfl rfl h.1 ?_
    replace h := h.2
    refine me_go (pc1 := 197) (lv1 := [(0, .ref P.1), (1, .int x1), (2, .int x2)]) (st1 := [.int ((μ2.2.1 123 (Int32.toNatClampNeg 0)) + 24), .int 0, .ref (P.2.1 123)]) 2 rfl ?_
    have hi := h.1
    replace h := h.2
    refine me_iast rfl (g := 123) rfl rfl hi ?_
    refine me_go (pc1 := 199) (lv1 := [(0, .ref P.1), (1, .int x1), (2, .int x2)]) (st1 := [.ref P.1]) 1 rfl ?_
    refine me_callN rfl rfl rfl (h.mono (fun r3 μ3 h => ?_) (fun _ h => h))
    exact me_ret (v := none) (r := 0) rfl rfl rfl h
  · replace h := h.2 (cn_ge c)
    refine me_go (pc1 := 67) (lv1 := [(0, .ref P.1), (1, .int x1), (2, .int x2)]) (st1 := [.ref P.1]) 1 rfl ?_
    refine me_getf (v := .ref (P.2.1 24)) rfl rfl rfl ?_
    refine me_go (pc1 := 71) (lv1 := [(0, .ref P.1), (1, .int x1), (2, .int x2)]) (st1 := [.ref P.1, .ref (P.2.1 24)]) 1 rfl ?_
    refine me_getf (v := .ref (P.2.1 42)) rfl rfl rfl ?_
    refine me_go (pc1 := 75) (lv1 := [(0, .ref P.1), (1, .int x1), (2, .int x2)]) (st1 := [.int x2, .ref (P.2.1 42), .ref (P.2.1 24)]) 1 rfl ?_
    refine me_iald rfl (g := 42) rfl rfl h.1 ?_
    replace h := h.2
    refine me_iald rfl (g := 24) rfl rfl h.1 ?_
    replace h := h.2
    refine me_go (pc1 := 78) (lv1 := [(3, .int (μ.2.1 24 ((μ.2.1 42 x2.toNatClampNeg)).toNatClampNeg)), (0, .ref P.1), (1, .int x1), (2, .int x2)]) (st1 := []) 1 rfl ?_
    refine me_lv [(0, .ref P.1), (1, .int x1), (2, .int x2), (3, .int (μ.2.1 24 ((μ.2.1 42 x2.toNatClampNeg)).toNatClampNeg))] (fl_c rfl (fl_c rfl (fl_c rfl (fl_c rfl fl_0)))) ?_
    exact h
theorem v_begin_78 {X : ev_X} {W : Nat → Prop} {d : Nat} {P : MP} {μ : MS} {R : Int32 → MS → Prop} {T : MS → Prop} (x1 : Int32) (x2 : Int32) (x3 : Int32) (h : ((x3.toInt < (0 : Int) → ME X W true d 485 58 [(0, .ref P.1), (1, .int x1), (2, .int (x2 + 1))] [] P μ R T) ∧ ((0 : Int) ≤ x3.toInt → (MI x3 (μ.2.2 20) ∧ (((μ.2.1 20 x3.toNatClampNeg) = 7 → (MI x3 (μ.2.2 22) ∧ ME X W true d 485 104 [(0, .ref P.1), (1, .int x1), (2, .int x2), (3, .int x3), (4, .int (μ.2.1 22 x3.toNatClampNeg))] [] P μ R T)) ∧ (¬ (μ.2.1 20 x3.toNatClampNeg) = 7 → (MI x3 (μ.2.2 27) ∧ ME X W true d 485 78 [(0, .ref P.1), (1, .int x1), (2, .int x2), (3, .int (μ.2.1 27 x3.toNatClampNeg))] [] P μ R T))))))) : ME X W true d 485 78 [(0, .ref P.1), (1, .int x1), (2, .int x2), (3, .int x3)] [] P μ R T := by
  refine me_go (pc1 := 79) (lv1 := [(0, .ref P.1), (1, .int x1), (2, .int x2), (3, .int x3)]) (st1 := [.int x3]) 1 rfl ?_
  refine me_ifc rfl rfl (fun c => ?_) (fun c => ?_)
  · replace h := h.1 (ci_lt c)
    refine me_go (pc1 := 58) (lv1 := [(2, .int (x2 + 1)), (0, .ref P.1), (1, .int x1), (3, .int x3)]) (st1 := []) 2 rfl ?_
    refine me_lv [(0, .ref P.1), (1, .int x1), (2, .int (x2 + 1))] (fl_c rfl (fl_c rfl (fl_c rfl fl_0))) ?_
    exact h
  · replace h := h.2 (cn_lt c)
    refine me_go (pc1 := 83) (lv1 := [(0, .ref P.1), (1, .int x1), (2, .int x2), (3, .int x3)]) (st1 := [.ref P.1]) 1 rfl ?_
    refine me_getf (v := .ref (P.2.1 20)) rfl rfl rfl ?_
    refine me_go (pc1 := 87) (lv1 := [(0, .ref P.1), (1, .int x1), (2, .int x2), (3, .int x3)]) (st1 := [.int x3, .ref (P.2.1 20)]) 1 rfl ?_
    refine me_iald rfl (g := 20) rfl rfl h.1 ?_
    replace h := h.2
    refine me_go (pc1 := 90) (lv1 := [(0, .ref P.1), (1, .int x1), (2, .int x2), (3, .int x3)]) (st1 := [.int 7, .int (μ.2.1 20 x3.toNatClampNeg)]) 1 rfl ?_
    refine me_icmp rfl rfl (fun c => ?_) (fun c => ?_)
    · replace h := h.1 (ci_eq c)
      refine me_go (pc1 := 97) (lv1 := [(0, .ref P.1), (1, .int x1), (2, .int x2), (3, .int x3)]) (st1 := [.ref P.1]) 1 rfl ?_
      refine me_getf (v := .ref (P.2.1 22)) rfl rfl rfl ?_
      refine me_go (pc1 := 101) (lv1 := [(0, .ref P.1), (1, .int x1), (2, .int x2), (3, .int x3)]) (st1 := [.int x3, .ref (P.2.1 22)]) 1 rfl ?_
      refine me_iald rfl (g := 22) rfl rfl h.1 ?_
      replace h := h.2
      refine me_go (pc1 := 104) (lv1 := [(4, .int (μ.2.1 22 x3.toNatClampNeg)), (0, .ref P.1), (1, .int x1), (2, .int x2), (3, .int x3)]) (st1 := []) 1 rfl ?_
      refine me_lv [(0, .ref P.1), (1, .int x1), (2, .int x2), (3, .int x3), (4, .int (μ.2.1 22 x3.toNatClampNeg))] (fl_c rfl (fl_c rfl (fl_c rfl (fl_c rfl (fl_c rfl fl_0))))) ?_
      exact h
    · replace h := h.2 (cn_eq c)
      refine me_go (pc1 := 146) (lv1 := [(0, .ref P.1), (1, .int x1), (2, .int x2), (3, .int x3)]) (st1 := [.ref P.1]) 2 rfl ?_
      refine me_getf (v := .ref (P.2.1 27)) rfl rfl rfl ?_
      refine me_go (pc1 := 150) (lv1 := [(0, .ref P.1), (1, .int x1), (2, .int x2), (3, .int x3)]) (st1 := [.int x3, .ref (P.2.1 27)]) 1 rfl ?_
      refine me_iald rfl (g := 27) rfl rfl h.1 ?_
      replace h := h.2
      refine me_go (pc1 := 78) (lv1 := [(3, .int (μ.2.1 27 x3.toNatClampNeg)), (0, .ref P.1), (1, .int x1), (2, .int x2)]) (st1 := []) 2 rfl ?_
      refine me_lv [(0, .ref P.1), (1, .int x1), (2, .int x2), (3, .int (μ.2.1 27 x3.toNatClampNeg))] (fl_c rfl (fl_c rfl (fl_c rfl (fl_c rfl fl_0)))) ?_
      exact h
theorem v_begin_104 {X : ev_X} {W : Nat → Prop} {d : Nat} {P : MP} {μ : MS} {R : Int32 → MS → Prop} {T : MS → Prop} (x1 : Int32) (x2 : Int32) (x3 : Int32) (x4 : Int32) (h : ((x4.toInt < (0 : Int) → (MI x3 (μ.2.2 27) ∧ ME X W true d 485 78 [(0, .ref P.1), (1, .int x1), (2, .int x2), (3, .int (μ.2.1 27 x3.toNatClampNeg))] [] P μ R T)) ∧ ((0 : Int) ≤ x4.toInt → (MI x3 (μ.2.2 23) ∧ (MI x4 (μ.2.2 28) ∧ (MI (μ.2.1 28 x4.toNatClampNeg) (μ.2.2 55) ∧ MC X W true d 452 [.ref P.1, .int (μ.2.1 23 x3.toNatClampNeg), .int (μ.2.1 55 ((μ.2.1 28 x4.toNatClampNeg)).toNatClampNeg)] P μ (fun r1 μ1 => (MI x4 (μ1.2.2 27) ∧ ME X W true d 485 104 [(0, .ref P.1), (1, .int x1), (2, .int x2), (3, .int x3), (4, .int (μ1.2.1 27 x4.toNatClampNeg))] [] P μ1 R T)) (fun _ => False))))))) : ME X W true d 485 104 [(0, .ref P.1), (1, .int x1), (2, .int x2), (3, .int x3), (4, .int x4)] [] P μ R T := by
  refine me_go (pc1 := 106) (lv1 := [(0, .ref P.1), (1, .int x1), (2, .int x2), (3, .int x3), (4, .int x4)]) (st1 := [.int x4]) 1 rfl ?_
  refine me_ifc rfl rfl (fun c => ?_) (fun c => ?_)
  · replace h := h.1 (ci_lt c)
    refine me_go (pc1 := 146) (lv1 := [(0, .ref P.1), (1, .int x1), (2, .int x2), (3, .int x3), (4, .int x4)]) (st1 := [.ref P.1]) 1 rfl ?_
    refine me_getf (v := .ref (P.2.1 27)) rfl rfl rfl ?_
    refine me_go (pc1 := 150) (lv1 := [(0, .ref P.1), (1, .int x1), (2, .int x2), (3, .int x3), (4, .int x4)]) (st1 := [.int x3, .ref (P.2.1 27)]) 1 rfl ?_
    refine me_iald rfl (g := 27) rfl rfl h.1 ?_
    replace h := h.2
    refine me_go (pc1 := 78) (lv1 := [(3, .int (μ.2.1 27 x3.toNatClampNeg)), (0, .ref P.1), (1, .int x1), (2, .int x2), (4, .int x4)]) (st1 := []) 2 rfl ?_
    refine me_lv [(0, .ref P.1), (1, .int x1), (2, .int x2), (3, .int (μ.2.1 27 x3.toNatClampNeg))] (fl_c rfl (fl_c rfl (fl_c rfl (fl_c rfl fl_0)))) ?_
    exact h
  · replace h := h.2 (cn_lt c)
    refine me_go (pc1 := 111) (lv1 := [(0, .ref P.1), (1, .int x1), (2, .int x2), (3, .int x3), (4, .int x4)]) (st1 := [.ref P.1, .ref P.1]) 2 rfl ?_
    refine me_getf (v := .ref (P.2.1 23)) rfl rfl rfl ?_
    refine me_go (pc1 := 115) (lv1 := [(0, .ref P.1), (1, .int x1), (2, .int x2), (3, .int x3), (4, .int x4)]) (st1 := [.int x3, .ref (P.2.1 23), .ref P.1]) 1 rfl ?_
    refine me_iald rfl (g := 23) rfl rfl h.1 ?_
    replace h := h.2
    refine me_go (pc1 := 117) (lv1 := [(0, .ref P.1), (1, .int x1), (2, .int x2), (3, .int x3), (4, .int x4)]) (st1 := [.ref P.1, .int (μ.2.1 23 x3.toNatClampNeg), .ref P.1]) 1 rfl ?_
    refine me_getf (v := .ref (P.2.1 55)) rfl rfl rfl ?_
    refine me_go (pc1 := 121) (lv1 := [(0, .ref P.1), (1, .int x1), (2, .int x2), (3, .int x3), (4, .int x4)]) (st1 := [.ref P.1, .ref (P.2.1 55), .int (μ.2.1 23 x3.toNatClampNeg), .ref P.1]) 1 rfl ?_
    refine me_getf (v := .ref (P.2.1 28)) rfl rfl rfl ?_
    refine me_go (pc1 := 126) (lv1 := [(0, .ref P.1), (1, .int x1), (2, .int x2), (3, .int x3), (4, .int x4)]) (st1 := [.int x4, .ref (P.2.1 28), .ref (P.2.1 55), .int (μ.2.1 23 x3.toNatClampNeg), .ref P.1]) 1 rfl ?_
    refine me_iald rfl (g := 28) rfl rfl h.1 ?_
    replace h := h.2
    refine me_iald rfl (g := 55) rfl rfl h.1 ?_
    replace h := h.2
    refine me_callN rfl rfl rfl (h.mono (fun r1 μ1 h => ?_) (fun _ h => h))
    refine me_go (pc1 := 134) (lv1 := [(5, .int r1), (0, .ref P.1), (1, .int x1), (2, .int x2), (3, .int x3), (4, .int x4)]) (st1 := [.ref P.1]) 2 rfl ?_
    refine me_getf (v := .ref (P.2.1 27)) rfl rfl rfl ?_
    refine me_go (pc1 := 139) (lv1 := [(5, .int r1), (0, .ref P.1), (1, .int x1), (2, .int x2), (3, .int x3), (4, .int x4)]) (st1 := [.int x4, .ref (P.2.1 27)]) 1 rfl ?_
    refine me_iald rfl (g := 27) rfl rfl h.1 ?_
    replace h := h.2
    refine me_go (pc1 := 104) (lv1 := [(4, .int (μ1.2.1 27 x4.toNatClampNeg)), (5, .int r1), (0, .ref P.1), (1, .int x1), (2, .int x2), (3, .int x3)]) (st1 := []) 2 rfl ?_
    refine me_lv [(0, .ref P.1), (1, .int x1), (2, .int x2), (3, .int x3), (4, .int (μ1.2.1 27 x4.toNatClampNeg))] (fl_c rfl (fl_c rfl (fl_c rfl (fl_c rfl (fl_c rfl fl_0))))) ?_
    exact h
theorem v_run_0 {X : ev_X} {W : Nat → Prop} {d : Nat} {P : MP} {μ : MS} {R : Int32 → MS → Prop} {T : MS → Prop} (x1 : Int32) (h : ((x1.toInt < (0 : Int) → ((¬ (μ.1 100) = 0 → MC X W true d 271 [.ref P.1, .int 1, .int 0] P μ (fun r1 μ1 => ((r1 = 0 → MC X W true d 484 [.ref P.1] P μ1 (fun r2 μ2 => ME X W false d 486 44 [(0, .ref P.1), (1, .int x1), (2, .int 0), (3, .int r2)] [] P μ2 R T) (fun _ => False)) ∧ (¬ r1 = 0 → R 0 μ1))) (fun _ => False)) ∧ ((μ.1 100) = 0 → MC X W true d 271 [.ref P.1, .int 1, .int 1] P μ (fun r3 μ3 => ((r3 = 0 → MC X W true d 484 [.ref P.1] P μ3 (fun r4 μ4 => ME X W false d 486 44 [(0, .ref P.1), (1, .int x1), (2, .int 0), (3, .int r4)] [] P μ4 R T) (fun _ => False)) ∧ (¬ r3 = 0 → R 0 μ3))) (fun _ => False)))) ∧ ((0 : Int) ≤ x1.toInt → ((x1.toInt ≤ (2000 : Int) → ((¬ (μ.1 100) = 0 → MC X W true d 271 [.ref P.1, .int 0, .int 0] P μ (fun r5 μ5 => ((r5 = 0 → MC X W true d 484 [.ref P.1] P μ5 (fun r6 μ6 => ME X W false d 486 44 [(0, .ref P.1), (1, .int x1), (2, .int 0), (3, .int r6)] [] P μ6 R T) (fun _ => False)) ∧ (¬ r5 = 0 → R 0 μ5))) (fun _ => False)) ∧ ((μ.1 100) = 0 → MC X W true d 271 [.ref P.1, .int 0, .int 1] P μ (fun r7 μ7 => ((r7 = 0 → MC X W true d 484 [.ref P.1] P μ7 (fun r8 μ8 => ME X W false d 486 44 [(0, .ref P.1), (1, .int x1), (2, .int 0), (3, .int r8)] [] P μ8 R T) (fun _ => False)) ∧ (¬ r7 = 0 → R 0 μ7))) (fun _ => False)))) ∧ ((2000 : Int) < x1.toInt → ((¬ (μ.1 100) = 0 → MC X W true d 271 [.ref P.1, .int 1, .int 0] P μ (fun r9 μ9 => ((r9 = 0 → MC X W true d 484 [.ref P.1] P μ9 (fun r10 μ10 => ME X W false d 486 44 [(0, .ref P.1), (1, .int x1), (2, .int 0), (3, .int r10)] [] P μ10 R T) (fun _ => False)) ∧ (¬ r9 = 0 → R 0 μ9))) (fun _ => False)) ∧ ((μ.1 100) = 0 → MC X W true d 271 [.ref P.1, .int 1, .int 1] P μ (fun r11 μ11 => ((r11 = 0 → MC X W true d 484 [.ref P.1] P μ11 (fun r12 μ12 => ME X W false d 486 44 [(0, .ref P.1), (1, .int x1), (2, .int 0), (3, .int r12)] [] P μ12 R T) (fun _ => False)) ∧ (¬ r11 = 0 → R 0 μ11))) (fun _ => False)))))))) : ME X W false d 486 0 [(0, .ref P.1), (1, .int x1)] [] P μ R T := by
  refine me_go (pc1 := 2) (lv1 := [(0, .ref P.1), (1, .int x1)]) (st1 := [.int x1, .ref P.1]) 2 rfl ?_
  refine me_ifc rfl rfl (fun c => ?_) (fun c => ?_)
  · replace h := h.1 (ci_lt c)
    refine me_go (pc1 := 18) (lv1 := [(0, .ref P.1), (1, .int x1)]) (st1 := [.ref P.1, .int 1, .ref P.1]) 3 rfl ?_
    refine me_getf (v := .int (μ.1 100)) rfl rfl rfl ?_
    refine me_ifc rfl rfl (fun c => ?_) (fun c => ?_)
    · replace h := h.1 (ci_ne c)
      refine me_go (pc1 := 29) (lv1 := [(0, .ref P.1), (1, .int x1)]) (st1 := [.int 0, .int 1, .ref P.1]) 1 rfl ?_
      refine me_callN rfl rfl rfl (h.mono (fun r1 μ1 h => ?_) (fun _ h => h))
      refine me_ifc rfl rfl (fun c => ?_) (fun c => ?_)
      · replace h := h.1 (ci_eq c)
        refine me_go (pc1 := 40) (lv1 := [(2, .int 0), (0, .ref P.1), (1, .int x1)]) (st1 := [.ref P.1]) 3 rfl ?_
        refine me_callN rfl rfl rfl (h.mono (fun r2 μ2 h => ?_) (fun _ h => h))
        refine me_go (pc1 := 44) (lv1 := [(3, .int r2), (2, .int 0), (0, .ref P.1), (1, .int x1)]) (st1 := []) 1 rfl ?_
        refine me_lv [(0, .ref P.1), (1, .int x1), (2, .int 0), (3, .int r2)] (fl_c rfl (fl_c rfl (fl_c rfl (fl_c rfl fl_0)))) ?_
        exact h
      · replace h := h.2 (cn_eq c)
        refine me_go (pc1 := 36) (lv1 := [(0, .ref P.1), (1, .int x1)]) (st1 := [.int 0]) 1 rfl ?_
        exact me_ret rfl rfl rfl h
    · replace h := h.2 (cn_ne c)
      refine me_go (pc1 := 29) (lv1 := [(0, .ref P.1), (1, .int x1)]) (st1 := [.int 1, .int 1, .ref P.1]) 2 rfl ?_
      refine me_callN rfl rfl rfl (h.mono (fun r3 μ3 h => ?_) (fun _ h => h))
      refine me_ifc rfl rfl (fun c => ?_) (fun c => ?_)
      · replace h := h.1 (ci_eq c)
        refine me_go (pc1 := 40) (lv1 := [(2, .int 0), (0, .ref P.1), (1, .int x1)]) (st1 := [.ref P.1]) 3 rfl ?_
        refine me_callN rfl rfl rfl (h.mono (fun r4 μ4 h => ?_) (fun _ h => h))
        refine me_go (pc1 := 44) (lv1 := [(3, .int r4), (2, .int 0), (0, .ref P.1), (1, .int x1)]) (st1 := []) 1 rfl ?_
        refine me_lv [(0, .ref P.1), (1, .int x1), (2, .int 0), (3, .int r4)] (fl_c rfl (fl_c rfl (fl_c rfl (fl_c rfl fl_0)))) ?_
        exact h
      · replace h := h.2 (cn_eq c)
        refine me_go (pc1 := 36) (lv1 := [(0, .ref P.1), (1, .int x1)]) (st1 := [.int 0]) 1 rfl ?_
        exact me_ret rfl rfl rfl h
  · replace h := h.2 (cn_lt c)
    refine me_go (pc1 := 9) (lv1 := [(0, .ref P.1), (1, .int x1)]) (st1 := [.int 2000, .int x1, .ref P.1]) 2 rfl ?_
    refine me_icmp rfl rfl (fun c => ?_) (fun c => ?_)
    · replace h := h.1 (ci_le c)
      refine me_go (pc1 := 18) (lv1 := [(0, .ref P.1), (1, .int x1)]) (st1 := [.ref P.1, .int 0, .ref P.1]) 2 rfl ?_
      refine me_getf (v := .int (μ.1 100)) rfl rfl rfl ?_
      refine me_ifc rfl rfl (fun c => ?_) (fun c => ?_)
      · replace h := h.1 (ci_ne c)
        refine me_go (pc1 := 29) (lv1 := [(0, .ref P.1), (1, .int x1)]) (st1 := [.int 0, .int 0, .ref P.1]) 1 rfl ?_
        refine me_callN rfl rfl rfl (h.mono (fun r5 μ5 h => ?_) (fun _ h => h))
        refine me_ifc rfl rfl (fun c => ?_) (fun c => ?_)
        · replace h := h.1 (ci_eq c)
          refine me_go (pc1 := 40) (lv1 := [(2, .int 0), (0, .ref P.1), (1, .int x1)]) (st1 := [.ref P.1]) 3 rfl ?_
          refine me_callN rfl rfl rfl (h.mono (fun r6 μ6 h => ?_) (fun _ h => h))
          refine me_go (pc1 := 44) (lv1 := [(3, .int r6), (2, .int 0), (0, .ref P.1), (1, .int x1)]) (st1 := []) 1 rfl ?_
          refine me_lv [(0, .ref P.1), (1, .int x1), (2, .int 0), (3, .int r6)] (fl_c rfl (fl_c rfl (fl_c rfl (fl_c rfl fl_0)))) ?_
          exact h
        · replace h := h.2 (cn_eq c)
          refine me_go (pc1 := 36) (lv1 := [(0, .ref P.1), (1, .int x1)]) (st1 := [.int 0]) 1 rfl ?_
          exact me_ret rfl rfl rfl h
      · replace h := h.2 (cn_ne c)
        refine me_go (pc1 := 29) (lv1 := [(0, .ref P.1), (1, .int x1)]) (st1 := [.int 1, .int 0, .ref P.1]) 2 rfl ?_
        refine me_callN rfl rfl rfl (h.mono (fun r7 μ7 h => ?_) (fun _ h => h))
        refine me_ifc rfl rfl (fun c => ?_) (fun c => ?_)
        · replace h := h.1 (ci_eq c)
          refine me_go (pc1 := 40) (lv1 := [(2, .int 0), (0, .ref P.1), (1, .int x1)]) (st1 := [.ref P.1]) 3 rfl ?_
          refine me_callN rfl rfl rfl (h.mono (fun r8 μ8 h => ?_) (fun _ h => h))
          refine me_go (pc1 := 44) (lv1 := [(3, .int r8), (2, .int 0), (0, .ref P.1), (1, .int x1)]) (st1 := []) 1 rfl ?_
          refine me_lv [(0, .ref P.1), (1, .int x1), (2, .int 0), (3, .int r8)] (fl_c rfl (fl_c rfl (fl_c rfl (fl_c rfl fl_0)))) ?_
          exact h
        · replace h := h.2 (cn_eq c)
          refine me_go (pc1 := 36) (lv1 := [(0, .ref P.1), (1, .int x1)]) (st1 := [.int 0]) 1 rfl ?_
          exact me_ret rfl rfl rfl h
    · replace h := h.2 (cn_le c)
      refine me_go (pc1 := 18) (lv1 := [(0, .ref P.1), (1, .int x1)]) (st1 := [.ref P.1, .int 1, .ref P.1]) 3 rfl ?_
      refine me_getf (v := .int (μ.1 100)) rfl rfl rfl ?_
      refine me_ifc rfl rfl (fun c => ?_) (fun c => ?_)
      · replace h := h.1 (ci_ne c)
        refine me_go (pc1 := 29) (lv1 := [(0, .ref P.1), (1, .int x1)]) (st1 := [.int 0, .int 1, .ref P.1]) 1 rfl ?_
        refine me_callN rfl rfl rfl (h.mono (fun r9 μ9 h => ?_) (fun _ h => h))
        refine me_ifc rfl rfl (fun c => ?_) (fun c => ?_)
        · replace h := h.1 (ci_eq c)
          refine me_go (pc1 := 40) (lv1 := [(2, .int 0), (0, .ref P.1), (1, .int x1)]) (st1 := [.ref P.1]) 3 rfl ?_
          refine me_callN rfl rfl rfl (h.mono (fun r10 μ10 h => ?_) (fun _ h => h))
          refine me_go (pc1 := 44) (lv1 := [(3, .int r10), (2, .int 0), (0, .ref P.1), (1, .int x1)]) (st1 := []) 1 rfl ?_
          refine me_lv [(0, .ref P.1), (1, .int x1), (2, .int 0), (3, .int r10)] (fl_c rfl (fl_c rfl (fl_c rfl (fl_c rfl fl_0)))) ?_
          exact h
        · replace h := h.2 (cn_eq c)
          refine me_go (pc1 := 36) (lv1 := [(0, .ref P.1), (1, .int x1)]) (st1 := [.int 0]) 1 rfl ?_
          exact me_ret rfl rfl rfl h
      · replace h := h.2 (cn_ne c)
        refine me_go (pc1 := 29) (lv1 := [(0, .ref P.1), (1, .int x1)]) (st1 := [.int 1, .int 1, .ref P.1]) 2 rfl ?_
        refine me_callN rfl rfl rfl (h.mono (fun r11 μ11 h => ?_) (fun _ h => h))
        refine me_ifc rfl rfl (fun c => ?_) (fun c => ?_)
        · replace h := h.1 (ci_eq c)
          refine me_go (pc1 := 40) (lv1 := [(2, .int 0), (0, .ref P.1), (1, .int x1)]) (st1 := [.ref P.1]) 3 rfl ?_
          refine me_callN rfl rfl rfl (h.mono (fun r12 μ12 h => ?_) (fun _ h => h))
          refine me_go (pc1 := 44) (lv1 := [(3, .int r12), (2, .int 0), (0, .ref P.1), (1, .int x1)]) (st1 := []) 1 rfl ?_
          refine me_lv [(0, .ref P.1), (1, .int x1), (2, .int 0), (3, .int r12)] (fl_c rfl (fl_c rfl (fl_c rfl (fl_c rfl fl_0)))) ?_
          exact h
        · replace h := h.2 (cn_eq c)
          refine me_go (pc1 := 36) (lv1 := [(0, .ref P.1), (1, .int x1)]) (st1 := [.int 0]) 1 rfl ?_
          exact me_ret rfl rfl rfl h
theorem v_run_44 {X : ev_X} {W : Nat → Prop} {d : Nat} {P : MP} {μ : MS} {R : Int32 → MS → Prop} {T : MS → Prop} (x1 : Int32) (x2 : Int32) (x3 : Int32) (h : ((x1.toInt ≤ x2.toInt → R x2 μ) ∧ (x2.toInt < x1.toInt → ((x3.toInt ≤ (0 : Int) → R x2 μ) ∧ ((0 : Int) < x3.toInt → (¬ x3 = 0 ∧ ME X W false d 486 85 [(0, .ref P.1), (1, .int x1), (2, .int x2), (3, .int x3), (4, .int (((Int32.toUInt32 (((μ.1 101) * 1103515245) + 12345) >>> (Int32.toUInt32 16 &&& Int32.toUInt32 31)).toInt32) - ((Int32.toUInt32 (((μ.1 101) * 1103515245) + 12345) >>> (Int32.toUInt32 16 &&& Int32.toUInt32 31)).toInt32) / x3 * x3))] [] P (mS1 (mS1 μ 101 (((μ.1 101) * 1103515245) + 12345)) 128 0) R T)))))) : ME X W false d 486 44 [(0, .ref P.1), (1, .int x1), (2, .int x2), (3, .int x3)] [] P μ R T := by
  refine me_go (pc1 := 46) (lv1 := [(0, .ref P.1), (1, .int x1), (2, .int x2), (3, .int x3)]) (st1 := [.int x1, .int x2]) 2 rfl ?_
  refine me_icmp rfl rfl (fun c => ?_) (fun c => ?_)
  · replace h := h.1 (ci_ge c)
    refine me_go (pc1 := 162) (lv1 := [(0, .ref P.1), (1, .int x1), (2, .int x2), (3, .int x3)]) (st1 := [.int x2]) 1 rfl ?_
    exact me_ret rfl rfl rfl h
  · replace h := h.2 (cn_ge c)
    refine me_go (pc1 := 50) (lv1 := [(0, .ref P.1), (1, .int x1), (2, .int x2), (3, .int x3)]) (st1 := [.int x3]) 1 rfl ?_
    refine me_ifc rfl rfl (fun c => ?_) (fun c => ?_)
    · replace h := h.1 (ci_le c)
      refine me_go (pc1 := 162) (lv1 := [(0, .ref P.1), (1, .int x1), (2, .int x2), (3, .int x3)]) (st1 := [.int x2]) 1 rfl ?_
      exact me_ret rfl rfl rfl h
    · replace h := h.2 (cn_le c)
      refine me_go (pc1 := 55) (lv1 := [(0, .ref P.1), (1, .int x1), (2, .int x2), (3, .int x3)]) (st1 := [.ref P.1, .ref P.1]) 2 rfl ?_
      refine me_getf (v := .int (μ.1 101)) rfl rfl rfl ?_
      refine me_ldcw rfl ?_
      refine me_go (pc1 := 66) (lv1 := [(0, .ref P.1), (1, .int x1), (2, .int x2), (3, .int x3)]) (st1 := [.int (((μ.1 101) * 1103515245) + 12345), .ref P.1]) 3 rfl ?_
      refine me_put rfl rfl rfl ?_
      refine me_go (pc1 := 70) (lv1 := [(0, .ref P.1), (1, .int x1), (2, .int x2), (3, .int x3)]) (st1 := [.ref P.1]) 1 rfl ?_
      refine me_getf (v := .int (((μ.1 101) * 1103515245) + 12345)) rfl rfl rfl ?_
      refine me_go (pc1 := 77) (lv1 := [(0, .ref P.1), (1, .int x1), (2, .int x2), (3, .int x3)]) (st1 := [.int x3, .int ((Int32.toUInt32 (((μ.1 101) * 1103515245) + 12345) >>> (Int32.toUInt32 16 &&& Int32.toUInt32 31)).toInt32)]) 3 rfl ?_
      refine me_rem rfl h.1 ?_
      replace h := h.2
      refine me_go (pc1 := 82) (lv1 := [(4, .int (((Int32.toUInt32 (((μ.1 101) * 1103515245) + 12345) >>> (Int32.toUInt32 16 &&& Int32.toUInt32 31)).toInt32) - ((Int32.toUInt32 (((μ.1 101) * 1103515245) + 12345) >>> (Int32.toUInt32 16 &&& Int32.toUInt32 31)).toInt32) / x3 * x3)), (0, .ref P.1), (1, .int x1), (2, .int x2), (3, .int x3)]) (st1 := [.int 0, .ref P.1]) 3 rfl ?_
      refine me_put rfl rfl rfl ?_
      refine me_lv [(0, .ref P.1), (1, .int x1), (2, .int x2), (3, .int x3), (4, .int (((Int32.toUInt32 (((μ.1 101) * 1103515245) + 12345) >>> (Int32.toUInt32 16 &&& Int32.toUInt32 31)).toInt32) - ((Int32.toUInt32 (((μ.1 101) * 1103515245) + 12345) >>> (Int32.toUInt32 16 &&& Int32.toUInt32 31)).toInt32) / x3 * x3))] (fl_c rfl (fl_c rfl (fl_c rfl (fl_c rfl (fl_c rfl fl_0))))) ?_
      exact h
theorem v_run_85 {X : ev_X} {W : Nat → Prop} {d : Nat} {P : MP} {μ : MS} {R : Int32 → MS → Prop} {T : MS → Prop} (x1 : Int32) (x2 : Int32) (x3 : Int32) (x4 : Int32) (h : MC X W true d 483 [.ref P.1, .int (μ.1 128)] P μ (fun r1 μ1 => ((r1 = 0 → MC X W true d 483 [.ref P.1, .int (μ1.1 128)] P μ1 (fun r2 μ2 => ((r2 = 0 → ME X W false d 486 85 [(0, .ref P.1), (1, .int x1), (2, .int x2), (3, .int x3), (4, .int x4)] [] P (mS1 μ2 128 ((μ2.1 128) + 1)) R T) ∧ (¬ r2 = 0 → ME X W false d 486 85 [(0, .ref P.1), (1, .int x1), (2, .int x2), (3, .int x3), (4, .int (x4 - 1))] [] P (mS1 μ2 128 ((μ2.1 128) + 1)) R T))) (fun _ => False)) ∧ (¬ r1 = 0 → ((x4.toInt ≤ (0 : Int) → MC X W false d 487 [.ref P.1] P (mS1 μ1 102 ((μ1.1 102) + 1)) (fun r3 μ3 => ∀ aa3 : Nat → Nat, MC X W true d 484 [.ref P.1] (P.1, aa3, P.2.2) μ3 (fun r4 μ4 => ME X W false d 486 44 [(0, .ref P.1), (1, .int x1), (2, .int (x2 + 1)), (3, .int r4)] [] (P.1, aa3, P.2.2) μ4 R T) (fun _ => False)) T) ∧ ((0 : Int) < x4.toInt → MC X W true d 483 [.ref P.1, .int (μ1.1 128)] P μ1 (fun r5 μ5 => ((r5 = 0 → ME X W false d 486 85 [(0, .ref P.1), (1, .int x1), (2, .int x2), (3, .int x3), (4, .int x4)] [] P (mS1 μ5 128 ((μ5.1 128) + 1)) R T) ∧ (¬ r5 = 0 → ME X W false d 486 85 [(0, .ref P.1), (1, .int x1), (2, .int x2), (3, .int x3), (4, .int (x4 - 1))] [] P (mS1 μ5 128 ((μ5.1 128) + 1)) R T))) (fun _ => False)))))) (fun _ => False)) : ME X W false d 486 85 [(0, .ref P.1), (1, .int x1), (2, .int x2), (3, .int x3), (4, .int x4)] [] P μ R T := by
  refine me_go (pc1 := 87) (lv1 := [(0, .ref P.1), (1, .int x1), (2, .int x2), (3, .int x3), (4, .int x4)]) (st1 := [.ref P.1, .ref P.1]) 2 rfl ?_
  refine me_getf (v := .int (μ.1 128)) rfl rfl rfl ?_
  refine me_callN rfl rfl rfl (h.mono (fun r1 μ1 h => ?_) (fun _ h => h))
  refine me_ifc rfl rfl (fun c => ?_) (fun c => ?_)
  · replace h := h.1 (ci_eq c)
    refine me_go (pc1 := 103) (lv1 := [(0, .ref P.1), (1, .int x1), (2, .int x2), (3, .int x3), (4, .int x4)]) (st1 := [.ref P.1, .ref P.1]) 2 rfl ?_
    refine me_getf (v := .int (μ1.1 128)) rfl rfl rfl ?_
    refine me_callN rfl rfl rfl (h.mono (fun r2 μ2 h => ?_) (fun _ h => h))
    refine me_ifc rfl rfl (fun c => ?_) (fun c => ?_)
    · replace h := h.1 (ci_eq c)
      refine me_go (pc1 := 125) (lv1 := [(4, .int x4), (0, .ref P.1), (1, .int x1), (2, .int x2), (3, .int x3)]) (st1 := [.ref P.1, .ref P.1]) 4 rfl ?_
      refine me_getf (v := .int (μ2.1 128)) rfl rfl rfl ?_
      refine me_go (pc1 := 130) (lv1 := [(4, .int x4), (0, .ref P.1), (1, .int x1), (2, .int x2), (3, .int x3)]) (st1 := [.int ((μ2.1 128) + 1), .ref P.1]) 2 rfl ?_
      refine me_put rfl rfl rfl ?_
      refine me_go (pc1 := 85) (lv1 := [(4, .int x4), (0, .ref P.1), (1, .int x1), (2, .int x2), (3, .int x3)]) (st1 := []) 1 rfl ?_
      refine me_lv [(0, .ref P.1), (1, .int x1), (2, .int x2), (3, .int x3), (4, .int x4)] (fl_c rfl (fl_c rfl (fl_c rfl (fl_c rfl (fl_c rfl fl_0))))) ?_
      exact h
    · replace h := h.2 (cn_eq c)
      refine me_go (pc1 := 125) (lv1 := [(4, .int (x4 - 1)), (0, .ref P.1), (1, .int x1), (2, .int x2), (3, .int x3)]) (st1 := [.ref P.1, .ref P.1]) 7 rfl ?_
      refine me_getf (v := .int (μ2.1 128)) rfl rfl rfl ?_
      refine me_go (pc1 := 130) (lv1 := [(4, .int (x4 - 1)), (0, .ref P.1), (1, .int x1), (2, .int x2), (3, .int x3)]) (st1 := [.int ((μ2.1 128) + 1), .ref P.1]) 2 rfl ?_
      refine me_put rfl rfl rfl ?_
      refine me_go (pc1 := 85) (lv1 := [(4, .int (x4 - 1)), (0, .ref P.1), (1, .int x1), (2, .int x2), (3, .int x3)]) (st1 := []) 1 rfl ?_
      refine me_lv [(0, .ref P.1), (1, .int x1), (2, .int x2), (3, .int x3), (4, .int (x4 - 1))] (fl_c rfl (fl_c rfl (fl_c rfl (fl_c rfl (fl_c rfl fl_0))))) ?_
      exact h
  · replace h := h.2 (cn_eq c)
    refine me_go (pc1 := 98) (lv1 := [(0, .ref P.1), (1, .int x1), (2, .int x2), (3, .int x3), (4, .int x4)]) (st1 := [.int x4]) 1 rfl ?_
    refine me_ifc rfl rfl (fun c => ?_) (fun c => ?_)
    · replace h := h.1 (ci_le c)
      refine me_go (pc1 := 138) (lv1 := [(0, .ref P.1), (1, .int x1), (2, .int x2), (3, .int x3), (4, .int x4)]) (st1 := [.ref P.1, .ref P.1]) 2 rfl ?_
      refine me_getf (v := .int (μ1.1 102)) rfl rfl rfl ?_
      refine me_go (pc1 := 143) (lv1 := [(0, .ref P.1), (1, .int x1), (2, .int x2), (3, .int x3), (4, .int x4)]) (st1 := [.int ((μ1.1 102) + 1), .ref P.1]) 2 rfl ?_
      refine me_put rfl rfl rfl ?_
      refine me_go (pc1 := 150) (lv1 := [(2, .int (x2 + 1)), (0, .ref P.1), (1, .int x1), (3, .int x3), (4, .int x4)]) (st1 := [.ref P.1]) 2 rfl ?_
      refine me_callF rfl rfl rfl rfl rfl (h.mono (fun r3 μ3 h aa3 => ?_) (fun _ h => h))
      replace h := h aa3
      refine me_go (pc1 := 154) (lv1 := [(2, .int (x2 + 1)), (0, .ref P.1), (1, .int x1), (3, .int x3), (4, .int x4)]) (st1 := [.ref P.1]) 1 rfl ?_
      refine me_callN rfl rfl rfl (h.mono (fun r4 μ4 h => ?_) (fun _ h => h))
      refine me_go (pc1 := 44) (lv1 := [(3, .int r4), (2, .int (x2 + 1)), (0, .ref P.1), (1, .int x1), (4, .int x4)]) (st1 := []) 2 rfl ?_
      refine me_lv [(0, .ref P.1), (1, .int x1), (2, .int (x2 + 1)), (3, .int r4)] (fl_c rfl (fl_c rfl (fl_c rfl (fl_c rfl fl_0)))) ?_
      exact h
    · replace h := h.2 (cn_le c)
      refine me_go (pc1 := 103) (lv1 := [(0, .ref P.1), (1, .int x1), (2, .int x2), (3, .int x3), (4, .int x4)]) (st1 := [.ref P.1, .ref P.1]) 2 rfl ?_
      refine me_getf (v := .int (μ1.1 128)) rfl rfl rfl ?_
      refine me_callN rfl rfl rfl (h.mono (fun r5 μ5 h => ?_) (fun _ h => h))
      refine me_ifc rfl rfl (fun c => ?_) (fun c => ?_)
      · replace h := h.1 (ci_eq c)
        refine me_go (pc1 := 125) (lv1 := [(4, .int x4), (0, .ref P.1), (1, .int x1), (2, .int x2), (3, .int x3)]) (st1 := [.ref P.1, .ref P.1]) 4 rfl ?_
        refine me_getf (v := .int (μ5.1 128)) rfl rfl rfl ?_
        refine me_go (pc1 := 130) (lv1 := [(4, .int x4), (0, .ref P.1), (1, .int x1), (2, .int x2), (3, .int x3)]) (st1 := [.int ((μ5.1 128) + 1), .ref P.1]) 2 rfl ?_
        refine me_put rfl rfl rfl ?_
        refine me_go (pc1 := 85) (lv1 := [(4, .int x4), (0, .ref P.1), (1, .int x1), (2, .int x2), (3, .int x3)]) (st1 := []) 1 rfl ?_
        refine me_lv [(0, .ref P.1), (1, .int x1), (2, .int x2), (3, .int x3), (4, .int x4)] (fl_c rfl (fl_c rfl (fl_c rfl (fl_c rfl (fl_c rfl fl_0))))) ?_
        exact h
      · replace h := h.2 (cn_eq c)
        refine me_go (pc1 := 125) (lv1 := [(4, .int (x4 - 1)), (0, .ref P.1), (1, .int x1), (2, .int x2), (3, .int x3)]) (st1 := [.ref P.1, .ref P.1]) 7 rfl ?_
        refine me_getf (v := .int (μ5.1 128)) rfl rfl rfl ?_
        refine me_go (pc1 := 130) (lv1 := [(4, .int (x4 - 1)), (0, .ref P.1), (1, .int x1), (2, .int x2), (3, .int x3)]) (st1 := [.int ((μ5.1 128) + 1), .ref P.1]) 2 rfl ?_
        refine me_put rfl rfl rfl ?_
        refine me_go (pc1 := 85) (lv1 := [(4, .int (x4 - 1)), (0, .ref P.1), (1, .int x1), (2, .int x2), (3, .int x3)]) (st1 := []) 1 rfl ?_
        refine me_lv [(0, .ref P.1), (1, .int x1), (2, .int x2), (3, .int x3), (4, .int (x4 - 1))] (fl_c rfl (fl_c rfl (fl_c rfl (fl_c rfl (fl_c rfl fl_0))))) ?_
        exact h
theorem v_step_0 {X : ev_X} {W : Nat → Prop} {d : Nat} {P : MP} {μ : MS} {R : Int32 → MS → Prop} {T : MS → Prop}  (h : MC X W true d 447 [.ref P.1] P μ (fun r1 μ1 => (MI (r1 + 1) (μ1.2.2 125) ∧ (MI (μ1.2.1 125 ((r1 + 1)).toNatClampNeg) (μ1.2.2 21) ∧ (MI (μ1.1 128) (μ1.2.2 111) ∧ ((¬ (μ1.2.1 111 ((μ1.1 128)).toNatClampNeg) = 1 → (MI (μ1.1 128) (μ1.2.2 111) ∧ ((¬ (μ1.2.1 111 ((μ1.1 128)).toNatClampNeg) = 3 → (MI r1 (μ1.2.2 125) ∧ ((¬ (μ1.2.1 125 r1.toNatClampNeg) = 0 → MC X W true d 489 [.ref P.1, .int r1, .int (μ1.2.1 125 ((r1 + 1)).toNatClampNeg)] P (mS1 μ1 130 (μ1.2.1 21 ((μ1.2.1 125 ((r1 + 1)).toNatClampNeg)).toNatClampNeg)) (fun r2 μ2 => ME X W false d 487 151 [(0, .ref P.1), (1, .int r1), (2, .int (μ1.2.1 125 ((r1 + 1)).toNatClampNeg))] [] P μ2 R T) (fun μ2 => MC X W true d 479 [.ref P.1, .int 6, .int (μ2.1 130), .int (μ2.1 129), .int 0] P μ2 (fun r3 μ3 => ME X W false d 487 170 [(0, .ref P.1), (1, .int r1), (2, .int (μ1.2.1 125 ((r1 + 1)).toNatClampNeg))] [] P μ3 R T) (fun _ => False))) ∧ ((μ1.2.1 125 r1.toNatClampNeg) = 0 → MC X W false d 490 [.ref P.1, .int (μ1.2.1 125 ((r1 + 1)).toNatClampNeg)] P (mS1 μ1 130 (μ1.2.1 21 ((μ1.2.1 125 ((r1 + 1)).toNatClampNeg)).toNatClampNeg)) (fun r4 μ4 => ∀ aa4 : Nat → Nat, ME X W false d 487 151 [(0, .ref P.1), (1, .int r1), (2, .int (μ1.2.1 125 ((r1 + 1)).toNatClampNeg))] [] (P.1, aa4, P.2.2) μ4 R T) (fun μ4 => ∀ aa4 : Nat → Nat, MC X W true d 479 [.ref P.1, .int 6, .int (μ4.1 130), .int (μ4.1 129), .int 0] (P.1, aa4, P.2.2) μ4 (fun r5 μ5 => ME X W false d 487 170 [(0, .ref P.1), (1, .int r1), (2, .int (μ1.2.1 125 ((r1 + 1)).toNatClampNeg))] [] (P.1, aa4, P.2.2) μ5 R T) (fun _ => False)))))) ∧ ((μ1.2.1 111 ((μ1.1 128)).toNatClampNeg) = 3 → (MI (μ1.1 128) (μ1.2.2 111) ∧ MC X W true d 473 [.ref P.1] P (mA1 (mS1 μ1 130 (μ1.2.1 21 ((μ1.2.1 125 ((r1 + 1)).toNatClampNeg)).toNatClampNeg)) 111 (((μ1.1 128)).toNatClampNeg) 0) (fun r6 μ6 => ME X W false d 487 151 [(0, .ref P.1), (1, .int r1), (2, .int (μ1.2.1 125 ((r1 + 1)).toNatClampNeg))] [] P μ6 R T) (fun _ => False)))))) ∧ ((μ1.2.1 111 ((μ1.1 128)).toNatClampNeg) = 1 → (MI (μ1.1 128) (μ1.2.2 112) ∧ (MI (μ1.2.1 112 ((μ1.1 128)).toNatClampNeg) (μ1.2.2 108) ∧ (MI (μ1.1 128) (μ1.2.2 111) ∧ MC X W true d 473 [.ref P.1] P (mA1 (mA1 (mS1 μ1 130 (μ1.2.1 21 ((μ1.2.1 125 ((r1 + 1)).toNatClampNeg)).toNatClampNeg)) 108 (((μ1.2.1 112 ((μ1.1 128)).toNatClampNeg)).toNatClampNeg) (μ1.1 128)) 111 (((μ1.1 128)).toNatClampNeg) 0) (fun r7 μ7 => (MI (μ7.1 128) (μ7.2.2 113) ∧ ((¬ (μ7.2.1 113 ((μ7.1 128)).toNatClampNeg) = 0 → ME X W false d 487 151 [(0, .ref P.1), (1, .int r1), (2, .int (μ1.2.1 125 ((r1 + 1)).toNatClampNeg))] [] P μ7 R T) ∧ ((μ7.2.1 113 ((μ7.1 128)).toNatClampNeg) = 0 → (MI (μ7.1 128) (μ7.2.2 112) ∧ MC X W true d 488 [.ref P.1, .int (μ1.2.1 125 ((r1 + 1)).toNatClampNeg), .int (μ7.2.1 112 ((μ7.1 128)).toNatClampNeg)] P μ7 (fun r8 μ8 => ME X W false d 487 151 [(0, .ref P.1), (1, .int r1), (2, .int (μ1.2.1 125 ((r1 + 1)).toNatClampNeg))] [] P μ8 R T) (fun _ => False)))))) (fun _ => False)))))))))) (fun _ => False)) : ME X W false d 487 0 [(0, .ref P.1)] [] P μ R T := by
  refine me_go (pc1 := 1) (lv1 := [(0, .ref P.1)]) (st1 := [.ref P.1]) 1 rfl ?_
  refine me_callN rfl rfl rfl (h.mono (fun r1 μ1 h => ?_) (fun _ h => h))
  refine me_go (pc1 := 6) (lv1 := [(1, .int r1), (0, .ref P.1)]) (st1 := [.ref P.1]) 2 rfl ?_
  refine me_getf (v := .ref (P.2.1 125)) rfl rfl rfl ?_
  refine me_go (pc1 := 12) (lv1 := [(1, .int r1), (0, .ref P.1)]) (st1 := [.int (r1 + 1), .ref (P.2.1 125)]) 3 rfl ?_
  refine me_iald rfl (g := 125) rfl rfl h.1 ?_
  replace h := h.2
  refine me_go (pc1 := 16) (lv1 := [(2, .int (μ1.2.1 125 ((r1 + 1)).toNatClampNeg)), (1, .int r1), (0, .ref P.1)]) (st1 := [.ref P.1, .ref P.1]) 3 rfl ?_
  refine me_getf (v := .ref (P.2.1 21)) rfl rfl rfl ?_
  refine me_go (pc1 := 20) (lv1 := [(2, .int (μ1.2.1 125 ((r1 + 1)).toNatClampNeg)), (1, .int r1), (0, .ref P.1)]) (st1 := [.int (μ1.2.1 125 ((r1 + 1)).toNatClampNeg), .ref (P.2.1 21), .ref P.1]) 1 rfl ?_
  refine me_iald rfl (g := 21) rfl rfl h.1 ?_
  replace h := h.2
  refine me_put rfl rfl rfl ?_
  refine me_go (pc1 := 25) (lv1 := [(2, .int (μ1.2.1 125 ((r1 + 1)).toNatClampNeg)), (1, .int r1), (0, .ref P.1)]) (st1 := [.ref P.1]) 1 rfl ?_
  refine me_getf (v := .ref (P.2.1 111)) rfl rfl rfl ?_
  refine me_go (pc1 := 29) (lv1 := [(2, .int (μ1.2.1 125 ((r1 + 1)).toNatClampNeg)), (1, .int r1), (0, .ref P.1)]) (st1 := [.ref P.1, .ref (P.2.1 111)]) 1 rfl ?_
  refine me_getf (v := .int (μ1.1 128)) rfl rfl rfl ?_
  refine me_iald rfl (g := 111) rfl rfl h.1 ?_
  replace h := h.2
  refine me_go (pc1 := 34) (lv1 := [(2, .int (μ1.2.1 125 ((r1 + 1)).toNatClampNeg)), (1, .int r1), (0, .ref P.1)]) (st1 := [.int 1, .int (μ1.2.1 111 ((μ1.1 128)).toNatClampNeg)]) 1 rfl ?_
  refine me_icmp rfl rfl (fun c => ?_) (fun c => ?_)
  · replace h := h.1 (ci_ne c)
    refine me_go (pc1 := 99) (lv1 := [(2, .int (μ1.2.1 125 ((r1 + 1)).toNatClampNeg)), (1, .int r1), (0, .ref P.1)]) (st1 := [.ref P.1]) 1 rfl ?_
    refine me_getf (v := .ref (P.2.1 111)) rfl rfl rfl ?_
    refine me_go (pc1 := 103) (lv1 := [(2, .int (μ1.2.1 125 ((r1 + 1)).toNatClampNeg)), (1, .int r1), (0, .ref P.1)]) (st1 := [.ref P.1, .ref (P.2.1 111)]) 1 rfl ?_
    refine me_getf (v := .int (μ1.1 128)) rfl rfl rfl ?_
    refine me_iald rfl (g := 111) rfl rfl h.1 ?_
    replace h := h.2
    refine me_go (pc1 := 108) (lv1 := [(2, .int (μ1.2.1 125 ((r1 + 1)).toNatClampNeg)), (1, .int r1), (0, .ref P.1)]) (st1 := [.int 3, .int (μ1.2.1 111 ((μ1.1 128)).toNatClampNeg)]) 1 rfl ?_
    refine me_icmp rfl rfl (fun c => ?_) (fun c => ?_)
    · replace h := h.1 (ci_ne c)
      refine me_go (pc1 := 129) (lv1 := [(2, .int (μ1.2.1 125 ((r1 + 1)).toNatClampNeg)), (1, .int r1), (0, .ref P.1)]) (st1 := [.ref P.1]) 1 rfl ?_
      refine me_getf (v := .ref (P.2.1 125)) rfl rfl rfl ?_
      refine me_go (pc1 := 133) (lv1 := [(2, .int (μ1.2.1 125 ((r1 + 1)).toNatClampNeg)), (1, .int r1), (0, .ref P.1)]) (st1 := [.int r1, .ref (P.2.1 125)]) 1 rfl ?_
      refine me_iald rfl (g := 125) rfl rfl h.1 ?_
      replace h := h.2
      refine me_ifc rfl rfl (fun c => ?_) (fun c => ?_)
      · replace h := h.1 (ci_ne c)
        refine me_go (pc1 := 148) (lv1 := [(2, .int (μ1.2.1 125 ((r1 + 1)).toNatClampNeg)), (1, .int r1), (0, .ref P.1)]) (st1 := [.int (μ1.2.1 125 ((r1 + 1)).toNatClampNeg), .int r1, .ref P.1]) 3 rfl ?_
        refine me_callHT (i := 3) (lv1 := [(2, .int (μ1.2.1 125 ((r1 + 1)).toNatClampNeg)), (1, .int r1), (0, .ref P.1)]) rfl rfl rfl rfl rfl rfl rfl rfl rfl rfl rfl (h.mono (fun r2 μ2 h => ?_) (fun μ2 h => ?_))
        · skip
          refine me_lv [(0, .ref P.1), (1, .int r1), (2, .int (μ1.2.1 125 ((r1 + 1)).toNatClampNeg))] (fl_c rfl (fl_c rfl (fl_c rfl fl_0))) ?_
          exact h
        · skip
          refine me_go (pc1 := 159) (lv1 := [(2, .int (μ1.2.1 125 ((r1 + 1)).toNatClampNeg)), (1, .int r1), (0, .ref P.1)]) (st1 := [.ref P.1, .int 6, .ref P.1]) 3 rfl ?_
          refine me_getf (v := .int (μ2.1 130)) rfl rfl rfl ?_
          refine me_go (pc1 := 163) (lv1 := [(2, .int (μ1.2.1 125 ((r1 + 1)).toNatClampNeg)), (1, .int r1), (0, .ref P.1)]) (st1 := [.ref P.1, .int (μ2.1 130), .int 6, .ref P.1]) 1 rfl ?_
          refine me_getf (v := .int (μ2.1 129)) rfl rfl rfl ?_
          refine me_go (pc1 := 167) (lv1 := [(2, .int (μ1.2.1 125 ((r1 + 1)).toNatClampNeg)), (1, .int r1), (0, .ref P.1)]) (st1 := [.int 0, .int (μ2.1 129), .int (μ2.1 130), .int 6, .ref P.1]) 1 rfl ?_
          refine me_callN rfl rfl rfl (h.mono (fun r3 μ3 h => ?_) (fun _ h => h))
          refine me_lv [(0, .ref P.1), (1, .int r1), (2, .int (μ1.2.1 125 ((r1 + 1)).toNatClampNeg))] (fl_c rfl (fl_c rfl (fl_c rfl fl_0))) ?_
          exact h
      · replace h := h.2 (cn_ne c)
        refine me_go (pc1 := 139) (lv1 := [(2, .int (μ1.2.1 125 ((r1 + 1)).toNatClampNeg)), (1, .int r1), (0, .ref P.1)]) (st1 := [.int (μ1.2.1 125 ((r1 + 1)).toNatClampNeg), .ref P.1]) 2 rfl ?_
        refine me_callH (kp1 := false) (i := 3) (lv1 := [(2, .int (μ1.2.1 125 ((r1 + 1)).toNatClampNeg)), (1, .int r1), (0, .ref P.1)]) rfl rfl rfl rfl rfl rfl rfl rfl rfl rfl rfl rfl (h.mono (fun r4 μ4 h aa4 => ?_) (fun _ h => h)) (fun μ4 aa4 h => ?_)
        · replace h := h aa4
          refine me_go (pc1 := 151) (lv1 := [(2, .int (μ1.2.1 125 ((r1 + 1)).toNatClampNeg)), (1, .int r1), (0, .ref P.1)]) (st1 := []) 1 rfl ?_
          refine me_lv [(0, .ref P.1), (1, .int r1), (2, .int (μ1.2.1 125 ((r1 + 1)).toNatClampNeg))] (fl_c rfl (fl_c rfl (fl_c rfl fl_0))) ?_
          exact h
        · replace h := h aa4
          refine me_go (pc1 := 159) (lv1 := [(2, .int (μ1.2.1 125 ((r1 + 1)).toNatClampNeg)), (1, .int r1), (0, .ref P.1)]) (st1 := [.ref P.1, .int 6, .ref P.1]) 3 rfl ?_
          refine me_getf (v := .int (μ4.1 130)) rfl rfl rfl ?_
          refine me_go (pc1 := 163) (lv1 := [(2, .int (μ1.2.1 125 ((r1 + 1)).toNatClampNeg)), (1, .int r1), (0, .ref P.1)]) (st1 := [.ref P.1, .int (μ4.1 130), .int 6, .ref P.1]) 1 rfl ?_
          refine me_getf (v := .int (μ4.1 129)) rfl rfl rfl ?_
          refine me_go (pc1 := 167) (lv1 := [(2, .int (μ1.2.1 125 ((r1 + 1)).toNatClampNeg)), (1, .int r1), (0, .ref P.1)]) (st1 := [.int 0, .int (μ4.1 129), .int (μ4.1 130), .int 6, .ref P.1]) 1 rfl ?_
          refine me_callN rfl rfl rfl (h.mono (fun r5 μ5 h => ?_) (fun _ h => h))
          refine me_lv [(0, .ref P.1), (1, .int r1), (2, .int (μ1.2.1 125 ((r1 + 1)).toNatClampNeg))] (fl_c rfl (fl_c rfl (fl_c rfl fl_0))) ?_
          exact h
    · replace h := h.2 (cn_ne c)
      refine me_go (pc1 := 112) (lv1 := [(2, .int (μ1.2.1 125 ((r1 + 1)).toNatClampNeg)), (1, .int r1), (0, .ref P.1)]) (st1 := [.ref P.1]) 1 rfl ?_
      refine me_getf (v := .ref (P.2.1 111)) rfl rfl rfl ?_
      refine me_go (pc1 := 116) (lv1 := [(2, .int (μ1.2.1 125 ((r1 + 1)).toNatClampNeg)), (1, .int r1), (0, .ref P.1)]) (st1 := [.ref P.1, .ref (P.2.1 111)]) 1 rfl ?_
      refine me_getf (v := .int (μ1.1 128)) rfl rfl rfl ?_
      refine me_go (pc1 := 120) (lv1 := [(2, .int (μ1.2.1 125 ((r1 + 1)).toNatClampNeg)), (1, .int r1), (0, .ref P.1)]) (st1 := [.int 0, .int (μ1.1 128), .ref (P.2.1 111)]) 1 rfl ?_
      have hi := h.1
      replace h := h.2
      refine me_iast rfl (g := 111) rfl rfl hi ?_
      refine me_go (pc1 := 122) (lv1 := [(2, .int (μ1.2.1 125 ((r1 + 1)).toNatClampNeg)), (1, .int r1), (0, .ref P.1)]) (st1 := [.ref P.1]) 1 rfl ?_
      refine me_callN rfl rfl rfl (h.mono (fun r6 μ6 h => ?_) (fun _ h => h))
      refine me_go (pc1 := 151) (lv1 := [(2, .int (μ1.2.1 125 ((r1 + 1)).toNatClampNeg)), (1, .int r1), (0, .ref P.1)]) (st1 := []) 1 rfl ?_
      refine me_lv [(0, .ref P.1), (1, .int r1), (2, .int (μ1.2.1 125 ((r1 + 1)).toNatClampNeg))] (fl_c rfl (fl_c rfl (fl_c rfl fl_0))) ?_
      exact h
  · replace h := h.2 (cn_ne c)
    refine me_go (pc1 := 38) (lv1 := [(2, .int (μ1.2.1 125 ((r1 + 1)).toNatClampNeg)), (1, .int r1), (0, .ref P.1)]) (st1 := [.ref P.1]) 1 rfl ?_
    refine me_getf (v := .ref (P.2.1 108)) rfl rfl rfl ?_
    refine me_go (pc1 := 42) (lv1 := [(2, .int (μ1.2.1 125 ((r1 + 1)).toNatClampNeg)), (1, .int r1), (0, .ref P.1)]) (st1 := [.ref P.1, .ref (P.2.1 108)]) 1 rfl ?_
    refine me_getf (v := .ref (P.2.1 112)) rfl rfl rfl ?_
    refine me_go (pc1 := 46) (lv1 := [(2, .int (μ1.2.1 125 ((r1 + 1)).toNatClampNeg)), (1, .int r1), (0, .ref P.1)]) (st1 := [.ref P.1, .ref (P.2.1 112), .ref (P.2.1 108)]) 1 rfl ?_
    refine me_getf (v := .int (μ1.1 128)) rfl rfl rfl ?_
    refine me_iald rfl (g := 112) rfl rfl h.1 ?_
    replace h := h.2
    refine me_go (pc1 := 51) (lv1 := [(2, .int (μ1.2.1 125 ((r1 + 1)).toNatClampNeg)), (1, .int r1), (0, .ref P.1)]) (st1 := [.ref P.1, .int (μ1.2.1 112 ((μ1.1 128)).toNatClampNeg), .ref (P.2.1 108)]) 1 rfl ?_
    refine me_getf (v := .int (μ1.1 128)) rfl rfl rfl ?_
    have hi := h.1
    replace h := h.2
    refine me_iast rfl (g := 108) rfl rfl hi ?_
    refine me_go (pc1 := 56) (lv1 := [(2, .int (μ1.2.1 125 ((r1 + 1)).toNatClampNeg)), (1, .int r1), (0, .ref P.1)]) (st1 := [.ref P.1]) 1 rfl ?_
    refine me_getf (v := .ref (P.2.1 111)) rfl rfl rfl ?_
    refine me_go (pc1 := 60) (lv1 := [(2, .int (μ1.2.1 125 ((r1 + 1)).toNatClampNeg)), (1, .int r1), (0, .ref P.1)]) (st1 := [.ref P.1, .ref (P.2.1 111)]) 1 rfl ?_
    refine me_getf (v := .int (μ1.1 128)) rfl rfl rfl ?_
    refine me_go (pc1 := 64) (lv1 := [(2, .int (μ1.2.1 125 ((r1 + 1)).toNatClampNeg)), (1, .int r1), (0, .ref P.1)]) (st1 := [.int 0, .int (μ1.1 128), .ref (P.2.1 111)]) 1 rfl ?_
    have hi := h.1
    replace h := h.2
    refine me_iast rfl (g := 111) rfl rfl hi ?_
    refine me_go (pc1 := 66) (lv1 := [(2, .int (μ1.2.1 125 ((r1 + 1)).toNatClampNeg)), (1, .int r1), (0, .ref P.1)]) (st1 := [.ref P.1]) 1 rfl ?_
    refine me_callN rfl rfl rfl (h.mono (fun r7 μ7 h => ?_) (fun _ h => h))
    refine me_go (pc1 := 70) (lv1 := [(2, .int (μ1.2.1 125 ((r1 + 1)).toNatClampNeg)), (1, .int r1), (0, .ref P.1)]) (st1 := [.ref P.1]) 1 rfl ?_
    refine me_getf (v := .ref (P.2.1 113)) rfl rfl rfl ?_
    refine me_go (pc1 := 74) (lv1 := [(2, .int (μ1.2.1 125 ((r1 + 1)).toNatClampNeg)), (1, .int r1), (0, .ref P.1)]) (st1 := [.ref P.1, .ref (P.2.1 113)]) 1 rfl ?_
    refine me_getf (v := .int (μ7.1 128)) rfl rfl rfl ?_
    refine me_iald rfl (g := 113) rfl rfl h.1 ?_
    replace h := h.2
    refine me_ifc rfl rfl (fun c => ?_) (fun c => ?_)
    · replace h := h.1 (ci_ne c)
      refine me_lv [(0, .ref P.1), (1, .int r1), (2, .int (μ1.2.1 125 ((r1 + 1)).toNatClampNeg))] (fl_c rfl (fl_c rfl (fl_c rfl fl_0))) ?_
      exact h
    · replace h := h.2 (cn_ne c)
      refine me_go (pc1 := 84) (lv1 := [(2, .int (μ1.2.1 125 ((r1 + 1)).toNatClampNeg)), (1, .int r1), (0, .ref P.1)]) (st1 := [.ref P.1, .int (μ1.2.1 125 ((r1 + 1)).toNatClampNeg), .ref P.1]) 3 rfl ?_
      refine me_getf (v := .ref (P.2.1 112)) rfl rfl rfl ?_
      refine me_go (pc1 := 88) (lv1 := [(2, .int (μ1.2.1 125 ((r1 + 1)).toNatClampNeg)), (1, .int r1), (0, .ref P.1)]) (st1 := [.ref P.1, .ref (P.2.1 112), .int (μ1.2.1 125 ((r1 + 1)).toNatClampNeg), .ref P.1]) 1 rfl ?_
      refine me_getf (v := .int (μ7.1 128)) rfl rfl rfl ?_
      refine me_iald rfl (g := 112) rfl rfl h.1 ?_
      replace h := h.2
      refine me_callN rfl rfl rfl (h.mono (fun r8 μ8 h => ?_) (fun _ h => h))
      refine me_go (pc1 := 151) (lv1 := [(2, .int (μ1.2.1 125 ((r1 + 1)).toNatClampNeg)), (1, .int r1), (0, .ref P.1)]) (st1 := []) 1 rfl ?_
      refine me_lv [(0, .ref P.1), (1, .int r1), (2, .int (μ1.2.1 125 ((r1 + 1)).toNatClampNeg))] (fl_c rfl (fl_c rfl (fl_c rfl fl_0))) ?_
      exact h
theorem v_step_151 {X : ev_X} {W : Nat → Prop} {d : Nat} {P : MP} {μ : MS} {R : Int32 → MS → Prop} {T : MS → Prop} (x1 : Int32) (x2 : Int32) (h : ME X W false d 487 170 [(0, .ref P.1), (1, .int x1), (2, .int x2)] [] P μ R T) : ME X W false d 487 151 [(0, .ref P.1), (1, .int x1), (2, .int x2)] [] P μ R T := by
  refine me_go (pc1 := 170) (lv1 := [(0, .ref P.1), (1, .int x1), (2, .int x2)]) (st1 := []) 1 rfl ?_
  exact h
theorem v_step_170 {X : ev_X} {W : Nat → Prop} {d : Nat} {P : MP} {μ : MS} {R : Int32 → MS → Prop} {T : MS → Prop} (x1 : Int32) (x2 : Int32) (h : (MI (μ.1 128) (μ.2.2 116) ∧ ((¬ (μ.2.1 116 ((μ.1 128)).toNatClampNeg) = 0 → ME X W false d 487 198 [(0, .ref P.1), (1, .int x1), (2, .int x2)] [] P μ R T) ∧ ((μ.2.1 116 ((μ.1 128)).toNatClampNeg) = 0 → (MI (μ.1 128) (μ.2.2 111) ∧ ((¬ (μ.2.1 111 ((μ.1 128)).toNatClampNeg) = 0 → ME X W false d 487 198 [(0, .ref P.1), (1, .int x1), (2, .int x2)] [] P μ R T) ∧ ((μ.2.1 111 ((μ.1 128)).toNatClampNeg) = 0 → MC X W true d 480 [.ref P.1] P μ (fun r1 μ1 => ME X W false d 487 198 [(0, .ref P.1), (1, .int x1), (2, .int x2)] [] P μ1 R T) (fun _ => False)))))))) : ME X W false d 487 170 [(0, .ref P.1), (1, .int x1), (2, .int x2)] [] P μ R T := by
  refine me_go (pc1 := 171) (lv1 := [(0, .ref P.1), (1, .int x1), (2, .int x2)]) (st1 := [.ref P.1]) 1 rfl ?_
  refine me_getf (v := .ref (P.2.1 116)) rfl rfl rfl ?_
  refine me_go (pc1 := 175) (lv1 := [(0, .ref P.1), (1, .int x1), (2, .int x2)]) (st1 := [.ref P.1, .ref (P.2.1 116)]) 1 rfl ?_
  refine me_getf (v := .int (μ.1 128)) rfl rfl rfl ?_
  refine me_iald rfl (g := 116) rfl rfl h.1 ?_
  replace h := h.2
  refine me_ifc rfl rfl (fun c => ?_) (fun c => ?_)
  · replace h := h.1 (ci_ne c)
    exact h
  · replace h := h.2 (cn_ne c)
    refine me_go (pc1 := 183) (lv1 := [(0, .ref P.1), (1, .int x1), (2, .int x2)]) (st1 := [.ref P.1]) 1 rfl ?_
    refine me_getf (v := .ref (P.2.1 111)) rfl rfl rfl ?_
    refine me_go (pc1 := 187) (lv1 := [(0, .ref P.1), (1, .int x1), (2, .int x2)]) (st1 := [.ref P.1, .ref (P.2.1 111)]) 1 rfl ?_
    refine me_getf (v := .int (μ.1 128)) rfl rfl rfl ?_
    refine me_iald rfl (g := 111) rfl rfl h.1 ?_
    replace h := h.2
    refine me_ifc rfl rfl (fun c => ?_) (fun c => ?_)
    · replace h := h.1 (ci_ne c)
      exact h
    · replace h := h.2 (cn_ne c)
      refine me_go (pc1 := 195) (lv1 := [(0, .ref P.1), (1, .int x1), (2, .int x2)]) (st1 := [.ref P.1]) 1 rfl ?_
      refine me_callN rfl rfl rfl (h.mono (fun r1 μ1 h => ?_) (fun _ h => h))
      exact h
theorem v_step_198 {X : ev_X} {W : Nat → Prop} {d : Nat} {P : MP} {μ : MS} {R : Int32 → MS → Prop} {T : MS → Prop} (x1 : Int32) (x2 : Int32) (h : R 0 μ) : ME X W false d 487 198 [(0, .ref P.1), (1, .int x1), (2, .int x2)] [] P μ R T := by
  exact me_ret (v := none) (r := 0) rfl rfl rfl h
theorem v_locked_0 {X : ev_X} {W : Nat → Prop} {d : Nat} {P : MP} {μ : MS} {R : Int32 → MS → Prop} {T : MS → Prop} (x1 : Int32) (x2 : Int32) (h : MC X W true d 448 [.ref P.1, .int 8, .int x1, .int x2, .int 0, .int 0, .int 0] P μ (fun r1 μ1 => (MI x1 (μ1.2.2 23) ∧ MC X W true d 449 [.ref P.1, .int (μ1.2.1 23 x1.toNatClampNeg)] P μ1 (fun r2 μ2 => R 0 μ2) (fun _ => False))) (fun _ => False)) : ME X W true d 488 0 [(0, .ref P.1), (1, .int x1), (2, .int x2)] [] P μ R T := by
  refine me_go (pc1 := 8) (lv1 := [(0, .ref P.1), (1, .int x1), (2, .int x2)]) (st1 := [.int 0, .int 0, .int 0, .int x2, .int x1, .int 8, .ref P.1]) 7 rfl ?_
  refine me_callN rfl rfl rfl (h.mono (fun r1 μ1 h => ?_) (fun _ h => h))
  refine me_go (pc1 := 13) (lv1 := [(0, .ref P.1), (1, .int x1), (2, .int x2)]) (st1 := [.ref P.1, .ref P.1]) 2 rfl ?_
  refine me_getf (v := .ref (P.2.1 23)) rfl rfl rfl ?_
  refine me_go (pc1 := 17) (lv1 := [(0, .ref P.1), (1, .int x1), (2, .int x2)]) (st1 := [.int x1, .ref (P.2.1 23), .ref P.1]) 1 rfl ?_
  refine me_iald rfl (g := 23) rfl rfl h.1 ?_
  replace h := h.2
  refine me_callN rfl rfl rfl (h.mono (fun r2 μ2 h => ?_) (fun _ h => h))
  exact me_ret (v := none) (r := 0) rfl rfl rfl h
theorem v_again__0 {X : ev_X} {W : Nat → Prop} {d : Nat} {P : MP} {μ : MS} {R : Int32 → MS → Prop} {T : MS → Prop} (x1 : Int32) (x2 : Int32) (h : (MI x1 (μ.2.2 125) ∧ ((¬ (μ.2.1 125 x1.toNatClampNeg) = 2 → (MI x1 (μ.2.2 125) ∧ ((¬ (μ.2.1 125 x1.toNatClampNeg) = 1 → (MI (x1 + 2) (μ.2.2 125) ∧ (MI (x1 + 3) (μ.2.2 125) ∧ ((¬ (μ.2.1 125 ((x1 + 2)).toNatClampNeg) = (μ.2.1 125 ((x1 + 3)).toNatClampNeg) → (MI (x1 + 2) (μ.2.2 125) ∧ (MI (x1 + 2) (μ.2.2 125) ∧ (MI (μ.1 128) (μ.2.2 122) ∧ (MI x2 (μ.2.2 22) ∧ (MI (μ.2.1 22 x2.toNatClampNeg) (μ.2.2 28) ∧ (MI (μ.2.1 28 ((μ.2.1 22 x2.toNatClampNeg)).toNatClampNeg) (μ.2.2 55) ∧ (MI (x1 + 2) (μ.2.2 125) ∧ (MI ((μ.2.1 122 ((μ.1 128)).toNatClampNeg) + (μ.2.1 55 ((μ.2.1 28 ((μ.2.1 22 x2.toNatClampNeg)).toNatClampNeg)).toNatClampNeg)) (μ.2.2 99) ∧ (MI x2 (μ.2.2 25) ∧ MC X W true d 449 [.ref P.1, .int (μ.2.1 25 x2.toNatClampNeg)] P (mA1 (mA1 μ 125 (((x1 + 2)).toNatClampNeg) ((μ.2.1 125 ((x1 + 2)).toNatClampNeg) + 1)) 99 ((((μ.2.1 122 ((μ.1 128)).toNatClampNeg) + (μ.2.1 55 ((μ.2.1 28 ((μ.2.1 22 x2.toNatClampNeg)).toNatClampNeg)).toNatClampNeg))).toNatClampNeg) (upd (μ.2.1 125) (((x1 + 2)).toNatClampNeg) ((μ.2.1 125 ((x1 + 2)).toNatClampNeg) + 1) ((x1 + 2)).toNatClampNeg)) (fun r1 μ1 => R 0 μ1) (fun _ => False))))))))))) ∧ ((μ.2.1 125 ((x1 + 2)).toNatClampNeg) = (μ.2.1 125 ((x1 + 3)).toNatClampNeg) → MC X W true d 450 [.ref P.1] P μ (fun r2 μ2 => R 0 μ2) (fun _ => False)))))) ∧ ((μ.2.1 125 x1.toNatClampNeg) = 1 → (MI x2 (μ.2.2 22) ∧ MC X W true d 459 [.ref P.1, .int (μ.2.1 22 x2.toNatClampNeg)] P μ (fun r3 μ3 => ((¬ r3 = 1 → MC X W true d 450 [.ref P.1] P μ3 (fun r4 μ4 => R 0 μ4) (fun _ => False)) ∧ (r3 = 1 → (MI x2 (μ3.2.2 23) ∧ MC X W true d 449 [.ref P.1, .int (μ3.2.1 23 x2.toNatClampNeg)] P μ3 (fun r5 μ5 => R 0 μ5) (fun _ => False))))) T))))) ∧ ((μ.2.1 125 x1.toNatClampNeg) = 2 → (MI x2 (μ.2.2 23) ∧ MC X W true d 449 [.ref P.1, .int (μ.2.1 23 x2.toNatClampNeg)] P μ (fun r6 μ6 => R 0 μ6) (fun _ => False)))))) : ME X W true d 489 0 [(0, .ref P.1), (1, .int x1), (2, .int x2)] [] P μ R T := by
  refine me_go (pc1 := 1) (lv1 := [(0, .ref P.1), (1, .int x1), (2, .int x2)]) (st1 := [.ref P.1]) 1 rfl ?_
  refine me_getf (v := .ref (P.2.1 125)) rfl rfl rfl ?_
  refine me_go (pc1 := 5) (lv1 := [(0, .ref P.1), (1, .int x1), (2, .int x2)]) (st1 := [.int x1, .ref (P.2.1 125)]) 1 rfl ?_
  refine me_iald rfl (g := 125) rfl rfl h.1 ?_
  replace h := h.2
  refine me_go (pc1 := 7) (lv1 := [(0, .ref P.1), (1, .int x1), (2, .int x2)]) (st1 := [.int 2, .int (μ.2.1 125 x1.toNatClampNeg)]) 1 rfl ?_
  refine me_icmp rfl rfl (fun c => ?_) (fun c => ?_)
  · replace h := h.1 (ci_ne c)
    refine me_go (pc1 := 24) (lv1 := [(0, .ref P.1), (1, .int x1), (2, .int x2)]) (st1 := [.ref P.1]) 1 rfl ?_
    refine me_getf (v := .ref (P.2.1 125)) rfl rfl rfl ?_
    refine me_go (pc1 := 28) (lv1 := [(0, .ref P.1), (1, .int x1), (2, .int x2)]) (st1 := [.int x1, .ref (P.2.1 125)]) 1 rfl ?_
    refine me_iald rfl (g := 125) rfl rfl h.1 ?_
    replace h := h.2
    refine me_go (pc1 := 30) (lv1 := [(0, .ref P.1), (1, .int x1), (2, .int x2)]) (st1 := [.int 1, .int (μ.2.1 125 x1.toNatClampNeg)]) 1 rfl ?_
    refine me_icmp rfl rfl (fun c => ?_) (fun c => ?_)
    · replace h := h.1 (ci_ne c)
      refine me_go (pc1 := 68) (lv1 := [(0, .ref P.1), (1, .int x1), (2, .int x2)]) (st1 := [.ref P.1]) 1 rfl ?_
      refine me_getf (v := .ref (P.2.1 125)) rfl rfl rfl ?_
      refine me_go (pc1 := 74) (lv1 := [(0, .ref P.1), (1, .int x1), (2, .int x2)]) (st1 := [.int (x1 + 2), .ref (P.2.1 125)]) 3 rfl ?_
      refine me_iald rfl (g := 125) rfl rfl h.1 ?_
      replace h := h.2
      refine me_go (pc1 := 76) (lv1 := [(0, .ref P.1), (1, .int x1), (2, .int x2)]) (st1 := [.ref P.1, .int (μ.2.1 125 ((x1 + 2)).toNatClampNeg)]) 1 rfl ?_
      refine me_getf (v := .ref (P.2.1 125)) rfl rfl rfl ?_
      refine me_go (pc1 := 82) (lv1 := [(0, .ref P.1), (1, .int x1), (2, .int x2)]) (st1 := [.int (x1 + 3), .ref (P.2.1 125), .int (μ.2.1 125 ((x1 + 2)).toNatClampNeg)]) 3 rfl ?_
      refine me_iald rfl (g := 125) rfl rfl h.1 ?_
      replace h := h.2
      refine me_icmp rfl rfl (fun c => ?_) (fun c => ?_)
      · replace h := h.1 (ci_ne c)
        refine me_go (pc1 := 94) (lv1 := [(0, .ref P.1), (1, .int x1), (2, .int x2)]) (st1 := [.ref P.1]) 1 rfl ?_
        refine me_getf (v := .ref (P.2.1 125)) rfl rfl rfl ?_
        refine me_go (pc1 := 101) (lv1 := [(0, .ref P.1), (1, .int x1), (2, .int x2)]) (st1 := [.int (x1 + 2), .ref (P.2.1 125), .int (x1 + 2), .ref (P.2.1 125)]) 4 rfl ?_
        refine me_iald rfl (g := 125) rfl rfl h.1 ?_
        replace h := h.2
        refine me_go (pc1 := 104) (lv1 := [(0, .ref P.1), (1, .int x1), (2, .int x2)]) (st1 := [.int ((μ.2.1 125 ((x1 + 2)).toNatClampNeg) + 1), .int (x1 + 2), .ref (P.2.1 125)]) 2 rfl ?_
        have hi := h.1
        replace h := h.2
        refine me_iast rfl (g := 125) rfl rfl hi ?_
        refine me_go (pc1 := 106) (lv1 := [(0, .ref P.1), (1, .int x1), (2, .int x2)]) (st1 := [.ref P.1]) 1 rfl ?_
        refine me_getf (v := .ref (P.2.1 99)) rfl rfl rfl ?_
        refine me_go (pc1 := 110) (lv1 := [(0, .ref P.1), (1, .int x1), (2, .int x2)]) (st1 := [.ref P.1, .ref (P.2.1 99)]) 1 rfl ?_
        refine me_getf (v := .ref (P.2.1 122)) rfl rfl rfl ?_
        refine me_go (pc1 := 114) (lv1 := [(0, .ref P.1), (1, .int x1), (2, .int x2)]) (st1 := [.ref P.1, .ref (P.2.1 122), .ref (P.2.1 99)]) 1 rfl ?_
        refine me_getf (v := .int (μ.1 128)) rfl rfl rfl ?_
        refine me_iald rfl (g := 122) rfl rfl h.1 ?_
        replace h := h.2
        refine me_go (pc1 := 119) (lv1 := [(0, .ref P.1), (1, .int x1), (2, .int x2)]) (st1 := [.ref P.1, .int (μ.2.1 122 ((μ.1 128)).toNatClampNeg), .ref (P.2.1 99)]) 1 rfl ?_
        refine me_getf (v := .ref (P.2.1 55)) rfl rfl rfl ?_
        refine me_go (pc1 := 123) (lv1 := [(0, .ref P.1), (1, .int x1), (2, .int x2)]) (st1 := [.ref P.1, .ref (P.2.1 55), .int (μ.2.1 122 ((μ.1 128)).toNatClampNeg), .ref (P.2.1 99)]) 1 rfl ?_
        refine me_getf (v := .ref (P.2.1 28)) rfl rfl rfl ?_
        refine me_go (pc1 := 127) (lv1 := [(0, .ref P.1), (1, .int x1), (2, .int x2)]) (st1 := [.ref P.1, .ref (P.2.1 28), .ref (P.2.1 55), .int (μ.2.1 122 ((μ.1 128)).toNatClampNeg), .ref (P.2.1 99)]) 1 rfl ?_
        refine me_getf (v := .ref (P.2.1 22)) rfl rfl rfl ?_
        refine me_go (pc1 := 131) (lv1 := [(0, .ref P.1), (1, .int x1), (2, .int x2)]) (st1 := [.int x2, .ref (P.2.1 22), .ref (P.2.1 28), .ref (P.2.1 55), .int (μ.2.1 122 ((μ.1 128)).toNatClampNeg), .ref (P.2.1 99)]) 1 rfl ?_
        refine me_iald rfl (g := 22) rfl rfl h.1 ?_
        replace h := h.2
        refine me_iald rfl (g := 28) rfl rfl h.1 ?_
        replace h := h.2
        refine me_iald rfl (g := 55) rfl rfl h.1 ?_
        replace h := h.2
        refine me_go (pc1 := 136) (lv1 := [(0, .ref P.1), (1, .int x1), (2, .int x2)]) (st1 := [.ref P.1, .int ((μ.2.1 122 ((μ.1 128)).toNatClampNeg) + (μ.2.1 55 ((μ.2.1 28 ((μ.2.1 22 x2.toNatClampNeg)).toNatClampNeg)).toNatClampNeg)), .ref (P.2.1 99)]) 2 rfl ?_
        refine me_getf (v := .ref (P.2.1 125)) rfl rfl rfl ?_
        refine me_go (pc1 := 142) (lv1 := [(0, .ref P.1), (1, .int x1), (2, .int x2)]) (st1 := [.int (x1 + 2), .ref (P.2.1 125), .int ((μ.2.1 122 ((μ.1 128)).toNatClampNeg) + (μ.2.1 55 ((μ.2.1 28 ((μ.2.1 22 x2.toNatClampNeg)).toNatClampNeg)).toNatClampNeg)), .ref (P.2.1 99)]) 3 rfl ?_
        refine me_iald rfl (g := 125) rfl rfl h.1 ?_
        replace h := h.2
        have hi := h.1
        replace h := h.2
        refine me_iast rfl (g := 99) rfl rfl hi ?_
        refine me_go (pc1 := 146) (lv1 := [(0, .ref P.1), (1, .int x1), (2, .int x2)]) (st1 := [.ref P.1, .ref P.1]) 2 rfl ?_
        refine me_getf (v := .ref (P.2.1 25)) rfl rfl rfl ?_
        refine me_go (pc1 := 150) (lv1 := [(0, .ref P.1), (1, .int x1), (2, .int x2)]) (st1 := [.int x2, .ref (P.2.1 25), .ref P.1]) 1 rfl ?_
        refine me_iald rfl (g := 25) rfl rfl h.1 ?_
        replace h := h.2
        refine me_callN rfl rfl rfl (h.mono (fun r1 μ1 h => ?_) (fun _ h => h))
        exact me_ret (v := none) (r := 0) rfl rfl rfl h
      · replace h := h.2 (cn_ne c)
        refine me_go (pc1 := 87) (lv1 := [(0, .ref P.1), (1, .int x1), (2, .int x2)]) (st1 := [.ref P.1]) 1 rfl ?_
        refine me_callN rfl rfl rfl (h.mono (fun r2 μ2 h => ?_) (fun _ h => h))
        refine me_go (pc1 := 154) (lv1 := [(0, .ref P.1), (1, .int x1), (2, .int x2)]) (st1 := []) 1 rfl ?_
        exact me_ret (v := none) (r := 0) rfl rfl rfl h
    · replace h := h.2 (cn_ne c)
      refine me_go (pc1 := 35) (lv1 := [(0, .ref P.1), (1, .int x1), (2, .int x2)]) (st1 := [.ref P.1, .ref P.1]) 2 rfl ?_
      refine me_getf (v := .ref (P.2.1 22)) rfl rfl rfl ?_
      refine me_go (pc1 := 39) (lv1 := [(0, .ref P.1), (1, .int x1), (2, .int x2)]) (st1 := [.int x2, .ref (P.2.1 22), .ref P.1]) 1 rfl ?_
      refine me_iald rfl (g := 22) rfl rfl h.1 ?_
      replace h := h.2
      refine me_call rfl rfl rfl rfl (h.mono (fun r3 μ3 h => ?_) (fun _ h => h))
      refine me_go (pc1 := 44) (lv1 := [(0, .ref P.1), (1, .int x1), (2, .int x2)]) (st1 := [.int 1, .int r3]) 1 rfl ?_
      refine me_icmp rfl rfl (fun c => ?_) (fun c => ?_)
      · replace h := h.1 (ci_ne c)
        refine me_go (pc1 := 61) (lv1 := [(0, .ref P.1), (1, .int x1), (2, .int x2)]) (st1 := [.ref P.1]) 1 rfl ?_
        refine me_callN rfl rfl rfl (h.mono (fun r4 μ4 h => ?_) (fun _ h => h))
        refine me_go (pc1 := 154) (lv1 := [(0, .ref P.1), (1, .int x1), (2, .int x2)]) (st1 := []) 1 rfl ?_
        exact me_ret (v := none) (r := 0) rfl rfl rfl h
      · replace h := h.2 (cn_ne c)
        refine me_go (pc1 := 49) (lv1 := [(0, .ref P.1), (1, .int x1), (2, .int x2)]) (st1 := [.ref P.1, .ref P.1]) 2 rfl ?_
        refine me_getf (v := .ref (P.2.1 23)) rfl rfl rfl ?_
        refine me_go (pc1 := 53) (lv1 := [(0, .ref P.1), (1, .int x1), (2, .int x2)]) (st1 := [.int x2, .ref (P.2.1 23), .ref P.1]) 1 rfl ?_
        refine me_iald rfl (g := 23) rfl rfl h.1 ?_
        replace h := h.2
        refine me_callN rfl rfl rfl (h.mono (fun r5 μ5 h => ?_) (fun _ h => h))
        refine me_go (pc1 := 154) (lv1 := [(0, .ref P.1), (1, .int x1), (2, .int x2)]) (st1 := []) 1 rfl ?_
        exact me_ret (v := none) (r := 0) rfl rfl rfl h
  · replace h := h.2 (cn_ne c)
    refine me_go (pc1 := 12) (lv1 := [(0, .ref P.1), (1, .int x1), (2, .int x2)]) (st1 := [.ref P.1, .ref P.1]) 2 rfl ?_
    refine me_getf (v := .ref (P.2.1 23)) rfl rfl rfl ?_
    refine me_go (pc1 := 16) (lv1 := [(0, .ref P.1), (1, .int x1), (2, .int x2)]) (st1 := [.int x2, .ref (P.2.1 23), .ref P.1]) 1 rfl ?_
    refine me_iald rfl (g := 23) rfl rfl h.1 ?_
    replace h := h.2
    refine me_callN rfl rfl rfl (h.mono (fun r6 μ6 h => ?_) (fun _ h => h))
    refine me_go (pc1 := 154) (lv1 := [(0, .ref P.1), (1, .int x1), (2, .int x2)]) (st1 := []) 1 rfl ?_
    exact me_ret (v := none) (r := 0) rfl rfl rfl h
theorem v_does_0 {X : ev_X} {W : Nat → Prop} {d : Nat} {P : MP} {μ : MS} {R : Int32 → MS → Prop} {T : MS → Prop} (x1 : Int32) (h : (MI x1 (μ.2.2 20) ∧ ((((μ.2.1 20 x1.toNatClampNeg) = 40) → MC X W true d 492 [.ref P.1, .int x1] P μ (fun r1 μ1 => MC X W true d 473 [.ref P.1] P μ1 (fun r2 μ2 => ME X W false d 490 444 [(0, .ref P.1), (1, .int x1)] [] P μ2 R T) (fun _ => False)) T) ∧ (((μ.2.1 20 x1.toNatClampNeg) = 41 ∨ (μ.2.1 20 x1.toNatClampNeg) = 42) → MC X W false d 464 [.ref P.1, .int x1] P μ (fun r3 μ3 => ∀ aa3 : Nat → Nat, ME X W false d 490 444 [(0, .ref P.1), (1, .int x1)] [] (P.1, aa3, P.2.2) μ3 R T) T) ∧ (((μ.2.1 20 x1.toNatClampNeg) = 43) → MC X W true d 476 [.ref P.1, .int 3, .int 0, .int 0, .int 0] P μ (fun r4 μ4 => ME X W false d 490 444 [(0, .ref P.1), (1, .int x1)] [] P μ4 R T) T) ∧ (((μ.2.1 20 x1.toNatClampNeg) = 44) → (MI x1 (μ.2.2 22) ∧ ME X W false d 490 104 [(0, .ref P.1), (1, .int x1), (2, .int (-1)), (3, .int (μ.2.1 22 x1.toNatClampNeg))] [] P μ R T)) ∧ (((μ.2.1 20 x1.toNatClampNeg) = 46) → (MI x1 (μ.2.2 22) ∧ MC X W true d 459 [.ref P.1, .int (μ.2.1 22 x1.toNatClampNeg)] P μ (fun r5 μ5 => ((¬ r5 = 1 → ME X W false d 490 192 [(0, .ref P.1), (1, .int x1), (2, .int 0)] [] P μ5 R T) ∧ (r5 = 1 → ME X W false d 490 192 [(0, .ref P.1), (1, .int x1), (2, .int 1)] [] P μ5 R T))) T)) ∧ (((μ.2.1 20 x1.toNatClampNeg) = 47) → MC X W true d 473 [.ref P.1] P μ (fun r6 μ6 => MC X W true d 448 [.ref P.1, .int 2, .int x1, .int 0, .int 0, .int 0, .int 0] P μ6 (fun r7 μ7 => (MI x1 (μ7.2.2 23) ∧ MC X W true d 449 [.ref P.1, .int (μ7.2.1 23 x1.toNatClampNeg)] P μ7 (fun r8 μ8 => ME X W false d 490 444 [(0, .ref P.1), (1, .int x1)] [] P μ8 R T) (fun _ => False))) (fun _ => False)) (fun _ => False)) ∧ (((μ.2.1 20 x1.toNatClampNeg) = 48) → (MI x1 (μ.2.2 23) ∧ MC X W true d 459 [.ref P.1, .int (μ.2.1 23 x1.toNatClampNeg)] P μ (fun r9 μ9 => (MI x1 (μ9.2.2 24) ∧ MC X W true d 459 [.ref P.1, .int (μ9.2.1 24 x1.toNatClampNeg)] P μ9 (fun r10 μ10 => MC X W true d 473 [.ref P.1] P μ10 (fun r11 μ11 => ((r10.toInt < r9.toInt → ME X W false d 490 444 [(0, .ref P.1), (1, .int x1)] [] P μ11 R T) ∧ (r9.toInt ≤ r10.toInt → MC X W true d 448 [.ref P.1, .int 3, .int x1, .int r9, .int r10, .int 0, .int 0] P μ11 (fun r12 μ12 => (MI (μ12.1 128) (μ12.2.2 122) ∧ (MI x1 (μ12.2.2 22) ∧ (MI (μ12.2.1 22 x1.toNatClampNeg) (μ12.2.2 28) ∧ (MI (μ12.2.1 28 ((μ12.2.1 22 x1.toNatClampNeg)).toNatClampNeg) (μ12.2.2 55) ∧ (MI ((μ12.2.1 122 ((μ12.1 128)).toNatClampNeg) + (μ12.2.1 55 ((μ12.2.1 28 ((μ12.2.1 22 x1.toNatClampNeg)).toNatClampNeg)).toNatClampNeg)) (μ12.2.2 99) ∧ (MI x1 (μ12.2.2 25) ∧ MC X W true d 449 [.ref P.1, .int (μ12.2.1 25 x1.toNatClampNeg)] P (mA1 μ12 99 ((((μ12.2.1 122 ((μ12.1 128)).toNatClampNeg) + (μ12.2.1 55 ((μ12.2.1 28 ((μ12.2.1 22 x1.toNatClampNeg)).toNatClampNeg)).toNatClampNeg))).toNatClampNeg) r9) (fun r13 μ13 => ME X W false d 490 444 [(0, .ref P.1), (1, .int x1)] [] P μ13 R T) (fun _ => False)))))))) (fun _ => False)))) (fun _ => False)) T)) T)) ∧ (((μ.2.1 20 x1.toNatClampNeg) = 49) → (MI x1 (μ.2.2 22) ∧ (((0 : Int) ≤ (μ.2.1 22 x1.toNatClampNeg).toInt → (MI x1 (μ.2.2 22) ∧ MC X W true d 459 [.ref P.1, .int (μ.2.1 22 x1.toNatClampNeg)] P μ (fun r14 μ14 => ME X W false d 490 360 [(0, .ref P.1), (1, .int x1), (2, .int r14)] [] P μ14 R T) T)) ∧ ((μ.2.1 22 x1.toNatClampNeg).toInt < (0 : Int) → ME X W false d 490 360 [(0, .ref P.1), (1, .int x1), (2, .int 0)] [] P μ R T)))) ∧ (((μ.2.1 20 x1.toNatClampNeg) = 50) → (MI x1 (μ.2.2 23) ∧ MC X W true d 459 [.ref P.1, .int (μ.2.1 23 x1.toNatClampNeg)] P μ (fun r15 μ15 => (MI x1 (μ15.2.2 22) ∧ MC X W true d 376 [.ref P.1, .int (μ15.2.1 22 x1.toNatClampNeg)] P μ15 (fun r16 μ16 => (MI x1 (μ16.2.2 21) ∧ MC X W true d 476 [.ref P.1, .int 1, .int r16, .int r15, .int (μ16.2.1 21 x1.toNatClampNeg)] P μ16 (fun r17 μ17 => ME X W false d 490 444 [(0, .ref P.1), (1, .int x1)] [] P μ17 R T) T)) (fun _ => False))) T)) ∧ ((∀ v ∈ [(40 : Int32), (41 : Int32), (42 : Int32), (43 : Int32), (44 : Int32), (46 : Int32), (47 : Int32), (48 : Int32), (49 : Int32), (50 : Int32)], ¬ (μ.2.1 20 x1.toNatClampNeg) = v) → MC X W true d 494 [.ref P.1, .int x1] P μ (fun r18 μ18 => ME X W false d 490 444 [(0, .ref P.1), (1, .int x1)] [] P μ18 R T) T)))) : ME X W false d 490 0 [(0, .ref P.1), (1, .int x1)] [] P μ R T := by
  refine me_go (pc1 := 1) (lv1 := [(0, .ref P.1), (1, .int x1)]) (st1 := [.ref P.1]) 1 rfl ?_
  refine me_getf (v := .ref (P.2.1 20)) rfl rfl rfl ?_
  refine me_go (pc1 := 5) (lv1 := [(0, .ref P.1), (1, .int x1)]) (st1 := [.int x1, .ref (P.2.1 20)]) 1 rfl ?_
  refine me_iald rfl (g := 20) rfl rfl h.1 ?_
  replace h := h.2
  have hD := h
  have q6_0 : ((μ.2.1 20 x1.toNatClampNeg) = 40) → ME X W false d 490 64 [(0, .ref P.1), (1, .int x1)] [] P μ R T := fun c => by
      replace h := hD.1 c
      refine me_go (pc1 := 66) (lv1 := [(0, .ref P.1), (1, .int x1)]) (st1 := [.int x1, .ref P.1]) 2 rfl ?_
      refine me_call rfl rfl rfl rfl (h.mono (fun r1 μ1 h => ?_) (fun _ h => h))
      refine me_go (pc1 := 70) (lv1 := [(0, .ref P.1), (1, .int x1)]) (st1 := [.ref P.1]) 1 rfl ?_
      refine me_callN rfl rfl rfl (h.mono (fun r2 μ2 h => ?_) (fun _ h => h))
      refine me_go (pc1 := 444) (lv1 := [(0, .ref P.1), (1, .int x1)]) (st1 := []) 1 rfl ?_
      exact h
  have q6_1 : ((μ.2.1 20 x1.toNatClampNeg) = 41 ∨ (μ.2.1 20 x1.toNatClampNeg) = 42) → ME X W false d 490 76 [(0, .ref P.1), (1, .int x1)] [] P μ R T := fun c => by
      replace h := hD.2.1 c
      refine me_go (pc1 := 78) (lv1 := [(0, .ref P.1), (1, .int x1)]) (st1 := [.int x1, .ref P.1]) 2 rfl ?_
      refine me_callF rfl rfl rfl rfl rfl (h.mono (fun r3 μ3 h aa3 => ?_) (fun _ h => h))
      replace h := h aa3
      refine me_go (pc1 := 444) (lv1 := [(0, .ref P.1), (1, .int x1)]) (st1 := []) 1 rfl ?_
      exact h
  have q6_2 : ((μ.2.1 20 x1.toNatClampNeg) = 43) → ME X W false d 490 84 [(0, .ref P.1), (1, .int x1)] [] P μ R T := fun c => by
      replace h := hD.2.2.1 c
      refine me_go (pc1 := 89) (lv1 := [(0, .ref P.1), (1, .int x1)]) (st1 := [.int 0, .int 0, .int 0, .int 3, .ref P.1]) 5 rfl ?_
      refine me_call rfl rfl rfl rfl (h.mono (fun r4 μ4 h => ?_) (fun _ h => h))
      refine me_go (pc1 := 444) (lv1 := [(0, .ref P.1), (1, .int x1)]) (st1 := []) 1 rfl ?_
      exact h
  have q6_3 : ((μ.2.1 20 x1.toNatClampNeg) = 44) → ME X W false d 490 95 [(0, .ref P.1), (1, .int x1)] [] P μ R T := fun c => by
      replace h := hD.2.2.2.1 c
      refine me_go (pc1 := 98) (lv1 := [(2, .int (-1)), (0, .ref P.1), (1, .int x1)]) (st1 := [.ref P.1]) 3 rfl ?_
      refine me_getf (v := .ref (P.2.1 22)) rfl rfl rfl ?_
      refine me_go (pc1 := 102) (lv1 := [(2, .int (-1)), (0, .ref P.1), (1, .int x1)]) (st1 := [.int x1, .ref (P.2.1 22)]) 1 rfl ?_
      refine me_iald rfl (g := 22) rfl rfl h.1 ?_
      replace h := h.2
      refine me_go (pc1 := 104) (lv1 := [(3, .int (μ.2.1 22 x1.toNatClampNeg)), (2, .int (-1)), (0, .ref P.1), (1, .int x1)]) (st1 := []) 1 rfl ?_
      refine me_lv [(0, .ref P.1), (1, .int x1), (2, .int (-1)), (3, .int (μ.2.1 22 x1.toNatClampNeg))] (fl_c rfl (fl_c rfl (fl_c rfl (fl_c rfl fl_0)))) ?_
      exact h
  have q6_4 : ((μ.2.1 20 x1.toNatClampNeg) = 46) → ME X W false d 490 172 [(0, .ref P.1), (1, .int x1)] [] P μ R T := fun c => by
      replace h := hD.2.2.2.2.1 c
      refine me_go (pc1 := 174) (lv1 := [(0, .ref P.1), (1, .int x1)]) (st1 := [.ref P.1, .ref P.1]) 2 rfl ?_
      refine me_getf (v := .ref (P.2.1 22)) rfl rfl rfl ?_
      refine me_go (pc1 := 178) (lv1 := [(0, .ref P.1), (1, .int x1)]) (st1 := [.int x1, .ref (P.2.1 22), .ref P.1]) 1 rfl ?_
      refine me_iald rfl (g := 22) rfl rfl h.1 ?_
      replace h := h.2
      refine me_call rfl rfl rfl rfl (h.mono (fun r5 μ5 h => ?_) (fun _ h => h))
      refine me_go (pc1 := 183) (lv1 := [(0, .ref P.1), (1, .int x1)]) (st1 := [.int 1, .int r5]) 1 rfl ?_
      refine me_icmp rfl rfl (fun c => ?_) (fun c => ?_)
      · replace h := h.1 (ci_ne c)
        refine me_go (pc1 := 192) (lv1 := [(2, .int 0), (0, .ref P.1), (1, .int x1)]) (st1 := []) 2 rfl ?_
        refine me_lv [(0, .ref P.1), (1, .int x1), (2, .int 0)] (fl_c rfl (fl_c rfl (fl_c rfl fl_0))) ?_
        exact h
      · replace h := h.2 (cn_ne c)
        refine me_go (pc1 := 192) (lv1 := [(2, .int 1), (0, .ref P.1), (1, .int x1)]) (st1 := []) 3 rfl ?_
        refine me_lv [(0, .ref P.1), (1, .int x1), (2, .int 1)] (fl_c rfl (fl_c rfl (fl_c rfl fl_0))) ?_
        exact h
  have q6_5 : ((μ.2.1 20 x1.toNatClampNeg) = 47) → ME X W false d 490 223 [(0, .ref P.1), (1, .int x1)] [] P μ R T := fun c => by
      replace h := hD.2.2.2.2.2.1 c
      refine me_go (pc1 := 224) (lv1 := [(0, .ref P.1), (1, .int x1)]) (st1 := [.ref P.1]) 1 rfl ?_
      refine me_callN rfl rfl rfl (h.mono (fun r6 μ6 h => ?_) (fun _ h => h))
      refine me_go (pc1 := 234) (lv1 := [(0, .ref P.1), (1, .int x1)]) (st1 := [.int 0, .int 0, .int 0, .int 0, .int x1, .int 2, .ref P.1]) 7 rfl ?_
      refine me_callN rfl rfl rfl (h.mono (fun r7 μ7 h => ?_) (fun _ h => h))
      refine me_go (pc1 := 239) (lv1 := [(0, .ref P.1), (1, .int x1)]) (st1 := [.ref P.1, .ref P.1]) 2 rfl ?_
      refine me_getf (v := .ref (P.2.1 23)) rfl rfl rfl ?_
      refine me_go (pc1 := 243) (lv1 := [(0, .ref P.1), (1, .int x1)]) (st1 := [.int x1, .ref (P.2.1 23), .ref P.1]) 1 rfl ?_
      refine me_iald rfl (g := 23) rfl rfl h.1 ?_
      replace h := h.2
      refine me_callN rfl rfl rfl (h.mono (fun r8 μ8 h => ?_) (fun _ h => h))
      refine me_go (pc1 := 444) (lv1 := [(0, .ref P.1), (1, .int x1)]) (st1 := []) 1 rfl ?_
      exact h
  have q6_6 : ((μ.2.1 20 x1.toNatClampNeg) = 48) → ME X W false d 490 250 [(0, .ref P.1), (1, .int x1)] [] P μ R T := fun c => by
      replace h := hD.2.2.2.2.2.2.1 c
      refine me_go (pc1 := 252) (lv1 := [(0, .ref P.1), (1, .int x1)]) (st1 := [.ref P.1, .ref P.1]) 2 rfl ?_
      refine me_getf (v := .ref (P.2.1 23)) rfl rfl rfl ?_
      refine me_go (pc1 := 256) (lv1 := [(0, .ref P.1), (1, .int x1)]) (st1 := [.int x1, .ref (P.2.1 23), .ref P.1]) 1 rfl ?_
      refine me_iald rfl (g := 23) rfl rfl h.1 ?_
      replace h := h.2
      refine me_call rfl rfl rfl rfl (h.mono (fun r9 μ9 h => ?_) (fun _ h => h))
      refine me_go (pc1 := 263) (lv1 := [(2, .int r9), (0, .ref P.1), (1, .int x1)]) (st1 := [.ref P.1, .ref P.1]) 3 rfl ?_
      refine me_getf (v := .ref (P.2.1 24)) rfl rfl rfl ?_
      refine me_go (pc1 := 267) (lv1 := [(2, .int r9), (0, .ref P.1), (1, .int x1)]) (st1 := [.int x1, .ref (P.2.1 24), .ref P.1]) 1 rfl ?_
      refine me_iald rfl (g := 24) rfl rfl h.1 ?_
      replace h := h.2
      refine me_call rfl rfl rfl rfl (h.mono (fun r10 μ10 h => ?_) (fun _ h => h))
      refine me_go (pc1 := 273) (lv1 := [(3, .int r10), (2, .int r9), (0, .ref P.1), (1, .int x1)]) (st1 := [.ref P.1]) 2 rfl ?_
      refine me_callN rfl rfl rfl (h.mono (fun r11 μ11 h => ?_) (fun _ h => h))
      refine me_go (pc1 := 278) (lv1 := [(3, .int r10), (2, .int r9), (0, .ref P.1), (1, .int x1)]) (st1 := [.int r10, .int r9]) 2 rfl ?_
      refine me_icmp rfl rfl (fun c => ?_) (fun c => ?_)
      · replace h := h.1 (ci_gt c)
        refine me_lv [(0, .ref P.1), (1, .int x1)] (fl_c rfl (fl_c rfl fl_0)) ?_
        exact h
      · replace h := h.2 (cn_gt c)
        refine me_go (pc1 := 288) (lv1 := [(3, .int r10), (2, .int r9), (0, .ref P.1), (1, .int x1)]) (st1 := [.int 0, .int 0, .int r10, .int r9, .int x1, .int 3, .ref P.1]) 7 rfl ?_
        refine me_callN rfl rfl rfl (h.mono (fun r12 μ12 h => ?_) (fun _ h => h))
        refine me_go (pc1 := 292) (lv1 := [(3, .int r10), (2, .int r9), (0, .ref P.1), (1, .int x1)]) (st1 := [.ref P.1]) 1 rfl ?_
        refine me_getf (v := .ref (P.2.1 99)) rfl rfl rfl ?_
        refine me_go (pc1 := 296) (lv1 := [(3, .int r10), (2, .int r9), (0, .ref P.1), (1, .int x1)]) (st1 := [.ref P.1, .ref (P.2.1 99)]) 1 rfl ?_
        refine me_getf (v := .ref (P.2.1 122)) rfl rfl rfl ?_
        refine me_go (pc1 := 300) (lv1 := [(3, .int r10), (2, .int r9), (0, .ref P.1), (1, .int x1)]) (st1 := [.ref P.1, .ref (P.2.1 122), .ref (P.2.1 99)]) 1 rfl ?_
        refine me_getf (v := .int (μ12.1 128)) rfl rfl rfl ?_
        refine me_iald rfl (g := 122) rfl rfl h.1 ?_
        replace h := h.2
        refine me_go (pc1 := 305) (lv1 := [(3, .int r10), (2, .int r9), (0, .ref P.1), (1, .int x1)]) (st1 := [.ref P.1, .int (μ12.2.1 122 ((μ12.1 128)).toNatClampNeg), .ref (P.2.1 99)]) 1 rfl ?_
        refine me_getf (v := .ref (P.2.1 55)) rfl rfl rfl ?_
        refine me_go (pc1 := 309) (lv1 := [(3, .int r10), (2, .int r9), (0, .ref P.1), (1, .int x1)]) (st1 := [.ref P.1, .ref (P.2.1 55), .int (μ12.2.1 122 ((μ12.1 128)).toNatClampNeg), .ref (P.2.1 99)]) 1 rfl ?_
        refine me_getf (v := .ref (P.2.1 28)) rfl rfl rfl ?_
        refine me_go (pc1 := 313) (lv1 := [(3, .int r10), (2, .int r9), (0, .ref P.1), (1, .int x1)]) (st1 := [.ref P.1, .ref (P.2.1 28), .ref (P.2.1 55), .int (μ12.2.1 122 ((μ12.1 128)).toNatClampNeg), .ref (P.2.1 99)]) 1 rfl ?_
        refine me_getf (v := .ref (P.2.1 22)) rfl rfl rfl ?_
        refine me_go (pc1 := 317) (lv1 := [(3, .int r10), (2, .int r9), (0, .ref P.1), (1, .int x1)]) (st1 := [.int x1, .ref (P.2.1 22), .ref (P.2.1 28), .ref (P.2.1 55), .int (μ12.2.1 122 ((μ12.1 128)).toNatClampNeg), .ref (P.2.1 99)]) 1 rfl ?_
        refine me_iald rfl (g := 22) rfl rfl h.1 ?_
        replace h := h.2
        refine me_iald rfl (g := 28) rfl rfl h.1 ?_
        replace h := h.2
        refine me_iald rfl (g := 55) rfl rfl h.1 ?_
        replace h := h.2
        refine me_go (pc1 := 322) (lv1 := [(3, .int r10), (2, .int r9), (0, .ref P.1), (1, .int x1)]) (st1 := [.int r9, .int ((μ12.2.1 122 ((μ12.1 128)).toNatClampNeg) + (μ12.2.1 55 ((μ12.2.1 28 ((μ12.2.1 22 x1.toNatClampNeg)).toNatClampNeg)).toNatClampNeg)), .ref (P.2.1 99)]) 2 rfl ?_
        have hi := h.1
        replace h := h.2
        refine me_iast rfl (g := 99) rfl rfl hi ?_
        refine me_go (pc1 := 325) (lv1 := [(3, .int r10), (2, .int r9), (0, .ref P.1), (1, .int x1)]) (st1 := [.ref P.1, .ref P.1]) 2 rfl ?_
        refine me_getf (v := .ref (P.2.1 25)) rfl rfl rfl ?_
        refine me_go (pc1 := 329) (lv1 := [(3, .int r10), (2, .int r9), (0, .ref P.1), (1, .int x1)]) (st1 := [.int x1, .ref (P.2.1 25), .ref P.1]) 1 rfl ?_
        refine me_iald rfl (g := 25) rfl rfl h.1 ?_
        replace h := h.2
        refine me_callN rfl rfl rfl (h.mono (fun r13 μ13 h => ?_) (fun _ h => h))
        refine me_go (pc1 := 444) (lv1 := [(3, .int r10), (2, .int r9), (0, .ref P.1), (1, .int x1)]) (st1 := []) 1 rfl ?_
        refine me_lv [(0, .ref P.1), (1, .int x1)] (fl_c rfl (fl_c rfl fl_0)) ?_
        exact h
  have q6_7 : ((μ.2.1 20 x1.toNatClampNeg) = 49) → ME X W false d 490 336 [(0, .ref P.1), (1, .int x1)] [] P μ R T := fun c => by
      replace h := hD.2.2.2.2.2.2.2.1 c
      refine me_go (pc1 := 337) (lv1 := [(0, .ref P.1), (1, .int x1)]) (st1 := [.ref P.1]) 1 rfl ?_
      refine me_getf (v := .ref (P.2.1 22)) rfl rfl rfl ?_
      refine me_go (pc1 := 341) (lv1 := [(0, .ref P.1), (1, .int x1)]) (st1 := [.int x1, .ref (P.2.1 22)]) 1 rfl ?_
      refine me_iald rfl (g := 22) rfl rfl h.1 ?_
      replace h := h.2
      refine me_ifc rfl rfl (fun c => ?_) (fun c => ?_)
      · replace h := h.1 (ci_ge c)
        refine me_go (pc1 := 351) (lv1 := [(0, .ref P.1), (1, .int x1)]) (st1 := [.ref P.1, .ref P.1]) 2 rfl ?_
        refine me_getf (v := .ref (P.2.1 22)) rfl rfl rfl ?_
        refine me_go (pc1 := 355) (lv1 := [(0, .ref P.1), (1, .int x1)]) (st1 := [.int x1, .ref (P.2.1 22), .ref P.1]) 1 rfl ?_
        refine me_iald rfl (g := 22) rfl rfl h.1 ?_
        replace h := h.2
        refine me_call rfl rfl rfl rfl (h.mono (fun r14 μ14 h => ?_) (fun _ h => h))
        refine me_go (pc1 := 360) (lv1 := [(2, .int r14), (0, .ref P.1), (1, .int x1)]) (st1 := []) 1 rfl ?_
        refine me_lv [(0, .ref P.1), (1, .int x1), (2, .int r14)] (fl_c rfl (fl_c rfl (fl_c rfl fl_0))) ?_
        exact h
      · replace h := h.2 (cn_ge c)
        refine me_go (pc1 := 360) (lv1 := [(2, .int 0), (0, .ref P.1), (1, .int x1)]) (st1 := []) 3 rfl ?_
        refine me_lv [(0, .ref P.1), (1, .int x1), (2, .int 0)] (fl_c rfl (fl_c rfl (fl_c rfl fl_0))) ?_
        exact h
  have q6_8 : ((μ.2.1 20 x1.toNatClampNeg) = 50) → ME X W false d 490 403 [(0, .ref P.1), (1, .int x1)] [] P μ R T := fun c => by
      replace h := hD.2.2.2.2.2.2.2.2.1 c
      refine me_go (pc1 := 405) (lv1 := [(0, .ref P.1), (1, .int x1)]) (st1 := [.ref P.1, .ref P.1]) 2 rfl ?_
      refine me_getf (v := .ref (P.2.1 23)) rfl rfl rfl ?_
      refine me_go (pc1 := 409) (lv1 := [(0, .ref P.1), (1, .int x1)]) (st1 := [.int x1, .ref (P.2.1 23), .ref P.1]) 1 rfl ?_
      refine me_iald rfl (g := 23) rfl rfl h.1 ?_
      replace h := h.2
      refine me_call rfl rfl rfl rfl (h.mono (fun r15 μ15 h => ?_) (fun _ h => h))
      refine me_go (pc1 := 418) (lv1 := [(2, .int r15), (0, .ref P.1), (1, .int x1)]) (st1 := [.ref P.1, .ref P.1, .int 1, .ref P.1]) 5 rfl ?_
      refine me_getf (v := .ref (P.2.1 22)) rfl rfl rfl ?_
      refine me_go (pc1 := 422) (lv1 := [(2, .int r15), (0, .ref P.1), (1, .int x1)]) (st1 := [.int x1, .ref (P.2.1 22), .ref P.1, .int 1, .ref P.1]) 1 rfl ?_
      refine me_iald rfl (g := 22) rfl rfl h.1 ?_
      replace h := h.2
      refine me_callN rfl rfl rfl (h.mono (fun r16 μ16 h => ?_) (fun _ h => h))
      refine me_go (pc1 := 428) (lv1 := [(2, .int r15), (0, .ref P.1), (1, .int x1)]) (st1 := [.ref P.1, .int r15, .int r16, .int 1, .ref P.1]) 2 rfl ?_
      refine me_getf (v := .ref (P.2.1 21)) rfl rfl rfl ?_
      refine me_go (pc1 := 432) (lv1 := [(2, .int r15), (0, .ref P.1), (1, .int x1)]) (st1 := [.int x1, .ref (P.2.1 21), .int r15, .int r16, .int 1, .ref P.1]) 1 rfl ?_
      refine me_iald rfl (g := 21) rfl rfl h.1 ?_
      replace h := h.2
      refine me_call rfl rfl rfl rfl (h.mono (fun r17 μ17 h => ?_) (fun _ h => h))
      refine me_go (pc1 := 444) (lv1 := [(2, .int r15), (0, .ref P.1), (1, .int x1)]) (st1 := []) 1 rfl ?_
      refine me_lv [(0, .ref P.1), (1, .int x1)] (fl_c rfl (fl_c rfl fl_0)) ?_
      exact h
  by_cases c : (μ.2.1 20 x1.toNatClampNeg) = 40
  · exact me_sw rfl c (t := 64) rfl (q6_0 (c))
  rename ¬ (μ.2.1 20 x1.toNatClampNeg) = 40 => n0
  by_cases c : (μ.2.1 20 x1.toNatClampNeg) = 41
  · exact me_sw rfl c (t := 76) rfl (q6_1 (Or.inl c))
  rename ¬ (μ.2.1 20 x1.toNatClampNeg) = 41 => n1
  by_cases c : (μ.2.1 20 x1.toNatClampNeg) = 42
  · exact me_sw rfl c (t := 76) rfl (q6_1 (Or.inr (c)))
  rename ¬ (μ.2.1 20 x1.toNatClampNeg) = 42 => n2
  by_cases c : (μ.2.1 20 x1.toNatClampNeg) = 43
  · exact me_sw rfl c (t := 84) rfl (q6_2 (c))
  rename ¬ (μ.2.1 20 x1.toNatClampNeg) = 43 => n3
  by_cases c : (μ.2.1 20 x1.toNatClampNeg) = 44
  · exact me_sw rfl c (t := 95) rfl (q6_3 (c))
  rename ¬ (μ.2.1 20 x1.toNatClampNeg) = 44 => n4
  by_cases c : (μ.2.1 20 x1.toNatClampNeg) = 46
  · exact me_sw rfl c (t := 172) rfl (q6_4 (c))
  rename ¬ (μ.2.1 20 x1.toNatClampNeg) = 46 => n5
  by_cases c : (μ.2.1 20 x1.toNatClampNeg) = 47
  · exact me_sw rfl c (t := 223) rfl (q6_5 (c))
  rename ¬ (μ.2.1 20 x1.toNatClampNeg) = 47 => n6
  by_cases c : (μ.2.1 20 x1.toNatClampNeg) = 48
  · exact me_sw rfl c (t := 250) rfl (q6_6 (c))
  rename ¬ (μ.2.1 20 x1.toNatClampNeg) = 48 => n7
  by_cases c : (μ.2.1 20 x1.toNatClampNeg) = 49
  · exact me_sw rfl c (t := 336) rfl (q6_7 (c))
  rename ¬ (μ.2.1 20 x1.toNatClampNeg) = 49 => n8
  by_cases c : (μ.2.1 20 x1.toNatClampNeg) = 50
  · exact me_sw rfl c (t := 403) rfl (q6_8 (c))
  rename ¬ (μ.2.1 20 x1.toNatClampNeg) = 50 => n9
  have hk : ∀ v ∈ [(40 : Int32), (41 : Int32), (42 : Int32), (43 : Int32), (44 : Int32), (46 : Int32), (47 : Int32), (48 : Int32), (49 : Int32), (50 : Int32)], ¬ (μ.2.1 20 x1.toNatClampNeg) = v := fun v hv => by
    simp only [List.mem_cons, List.not_mem_nil, or_false] at hv
    rcases hv with rfl | rfl | rfl | rfl | rfl | rfl | rfl | rfl | rfl | rfl <;> assumption
  refine me_tsD (t := 439) rfl _ rfl rfl hk ?_
  replace h := hD.2.2.2.2.2.2.2.2.2 hk
  refine me_go (pc1 := 441) (lv1 := [(0, .ref P.1), (1, .int x1)]) (st1 := [.int x1, .ref P.1]) 2 rfl ?_
  refine me_call rfl rfl rfl rfl (h.mono (fun r18 μ18 h => ?_) (fun _ h => h))
  exact h
theorem v_does_104 {X : ev_X} {W : Nat → Prop} {d : Nat} {P : MP} {μ : MS} {R : Int32 → MS → Prop} {T : MS → Prop} (x1 : Int32) (x2 : Int32) (x3 : Int32) (h : ((x3.toInt < (0 : Int) → ME X W false d 490 151 [(0, .ref P.1), (1, .int x1), (2, .int x2), (3, .int x3)] [] P μ R T) ∧ ((0 : Int) ≤ x3.toInt → (((0 : Int) ≤ x2.toInt → ME X W false d 490 151 [(0, .ref P.1), (1, .int x1), (2, .int x2), (3, .int x3)] [] P μ R T) ∧ (x2.toInt < (0 : Int) → (MI x3 (μ.2.2 22) ∧ (((μ.2.1 22 x3.toNatClampNeg).toInt < (0 : Int) → ME X W false d 490 135 [(0, .ref P.1), (1, .int x1), (2, .int x2), (3, .int x3)] [] P μ R T) ∧ ((0 : Int) ≤ (μ.2.1 22 x3.toNatClampNeg).toInt → (MI x3 (μ.2.2 22) ∧ MC X W true d 459 [.ref P.1, .int (μ.2.1 22 x3.toNatClampNeg)] P μ (fun r1 μ1 => ((¬ r1 = 1 → ME X W false d 490 141 [(0, .ref P.1), (1, .int x1), (2, .int (-1)), (3, .int x3)] [] P μ1 R T) ∧ (r1 = 1 → ME X W false d 490 135 [(0, .ref P.1), (1, .int x1), (2, .int x2), (3, .int x3)] [] P μ1 R T))) T))))))))) : ME X W false d 490 104 [(0, .ref P.1), (1, .int x1), (2, .int x2), (3, .int x3)] [] P μ R T := by
  refine me_go (pc1 := 105) (lv1 := [(0, .ref P.1), (1, .int x1), (2, .int x2), (3, .int x3)]) (st1 := [.int x3]) 1 rfl ?_
  refine me_ifc rfl rfl (fun c => ?_) (fun c => ?_)
  · replace h := h.1 (ci_lt c)
    exact h
  · replace h := h.2 (cn_lt c)
    refine me_go (pc1 := 109) (lv1 := [(0, .ref P.1), (1, .int x1), (2, .int x2), (3, .int x3)]) (st1 := [.int x2]) 1 rfl ?_
    refine me_ifc rfl rfl (fun c => ?_) (fun c => ?_)
    · replace h := h.1 (ci_ge c)
      exact h
    · replace h := h.2 (cn_ge c)
      refine me_go (pc1 := 113) (lv1 := [(0, .ref P.1), (1, .int x1), (2, .int x2), (3, .int x3)]) (st1 := [.ref P.1]) 1 rfl ?_
      refine me_getf (v := .ref (P.2.1 22)) rfl rfl rfl ?_
      refine me_go (pc1 := 117) (lv1 := [(0, .ref P.1), (1, .int x1), (2, .int x2), (3, .int x3)]) (st1 := [.int x3, .ref (P.2.1 22)]) 1 rfl ?_
      refine me_iald rfl (g := 22) rfl rfl h.1 ?_
      replace h := h.2
      refine me_ifc rfl rfl (fun c => ?_) (fun c => ?_)
      · replace h := h.1 (ci_lt c)
        exact h
      · replace h := h.2 (cn_lt c)
        refine me_go (pc1 := 123) (lv1 := [(0, .ref P.1), (1, .int x1), (2, .int x2), (3, .int x3)]) (st1 := [.ref P.1, .ref P.1]) 2 rfl ?_
        refine me_getf (v := .ref (P.2.1 22)) rfl rfl rfl ?_
        refine me_go (pc1 := 127) (lv1 := [(0, .ref P.1), (1, .int x1), (2, .int x2), (3, .int x3)]) (st1 := [.int x3, .ref (P.2.1 22), .ref P.1]) 1 rfl ?_
        refine me_iald rfl (g := 22) rfl rfl h.1 ?_
        replace h := h.2
        refine me_call rfl rfl rfl rfl (h.mono (fun r1 μ1 h => ?_) (fun _ h => h))
        refine me_go (pc1 := 132) (lv1 := [(0, .ref P.1), (1, .int x1), (2, .int x2), (3, .int x3)]) (st1 := [.int 1, .int r1]) 1 rfl ?_
        refine me_icmp rfl rfl (fun c => ?_) (fun c => ?_)
        · replace h := h.1 (ci_ne c)
          refine me_go (pc1 := 141) (lv1 := [(2, .int (-1)), (0, .ref P.1), (1, .int x1), (3, .int x3)]) (st1 := []) 2 rfl ?_
          refine me_lv [(0, .ref P.1), (1, .int x1), (2, .int (-1)), (3, .int x3)] (fl_c rfl (fl_c rfl (fl_c rfl (fl_c rfl fl_0)))) ?_
          exact h
        · replace h := h.2 (cn_ne c)
          exact h
theorem v_does_135 {X : ev_X} {W : Nat → Prop} {d : Nat} {P : MP} {μ : MS} {R : Int32 → MS → Prop} {T : MS → Prop} (x1 : Int32) (x2 : Int32) (x3 : Int32) (h : ME X W false d 490 141 [(0, .ref P.1), (1, .int x1), (2, .int x3), (3, .int x3)] [] P μ R T) : ME X W false d 490 135 [(0, .ref P.1), (1, .int x1), (2, .int x2), (3, .int x3)] [] P μ R T := by
  refine me_go (pc1 := 141) (lv1 := [(2, .int x3), (0, .ref P.1), (1, .int x1), (3, .int x3)]) (st1 := []) 3 rfl ?_
  refine me_lv [(0, .ref P.1), (1, .int x1), (2, .int x3), (3, .int x3)] (fl_c rfl (fl_c rfl (fl_c rfl (fl_c rfl fl_0)))) ?_
  exact h
theorem v_does_141 {X : ev_X} {W : Nat → Prop} {d : Nat} {P : MP} {μ : MS} {R : Int32 → MS → Prop} {T : MS → Prop} (x1 : Int32) (x2 : Int32) (x3 : Int32) (h : (MI x3 (μ.2.2 27) ∧ ME X W false d 490 104 [(0, .ref P.1), (1, .int x1), (2, .int x2), (3, .int (μ.2.1 27 x3.toNatClampNeg))] [] P μ R T)) : ME X W false d 490 141 [(0, .ref P.1), (1, .int x1), (2, .int x2), (3, .int x3)] [] P μ R T := by
  refine me_go (pc1 := 142) (lv1 := [(0, .ref P.1), (1, .int x1), (2, .int x2), (3, .int x3)]) (st1 := [.ref P.1]) 1 rfl ?_
  refine me_getf (v := .ref (P.2.1 27)) rfl rfl rfl ?_
  refine me_go (pc1 := 146) (lv1 := [(0, .ref P.1), (1, .int x1), (2, .int x2), (3, .int x3)]) (st1 := [.int x3, .ref (P.2.1 27)]) 1 rfl ?_
  refine me_iald rfl (g := 27) rfl rfl h.1 ?_
  replace h := h.2
  refine me_go (pc1 := 104) (lv1 := [(3, .int (μ.2.1 27 x3.toNatClampNeg)), (0, .ref P.1), (1, .int x1), (2, .int x2)]) (st1 := []) 2 rfl ?_
  refine me_lv [(0, .ref P.1), (1, .int x1), (2, .int x2), (3, .int (μ.2.1 27 x3.toNatClampNeg))] (fl_c rfl (fl_c rfl (fl_c rfl (fl_c rfl fl_0)))) ?_
  exact h
theorem v_does_151 {X : ev_X} {W : Nat → Prop} {d : Nat} {P : MP} {μ : MS} {R : Int32 → MS → Prop} {T : MS → Prop} (x1 : Int32) (x2 : Int32) (x3 : Int32) (h : MC X W true d 473 [.ref P.1] P μ (fun r1 μ1 => ((x2.toInt < (0 : Int) → ME X W false d 490 444 [(0, .ref P.1), (1, .int x1)] [] P μ1 R T) ∧ ((0 : Int) ≤ x2.toInt → (MI x2 (μ1.2.2 23) ∧ MC X W true d 449 [.ref P.1, .int (μ1.2.1 23 x2.toNatClampNeg)] P μ1 (fun r2 μ2 => ME X W false d 490 444 [(0, .ref P.1), (1, .int x1)] [] P μ2 R T) (fun _ => False))))) (fun _ => False)) : ME X W false d 490 151 [(0, .ref P.1), (1, .int x1), (2, .int x2), (3, .int x3)] [] P μ R T := by
  refine me_go (pc1 := 152) (lv1 := [(0, .ref P.1), (1, .int x1), (2, .int x2), (3, .int x3)]) (st1 := [.ref P.1]) 1 rfl ?_
  refine me_callN rfl rfl rfl (h.mono (fun r1 μ1 h => ?_) (fun _ h => h))
  refine me_go (pc1 := 156) (lv1 := [(0, .ref P.1), (1, .int x1), (2, .int x2), (3, .int x3)]) (st1 := [.int x2]) 1 rfl ?_
  refine me_ifc rfl rfl (fun c => ?_) (fun c => ?_)
  · replace h := h.1 (ci_lt c)
    refine me_lv [(0, .ref P.1), (1, .int x1)] (fl_c rfl (fl_c rfl fl_0)) ?_
    exact h
  · replace h := h.2 (cn_lt c)
    refine me_go (pc1 := 161) (lv1 := [(0, .ref P.1), (1, .int x1), (2, .int x2), (3, .int x3)]) (st1 := [.ref P.1, .ref P.1]) 2 rfl ?_
    refine me_getf (v := .ref (P.2.1 23)) rfl rfl rfl ?_
    refine me_go (pc1 := 165) (lv1 := [(0, .ref P.1), (1, .int x1), (2, .int x2), (3, .int x3)]) (st1 := [.int x2, .ref (P.2.1 23), .ref P.1]) 1 rfl ?_
    refine me_iald rfl (g := 23) rfl rfl h.1 ?_
    replace h := h.2
    refine me_callN rfl rfl rfl (h.mono (fun r2 μ2 h => ?_) (fun _ h => h))
    refine me_go (pc1 := 444) (lv1 := [(0, .ref P.1), (1, .int x1), (2, .int x2), (3, .int x3)]) (st1 := []) 1 rfl ?_
    refine me_lv [(0, .ref P.1), (1, .int x1)] (fl_c rfl (fl_c rfl fl_0)) ?_
    exact h
theorem v_does_192 {X : ev_X} {W : Nat → Prop} {d : Nat} {P : MP} {μ : MS} {R : Int32 → MS → Prop} {T : MS → Prop} (x1 : Int32) (x2 : Int32) (h : MC X W true d 473 [.ref P.1] P μ (fun r1 μ1 => ((x2 = 0 → ME X W false d 490 444 [(0, .ref P.1), (1, .int x1)] [] P μ1 R T) ∧ (¬ x2 = 0 → MC X W true d 448 [.ref P.1, .int 1, .int x1, .int 0, .int 0, .int 0, .int 0] P μ1 (fun r2 μ2 => (MI x1 (μ2.2.2 23) ∧ MC X W true d 449 [.ref P.1, .int (μ2.2.1 23 x1.toNatClampNeg)] P μ2 (fun r3 μ3 => ME X W false d 490 444 [(0, .ref P.1), (1, .int x1)] [] P μ3 R T) (fun _ => False))) (fun _ => False)))) (fun _ => False)) : ME X W false d 490 192 [(0, .ref P.1), (1, .int x1), (2, .int x2)] [] P μ R T := by
  refine me_go (pc1 := 193) (lv1 := [(0, .ref P.1), (1, .int x1), (2, .int x2)]) (st1 := [.ref P.1]) 1 rfl ?_
  refine me_callN rfl rfl rfl (h.mono (fun r1 μ1 h => ?_) (fun _ h => h))
  refine me_go (pc1 := 197) (lv1 := [(0, .ref P.1), (1, .int x1), (2, .int x2)]) (st1 := [.int x2]) 1 rfl ?_
  refine me_ifc rfl rfl (fun c => ?_) (fun c => ?_)
  · replace h := h.1 (ci_eq c)
    refine me_lv [(0, .ref P.1), (1, .int x1)] (fl_c rfl (fl_c rfl fl_0)) ?_
    exact h
  · replace h := h.2 (cn_eq c)
    refine me_go (pc1 := 207) (lv1 := [(0, .ref P.1), (1, .int x1), (2, .int x2)]) (st1 := [.int 0, .int 0, .int 0, .int 0, .int x1, .int 1, .ref P.1]) 7 rfl ?_
    refine me_callN rfl rfl rfl (h.mono (fun r2 μ2 h => ?_) (fun _ h => h))
    refine me_go (pc1 := 212) (lv1 := [(0, .ref P.1), (1, .int x1), (2, .int x2)]) (st1 := [.ref P.1, .ref P.1]) 2 rfl ?_
    refine me_getf (v := .ref (P.2.1 23)) rfl rfl rfl ?_
    refine me_go (pc1 := 216) (lv1 := [(0, .ref P.1), (1, .int x1), (2, .int x2)]) (st1 := [.int x1, .ref (P.2.1 23), .ref P.1]) 1 rfl ?_
    refine me_iald rfl (g := 23) rfl rfl h.1 ?_
    replace h := h.2
    refine me_callN rfl rfl rfl (h.mono (fun r3 μ3 h => ?_) (fun _ h => h))
    refine me_go (pc1 := 444) (lv1 := [(0, .ref P.1), (1, .int x1), (2, .int x2)]) (st1 := []) 1 rfl ?_
    refine me_lv [(0, .ref P.1), (1, .int x1)] (fl_c rfl (fl_c rfl fl_0)) ?_
    exact h
theorem v_does_360 {X : ev_X} {W : Nat → Prop} {d : Nat} {P : MP} {μ : MS} {R : Int32 → MS → Prop} {T : MS → Prop} (x1 : Int32) (x2 : Int32) (h : (MI x1 (μ.2.2 22) ∧ (((μ.2.1 22 x1.toNatClampNeg).toInt < (0 : Int) → ME X W false d 490 392 [(0, .ref P.1), (1, .int x1), (2, .int x2)] [] P μ R T) ∧ ((0 : Int) ≤ (μ.2.1 22 x1.toNatClampNeg).toInt → MC X W true d 491 [.ref P.1] P μ (fun r1 μ1 => (MI r1 (μ1.2.2 23) ∧ (MI (μ1.2.1 23 r1.toNatClampNeg) (μ1.2.2 23) ∧ MC X W true d 365 [.ref P.1, .int (μ1.2.1 23 ((μ1.2.1 23 r1.toNatClampNeg)).toNatClampNeg)] P μ1 (fun r2 μ2 => MC X W true d 455 [.ref P.1, .int r2, .int x2] P μ2 (fun r3 μ3 => ME X W false d 490 392 [(0, .ref P.1), (1, .int x1), (2, .int x2)] [] P μ3 R T) T) (fun _ => False)))) (fun _ => False))))) : ME X W false d 490 360 [(0, .ref P.1), (1, .int x1), (2, .int x2)] [] P μ R T := by
  refine me_go (pc1 := 361) (lv1 := [(0, .ref P.1), (1, .int x1), (2, .int x2)]) (st1 := [.ref P.1]) 1 rfl ?_
  refine me_getf (v := .ref (P.2.1 22)) rfl rfl rfl ?_
  refine me_go (pc1 := 365) (lv1 := [(0, .ref P.1), (1, .int x1), (2, .int x2)]) (st1 := [.int x1, .ref (P.2.1 22)]) 1 rfl ?_
  refine me_iald rfl (g := 22) rfl rfl h.1 ?_
  replace h := h.2
  refine me_ifc rfl rfl (fun c => ?_) (fun c => ?_)
  · replace h := h.1 (ci_lt c)
    exact h
  · replace h := h.2 (cn_lt c)
    refine me_go (pc1 := 372) (lv1 := [(0, .ref P.1), (1, .int x1), (2, .int x2)]) (st1 := [.ref P.1, .ref P.1, .ref P.1]) 3 rfl ?_
    refine me_getf (v := .ref (P.2.1 23)) rfl rfl rfl ?_
    refine me_go (pc1 := 376) (lv1 := [(0, .ref P.1), (1, .int x1), (2, .int x2)]) (st1 := [.ref P.1, .ref (P.2.1 23), .ref P.1, .ref P.1]) 1 rfl ?_
    refine me_getf (v := .ref (P.2.1 23)) rfl rfl rfl ?_
    refine me_go (pc1 := 380) (lv1 := [(0, .ref P.1), (1, .int x1), (2, .int x2)]) (st1 := [.ref P.1, .ref (P.2.1 23), .ref (P.2.1 23), .ref P.1, .ref P.1]) 1 rfl ?_
    refine me_callN rfl rfl rfl (h.mono (fun r1 μ1 h => ?_) (fun _ h => h))
    refine me_iald rfl (g := 23) rfl rfl h.1 ?_
    replace h := h.2
    refine me_iald rfl (g := 23) rfl rfl h.1 ?_
    replace h := h.2
    refine me_callN rfl rfl rfl (h.mono (fun r2 μ2 h => ?_) (fun _ h => h))
    refine me_go (pc1 := 389) (lv1 := [(0, .ref P.1), (1, .int x1), (2, .int x2)]) (st1 := [.int x2, .int r2, .ref P.1]) 1 rfl ?_
    refine me_call rfl rfl rfl rfl (h.mono (fun r3 μ3 h => ?_) (fun _ h => h))
    exact h
theorem v_does_392 {X : ev_X} {W : Nat → Prop} {d : Nat} {P : MP} {μ : MS} {R : Int32 → MS → Prop} {T : MS → Prop} (x1 : Int32) (x2 : Int32) (h : MC X W true d 476 [.ref P.1, .int 2, .int 0, .int x2, .int 0] P μ (fun r1 μ1 => ME X W false d 490 444 [(0, .ref P.1), (1, .int x1)] [] P μ1 R T) T) : ME X W false d 490 392 [(0, .ref P.1), (1, .int x1), (2, .int x2)] [] P μ R T := by
  refine me_go (pc1 := 397) (lv1 := [(0, .ref P.1), (1, .int x1), (2, .int x2)]) (st1 := [.int 0, .int x2, .int 0, .int 2, .ref P.1]) 5 rfl ?_
  refine me_call rfl rfl rfl rfl (h.mono (fun r1 μ1 h => ?_) (fun _ h => h))
  refine me_go (pc1 := 444) (lv1 := [(0, .ref P.1), (1, .int x1), (2, .int x2)]) (st1 := []) 1 rfl ?_
  refine me_lv [(0, .ref P.1), (1, .int x1)] (fl_c rfl (fl_c rfl fl_0)) ?_
  exact h
theorem v_does_444 {X : ev_X} {W : Nat → Prop} {d : Nat} {P : MP} {μ : MS} {R : Int32 → MS → Prop} {T : MS → Prop} (x1 : Int32) (h : R 0 μ) : ME X W false d 490 444 [(0, .ref P.1), (1, .int x1)] [] P μ R T := by
  exact me_ret (v := none) (r := 0) rfl rfl rfl h
theorem v_procedureOfCall_0 {X : ev_X} {W : Nat → Prop} {d : Nat} {P : MP} {μ : MS} {R : Int32 → MS → Prop} {T : MS → Prop}  (h : (MI (μ.1 128) (μ.2.2 124) ∧ ME X W true d 491 12 [(0, .ref P.1), (1, .int ((μ.2.1 124 ((μ.1 128)).toNatClampNeg) - 1))] [] P μ R T)) : ME X W true d 491 0 [(0, .ref P.1)] [] P μ R T := by
  refine me_go (pc1 := 1) (lv1 := [(0, .ref P.1)]) (st1 := [.ref P.1]) 1 rfl ?_
  refine me_getf (v := .ref (P.2.1 124)) rfl rfl rfl ?_
  refine me_go (pc1 := 5) (lv1 := [(0, .ref P.1)]) (st1 := [.ref P.1, .ref (P.2.1 124)]) 1 rfl ?_
  refine me_getf (v := .int (μ.1 128)) rfl rfl rfl ?_
  refine me_iald rfl (g := 124) rfl rfl h.1 ?_
  replace h := h.2
  refine me_go (pc1 := 12) (lv1 := [(1, .int ((μ.2.1 124 ((μ.1 128)).toNatClampNeg) - 1)), (0, .ref P.1)]) (st1 := []) 3 rfl ?_
  refine me_lv [(0, .ref P.1), (1, .int ((μ.2.1 124 ((μ.1 128)).toNatClampNeg) - 1))] (fl_c rfl (fl_c rfl fl_0)) ?_
  exact h
theorem v_procedureOfCall_12 {X : ev_X} {W : Nat → Prop} {d : Nat} {P : MP} {μ : MS} {R : Int32 → MS → Prop} {T : MS → Prop} (x1 : Int32) (h : (MI ((((μ.1 128) * 3000) + x1) * 6) (μ.2.2 125) ∧ (((μ.2.1 125 (((((μ.1 128) * 3000) + x1) * 6)).toNatClampNeg) = 4 → (MI (((((μ.1 128) * 3000) + x1) * 6) + 3) (μ.2.2 125) ∧ (MI (μ.2.1 125 ((((((μ.1 128) * 3000) + x1) * 6) + 3)).toNatClampNeg) (μ.2.2 58) ∧ R (μ.2.1 58 ((μ.2.1 125 ((((((μ.1 128) * 3000) + x1) * 6) + 3)).toNatClampNeg)).toNatClampNeg) μ))) ∧ (¬ (μ.2.1 125 (((((μ.1 128) * 3000) + x1) * 6)).toNatClampNeg) = 4 → ME X W true d 491 12 [(0, .ref P.1), (1, .int (x1 + (-1)))] [] P μ R T)))) : ME X W true d 491 12 [(0, .ref P.1), (1, .int x1)] [] P μ R T := by
  refine me_go (pc1 := 13) (lv1 := [(0, .ref P.1), (1, .int x1)]) (st1 := [.ref P.1]) 1 rfl ?_
  refine me_getf (v := .ref (P.2.1 125)) rfl rfl rfl ?_
  refine me_go (pc1 := 17) (lv1 := [(0, .ref P.1), (1, .int x1)]) (st1 := [.ref P.1, .ref (P.2.1 125)]) 1 rfl ?_
  refine me_getf (v := .int (μ.1 128)) rfl rfl rfl ?_
  refine me_go (pc1 := 29) (lv1 := [(0, .ref P.1), (1, .int x1)]) (st1 := [.int ((((μ.1 128) * 3000) + x1) * 6), .ref (P.2.1 125)]) 6 rfl ?_
  refine me_iald rfl (g := 125) rfl rfl h.1 ?_
  replace h := h.2
  refine me_go (pc1 := 31) (lv1 := [(0, .ref P.1), (1, .int x1)]) (st1 := [.int 4, .int (μ.2.1 125 (((((μ.1 128) * 3000) + x1) * 6)).toNatClampNeg)]) 1 rfl ?_
  refine me_icmp rfl rfl (fun c => ?_) (fun c => ?_)
  · replace h := h.1 (ci_eq c)
    refine me_go (pc1 := 41) (lv1 := [(0, .ref P.1), (1, .int x1)]) (st1 := [.ref P.1]) 1 rfl ?_
    refine me_getf (v := .ref (P.2.1 58)) rfl rfl rfl ?_
    refine me_go (pc1 := 45) (lv1 := [(0, .ref P.1), (1, .int x1)]) (st1 := [.ref P.1, .ref (P.2.1 58)]) 1 rfl ?_
    refine me_getf (v := .ref (P.2.1 125)) rfl rfl rfl ?_
    refine me_go (pc1 := 49) (lv1 := [(0, .ref P.1), (1, .int x1)]) (st1 := [.ref P.1, .ref (P.2.1 125), .ref (P.2.1 58)]) 1 rfl ?_
    refine me_getf (v := .int (μ.1 128)) rfl rfl rfl ?_
    refine me_go (pc1 := 63) (lv1 := [(0, .ref P.1), (1, .int x1)]) (st1 := [.int (((((μ.1 128) * 3000) + x1) * 6) + 3), .ref (P.2.1 125), .ref (P.2.1 58)]) 8 rfl ?_
    refine me_iald rfl (g := 125) rfl rfl h.1 ?_
    replace h := h.2
    refine me_iald rfl (g := 58) rfl rfl h.1 ?_
    replace h := h.2
    exact me_ret rfl rfl rfl h
  · replace h := h.2 (cn_eq c)
    refine me_go (pc1 := 12) (lv1 := [(1, .int (x1 + (-1))), (0, .ref P.1)]) (st1 := []) 2 rfl ?_
    refine me_lv [(0, .ref P.1), (1, .int (x1 + (-1)))] (fl_c rfl (fl_c rfl fl_0)) ?_
    exact h
theorem v_assign_0 {X : ev_X} {W : Nat → Prop} {d : Nat} {P : MP} {μ : MS} {R : Int32 → MS → Prop} {T : MS → Prop} (x1 : Int32) (h : (MI x1 (μ.2.2 22) ∧ MC X W true d 456 [.ref P.1, .int (μ.2.1 22 x1.toNatClampNeg)] P μ (fun r1 μ1 => (MI x1 (μ1.2.2 22) ∧ (MI (μ1.2.1 22 x1.toNatClampNeg) (μ1.2.2 88) ∧ MC X W true d 458 [.ref P.1, .int (μ1.2.1 88 ((μ1.2.1 22 x1.toNatClampNeg)).toNatClampNeg)] P μ1 (fun r2 μ2 => ((r2 = 0 → (MI x1 (μ2.2.2 23) ∧ MC X W true d 459 [.ref P.1, .int (μ2.2.1 23 x1.toNatClampNeg)] P μ2 (fun r3 μ3 => MC X W true d 455 [.ref P.1, .int (μ1.2.1 88 ((μ1.2.1 22 x1.toNatClampNeg)).toNatClampNeg), .int r3] P μ3 (fun r4 μ4 => (MI r1 (μ4.2.2 99) ∧ R 0 (mA1 μ4 99 r1.toNatClampNeg r3))) T) T)) ∧ (¬ r2 = 0 → (MI x1 (μ2.2.2 23) ∧ MC X W true d 456 [.ref P.1, .int (μ2.2.1 23 x1.toNatClampNeg)] P μ2 (fun r5 μ5 => MC X W true d 393 [.ref P.1, .int (μ1.2.1 88 ((μ1.2.1 22 x1.toNatClampNeg)).toNatClampNeg)] P μ5 (fun r6 μ6 => ((0 ≤ r5.toInt ∧ 0 ≤ r1.toInt ∧ 0 ≤ r6.toInt ∧ r5.toInt + r6.toInt ≤ μ6.2.2 99 ∧ r1.toInt + r6.toInt ≤ μ6.2.2 99) ∧ R 0 (mR1 μ6 99 (va_cpy (μ6.2.1 99) (μ6.2.1 99) r5.toNatClampNeg r1.toNatClampNeg r6.toNatClampNeg)))) (fun _ => False)) T)))) (fun _ => False)))) T)) : ME X W true d 492 0 [(0, .ref P.1), (1, .int x1)] [] P μ R T := by
  refine me_go (pc1 := 2) (lv1 := [(0, .ref P.1), (1, .int x1)]) (st1 := [.ref P.1, .ref P.1]) 2 rfl ?_
  refine me_getf (v := .ref (P.2.1 22)) rfl rfl rfl ?_
  refine me_go (pc1 := 6) (lv1 := [(0, .ref P.1), (1, .int x1)]) (st1 := [.int x1, .ref (P.2.1 22), .ref P.1]) 1 rfl ?_
  refine me_iald rfl (g := 22) rfl rfl h.1 ?_
  replace h := h.2
  refine me_call rfl rfl rfl rfl (h.mono (fun r1 μ1 h => ?_) (fun _ h => h))
  refine me_go (pc1 := 12) (lv1 := [(2, .int r1), (0, .ref P.1), (1, .int x1)]) (st1 := [.ref P.1]) 2 rfl ?_
  refine me_getf (v := .ref (P.2.1 88)) rfl rfl rfl ?_
  refine me_go (pc1 := 16) (lv1 := [(2, .int r1), (0, .ref P.1), (1, .int x1)]) (st1 := [.ref P.1, .ref (P.2.1 88)]) 1 rfl ?_
  refine me_getf (v := .ref (P.2.1 22)) rfl rfl rfl ?_
  refine me_go (pc1 := 20) (lv1 := [(2, .int r1), (0, .ref P.1), (1, .int x1)]) (st1 := [.int x1, .ref (P.2.1 22), .ref (P.2.1 88)]) 1 rfl ?_
  refine me_iald rfl (g := 22) rfl rfl h.1 ?_
  replace h := h.2
  refine me_iald rfl (g := 88) rfl rfl h.1 ?_
  replace h := h.2
  refine me_go (pc1 := 25) (lv1 := [(3, .int (μ1.2.1 88 ((μ1.2.1 22 x1.toNatClampNeg)).toNatClampNeg)), (2, .int r1), (0, .ref P.1), (1, .int x1)]) (st1 := [.int (μ1.2.1 88 ((μ1.2.1 22 x1.toNatClampNeg)).toNatClampNeg), .ref P.1]) 3 rfl ?_
  refine me_callN rfl rfl rfl (h.mono (fun r2 μ2 h => ?_) (fun _ h => h))
  refine me_ifc rfl rfl (fun c => ?_) (fun c => ?_)
  · replace h := h.1 (ci_eq c)
    refine me_go (pc1 := 65) (lv1 := [(3, .int (μ1.2.1 88 ((μ1.2.1 22 x1.toNatClampNeg)).toNatClampNeg)), (2, .int r1), (0, .ref P.1), (1, .int x1)]) (st1 := [.ref P.1, .ref P.1]) 2 rfl ?_
    refine me_getf (v := .ref (P.2.1 23)) rfl rfl rfl ?_
    refine me_go (pc1 := 69) (lv1 := [(3, .int (μ1.2.1 88 ((μ1.2.1 22 x1.toNatClampNeg)).toNatClampNeg)), (2, .int r1), (0, .ref P.1), (1, .int x1)]) (st1 := [.int x1, .ref (P.2.1 23), .ref P.1]) 1 rfl ?_
    refine me_iald rfl (g := 23) rfl rfl h.1 ?_
    replace h := h.2
    refine me_call rfl rfl rfl rfl (h.mono (fun r3 μ3 h => ?_) (fun _ h => h))
    refine me_go (pc1 := 79) (lv1 := [(4, .int r3), (3, .int (μ1.2.1 88 ((μ1.2.1 22 x1.toNatClampNeg)).toNatClampNeg)), (2, .int r1), (0, .ref P.1), (1, .int x1)]) (st1 := [.int r3, .int (μ1.2.1 88 ((μ1.2.1 22 x1.toNatClampNeg)).toNatClampNeg), .ref P.1]) 4 rfl ?_
    refine me_call rfl rfl rfl rfl (h.mono (fun r4 μ4 h => ?_) (fun _ h => h))
    refine me_go (pc1 := 83) (lv1 := [(4, .int r3), (3, .int (μ1.2.1 88 ((μ1.2.1 22 x1.toNatClampNeg)).toNatClampNeg)), (2, .int r1), (0, .ref P.1), (1, .int x1)]) (st1 := [.ref P.1]) 1 rfl ?_
    refine me_getf (v := .ref (P.2.1 99)) rfl rfl rfl ?_
    refine me_go (pc1 := 89) (lv1 := [(4, .int r3), (3, .int (μ1.2.1 88 ((μ1.2.1 22 x1.toNatClampNeg)).toNatClampNeg)), (2, .int r1), (0, .ref P.1), (1, .int x1)]) (st1 := [.int r3, .int r1, .ref (P.2.1 99)]) 2 rfl ?_
    have hi := h.1
    replace h := h.2
    refine me_iast rfl (g := 99) rfl rfl hi ?_
    exact me_ret (v := none) (r := 0) rfl rfl rfl h
  · replace h := h.2 (cn_eq c)
    refine me_go (pc1 := 33) (lv1 := [(3, .int (μ1.2.1 88 ((μ1.2.1 22 x1.toNatClampNeg)).toNatClampNeg)), (2, .int r1), (0, .ref P.1), (1, .int x1)]) (st1 := [.ref P.1, .ref P.1]) 2 rfl ?_
    refine me_getf (v := .ref (P.2.1 23)) rfl rfl rfl ?_
    refine me_go (pc1 := 37) (lv1 := [(3, .int (μ1.2.1 88 ((μ1.2.1 22 x1.toNatClampNeg)).toNatClampNeg)), (2, .int r1), (0, .ref P.1), (1, .int x1)]) (st1 := [.int x1, .ref (P.2.1 23), .ref P.1]) 1 rfl ?_
    refine me_iald rfl (g := 23) rfl rfl h.1 ?_
    replace h := h.2
    refine me_call rfl rfl rfl rfl (h.mono (fun r5 μ5 h => ?_) (fun _ h => h))
    refine me_go (pc1 := 44) (lv1 := [(4, .int r5), (3, .int (μ1.2.1 88 ((μ1.2.1 22 x1.toNatClampNeg)).toNatClampNeg)), (2, .int r1), (0, .ref P.1), (1, .int x1)]) (st1 := [.ref P.1]) 2 rfl ?_
    refine me_getf (v := .ref (P.2.1 99)) rfl rfl rfl ?_
    refine me_go (pc1 := 50) (lv1 := [(4, .int r5), (3, .int (μ1.2.1 88 ((μ1.2.1 22 x1.toNatClampNeg)).toNatClampNeg)), (2, .int r1), (0, .ref P.1), (1, .int x1)]) (st1 := [.ref P.1, .int r5, .ref (P.2.1 99)]) 2 rfl ?_
    refine me_getf (v := .ref (P.2.1 99)) rfl rfl rfl ?_
    refine me_go (pc1 := 56) (lv1 := [(4, .int r5), (3, .int (μ1.2.1 88 ((μ1.2.1 22 x1.toNatClampNeg)).toNatClampNeg)), (2, .int r1), (0, .ref P.1), (1, .int x1)]) (st1 := [.int (μ1.2.1 88 ((μ1.2.1 22 x1.toNatClampNeg)).toNatClampNeg), .ref P.1, .int r1, .ref (P.2.1 99), .int r5, .ref (P.2.1 99)]) 3 rfl ?_
    refine me_callN rfl rfl rfl (h.mono (fun r6 μ6 h => ?_) (fun _ h => h))
    refine me_copy (g0 := 99) (g1 := 99) rfl rfl rfl rfl rfl rfl h.1 ?_
    replace h := h.2
    exact me_ret (v := none) (r := 0) rfl rfl rfl h
theorem v_there_0 {X : ev_X} {W : Nat → Prop} {d : Nat} {P : MP} {μ : MS} {R : Int32 → MS → Prop} {T : MS → Prop} (x1 : Int32) (h : MC X W true d 459 [.ref P.1, .int x1] P μ (fun r1 μ1 => ((¬ r1 = 0 → R r1 μ1) ∧ (r1 = 0 → MC X W true d 446 [.ref P.1, .int 5] P μ1 (fun r2 μ2 => R r1 μ2) T))) T) : ME X W true d 493 0 [(0, .ref P.1), (1, .int x1)] [] P μ R T := by
  refine me_go (pc1 := 2) (lv1 := [(0, .ref P.1), (1, .int x1)]) (st1 := [.int x1, .ref P.1]) 2 rfl ?_
  refine me_call rfl rfl rfl rfl (h.mono (fun r1 μ1 h => ?_) (fun _ h => h))
  refine me_go (pc1 := 7) (lv1 := [(2, .int r1), (0, .ref P.1), (1, .int x1)]) (st1 := [.int r1]) 2 rfl ?_
  refine me_ifc rfl rfl (fun c => ?_) (fun c => ?_)
  · replace h := h.1 (ci_ne c)
    refine me_go (pc1 := 16) (lv1 := [(2, .int r1), (0, .ref P.1), (1, .int x1)]) (st1 := [.int r1]) 1 rfl ?_
    exact me_ret rfl rfl rfl h
  · replace h := h.2 (cn_ne c)
    refine me_go (pc1 := 12) (lv1 := [(2, .int r1), (0, .ref P.1), (1, .int x1)]) (st1 := [.int 5, .ref P.1]) 2 rfl ?_
    refine me_call rfl rfl rfl rfl (h.mono (fun r2 μ2 h => ?_) (fun _ h => h))
    refine me_go (pc1 := 16) (lv1 := [(2, .int r1), (0, .ref P.1), (1, .int x1)]) (st1 := [.int r1]) 1 rfl ?_
    exact me_ret rfl rfl rfl h
theorem v_meets_0 {X : ev_X} {W : Nat → Prop} {d : Nat} {P : MP} {μ : MS} {R : Int32 → MS → Prop} {T : MS → Prop} (x1 : Int32) (h : (MI x1 (μ.2.2 20) ∧ ((((μ.2.1 20 x1.toNatClampNeg) = 54) → (MI x1 (μ.2.2 22) ∧ MC X W true d 493 [.ref P.1, .int (μ.2.1 22 x1.toNatClampNeg)] P μ (fun r1 μ1 => (MI r1 (μ1.2.2 108) ∧ (((μ1.2.1 108 r1.toNatClampNeg) = (-1) → (MI r1 (μ1.2.2 108) ∧ MC X W true d 473 [.ref P.1] P (mA1 μ1 108 r1.toNatClampNeg (μ1.1 128)) (fun r2 μ2 => MC X W true d 488 [.ref P.1, .int x1, .int r1] P μ2 (fun r3 μ3 => ME X W true d 494 327 [(0, .ref P.1), (1, .int x1)] [] P μ3 R T) (fun _ => False)) (fun _ => False))) ∧ (¬ (μ1.2.1 108 r1.toNatClampNeg) = (-1) → MC X W true d 495 [.ref P.1, .int 1, .int r1, .int 0] P μ1 (fun r4 μ4 => R 0 μ4) (fun _ => False))))) T)) ∧ (((μ.2.1 20 x1.toNatClampNeg) = 55) → (MI x1 (μ.2.2 22) ∧ MC X W true d 459 [.ref P.1, .int (μ.2.1 22 x1.toNatClampNeg)] P μ (fun r5 μ5 => (MI x1 (μ5.2.2 23) ∧ MC X W true d 459 [.ref P.1, .int (μ5.2.1 23 x1.toNatClampNeg)] P μ5 (fun r6 μ6 => ((r5 = 0 → ME X W true d 494 126 [(0, .ref P.1), (1, .int x1), (2, .int r5), (3, .int r6)] [] P μ6 R T) ∧ (¬ r5 = 0 → ((¬ r6 = 0 → ME X W true d 494 131 [(0, .ref P.1), (1, .int x1), (2, .int r5), (3, .int r6)] [] P μ6 R T) ∧ (r6 = 0 → ME X W true d 494 126 [(0, .ref P.1), (1, .int x1), (2, .int r5), (3, .int r6)] [] P μ6 R T))))) T)) T)) ∧ (((μ.2.1 20 x1.toNatClampNeg) = 56 ∨ (μ.2.1 20 x1.toNatClampNeg) = 57) → (MI x1 (μ.2.2 22) ∧ MC X W true d 493 [.ref P.1, .int (μ.2.1 22 x1.toNatClampNeg)] P μ (fun r7 μ7 => (MI x1 (μ7.2.2 20) ∧ ((¬ (μ7.2.1 20 x1.toNatClampNeg) = 57 → MC X W true d 496 [.ref P.1, .int r7, .int 0] P μ7 (fun r8 μ8 => MC X W true d 473 [.ref P.1] P μ8 (fun r9 μ9 => ME X W true d 494 327 [(0, .ref P.1), (1, .int x1)] [] P μ9 R T) (fun _ => False)) (fun _ => False)) ∧ ((μ7.2.1 20 x1.toNatClampNeg) = 57 → MC X W true d 496 [.ref P.1, .int r7, .int 1] P μ7 (fun r10 μ10 => MC X W true d 473 [.ref P.1] P μ10 (fun r11 μ11 => ME X W true d 494 327 [(0, .ref P.1), (1, .int x1)] [] P μ11 R T) (fun _ => False)) (fun _ => False))))) T)) ∧ (((μ.2.1 20 x1.toNatClampNeg) = 58) → (MI x1 (μ.2.2 22) ∧ MC X W true d 493 [.ref P.1, .int (μ.2.1 22 x1.toNatClampNeg)] P μ (fun r12 μ12 => (MI (r12 - 1) (μ12.2.2 116) ∧ ((¬ (μ12.2.1 116 ((r12 - 1)).toNatClampNeg) = 0 → MC X W true d 473 [.ref P.1] P μ12 (fun r13 μ13 => ME X W true d 494 327 [(0, .ref P.1), (1, .int x1)] [] P μ13 R T) (fun _ => False)) ∧ ((μ12.2.1 116 ((r12 - 1)).toNatClampNeg) = 0 → MC X W true d 495 [.ref P.1, .int 3, .int (r12 - 1), .int 0] P μ12 (fun r14 μ14 => ME X W true d 494 327 [(0, .ref P.1), (1, .int x1)] [] P μ14 R T) (fun _ => False))))) T)) ∧ (((μ.2.1 20 x1.toNatClampNeg) = 59) → (MI x1 (μ.2.2 22) ∧ MC X W true d 459 [.ref P.1, .int (μ.2.1 22 x1.toNatClampNeg)] P μ (fun r15 μ15 => (((500 : Int) ≤ (μ15.1 127).toInt → ME X W true d 494 315 [(0, .ref P.1), (1, .int x1), (2, .int r15)] [] P μ15 R T) ∧ ((μ15.1 127).toInt < (500 : Int) → (MI (μ15.1 127) (μ15.2.2 126) ∧ ME X W true d 494 315 [(0, .ref P.1), (1, .int x1), (2, .int r15)] [] P (mS1 (mA1 μ15 126 (((μ15.1 127)).toNatClampNeg) r15) 127 ((μ15.1 127) + 1)) R T)))) T)) ∧ ((∀ v ∈ [(54 : Int32), (55 : Int32), (56 : Int32), (57 : Int32), (58 : Int32), (59 : Int32)], ¬ (μ.2.1 20 x1.toNatClampNeg) = v) → MC X W true d 497 [.ref P.1, .int x1] P μ (fun r16 μ16 => ME X W true d 494 327 [(0, .ref P.1), (1, .int x1)] [] P μ16 R T) T)))) : ME X W true d 494 0 [(0, .ref P.1), (1, .int x1)] [] P μ R T := by
  refine me_go (pc1 := 1) (lv1 := [(0, .ref P.1), (1, .int x1)]) (st1 := [.ref P.1]) 1 rfl ?_
  refine me_getf (v := .ref (P.2.1 20)) rfl rfl rfl ?_
  refine me_go (pc1 := 5) (lv1 := [(0, .ref P.1), (1, .int x1)]) (st1 := [.int x1, .ref (P.2.1 20)]) 1 rfl ?_
  refine me_iald rfl (g := 20) rfl rfl h.1 ?_
  replace h := h.2
  have hD := h
  have q6_0 : ((μ.2.1 20 x1.toNatClampNeg) = 54) → ME X W true d 494 44 [(0, .ref P.1), (1, .int x1)] [] P μ R T := fun c => by
      replace h := hD.1 c
      refine me_go (pc1 := 46) (lv1 := [(0, .ref P.1), (1, .int x1)]) (st1 := [.ref P.1, .ref P.1]) 2 rfl ?_
      refine me_getf (v := .ref (P.2.1 22)) rfl rfl rfl ?_
      refine me_go (pc1 := 50) (lv1 := [(0, .ref P.1), (1, .int x1)]) (st1 := [.int x1, .ref (P.2.1 22), .ref P.1]) 1 rfl ?_
      refine me_iald rfl (g := 22) rfl rfl h.1 ?_
      replace h := h.2
      refine me_call rfl rfl rfl rfl (h.mono (fun r1 μ1 h => ?_) (fun _ h => h))
      refine me_go (pc1 := 56) (lv1 := [(2, .int r1), (0, .ref P.1), (1, .int x1)]) (st1 := [.ref P.1]) 2 rfl ?_
      refine me_getf (v := .ref (P.2.1 108)) rfl rfl rfl ?_
      refine me_go (pc1 := 60) (lv1 := [(2, .int r1), (0, .ref P.1), (1, .int x1)]) (st1 := [.int r1, .ref (P.2.1 108)]) 1 rfl ?_
      refine me_iald rfl (g := 108) rfl rfl h.1 ?_
      replace h := h.2
      refine me_go (pc1 := 62) (lv1 := [(2, .int r1), (0, .ref P.1), (1, .int x1)]) (st1 := [.int (-1), .int (μ1.2.1 108 r1.toNatClampNeg)]) 1 rfl ?_
      refine me_icmp rfl rfl (fun c => ?_) (fun c => ?_)
      · replace h := h.1 (ci_eq c)
        refine me_go (pc1 := 74) (lv1 := [(2, .int r1), (0, .ref P.1), (1, .int x1)]) (st1 := [.ref P.1]) 1 rfl ?_
        refine me_getf (v := .ref (P.2.1 108)) rfl rfl rfl ?_
        refine me_go (pc1 := 79) (lv1 := [(2, .int r1), (0, .ref P.1), (1, .int x1)]) (st1 := [.ref P.1, .int r1, .ref (P.2.1 108)]) 2 rfl ?_
        refine me_getf (v := .int (μ1.1 128)) rfl rfl rfl ?_
        have hi := h.1
        replace h := h.2
        refine me_iast rfl (g := 108) rfl rfl hi ?_
        refine me_go (pc1 := 84) (lv1 := [(2, .int r1), (0, .ref P.1), (1, .int x1)]) (st1 := [.ref P.1]) 1 rfl ?_
        refine me_callN rfl rfl rfl (h.mono (fun r2 μ2 h => ?_) (fun _ h => h))
        refine me_go (pc1 := 90) (lv1 := [(2, .int r1), (0, .ref P.1), (1, .int x1)]) (st1 := [.int r1, .int x1, .ref P.1]) 3 rfl ?_
        refine me_callN rfl rfl rfl (h.mono (fun r3 μ3 h => ?_) (fun _ h => h))
        refine me_go (pc1 := 327) (lv1 := [(2, .int r1), (0, .ref P.1), (1, .int x1)]) (st1 := []) 1 rfl ?_
        refine me_lv [(0, .ref P.1), (1, .int x1)] (fl_c rfl (fl_c rfl fl_0)) ?_
        exact h
      · replace h := h.2 (cn_eq c)
        refine me_go (pc1 := 69) (lv1 := [(2, .int r1), (0, .ref P.1), (1, .int x1)]) (st1 := [.int 0, .int r1, .int 1, .ref P.1]) 4 rfl ?_
        refine me_callN rfl rfl rfl (h.mono (fun r4 μ4 h => ?_) (fun _ h => h))
        exact me_ret (v := none) (r := 0) rfl rfl rfl h
  have q6_1 : ((μ.2.1 20 x1.toNatClampNeg) = 55) → ME X W true d 494 96 [(0, .ref P.1), (1, .int x1)] [] P μ R T := fun c => by
      replace h := hD.2.1 c
      refine me_go (pc1 := 98) (lv1 := [(0, .ref P.1), (1, .int x1)]) (st1 := [.ref P.1, .ref P.1]) 2 rfl ?_
      refine me_getf (v := .ref (P.2.1 22)) rfl rfl rfl ?_
      refine me_go (pc1 := 102) (lv1 := [(0, .ref P.1), (1, .int x1)]) (st1 := [.int x1, .ref (P.2.1 22), .ref P.1]) 1 rfl ?_
      refine me_iald rfl (g := 22) rfl rfl h.1 ?_
      replace h := h.2
      refine me_call rfl rfl rfl rfl (h.mono (fun r5 μ5 h => ?_) (fun _ h => h))
      refine me_go (pc1 := 109) (lv1 := [(2, .int r5), (0, .ref P.1), (1, .int x1)]) (st1 := [.ref P.1, .ref P.1]) 3 rfl ?_
      refine me_getf (v := .ref (P.2.1 23)) rfl rfl rfl ?_
      refine me_go (pc1 := 113) (lv1 := [(2, .int r5), (0, .ref P.1), (1, .int x1)]) (st1 := [.int x1, .ref (P.2.1 23), .ref P.1]) 1 rfl ?_
      refine me_iald rfl (g := 23) rfl rfl h.1 ?_
      replace h := h.2
      refine me_call rfl rfl rfl rfl (h.mono (fun r6 μ6 h => ?_) (fun _ h => h))
      refine me_go (pc1 := 119) (lv1 := [(3, .int r6), (2, .int r5), (0, .ref P.1), (1, .int x1)]) (st1 := [.int r5]) 2 rfl ?_
      refine me_ifc rfl rfl (fun c => ?_) (fun c => ?_)
      · replace h := h.1 (ci_eq c)
        refine me_lv [(0, .ref P.1), (1, .int x1), (2, .int r5), (3, .int r6)] (fl_c rfl (fl_c rfl (fl_c rfl (fl_c rfl fl_0)))) ?_
        exact h
      · replace h := h.2 (cn_eq c)
        refine me_go (pc1 := 123) (lv1 := [(3, .int r6), (2, .int r5), (0, .ref P.1), (1, .int x1)]) (st1 := [.int r6]) 1 rfl ?_
        refine me_ifc rfl rfl (fun c => ?_) (fun c => ?_)
        · replace h := h.1 (ci_ne c)
          refine me_lv [(0, .ref P.1), (1, .int x1), (2, .int r5), (3, .int r6)] (fl_c rfl (fl_c rfl (fl_c rfl (fl_c rfl fl_0)))) ?_
          exact h
        · replace h := h.2 (cn_ne c)
          refine me_lv [(0, .ref P.1), (1, .int x1), (2, .int r5), (3, .int r6)] (fl_c rfl (fl_c rfl (fl_c rfl (fl_c rfl fl_0)))) ?_
          exact h
  have q6_2 : ((μ.2.1 20 x1.toNatClampNeg) = 56 ∨ (μ.2.1 20 x1.toNatClampNeg) = 57) → ME X W true d 494 198 [(0, .ref P.1), (1, .int x1)] [] P μ R T := fun c => by
      replace h := hD.2.2.1 c
      refine me_go (pc1 := 201) (lv1 := [(0, .ref P.1), (1, .int x1)]) (st1 := [.ref P.1, .ref P.1, .ref P.1]) 3 rfl ?_
      refine me_getf (v := .ref (P.2.1 22)) rfl rfl rfl ?_
      refine me_go (pc1 := 205) (lv1 := [(0, .ref P.1), (1, .int x1)]) (st1 := [.int x1, .ref (P.2.1 22), .ref P.1, .ref P.1]) 1 rfl ?_
      refine me_iald rfl (g := 22) rfl rfl h.1 ?_
      replace h := h.2
      refine me_call rfl rfl rfl rfl (h.mono (fun r7 μ7 h => ?_) (fun _ h => h))
      refine me_go (pc1 := 210) (lv1 := [(0, .ref P.1), (1, .int x1)]) (st1 := [.ref P.1, .int r7, .ref P.1]) 1 rfl ?_
      refine me_getf (v := .ref (P.2.1 20)) rfl rfl rfl ?_
      refine me_go (pc1 := 214) (lv1 := [(0, .ref P.1), (1, .int x1)]) (st1 := [.int x1, .ref (P.2.1 20), .int r7, .ref P.1]) 1 rfl ?_
      refine me_iald rfl (g := 20) rfl rfl h.1 ?_
      replace h := h.2
      refine me_go (pc1 := 217) (lv1 := [(0, .ref P.1), (1, .int x1)]) (st1 := [.int 57, .int (μ7.2.1 20 x1.toNatClampNeg), .int r7, .ref P.1]) 1 rfl ?_
      refine me_icmp rfl rfl (fun c => ?_) (fun c => ?_)
      · replace h := h.1 (ci_ne c)
        refine me_go (pc1 := 225) (lv1 := [(0, .ref P.1), (1, .int x1)]) (st1 := [.int 0, .int r7, .ref P.1]) 1 rfl ?_
        refine me_callN rfl rfl rfl (h.mono (fun r8 μ8 h => ?_) (fun _ h => h))
        refine me_go (pc1 := 229) (lv1 := [(0, .ref P.1), (1, .int x1)]) (st1 := [.ref P.1]) 1 rfl ?_
        refine me_callN rfl rfl rfl (h.mono (fun r9 μ9 h => ?_) (fun _ h => h))
        refine me_go (pc1 := 327) (lv1 := [(0, .ref P.1), (1, .int x1)]) (st1 := []) 1 rfl ?_
        exact h
      · replace h := h.2 (cn_ne c)
        refine me_go (pc1 := 225) (lv1 := [(0, .ref P.1), (1, .int x1)]) (st1 := [.int 1, .int r7, .ref P.1]) 2 rfl ?_
        refine me_callN rfl rfl rfl (h.mono (fun r10 μ10 h => ?_) (fun _ h => h))
        refine me_go (pc1 := 229) (lv1 := [(0, .ref P.1), (1, .int x1)]) (st1 := [.ref P.1]) 1 rfl ?_
        refine me_callN rfl rfl rfl (h.mono (fun r11 μ11 h => ?_) (fun _ h => h))
        refine me_go (pc1 := 327) (lv1 := [(0, .ref P.1), (1, .int x1)]) (st1 := []) 1 rfl ?_
        exact h
  have q6_3 : ((μ.2.1 20 x1.toNatClampNeg) = 58) → ME X W true d 494 235 [(0, .ref P.1), (1, .int x1)] [] P μ R T := fun c => by
      replace h := hD.2.2.2.1 c
      refine me_go (pc1 := 237) (lv1 := [(0, .ref P.1), (1, .int x1)]) (st1 := [.ref P.1, .ref P.1]) 2 rfl ?_
      refine me_getf (v := .ref (P.2.1 22)) rfl rfl rfl ?_
      refine me_go (pc1 := 241) (lv1 := [(0, .ref P.1), (1, .int x1)]) (st1 := [.int x1, .ref (P.2.1 22), .ref P.1]) 1 rfl ?_
      refine me_iald rfl (g := 22) rfl rfl h.1 ?_
      replace h := h.2
      refine me_call rfl rfl rfl rfl (h.mono (fun r12 μ12 h => ?_) (fun _ h => h))
      refine me_go (pc1 := 249) (lv1 := [(2, .int (r12 - 1)), (0, .ref P.1), (1, .int x1)]) (st1 := [.ref P.1]) 4 rfl ?_
      refine me_getf (v := .ref (P.2.1 116)) rfl rfl rfl ?_
      refine me_go (pc1 := 253) (lv1 := [(2, .int (r12 - 1)), (0, .ref P.1), (1, .int x1)]) (st1 := [.int (r12 - 1), .ref (P.2.1 116)]) 1 rfl ?_
      refine me_iald rfl (g := 116) rfl rfl h.1 ?_
      replace h := h.2
      refine me_ifc rfl rfl (fun c => ?_) (fun c => ?_)
      · replace h := h.1 (ci_ne c)
        refine me_go (pc1 := 268) (lv1 := [(2, .int (r12 - 1)), (0, .ref P.1), (1, .int x1)]) (st1 := [.ref P.1]) 1 rfl ?_
        refine me_callN rfl rfl rfl (h.mono (fun r13 μ13 h => ?_) (fun _ h => h))
        refine me_go (pc1 := 327) (lv1 := [(2, .int (r12 - 1)), (0, .ref P.1), (1, .int x1)]) (st1 := []) 1 rfl ?_
        refine me_lv [(0, .ref P.1), (1, .int x1)] (fl_c rfl (fl_c rfl fl_0)) ?_
        exact h
      · replace h := h.2 (cn_ne c)
        refine me_go (pc1 := 261) (lv1 := [(2, .int (r12 - 1)), (0, .ref P.1), (1, .int x1)]) (st1 := [.int 0, .int (r12 - 1), .int 3, .ref P.1]) 4 rfl ?_
        refine me_callN rfl rfl rfl (h.mono (fun r14 μ14 h => ?_) (fun _ h => h))
        refine me_go (pc1 := 327) (lv1 := [(2, .int (r12 - 1)), (0, .ref P.1), (1, .int x1)]) (st1 := []) 1 rfl ?_
        refine me_lv [(0, .ref P.1), (1, .int x1)] (fl_c rfl (fl_c rfl fl_0)) ?_
        exact h
  have q6_4 : ((μ.2.1 20 x1.toNatClampNeg) = 59) → ME X W true d 494 274 [(0, .ref P.1), (1, .int x1)] [] P μ R T := fun c => by
      replace h := hD.2.2.2.2.1 c
      refine me_go (pc1 := 276) (lv1 := [(0, .ref P.1), (1, .int x1)]) (st1 := [.ref P.1, .ref P.1]) 2 rfl ?_
      refine me_getf (v := .ref (P.2.1 22)) rfl rfl rfl ?_
      refine me_go (pc1 := 280) (lv1 := [(0, .ref P.1), (1, .int x1)]) (st1 := [.int x1, .ref (P.2.1 22), .ref P.1]) 1 rfl ?_
      refine me_iald rfl (g := 22) rfl rfl h.1 ?_
      replace h := h.2
      refine me_call rfl rfl rfl rfl (h.mono (fun r15 μ15 h => ?_) (fun _ h => h))
      refine me_go (pc1 := 286) (lv1 := [(2, .int r15), (0, .ref P.1), (1, .int x1)]) (st1 := [.ref P.1]) 2 rfl ?_
      refine me_getf (v := .int (μ15.1 127)) rfl rfl rfl ?_
      refine me_go (pc1 := 292) (lv1 := [(2, .int r15), (0, .ref P.1), (1, .int x1)]) (st1 := [.int 500, .int (μ15.1 127)]) 1 rfl ?_
      refine me_icmp rfl rfl (fun c => ?_) (fun c => ?_)
      · replace h := h.1 (ci_ge c)
        refine me_lv [(0, .ref P.1), (1, .int x1), (2, .int r15)] (fl_c rfl (fl_c rfl (fl_c rfl fl_0))) ?_
        exact h
      · replace h := h.2 (cn_ge c)
        refine me_go (pc1 := 296) (lv1 := [(2, .int r15), (0, .ref P.1), (1, .int x1)]) (st1 := [.ref P.1]) 1 rfl ?_
        refine me_getf (v := .ref (P.2.1 126)) rfl rfl rfl ?_
        refine me_go (pc1 := 300) (lv1 := [(2, .int r15), (0, .ref P.1), (1, .int x1)]) (st1 := [.ref P.1, .ref (P.2.1 126)]) 1 rfl ?_
        refine me_getf (v := .int (μ15.1 127)) rfl rfl rfl ?_
        refine me_go (pc1 := 304) (lv1 := [(2, .int r15), (0, .ref P.1), (1, .int x1)]) (st1 := [.int r15, .int (μ15.1 127), .ref (P.2.1 126)]) 1 rfl ?_
        have hi := h.1
        replace h := h.2
        refine me_iast rfl (g := 126) rfl rfl hi ?_
        refine me_go (pc1 := 307) (lv1 := [(2, .int r15), (0, .ref P.1), (1, .int x1)]) (st1 := [.ref P.1, .ref P.1]) 2 rfl ?_
        refine me_getf (v := .int (μ15.1 127)) rfl rfl rfl ?_
        refine me_go (pc1 := 312) (lv1 := [(2, .int r15), (0, .ref P.1), (1, .int x1)]) (st1 := [.int ((μ15.1 127) + 1), .ref P.1]) 2 rfl ?_
        refine me_put rfl rfl rfl ?_
        refine me_lv [(0, .ref P.1), (1, .int x1), (2, .int r15)] (fl_c rfl (fl_c rfl (fl_c rfl fl_0))) ?_
        exact h
  by_cases c : (μ.2.1 20 x1.toNatClampNeg) = 54
  · exact me_sw rfl c (t := 44) rfl (q6_0 (c))
  rename ¬ (μ.2.1 20 x1.toNatClampNeg) = 54 => n0
  by_cases c : (μ.2.1 20 x1.toNatClampNeg) = 55
  · exact me_sw rfl c (t := 96) rfl (q6_1 (c))
  rename ¬ (μ.2.1 20 x1.toNatClampNeg) = 55 => n1
  by_cases c : (μ.2.1 20 x1.toNatClampNeg) = 56
  · exact me_sw rfl c (t := 198) rfl (q6_2 (Or.inl c))
  rename ¬ (μ.2.1 20 x1.toNatClampNeg) = 56 => n2
  by_cases c : (μ.2.1 20 x1.toNatClampNeg) = 57
  · exact me_sw rfl c (t := 198) rfl (q6_2 (Or.inr (c)))
  rename ¬ (μ.2.1 20 x1.toNatClampNeg) = 57 => n3
  by_cases c : (μ.2.1 20 x1.toNatClampNeg) = 58
  · exact me_sw rfl c (t := 235) rfl (q6_3 (c))
  rename ¬ (μ.2.1 20 x1.toNatClampNeg) = 58 => n4
  by_cases c : (μ.2.1 20 x1.toNatClampNeg) = 59
  · exact me_sw rfl c (t := 274) rfl (q6_4 (c))
  rename ¬ (μ.2.1 20 x1.toNatClampNeg) = 59 => n5
  have hk : ∀ v ∈ [(54 : Int32), (55 : Int32), (56 : Int32), (57 : Int32), (58 : Int32), (59 : Int32)], ¬ (μ.2.1 20 x1.toNatClampNeg) = v := fun v hv => by
    simp only [List.mem_cons, List.not_mem_nil, or_false] at hv
    rcases hv with rfl | rfl | rfl | rfl | rfl | rfl <;> assumption
  refine me_tsD (t := 322) rfl _ rfl rfl hk ?_
  replace h := hD.2.2.2.2.2 hk
  refine me_go (pc1 := 324) (lv1 := [(0, .ref P.1), (1, .int x1)]) (st1 := [.int x1, .ref P.1]) 2 rfl ?_
  refine me_call rfl rfl rfl rfl (h.mono (fun r16 μ16 h => ?_) (fun _ h => h))
  exact h
theorem v_meets_126 {X : ev_X} {W : Nat → Prop} {d : Nat} {P : MP} {μ : MS} {R : Int32 → MS → Prop} {T : MS → Prop} (x1 : Int32) (x2 : Int32) (x3 : Int32) (h : MC X W true d 446 [.ref P.1, .int 5] P μ (fun r1 μ1 => ME X W true d 494 131 [(0, .ref P.1), (1, .int x1), (2, .int x2), (3, .int x3)] [] P μ1 R T) T) : ME X W true d 494 126 [(0, .ref P.1), (1, .int x1), (2, .int x2), (3, .int x3)] [] P μ R T := by
  refine me_go (pc1 := 128) (lv1 := [(0, .ref P.1), (1, .int x1), (2, .int x2), (3, .int x3)]) (st1 := [.int 5, .ref P.1]) 2 rfl ?_
  refine me_call rfl rfl rfl rfl (h.mono (fun r1 μ1 h => ?_) (fun _ h => h))
  exact h
theorem v_meets_131 {X : ev_X} {W : Nat → Prop} {d : Nat} {P : MP} {μ : MS} {R : Int32 → MS → Prop} {T : MS → Prop} (x1 : Int32) (x2 : Int32) (x3 : Int32) (h : (MI x2 (μ.2.2 108) ∧ (((μ.2.1 108 x2.toNatClampNeg) = (μ.1 128) → ME X W true d 494 150 [(0, .ref P.1), (1, .int x1), (2, .int x2), (3, .int x3)] [] P μ R T) ∧ (¬ (μ.2.1 108 x2.toNatClampNeg) = (μ.1 128) → MC X W true d 446 [.ref P.1, .int 8] P μ (fun r1 μ1 => ME X W true d 494 150 [(0, .ref P.1), (1, .int x1), (2, .int x2), (3, .int x3)] [] P μ1 R T) T)))) : ME X W true d 494 131 [(0, .ref P.1), (1, .int x1), (2, .int x2), (3, .int x3)] [] P μ R T := by
  refine me_go (pc1 := 132) (lv1 := [(0, .ref P.1), (1, .int x1), (2, .int x2), (3, .int x3)]) (st1 := [.ref P.1]) 1 rfl ?_
  refine me_getf (v := .ref (P.2.1 108)) rfl rfl rfl ?_
  refine me_go (pc1 := 136) (lv1 := [(0, .ref P.1), (1, .int x1), (2, .int x2), (3, .int x3)]) (st1 := [.int x2, .ref (P.2.1 108)]) 1 rfl ?_
  refine me_iald rfl (g := 108) rfl rfl h.1 ?_
  replace h := h.2
  refine me_go (pc1 := 138) (lv1 := [(0, .ref P.1), (1, .int x1), (2, .int x2), (3, .int x3)]) (st1 := [.ref P.1, .int (μ.2.1 108 x2.toNatClampNeg)]) 1 rfl ?_
  refine me_getf (v := .int (μ.1 128)) rfl rfl rfl ?_
  refine me_icmp rfl rfl (fun c => ?_) (fun c => ?_)
  · replace h := h.1 (ci_eq c)
    exact h
  · replace h := h.2 (cn_eq c)
    refine me_go (pc1 := 147) (lv1 := [(0, .ref P.1), (1, .int x1), (2, .int x2), (3, .int x3)]) (st1 := [.int 8, .ref P.1]) 2 rfl ?_
    refine me_call rfl rfl rfl rfl (h.mono (fun r1 μ1 h => ?_) (fun _ h => h))
    exact h
theorem v_meets_150 {X : ev_X} {W : Nat → Prop} {d : Nat} {P : MP} {μ : MS} {R : Int32 → MS → Prop} {T : MS → Prop} (x1 : Int32) (x2 : Int32) (x3 : Int32) (h : MC X W true d 475 [.ref P.1, .int x2] P μ (fun r1 μ1 => (MI (μ1.1 128) (μ1.2.2 113) ∧ MC X W true d 495 [.ref P.1, .int 2, .int x3, .int x2] P (mA1 μ1 113 (((μ1.1 128)).toNatClampNeg) x2) (fun r2 μ2 => (MI (μ2.1 128) (μ2.2.2 114) ∧ ME X W true d 494 327 [(0, .ref P.1), (1, .int x1)] [] P (mS1 (mA1 μ2 114 (((μ2.1 128)).toNatClampNeg) (μ2.1 115)) 115 ((μ2.1 115) + 1)) R T)) (fun _ => False))) (fun _ => False)) : ME X W true d 494 150 [(0, .ref P.1), (1, .int x1), (2, .int x2), (3, .int x3)] [] P μ R T := by
  refine me_go (pc1 := 152) (lv1 := [(0, .ref P.1), (1, .int x1), (2, .int x2), (3, .int x3)]) (st1 := [.int x2, .ref P.1]) 2 rfl ?_
  refine me_callN rfl rfl rfl (h.mono (fun r1 μ1 h => ?_) (fun _ h => h))
  refine me_go (pc1 := 156) (lv1 := [(0, .ref P.1), (1, .int x1), (2, .int x2), (3, .int x3)]) (st1 := [.ref P.1]) 1 rfl ?_
  refine me_getf (v := .ref (P.2.1 113)) rfl rfl rfl ?_
  refine me_go (pc1 := 160) (lv1 := [(0, .ref P.1), (1, .int x1), (2, .int x2), (3, .int x3)]) (st1 := [.ref P.1, .ref (P.2.1 113)]) 1 rfl ?_
  refine me_getf (v := .int (μ1.1 128)) rfl rfl rfl ?_
  refine me_go (pc1 := 164) (lv1 := [(0, .ref P.1), (1, .int x1), (2, .int x2), (3, .int x3)]) (st1 := [.int x2, .int (μ1.1 128), .ref (P.2.1 113)]) 1 rfl ?_
  have hi := h.1
  replace h := h.2
  refine me_iast rfl (g := 113) rfl rfl hi ?_
  refine me_go (pc1 := 169) (lv1 := [(0, .ref P.1), (1, .int x1), (2, .int x2), (3, .int x3)]) (st1 := [.int x2, .int x3, .int 2, .ref P.1]) 4 rfl ?_
  refine me_callN rfl rfl rfl (h.mono (fun r2 μ2 h => ?_) (fun _ h => h))
  refine me_go (pc1 := 173) (lv1 := [(0, .ref P.1), (1, .int x1), (2, .int x2), (3, .int x3)]) (st1 := [.ref P.1]) 1 rfl ?_
  refine me_getf (v := .ref (P.2.1 114)) rfl rfl rfl ?_
  refine me_go (pc1 := 177) (lv1 := [(0, .ref P.1), (1, .int x1), (2, .int x2), (3, .int x3)]) (st1 := [.ref P.1, .ref (P.2.1 114)]) 1 rfl ?_
  refine me_getf (v := .int (μ2.1 128)) rfl rfl rfl ?_
  refine me_go (pc1 := 181) (lv1 := [(0, .ref P.1), (1, .int x1), (2, .int x2), (3, .int x3)]) (st1 := [.ref P.1, .int (μ2.1 128), .ref (P.2.1 114)]) 1 rfl ?_
  refine me_getf (v := .int (μ2.1 115)) rfl rfl rfl ?_
  have hi := h.1
  replace h := h.2
  refine me_iast rfl (g := 114) rfl rfl hi ?_
  refine me_go (pc1 := 187) (lv1 := [(0, .ref P.1), (1, .int x1), (2, .int x2), (3, .int x3)]) (st1 := [.ref P.1, .ref P.1]) 2 rfl ?_
  refine me_getf (v := .int (μ2.1 115)) rfl rfl rfl ?_
  refine me_go (pc1 := 192) (lv1 := [(0, .ref P.1), (1, .int x1), (2, .int x2), (3, .int x3)]) (st1 := [.int ((μ2.1 115) + 1), .ref P.1]) 2 rfl ?_
  refine me_put rfl rfl rfl ?_
  refine me_go (pc1 := 327) (lv1 := [(0, .ref P.1), (1, .int x1), (2, .int x2), (3, .int x3)]) (st1 := []) 1 rfl ?_
  refine me_lv [(0, .ref P.1), (1, .int x1)] (fl_c rfl (fl_c rfl fl_0)) ?_
  exact h
theorem v_meets_315 {X : ev_X} {W : Nat → Prop} {d : Nat} {P : MP} {μ : MS} {R : Int32 → MS → Prop} {T : MS → Prop} (x1 : Int32) (x2 : Int32) (h : MC X W true d 473 [.ref P.1] P μ (fun r1 μ1 => ME X W true d 494 327 [(0, .ref P.1), (1, .int x1)] [] P μ1 R T) (fun _ => False)) : ME X W true d 494 315 [(0, .ref P.1), (1, .int x1), (2, .int x2)] [] P μ R T := by
  refine me_go (pc1 := 316) (lv1 := [(0, .ref P.1), (1, .int x1), (2, .int x2)]) (st1 := [.ref P.1]) 1 rfl ?_
  refine me_callN rfl rfl rfl (h.mono (fun r1 μ1 h => ?_) (fun _ h => h))
  refine me_go (pc1 := 327) (lv1 := [(0, .ref P.1), (1, .int x1), (2, .int x2)]) (st1 := []) 1 rfl ?_
  refine me_lv [(0, .ref P.1), (1, .int x1)] (fl_c rfl (fl_c rfl fl_0)) ?_
  exact h
theorem v_meets_327 {X : ev_X} {W : Nat → Prop} {d : Nat} {P : MP} {μ : MS} {R : Int32 → MS → Prop} {T : MS → Prop} (x1 : Int32) (h : R 0 μ) : ME X W true d 494 327 [(0, .ref P.1), (1, .int x1)] [] P μ R T := by
  exact me_ret (v := none) (r := 0) rfl rfl rfl h
theorem v_waits_0 {X : ev_X} {W : Nat → Prop} {d : Nat} {P : MP} {μ : MS} {R : Int32 → MS → Prop} {T : MS → Prop} (x1 : Int32) (x2 : Int32) (x3 : Int32) (h : (MI (μ.1 128) (μ.2.2 111) ∧ (MI (μ.1 128) (μ.2.2 112) ∧ (MI (μ.1 128) (μ.2.2 113) ∧ R 0 (mA1 (mA1 (mA1 μ 111 (((μ.1 128)).toNatClampNeg) x1) 112 (((μ.1 128)).toNatClampNeg) x2) 113 (((μ.1 128)).toNatClampNeg) x3))))) : ME X W true d 495 0 [(0, .ref P.1), (1, .int x1), (2, .int x2), (3, .int x3)] [] P μ R T := by
  refine me_go (pc1 := 1) (lv1 := [(0, .ref P.1), (1, .int x1), (2, .int x2), (3, .int x3)]) (st1 := [.ref P.1]) 1 rfl ?_
  refine me_getf (v := .ref (P.2.1 111)) rfl rfl rfl ?_
  refine me_go (pc1 := 5) (lv1 := [(0, .ref P.1), (1, .int x1), (2, .int x2), (3, .int x3)]) (st1 := [.ref P.1, .ref (P.2.1 111)]) 1 rfl ?_
  refine me_getf (v := .int (μ.1 128)) rfl rfl rfl ?_
  refine me_go (pc1 := 9) (lv1 := [(0, .ref P.1), (1, .int x1), (2, .int x2), (3, .int x3)]) (st1 := [.int x1, .int (μ.1 128), .ref (P.2.1 111)]) 1 rfl ?_
  have hi := h.1
  replace h := h.2
  refine me_iast rfl (g := 111) rfl rfl hi ?_
  refine me_go (pc1 := 11) (lv1 := [(0, .ref P.1), (1, .int x1), (2, .int x2), (3, .int x3)]) (st1 := [.ref P.1]) 1 rfl ?_
  refine me_getf (v := .ref (P.2.1 112)) rfl rfl rfl ?_
  refine me_go (pc1 := 15) (lv1 := [(0, .ref P.1), (1, .int x1), (2, .int x2), (3, .int x3)]) (st1 := [.ref P.1, .ref (P.2.1 112)]) 1 rfl ?_
  refine me_getf (v := .int (μ.1 128)) rfl rfl rfl ?_
  refine me_go (pc1 := 19) (lv1 := [(0, .ref P.1), (1, .int x1), (2, .int x2), (3, .int x3)]) (st1 := [.int x2, .int (μ.1 128), .ref (P.2.1 112)]) 1 rfl ?_
  have hi := h.1
  replace h := h.2
  refine me_iast rfl (g := 112) rfl rfl hi ?_
  refine me_go (pc1 := 21) (lv1 := [(0, .ref P.1), (1, .int x1), (2, .int x2), (3, .int x3)]) (st1 := [.ref P.1]) 1 rfl ?_
  refine me_getf (v := .ref (P.2.1 113)) rfl rfl rfl ?_
  refine me_go (pc1 := 25) (lv1 := [(0, .ref P.1), (1, .int x1), (2, .int x2), (3, .int x3)]) (st1 := [.ref P.1, .ref (P.2.1 113)]) 1 rfl ?_
  refine me_getf (v := .int (μ.1 128)) rfl rfl rfl ?_
  refine me_go (pc1 := 29) (lv1 := [(0, .ref P.1), (1, .int x1), (2, .int x2), (3, .int x3)]) (st1 := [.int x3, .int (μ.1 128), .ref (P.2.1 113)]) 1 rfl ?_
  have hi := h.1
  replace h := h.2
  refine me_iast rfl (g := 113) rfl rfl hi ?_
  exact me_ret (v := none) (r := 0) rfl rfl rfl h
theorem v_signal_0 {X : ev_X} {W : Nat → Prop} {d : Nat} {P : MP} {μ : MS} {R : Int32 → MS → Prop} {T : MS → Prop} (x1 : Int32) (x2 : Int32) (h : ME X W true d 496 2 [(0, .ref P.1), (1, .int x1), (2, .int x2), (3, .int 1)] [] P μ R T) : ME X W true d 496 0 [(0, .ref P.1), (1, .int x1), (2, .int x2)] [] P μ R T := by
  refine me_go (pc1 := 2) (lv1 := [(3, .int 1), (0, .ref P.1), (1, .int x1), (2, .int x2)]) (st1 := []) 2 rfl ?_
  refine me_lv [(0, .ref P.1), (1, .int x1), (2, .int x2), (3, .int 1)] (fl_c rfl (fl_c rfl (fl_c rfl (fl_c rfl fl_0)))) ?_
  exact h
theorem v_signal_2 {X : ev_X} {W : Nat → Prop} {d : Nat} {P : MP} {μ : MS} {R : Int32 → MS → Prop} {T : MS → Prop} (x1 : Int32) (x2 : Int32) (x3 : Int32) (h : ((x3 = 0 → R 0 μ) ∧ (¬ x3 = 0 → ME X W true d 496 12 [(0, .ref P.1), (1, .int x1), (2, .int x2), (3, .int x3), (4, .int (-1)), (5, .int 0)] [] P μ R T))) : ME X W true d 496 2 [(0, .ref P.1), (1, .int x1), (2, .int x2), (3, .int x3)] [] P μ R T := by
  refine me_go (pc1 := 3) (lv1 := [(0, .ref P.1), (1, .int x1), (2, .int x2), (3, .int x3)]) (st1 := [.int x3]) 1 rfl ?_
  refine me_ifc rfl rfl (fun c => ?_) (fun c => ?_)
  · replace h := h.1 (ci_eq c)
    exact me_ret (v := none) (r := 0) rfl rfl rfl h
  · replace h := h.2 (cn_eq c)
    refine me_go (pc1 := 12) (lv1 := [(5, .int 0), (4, .int (-1)), (0, .ref P.1), (1, .int x1), (2, .int x2), (3, .int x3)]) (st1 := []) 4 rfl ?_
    refine me_lv [(0, .ref P.1), (1, .int x1), (2, .int x2), (3, .int x3), (4, .int (-1)), (5, .int 0)] (fl_c rfl (fl_c rfl (fl_c rfl (fl_c rfl (fl_c rfl (fl_c rfl fl_0)))))) ?_
    exact h
theorem v_signal_12 {X : ev_X} {W : Nat → Prop} {d : Nat} {P : MP} {μ : MS} {R : Int32 → MS → Prop} {T : MS → Prop} (x1 : Int32) (x2 : Int32) (x3 : Int32) (x4 : Int32) (x5 : Int32) (h : (((μ.1 110).toInt ≤ x5.toInt → (((0 : Int) ≤ x4.toInt → (MI x4 (μ.2.2 111) ∧ (MI x4 (μ.2.2 113) ∧ (MI x4 (μ.2.2 112) ∧ (MI x4 (μ.2.2 113) ∧ ME X W true d 496 2 [(0, .ref P.1), (1, .int x1), (2, .int x2), (3, .int x2)] [] P (mA1 (mA1 (mA1 μ 111 x4.toNatClampNeg 1) 112 x4.toNatClampNeg (μ.2.1 113 x4.toNatClampNeg)) 113 x4.toNatClampNeg 1) R T))))) ∧ (x4.toInt < (0 : Int) → R 0 μ))) ∧ (x5.toInt < (μ.1 110).toInt → (MI x5 (μ.2.2 116) ∧ ((¬ (μ.2.1 116 x5.toNatClampNeg) = 0 → ME X W true d 496 12 [(0, .ref P.1), (1, .int x1), (2, .int x2), (3, .int x3), (4, .int x4), (5, .int (x5 + 1))] [] P μ R T) ∧ ((μ.2.1 116 x5.toNatClampNeg) = 0 → (MI x5 (μ.2.2 111) ∧ ((¬ (μ.2.1 111 x5.toNatClampNeg) = 2 → ME X W true d 496 12 [(0, .ref P.1), (1, .int x1), (2, .int x2), (3, .int x3), (4, .int x4), (5, .int (x5 + 1))] [] P μ R T) ∧ ((μ.2.1 111 x5.toNatClampNeg) = 2 → (MI x5 (μ.2.2 112) ∧ ((¬ (μ.2.1 112 x5.toNatClampNeg) = x1 → ME X W true d 496 12 [(0, .ref P.1), (1, .int x1), (2, .int x2), (3, .int x3), (4, .int x4), (5, .int (x5 + 1))] [] P μ R T) ∧ ((μ.2.1 112 x5.toNatClampNeg) = x1 → ((x4.toInt < (0 : Int) → ME X W true d 496 12 [(0, .ref P.1), (1, .int x1), (2, .int x2), (3, .int x3), (4, .int x5), (5, .int (x5 + 1))] [] P μ R T) ∧ ((0 : Int) ≤ x4.toInt → (MI x5 (μ.2.2 114) ∧ (MI x4 (μ.2.2 114) ∧ (((μ.2.1 114 x4.toNatClampNeg).toInt ≤ (μ.2.1 114 x5.toNatClampNeg).toInt → ME X W true d 496 12 [(0, .ref P.1), (1, .int x1), (2, .int x2), (3, .int x3), (4, .int x4), (5, .int (x5 + 1))] [] P μ R T) ∧ ((μ.2.1 114 x5.toNatClampNeg).toInt < (μ.2.1 114 x4.toNatClampNeg).toInt → ME X W true d 496 12 [(0, .ref P.1), (1, .int x1), (2, .int x2), (3, .int x3), (4, .int x5), (5, .int (x5 + 1))] [] P μ R T)))))))))))))))))) : ME X W true d 496 12 [(0, .ref P.1), (1, .int x1), (2, .int x2), (3, .int x3), (4, .int x4), (5, .int x5)] [] P μ R T := by
  refine me_go (pc1 := 15) (lv1 := [(0, .ref P.1), (1, .int x1), (2, .int x2), (3, .int x3), (4, .int x4), (5, .int x5)]) (st1 := [.ref P.1, .int x5]) 2 rfl ?_
  refine me_getf (v := .int (μ.1 110)) rfl rfl rfl ?_
  refine me_icmp rfl rfl (fun c => ?_) (fun c => ?_)
  · replace h := h.1 (ci_ge c)
    refine me_go (pc1 := 87) (lv1 := [(0, .ref P.1), (1, .int x1), (2, .int x2), (3, .int x3), (4, .int x4), (5, .int x5)]) (st1 := [.int x4]) 1 rfl ?_
    refine me_ifc rfl rfl (fun c => ?_) (fun c => ?_)
    · replace h := h.1 (ci_ge c)
      refine me_go (pc1 := 92) (lv1 := [(0, .ref P.1), (1, .int x1), (2, .int x2), (3, .int x3), (4, .int x4), (5, .int x5)]) (st1 := [.ref P.1]) 1 rfl ?_
      refine me_getf (v := .ref (P.2.1 111)) rfl rfl rfl ?_
      refine me_go (pc1 := 98) (lv1 := [(0, .ref P.1), (1, .int x1), (2, .int x2), (3, .int x3), (4, .int x4), (5, .int x5)]) (st1 := [.int 1, .int x4, .ref (P.2.1 111)]) 2 rfl ?_
      have hi := h.1
      replace h := h.2
      refine me_iast rfl (g := 111) rfl rfl hi ?_
      refine me_go (pc1 := 100) (lv1 := [(0, .ref P.1), (1, .int x1), (2, .int x2), (3, .int x3), (4, .int x4), (5, .int x5)]) (st1 := [.ref P.1]) 1 rfl ?_
      refine me_getf (v := .ref (P.2.1 112)) rfl rfl rfl ?_
      refine me_go (pc1 := 106) (lv1 := [(0, .ref P.1), (1, .int x1), (2, .int x2), (3, .int x3), (4, .int x4), (5, .int x5)]) (st1 := [.ref P.1, .int x4, .ref (P.2.1 112)]) 2 rfl ?_
      refine me_getf (v := .ref (P.2.1 113)) rfl rfl rfl ?_
      refine me_go (pc1 := 111) (lv1 := [(0, .ref P.1), (1, .int x1), (2, .int x2), (3, .int x3), (4, .int x4), (5, .int x5)]) (st1 := [.int x4, .ref (P.2.1 113), .int x4, .ref (P.2.1 112)]) 1 rfl ?_
      refine me_iald rfl (g := 113) rfl rfl h.1 ?_
      replace h := h.2
      have hi := h.1
      replace h := h.2
      refine me_iast rfl (g := 112) rfl rfl hi ?_
      refine me_go (pc1 := 114) (lv1 := [(0, .ref P.1), (1, .int x1), (2, .int x2), (3, .int x3), (4, .int x4), (5, .int x5)]) (st1 := [.ref P.1]) 1 rfl ?_
      refine me_getf (v := .ref (P.2.1 113)) rfl rfl rfl ?_
      refine me_go (pc1 := 120) (lv1 := [(0, .ref P.1), (1, .int x1), (2, .int x2), (3, .int x3), (4, .int x4), (5, .int x5)]) (st1 := [.int 1, .int x4, .ref (P.2.1 113)]) 2 rfl ?_
      have hi := h.1
      replace h := h.2
      refine me_iast rfl (g := 113) rfl rfl hi ?_
      refine me_go (pc1 := 2) (lv1 := [(3, .int x2), (0, .ref P.1), (1, .int x1), (2, .int x2), (4, .int x4), (5, .int x5)]) (st1 := []) 3 rfl ?_
      refine me_lv [(0, .ref P.1), (1, .int x1), (2, .int x2), (3, .int x2)] (fl_c rfl (fl_c rfl (fl_c rfl (fl_c rfl fl_0)))) ?_
      exact h
    · replace h := h.2 (cn_ge c)
      exact me_ret (v := none) (r := 0) rfl rfl rfl h
  · replace h := h.2 (cn_ge c)
    refine me_go (pc1 := 22) (lv1 := [(0, .ref P.1), (1, .int x1), (2, .int x2), (3, .int x3), (4, .int x4), (5, .int x5)]) (st1 := [.ref P.1]) 1 rfl ?_
    refine me_getf (v := .ref (P.2.1 116)) rfl rfl rfl ?_
    refine me_go (pc1 := 27) (lv1 := [(0, .ref P.1), (1, .int x1), (2, .int x2), (3, .int x3), (4, .int x4), (5, .int x5)]) (st1 := [.int x5, .ref (P.2.1 116)]) 1 rfl ?_
    refine me_iald rfl (g := 116) rfl rfl h.1 ?_
    replace h := h.2
    refine me_ifc rfl rfl (fun c => ?_) (fun c => ?_)
    · replace h := h.1 (ci_ne c)
      refine me_go (pc1 := 12) (lv1 := [(5, .int (x5 + 1)), (0, .ref P.1), (1, .int x1), (2, .int x2), (3, .int x3), (4, .int x4)]) (st1 := []) 2 rfl ?_
      refine me_lv [(0, .ref P.1), (1, .int x1), (2, .int x2), (3, .int x3), (4, .int x4), (5, .int (x5 + 1))] (fl_c rfl (fl_c rfl (fl_c rfl (fl_c rfl (fl_c rfl (fl_c rfl fl_0)))))) ?_
      exact h
    · replace h := h.2 (cn_ne c)
      refine me_go (pc1 := 32) (lv1 := [(0, .ref P.1), (1, .int x1), (2, .int x2), (3, .int x3), (4, .int x4), (5, .int x5)]) (st1 := [.ref P.1]) 1 rfl ?_
      refine me_getf (v := .ref (P.2.1 111)) rfl rfl rfl ?_
      refine me_go (pc1 := 37) (lv1 := [(0, .ref P.1), (1, .int x1), (2, .int x2), (3, .int x3), (4, .int x4), (5, .int x5)]) (st1 := [.int x5, .ref (P.2.1 111)]) 1 rfl ?_
      refine me_iald rfl (g := 111) rfl rfl h.1 ?_
      replace h := h.2
      refine me_go (pc1 := 39) (lv1 := [(0, .ref P.1), (1, .int x1), (2, .int x2), (3, .int x3), (4, .int x4), (5, .int x5)]) (st1 := [.int 2, .int (μ.2.1 111 x5.toNatClampNeg)]) 1 rfl ?_
      refine me_icmp rfl rfl (fun c => ?_) (fun c => ?_)
      · replace h := h.1 (ci_ne c)
        refine me_go (pc1 := 12) (lv1 := [(5, .int (x5 + 1)), (0, .ref P.1), (1, .int x1), (2, .int x2), (3, .int x3), (4, .int x4)]) (st1 := []) 2 rfl ?_
        refine me_lv [(0, .ref P.1), (1, .int x1), (2, .int x2), (3, .int x3), (4, .int x4), (5, .int (x5 + 1))] (fl_c rfl (fl_c rfl (fl_c rfl (fl_c rfl (fl_c rfl (fl_c rfl fl_0)))))) ?_
        exact h
      · replace h := h.2 (cn_ne c)
        refine me_go (pc1 := 43) (lv1 := [(0, .ref P.1), (1, .int x1), (2, .int x2), (3, .int x3), (4, .int x4), (5, .int x5)]) (st1 := [.ref P.1]) 1 rfl ?_
        refine me_getf (v := .ref (P.2.1 112)) rfl rfl rfl ?_
        refine me_go (pc1 := 48) (lv1 := [(0, .ref P.1), (1, .int x1), (2, .int x2), (3, .int x3), (4, .int x4), (5, .int x5)]) (st1 := [.int x5, .ref (P.2.1 112)]) 1 rfl ?_
        refine me_iald rfl (g := 112) rfl rfl h.1 ?_
        replace h := h.2
        refine me_go (pc1 := 50) (lv1 := [(0, .ref P.1), (1, .int x1), (2, .int x2), (3, .int x3), (4, .int x4), (5, .int x5)]) (st1 := [.int x1, .int (μ.2.1 112 x5.toNatClampNeg)]) 1 rfl ?_
        refine me_icmp rfl rfl (fun c => ?_) (fun c => ?_)
        · replace h := h.1 (ci_ne c)
          refine me_go (pc1 := 12) (lv1 := [(5, .int (x5 + 1)), (0, .ref P.1), (1, .int x1), (2, .int x2), (3, .int x3), (4, .int x4)]) (st1 := []) 2 rfl ?_
          refine me_lv [(0, .ref P.1), (1, .int x1), (2, .int x2), (3, .int x3), (4, .int x4), (5, .int (x5 + 1))] (fl_c rfl (fl_c rfl (fl_c rfl (fl_c rfl (fl_c rfl (fl_c rfl fl_0)))))) ?_
          exact h
        · replace h := h.2 (cn_ne c)
          refine me_go (pc1 := 55) (lv1 := [(0, .ref P.1), (1, .int x1), (2, .int x2), (3, .int x3), (4, .int x4), (5, .int x5)]) (st1 := [.int x4]) 1 rfl ?_
          refine me_ifc rfl rfl (fun c => ?_) (fun c => ?_)
          · replace h := h.1 (ci_lt c)
            refine me_go (pc1 := 12) (lv1 := [(5, .int (x5 + 1)), (4, .int x5), (0, .ref P.1), (1, .int x1), (2, .int x2), (3, .int x3)]) (st1 := []) 4 rfl ?_
            refine me_lv [(0, .ref P.1), (1, .int x1), (2, .int x2), (3, .int x3), (4, .int x5), (5, .int (x5 + 1))] (fl_c rfl (fl_c rfl (fl_c rfl (fl_c rfl (fl_c rfl (fl_c rfl fl_0)))))) ?_
            exact h
          · replace h := h.2 (cn_lt c)
            refine me_go (pc1 := 59) (lv1 := [(0, .ref P.1), (1, .int x1), (2, .int x2), (3, .int x3), (4, .int x4), (5, .int x5)]) (st1 := [.ref P.1]) 1 rfl ?_
            refine me_getf (v := .ref (P.2.1 114)) rfl rfl rfl ?_
            refine me_go (pc1 := 64) (lv1 := [(0, .ref P.1), (1, .int x1), (2, .int x2), (3, .int x3), (4, .int x4), (5, .int x5)]) (st1 := [.int x5, .ref (P.2.1 114)]) 1 rfl ?_
            refine me_iald rfl (g := 114) rfl rfl h.1 ?_
            replace h := h.2
            refine me_go (pc1 := 66) (lv1 := [(0, .ref P.1), (1, .int x1), (2, .int x2), (3, .int x3), (4, .int x4), (5, .int x5)]) (st1 := [.ref P.1, .int (μ.2.1 114 x5.toNatClampNeg)]) 1 rfl ?_
            refine me_getf (v := .ref (P.2.1 114)) rfl rfl rfl ?_
            refine me_go (pc1 := 71) (lv1 := [(0, .ref P.1), (1, .int x1), (2, .int x2), (3, .int x3), (4, .int x4), (5, .int x5)]) (st1 := [.int x4, .ref (P.2.1 114), .int (μ.2.1 114 x5.toNatClampNeg)]) 1 rfl ?_
            refine me_iald rfl (g := 114) rfl rfl h.1 ?_
            replace h := h.2
            refine me_icmp rfl rfl (fun c => ?_) (fun c => ?_)
            · replace h := h.1 (ci_ge c)
              refine me_go (pc1 := 12) (lv1 := [(5, .int (x5 + 1)), (0, .ref P.1), (1, .int x1), (2, .int x2), (3, .int x3), (4, .int x4)]) (st1 := []) 2 rfl ?_
              refine me_lv [(0, .ref P.1), (1, .int x1), (2, .int x2), (3, .int x3), (4, .int x4), (5, .int (x5 + 1))] (fl_c rfl (fl_c rfl (fl_c rfl (fl_c rfl (fl_c rfl (fl_c rfl fl_0)))))) ?_
              exact h
            · replace h := h.2 (cn_ge c)
              refine me_go (pc1 := 12) (lv1 := [(5, .int (x5 + 1)), (4, .int x5), (0, .ref P.1), (1, .int x1), (2, .int x2), (3, .int x3)]) (st1 := []) 4 rfl ?_
              refine me_lv [(0, .ref P.1), (1, .int x1), (2, .int x2), (3, .int x3), (4, .int x5), (5, .int (x5 + 1))] (fl_c rfl (fl_c rfl (fl_c rfl (fl_c rfl (fl_c rfl (fl_c rfl fl_0)))))) ?_
              exact h
theorem v_typecaseStep_0 {X : ev_X} {W : Nat → Prop} {d : Nat} {P : MP} {μ : MS} {R : Int32 → MS → Prop} {T : MS → Prop} (x1 : Int32) (h : (MI x1 (μ.2.2 22) ∧ MC X W true d 459 [.ref P.1, .int (μ.2.1 22 x1.toNatClampNeg)] P μ (fun r1 μ1 => (MI x1 (μ1.2.2 23) ∧ ME X W true d 497 21 [(0, .ref P.1), (1, .int x1), (2, .int r1), (3, .int (-1)), (4, .int (μ1.2.1 23 x1.toNatClampNeg))] [] P μ1 R T)) T)) : ME X W true d 497 0 [(0, .ref P.1), (1, .int x1)] [] P μ R T := by
  refine me_go (pc1 := 2) (lv1 := [(0, .ref P.1), (1, .int x1)]) (st1 := [.ref P.1, .ref P.1]) 2 rfl ?_
  refine me_getf (v := .ref (P.2.1 22)) rfl rfl rfl ?_
  refine me_go (pc1 := 6) (lv1 := [(0, .ref P.1), (1, .int x1)]) (st1 := [.int x1, .ref (P.2.1 22), .ref P.1]) 1 rfl ?_
  refine me_iald rfl (g := 22) rfl rfl h.1 ?_
  replace h := h.2
  refine me_call rfl rfl rfl rfl (h.mono (fun r1 μ1 h => ?_) (fun _ h => h))
  refine me_go (pc1 := 14) (lv1 := [(3, .int (-1)), (2, .int r1), (0, .ref P.1), (1, .int x1)]) (st1 := [.ref P.1]) 4 rfl ?_
  refine me_getf (v := .ref (P.2.1 23)) rfl rfl rfl ?_
  refine me_go (pc1 := 18) (lv1 := [(3, .int (-1)), (2, .int r1), (0, .ref P.1), (1, .int x1)]) (st1 := [.int x1, .ref (P.2.1 23)]) 1 rfl ?_
  refine me_iald rfl (g := 23) rfl rfl h.1 ?_
  replace h := h.2
  refine me_go (pc1 := 21) (lv1 := [(4, .int (μ1.2.1 23 x1.toNatClampNeg)), (3, .int (-1)), (2, .int r1), (0, .ref P.1), (1, .int x1)]) (st1 := []) 1 rfl ?_
  refine me_lv [(0, .ref P.1), (1, .int x1), (2, .int r1), (3, .int (-1)), (4, .int (μ1.2.1 23 x1.toNatClampNeg))] (fl_c rfl (fl_c rfl (fl_c rfl (fl_c rfl (fl_c rfl fl_0))))) ?_
  exact h
theorem v_typecaseStep_21 {X : ev_X} {W : Nat → Prop} {d : Nat} {P : MP} {μ : MS} {R : Int32 → MS → Prop} {T : MS → Prop} (x1 : Int32) (x2 : Int32) (x3 : Int32) (x4 : Int32) (h : ((x4.toInt < (0 : Int) → ME X W true d 497 68 [(0, .ref P.1), (1, .int x1), (2, .int x2), (3, .int x3), (4, .int x4)] [] P μ R T) ∧ ((0 : Int) ≤ x4.toInt → (((0 : Int) ≤ x3.toInt → ME X W true d 497 68 [(0, .ref P.1), (1, .int x1), (2, .int x2), (3, .int x3), (4, .int x4)] [] P μ R T) ∧ (x3.toInt < (0 : Int) → (MI x4 (μ.2.2 22) ∧ MC X W true d 365 [.ref P.1, .int (μ.2.1 22 x4.toNatClampNeg)] P μ (fun r1 μ1 => MC X W true d 454 [.ref P.1, .int x2, .int r1] P μ1 (fun r2 μ2 => ((r2 = 0 → ME X W true d 497 56 [(0, .ref P.1), (1, .int x1), (2, .int x2), (3, .int (-1)), (4, .int x4)] [] P μ2 R T) ∧ (¬ r2 = 0 → ME X W true d 497 56 [(0, .ref P.1), (1, .int x1), (2, .int x2), (3, .int x4), (4, .int x4)] [] P μ2 R T))) (fun _ => False)) (fun _ => False))))))) : ME X W true d 497 21 [(0, .ref P.1), (1, .int x1), (2, .int x2), (3, .int x3), (4, .int x4)] [] P μ R T := by
  refine me_go (pc1 := 23) (lv1 := [(0, .ref P.1), (1, .int x1), (2, .int x2), (3, .int x3), (4, .int x4)]) (st1 := [.int x4]) 1 rfl ?_
  refine me_ifc rfl rfl (fun c => ?_) (fun c => ?_)
  · replace h := h.1 (ci_lt c)
    exact h
  · replace h := h.2 (cn_lt c)
    refine me_go (pc1 := 27) (lv1 := [(0, .ref P.1), (1, .int x1), (2, .int x2), (3, .int x3), (4, .int x4)]) (st1 := [.int x3]) 1 rfl ?_
    refine me_ifc rfl rfl (fun c => ?_) (fun c => ?_)
    · replace h := h.1 (ci_ge c)
      exact h
    · replace h := h.2 (cn_ge c)
      refine me_go (pc1 := 34) (lv1 := [(0, .ref P.1), (1, .int x1), (2, .int x2), (3, .int x3), (4, .int x4)]) (st1 := [.ref P.1, .ref P.1, .int x2, .ref P.1]) 4 rfl ?_
      refine me_getf (v := .ref (P.2.1 22)) rfl rfl rfl ?_
      refine me_go (pc1 := 39) (lv1 := [(0, .ref P.1), (1, .int x1), (2, .int x2), (3, .int x3), (4, .int x4)]) (st1 := [.int x4, .ref (P.2.1 22), .ref P.1, .int x2, .ref P.1]) 1 rfl ?_
      refine me_iald rfl (g := 22) rfl rfl h.1 ?_
      replace h := h.2
      refine me_callN rfl rfl rfl (h.mono (fun r1 μ1 h => ?_) (fun _ h => h))
      refine me_callN rfl rfl rfl (h.mono (fun r2 μ2 h => ?_) (fun _ h => h))
      refine me_ifc rfl rfl (fun c => ?_) (fun c => ?_)
      · replace h := h.1 (ci_eq c)
        refine me_go (pc1 := 56) (lv1 := [(3, .int (-1)), (0, .ref P.1), (1, .int x1), (2, .int x2), (4, .int x4)]) (st1 := []) 2 rfl ?_
        refine me_lv [(0, .ref P.1), (1, .int x1), (2, .int x2), (3, .int (-1)), (4, .int x4)] (fl_c rfl (fl_c rfl (fl_c rfl (fl_c rfl (fl_c rfl fl_0))))) ?_
        exact h
      · replace h := h.2 (cn_eq c)
        refine me_go (pc1 := 56) (lv1 := [(3, .int x4), (0, .ref P.1), (1, .int x1), (2, .int x2), (4, .int x4)]) (st1 := []) 3 rfl ?_
        refine me_lv [(0, .ref P.1), (1, .int x1), (2, .int x2), (3, .int x4), (4, .int x4)] (fl_c rfl (fl_c rfl (fl_c rfl (fl_c rfl (fl_c rfl fl_0))))) ?_
        exact h
theorem v_typecaseStep_56 {X : ev_X} {W : Nat → Prop} {d : Nat} {P : MP} {μ : MS} {R : Int32 → MS → Prop} {T : MS → Prop} (x1 : Int32) (x2 : Int32) (x3 : Int32) (x4 : Int32) (h : (MI x4 (μ.2.2 27) ∧ ME X W true d 497 21 [(0, .ref P.1), (1, .int x1), (2, .int x2), (3, .int x3), (4, .int (μ.2.1 27 x4.toNatClampNeg))] [] P μ R T)) : ME X W true d 497 56 [(0, .ref P.1), (1, .int x1), (2, .int x2), (3, .int x3), (4, .int x4)] [] P μ R T := by
  refine me_go (pc1 := 57) (lv1 := [(0, .ref P.1), (1, .int x1), (2, .int x2), (3, .int x3), (4, .int x4)]) (st1 := [.ref P.1]) 1 rfl ?_
  refine me_getf (v := .ref (P.2.1 27)) rfl rfl rfl ?_
  refine me_go (pc1 := 62) (lv1 := [(0, .ref P.1), (1, .int x1), (2, .int x2), (3, .int x3), (4, .int x4)]) (st1 := [.int x4, .ref (P.2.1 27)]) 1 rfl ?_
  refine me_iald rfl (g := 27) rfl rfl h.1 ?_
  replace h := h.2
  refine me_go (pc1 := 21) (lv1 := [(4, .int (μ.2.1 27 x4.toNatClampNeg)), (0, .ref P.1), (1, .int x1), (2, .int x2), (3, .int x3)]) (st1 := []) 2 rfl ?_
  refine me_lv [(0, .ref P.1), (1, .int x1), (2, .int x2), (3, .int x3), (4, .int (μ.2.1 27 x4.toNatClampNeg))] (fl_c rfl (fl_c rfl (fl_c rfl (fl_c rfl (fl_c rfl fl_0))))) ?_
  exact h
theorem v_typecaseStep_68 {X : ev_X} {W : Nat → Prop} {d : Nat} {P : MP} {μ : MS} {R : Int32 → MS → Prop} {T : MS → Prop} (x1 : Int32) (x2 : Int32) (x3 : Int32) (x4 : Int32) (h : (((0 : Int) ≤ x3.toInt → ME X W true d 497 87 [(0, .ref P.1), (1, .int x1), (2, .int x2), (3, .int x3), (4, .int x4)] [] P μ R T) ∧ (x3.toInt < (0 : Int) → (MI x1 (μ.2.2 25) ∧ ((¬ (μ.2.1 25 x1.toNatClampNeg) = 0 → ME X W true d 497 87 [(0, .ref P.1), (1, .int x1), (2, .int x2), (3, .int x3), (4, .int x4)] [] P μ R T) ∧ ((μ.2.1 25 x1.toNatClampNeg) = 0 → MC X W true d 446 [.ref P.1, .int 7] P μ (fun r1 μ1 => ME X W true d 497 87 [(0, .ref P.1), (1, .int x1), (2, .int x2), (3, .int x3), (4, .int x4)] [] P μ1 R T) T)))))) : ME X W true d 497 68 [(0, .ref P.1), (1, .int x1), (2, .int x2), (3, .int x3), (4, .int x4)] [] P μ R T := by
  refine me_go (pc1 := 69) (lv1 := [(0, .ref P.1), (1, .int x1), (2, .int x2), (3, .int x3), (4, .int x4)]) (st1 := [.int x3]) 1 rfl ?_
  refine me_ifc rfl rfl (fun c => ?_) (fun c => ?_)
  · replace h := h.1 (ci_ge c)
    exact h
  · replace h := h.2 (cn_ge c)
    refine me_go (pc1 := 73) (lv1 := [(0, .ref P.1), (1, .int x1), (2, .int x2), (3, .int x3), (4, .int x4)]) (st1 := [.ref P.1]) 1 rfl ?_
    refine me_getf (v := .ref (P.2.1 25)) rfl rfl rfl ?_
    refine me_go (pc1 := 77) (lv1 := [(0, .ref P.1), (1, .int x1), (2, .int x2), (3, .int x3), (4, .int x4)]) (st1 := [.int x1, .ref (P.2.1 25)]) 1 rfl ?_
    refine me_iald rfl (g := 25) rfl rfl h.1 ?_
    replace h := h.2
    refine me_ifc rfl rfl (fun c => ?_) (fun c => ?_)
    · replace h := h.1 (ci_ne c)
      exact h
    · replace h := h.2 (cn_ne c)
      refine me_go (pc1 := 84) (lv1 := [(0, .ref P.1), (1, .int x1), (2, .int x2), (3, .int x3), (4, .int x4)]) (st1 := [.int 7, .ref P.1]) 2 rfl ?_
      refine me_call rfl rfl rfl rfl (h.mono (fun r1 μ1 h => ?_) (fun _ h => h))
      exact h
theorem v_typecaseStep_87 {X : ev_X} {W : Nat → Prop} {d : Nat} {P : MP} {μ : MS} {R : Int32 → MS → Prop} {T : MS → Prop} (x1 : Int32) (x2 : Int32) (x3 : Int32) (x4 : Int32) (h : MC X W true d 473 [.ref P.1] P μ (fun r1 μ1 => ((x3.toInt < (0 : Int) → ME X W true d 497 127 [(0, .ref P.1), (1, .int x1), (2, .int x2), (3, .int x3), (4, .int x4)] [] P μ1 R T) ∧ ((0 : Int) ≤ x3.toInt → (MI (μ1.1 128) (μ1.2.2 122) ∧ (MI x3 (μ1.2.2 23) ∧ (MI (μ1.2.1 23 x3.toNatClampNeg) (μ1.2.2 28) ∧ (MI (μ1.2.1 28 ((μ1.2.1 23 x3.toNatClampNeg)).toNatClampNeg) (μ1.2.2 55) ∧ (MI ((μ1.2.1 122 ((μ1.1 128)).toNatClampNeg) + (μ1.2.1 55 ((μ1.2.1 28 ((μ1.2.1 23 x3.toNatClampNeg)).toNatClampNeg)).toNatClampNeg)) (μ1.2.2 99) ∧ ME X W true d 497 127 [(0, .ref P.1), (1, .int x1), (2, .int x2), (3, .int x3), (4, .int x4)] [] P (mA1 μ1 99 ((((μ1.2.1 122 ((μ1.1 128)).toNatClampNeg) + (μ1.2.1 55 ((μ1.2.1 28 ((μ1.2.1 23 x3.toNatClampNeg)).toNatClampNeg)).toNatClampNeg))).toNatClampNeg) x2) R T)))))))) (fun _ => False)) : ME X W true d 497 87 [(0, .ref P.1), (1, .int x1), (2, .int x2), (3, .int x3), (4, .int x4)] [] P μ R T := by
  refine me_go (pc1 := 88) (lv1 := [(0, .ref P.1), (1, .int x1), (2, .int x2), (3, .int x3), (4, .int x4)]) (st1 := [.ref P.1]) 1 rfl ?_
  refine me_callN rfl rfl rfl (h.mono (fun r1 μ1 h => ?_) (fun _ h => h))
  refine me_go (pc1 := 92) (lv1 := [(0, .ref P.1), (1, .int x1), (2, .int x2), (3, .int x3), (4, .int x4)]) (st1 := [.int x3]) 1 rfl ?_
  refine me_ifc rfl rfl (fun c => ?_) (fun c => ?_)
  · replace h := h.1 (ci_lt c)
    exact h
  · replace h := h.2 (cn_lt c)
    refine me_go (pc1 := 96) (lv1 := [(0, .ref P.1), (1, .int x1), (2, .int x2), (3, .int x3), (4, .int x4)]) (st1 := [.ref P.1]) 1 rfl ?_
    refine me_getf (v := .ref (P.2.1 99)) rfl rfl rfl ?_
    refine me_go (pc1 := 100) (lv1 := [(0, .ref P.1), (1, .int x1), (2, .int x2), (3, .int x3), (4, .int x4)]) (st1 := [.ref P.1, .ref (P.2.1 99)]) 1 rfl ?_
    refine me_getf (v := .ref (P.2.1 122)) rfl rfl rfl ?_
    refine me_go (pc1 := 104) (lv1 := [(0, .ref P.1), (1, .int x1), (2, .int x2), (3, .int x3), (4, .int x4)]) (st1 := [.ref P.1, .ref (P.2.1 122), .ref (P.2.1 99)]) 1 rfl ?_
    refine me_getf (v := .int (μ1.1 128)) rfl rfl rfl ?_
    refine me_iald rfl (g := 122) rfl rfl h.1 ?_
    replace h := h.2
    refine me_go (pc1 := 109) (lv1 := [(0, .ref P.1), (1, .int x1), (2, .int x2), (3, .int x3), (4, .int x4)]) (st1 := [.ref P.1, .int (μ1.2.1 122 ((μ1.1 128)).toNatClampNeg), .ref (P.2.1 99)]) 1 rfl ?_
    refine me_getf (v := .ref (P.2.1 55)) rfl rfl rfl ?_
    refine me_go (pc1 := 113) (lv1 := [(0, .ref P.1), (1, .int x1), (2, .int x2), (3, .int x3), (4, .int x4)]) (st1 := [.ref P.1, .ref (P.2.1 55), .int (μ1.2.1 122 ((μ1.1 128)).toNatClampNeg), .ref (P.2.1 99)]) 1 rfl ?_
    refine me_getf (v := .ref (P.2.1 28)) rfl rfl rfl ?_
    refine me_go (pc1 := 117) (lv1 := [(0, .ref P.1), (1, .int x1), (2, .int x2), (3, .int x3), (4, .int x4)]) (st1 := [.ref P.1, .ref (P.2.1 28), .ref (P.2.1 55), .int (μ1.2.1 122 ((μ1.1 128)).toNatClampNeg), .ref (P.2.1 99)]) 1 rfl ?_
    refine me_getf (v := .ref (P.2.1 23)) rfl rfl rfl ?_
    refine me_go (pc1 := 121) (lv1 := [(0, .ref P.1), (1, .int x1), (2, .int x2), (3, .int x3), (4, .int x4)]) (st1 := [.int x3, .ref (P.2.1 23), .ref (P.2.1 28), .ref (P.2.1 55), .int (μ1.2.1 122 ((μ1.1 128)).toNatClampNeg), .ref (P.2.1 99)]) 1 rfl ?_
    refine me_iald rfl (g := 23) rfl rfl h.1 ?_
    replace h := h.2
    refine me_iald rfl (g := 28) rfl rfl h.1 ?_
    replace h := h.2
    refine me_iald rfl (g := 55) rfl rfl h.1 ?_
    replace h := h.2
    refine me_go (pc1 := 126) (lv1 := [(0, .ref P.1), (1, .int x1), (2, .int x2), (3, .int x3), (4, .int x4)]) (st1 := [.int x2, .int ((μ1.2.1 122 ((μ1.1 128)).toNatClampNeg) + (μ1.2.1 55 ((μ1.2.1 28 ((μ1.2.1 23 x3.toNatClampNeg)).toNatClampNeg)).toNatClampNeg)), .ref (P.2.1 99)]) 2 rfl ?_
    have hi := h.1
    replace h := h.2
    refine me_iast rfl (g := 99) rfl rfl hi ?_
    exact h
theorem v_typecaseStep_127 {X : ev_X} {W : Nat → Prop} {d : Nat} {P : MP} {μ : MS} {R : Int32 → MS → Prop} {T : MS → Prop} (x1 : Int32) (x2 : Int32) (x3 : Int32) (x4 : Int32) (h : ((x3.toInt < (0 : Int) → (MI x1 (μ.2.2 24) ∧ MC X W true d 449 [.ref P.1, .int (μ.2.1 24 x1.toNatClampNeg)] P μ (fun r1 μ1 => R 0 μ1) (fun _ => False))) ∧ ((0 : Int) ≤ x3.toInt → (MI x3 (μ.2.2 24) ∧ MC X W true d 449 [.ref P.1, .int (μ.2.1 24 x3.toNatClampNeg)] P μ (fun r2 μ2 => R 0 μ2) (fun _ => False))))) : ME X W true d 497 127 [(0, .ref P.1), (1, .int x1), (2, .int x2), (3, .int x3), (4, .int x4)] [] P μ R T := by
  refine me_go (pc1 := 129) (lv1 := [(0, .ref P.1), (1, .int x1), (2, .int x2), (3, .int x3), (4, .int x4)]) (st1 := [.int x3, .ref P.1]) 2 rfl ?_
  refine me_ifc rfl rfl (fun c => ?_) (fun c => ?_)
  · replace h := h.1 (ci_lt c)
    refine me_go (pc1 := 142) (lv1 := [(0, .ref P.1), (1, .int x1), (2, .int x2), (3, .int x3), (4, .int x4)]) (st1 := [.ref P.1, .ref P.1]) 1 rfl ?_
    refine me_getf (v := .ref (P.2.1 24)) rfl rfl rfl ?_
    refine me_go (pc1 := 146) (lv1 := [(0, .ref P.1), (1, .int x1), (2, .int x2), (3, .int x3), (4, .int x4)]) (st1 := [.int x1, .ref (P.2.1 24), .ref P.1]) 1 rfl ?_
    refine me_iald rfl (g := 24) rfl rfl h.1 ?_
    replace h := h.2
    refine me_callN rfl rfl rfl (h.mono (fun r1 μ1 h => ?_) (fun _ h => h))
    exact me_ret (v := none) (r := 0) rfl rfl rfl h
  · replace h := h.2 (cn_lt c)
    refine me_go (pc1 := 133) (lv1 := [(0, .ref P.1), (1, .int x1), (2, .int x2), (3, .int x3), (4, .int x4)]) (st1 := [.ref P.1, .ref P.1]) 1 rfl ?_
    refine me_getf (v := .ref (P.2.1 24)) rfl rfl rfl ?_
    refine me_go (pc1 := 137) (lv1 := [(0, .ref P.1), (1, .int x1), (2, .int x2), (3, .int x3), (4, .int x4)]) (st1 := [.int x3, .ref (P.2.1 24), .ref P.1]) 1 rfl ?_
    refine me_iald rfl (g := 24) rfl rfl h.1 ?_
    replace h := h.2
    refine me_go (pc1 := 147) (lv1 := [(0, .ref P.1), (1, .int x1), (2, .int x2), (3, .int x3), (4, .int x4)]) (st1 := [.int (μ.2.1 24 x3.toNatClampNeg), .ref P.1]) 1 rfl ?_
    refine me_callN rfl rfl rfl (h.mono (fun r2 μ2 h => ?_) (fun _ h => h))
    exact me_ret (v := none) (r := 0) rfl rfl rfl h
