theorem v_first_0 {X : ev_X} {W : Nat → Prop} {d : Nat} {P : MP} {μ : MS} {R : Int32 → MS → Prop} {T : MS → Prop} (x1 : Int32) (x2 : Int32) (h : T (mS1 (mS1 μ 17 x1) 18 x2)) : ME X W true d 289 0 [(0, .ref P.1), (1, .int x1), (2, .int x2)] [] P μ R T := by
  refine me_go (pc1 := 2) (lv1 := [(0, .ref P.1), (1, .int x1), (2, .int x2)]) (st1 := [.int x1, .ref P.1]) 2 rfl ?_
  refine me_put rfl rfl rfl ?_
  refine me_go (pc1 := 7) (lv1 := [(0, .ref P.1), (1, .int x1), (2, .int x2)]) (st1 := [.int x2, .ref P.1]) 2 rfl ?_
  refine me_put rfl rfl rfl ?_
  refine me_go (pc1 := 11) (lv1 := [(0, .ref P.1), (1, .int x1), (2, .int x2)]) (st1 := [.ref P.1]) 1 rfl ?_
  refine me_getf (v := .ref P.2.2.1) rfl rfl rfl ?_
  exact me_ath rfl (Or.inl rfl) rfl h
theorem v_rule_0 {X : ev_X} {W : Nat → Prop} {d : Nat} {P : MP} {μ : MS} {R : Int32 → MS → Prop} {T : MS → Prop} (x1 : Int32) (x2 : Int32) (h : (((μ.1 17) = 0 → R 0 (mS1 (mS1 μ 17 x1) 18 x2)) ∧ (¬ (μ.1 17) = 0 → (((μ.1 18).toInt < x2.toInt → R 0 μ) ∧ (x2.toInt ≤ (μ.1 18).toInt → ((¬ x2 = (μ.1 18) → R 0 (mS1 (mS1 μ 17 x1) 18 x2)) ∧ (x2 = (μ.1 18) → ((x1.toInt < (μ.1 17).toInt → R 0 (mS1 (mS1 μ 17 x1) 18 x2)) ∧ ((μ.1 17).toInt ≤ x1.toInt → R 0 μ))))))))) : ME X W true d 290 0 [(0, .ref P.1), (1, .int x1), (2, .int x2)] [] P μ R T := by
  refine me_go (pc1 := 1) (lv1 := [(0, .ref P.1), (1, .int x1), (2, .int x2)]) (st1 := [.ref P.1]) 1 rfl ?_
  refine me_getf (v := .int (μ.1 17)) rfl rfl rfl ?_
  refine me_ifc rfl rfl (fun c => ?_) (fun c => ?_)
  · replace h := h.1 (ci_eq c)
    refine me_go (pc1 := 34) (lv1 := [(0, .ref P.1), (1, .int x1), (2, .int x2)]) (st1 := [.int x1, .ref P.1]) 2 rfl ?_
    refine me_put rfl rfl rfl ?_
    refine me_go (pc1 := 39) (lv1 := [(0, .ref P.1), (1, .int x1), (2, .int x2)]) (st1 := [.int x2, .ref P.1]) 2 rfl ?_
    refine me_put rfl rfl rfl ?_
    exact me_ret (v := none) (r := 0) rfl rfl rfl h
  · replace h := h.2 (cn_eq c)
    refine me_go (pc1 := 9) (lv1 := [(0, .ref P.1), (1, .int x1), (2, .int x2)]) (st1 := [.ref P.1, .int x2]) 2 rfl ?_
    refine me_getf (v := .int (μ.1 18)) rfl rfl rfl ?_
    refine me_icmp rfl rfl (fun c => ?_) (fun c => ?_)
    · replace h := h.1 (ci_gt c)
      exact me_ret (v := none) (r := 0) rfl rfl rfl h
    · replace h := h.2 (cn_gt c)
      refine me_go (pc1 := 17) (lv1 := [(0, .ref P.1), (1, .int x1), (2, .int x2)]) (st1 := [.ref P.1, .int x2]) 2 rfl ?_
      refine me_getf (v := .int (μ.1 18)) rfl rfl rfl ?_
      refine me_icmp rfl rfl (fun c => ?_) (fun c => ?_)
      · replace h := h.1 (ci_ne c)
        refine me_go (pc1 := 34) (lv1 := [(0, .ref P.1), (1, .int x1), (2, .int x2)]) (st1 := [.int x1, .ref P.1]) 2 rfl ?_
        refine me_put rfl rfl rfl ?_
        refine me_go (pc1 := 39) (lv1 := [(0, .ref P.1), (1, .int x1), (2, .int x2)]) (st1 := [.int x2, .ref P.1]) 2 rfl ?_
        refine me_put rfl rfl rfl ?_
        exact me_ret (v := none) (r := 0) rfl rfl rfl h
      · replace h := h.2 (cn_ne c)
        refine me_go (pc1 := 25) (lv1 := [(0, .ref P.1), (1, .int x1), (2, .int x2)]) (st1 := [.ref P.1, .int x1]) 2 rfl ?_
        refine me_getf (v := .int (μ.1 17)) rfl rfl rfl ?_
        refine me_icmp rfl rfl (fun c => ?_) (fun c => ?_)
        · replace h := h.1 (ci_lt c)
          refine me_go (pc1 := 34) (lv1 := [(0, .ref P.1), (1, .int x1), (2, .int x2)]) (st1 := [.int x1, .ref P.1]) 2 rfl ?_
          refine me_put rfl rfl rfl ?_
          refine me_go (pc1 := 39) (lv1 := [(0, .ref P.1), (1, .int x1), (2, .int x2)]) (st1 := [.int x2, .ref P.1]) 2 rfl ?_
          refine me_put rfl rfl rfl ?_
          exact me_ret (v := none) (r := 0) rfl rfl rfl h
        · replace h := h.2 (cn_lt c)
          exact me_ret (v := none) (r := 0) rfl rfl rfl h
theorem v_line_0 {X : ev_X} {W : Nat → Prop} {d : Nat} {P : MP} {μ : MS} {R : Int32 → MS → Prop} {T : MS → Prop}  (h : (MI (μ.1 32) (μ.2.2 11) ∧ R (μ.2.1 11 ((μ.1 32)).toNatClampNeg) μ)) : ME X W true d 291 0 [(0, .ref P.1)] [] P μ R T := by
  refine me_go (pc1 := 1) (lv1 := [(0, .ref P.1)]) (st1 := [.ref P.1]) 1 rfl ?_
  refine me_getf (v := .ref (P.2.1 11)) rfl rfl rfl ?_
  refine me_go (pc1 := 5) (lv1 := [(0, .ref P.1)]) (st1 := [.ref P.1, .ref (P.2.1 11)]) 1 rfl ?_
  refine me_getf (v := .int (μ.1 32)) rfl rfl rfl ?_
  refine me_iald rfl (g := 11) rfl rfl h.1 ?_
  replace h := h.2
  exact me_ret rfl rfl rfl h
theorem v_node_0 {X : ev_X} {W : Nat → Prop} {d : Nat} {P : MP} {μ : MS} {R : Int32 → MS → Prop} {T : MS → Prop} (x1 : Int32) (x2 : Int32) (x3 : Int32) (h : (MI (μ.1 19) (μ.2.2 20) ∧ MC X W true d 291 [.ref P.1] P (mA1 (mS1 μ 19 ((μ.1 19) + 1)) 20 (((μ.1 19)).toNatClampNeg) x1) (fun r1 μ1 => (MI (μ.1 19) (μ1.2.2 21) ∧ (MI (μ.1 19) (μ1.2.2 22) ∧ (MI (μ.1 19) (μ1.2.2 23) ∧ (MI (μ.1 19) (μ1.2.2 24) ∧ (MI (μ.1 19) (μ1.2.2 25) ∧ (MI (μ.1 19) (μ1.2.2 26) ∧ (MI (μ.1 19) (μ1.2.2 27) ∧ (MI (μ.1 19) (μ1.2.2 28) ∧ (MI (μ.1 19) (μ1.2.2 29) ∧ (MI (μ.1 19) (μ1.2.2 30) ∧ MC X W true d 291 [.ref P.1] P (mA1 (mA1 (mA1 (mA1 (mA1 (mA1 (mA1 (mA1 (mA1 (mA1 μ1 21 (((μ.1 19)).toNatClampNeg) r1) 22 (((μ.1 19)).toNatClampNeg) x2) 23 (((μ.1 19)).toNatClampNeg) x3) 24 (((μ.1 19)).toNatClampNeg) (-1)) 25 (((μ.1 19)).toNatClampNeg) (-1)) 26 (((μ.1 19)).toNatClampNeg) (-1)) 27 (((μ.1 19)).toNatClampNeg) (-1)) 28 (((μ.1 19)).toNatClampNeg) (-1)) 29 (((μ.1 19)).toNatClampNeg) (μ1.1 33)) 30 (((μ.1 19)).toNatClampNeg) (μ1.1 34)) (fun r2 μ2 => (MI (μ.1 19) (μ2.2.2 31) ∧ R (μ.1 19) (mA1 μ2 31 (((μ.1 19)).toNatClampNeg) r2))) (fun _ => False)))))))))))) (fun _ => False))) : ME X W true d 292 0 [(0, .ref P.1), (1, .int x1), (2, .int x2), (3, .int x3)] [] P μ R T := by
  refine me_go (pc1 := 1) (lv1 := [(0, .ref P.1), (1, .int x1), (2, .int x2), (3, .int x3)]) (st1 := [.ref P.1]) 1 rfl ?_
  refine me_getf (v := .int (μ.1 19)) rfl rfl rfl ?_
  refine me_go (pc1 := 8) (lv1 := [(4, .int (μ.1 19)), (0, .ref P.1), (1, .int x1), (2, .int x2), (3, .int x3)]) (st1 := [.ref P.1, .ref P.1]) 3 rfl ?_
  refine me_getf (v := .int (μ.1 19)) rfl rfl rfl ?_
  refine me_go (pc1 := 13) (lv1 := [(4, .int (μ.1 19)), (0, .ref P.1), (1, .int x1), (2, .int x2), (3, .int x3)]) (st1 := [.int ((μ.1 19) + 1), .ref P.1]) 2 rfl ?_
  refine me_put rfl rfl rfl ?_
  refine me_go (pc1 := 17) (lv1 := [(4, .int (μ.1 19)), (0, .ref P.1), (1, .int x1), (2, .int x2), (3, .int x3)]) (st1 := [.ref P.1]) 1 rfl ?_
  refine me_getf (v := .ref (P.2.1 20)) rfl rfl rfl ?_
  refine me_go (pc1 := 23) (lv1 := [(4, .int (μ.1 19)), (0, .ref P.1), (1, .int x1), (2, .int x2), (3, .int x3)]) (st1 := [.int x1, .int (μ.1 19), .ref (P.2.1 20)]) 2 rfl ?_
  have hi := h.1
  replace h := h.2
  refine me_iast rfl (g := 20) rfl rfl hi ?_
  refine me_go (pc1 := 25) (lv1 := [(4, .int (μ.1 19)), (0, .ref P.1), (1, .int x1), (2, .int x2), (3, .int x3)]) (st1 := [.ref P.1]) 1 rfl ?_
  refine me_getf (v := .ref (P.2.1 21)) rfl rfl rfl ?_
  refine me_go (pc1 := 31) (lv1 := [(4, .int (μ.1 19)), (0, .ref P.1), (1, .int x1), (2, .int x2), (3, .int x3)]) (st1 := [.ref P.1, .int (μ.1 19), .ref (P.2.1 21)]) 2 rfl ?_
  refine me_callN rfl rfl rfl (h.mono (fun r1 μ1 h => ?_) (fun _ h => h))
  have hi := h.1
  replace h := h.2
  refine me_iast rfl (g := 21) rfl rfl hi ?_
  refine me_go (pc1 := 36) (lv1 := [(4, .int (μ.1 19)), (0, .ref P.1), (1, .int x1), (2, .int x2), (3, .int x3)]) (st1 := [.ref P.1]) 1 rfl ?_
  refine me_getf (v := .ref (P.2.1 22)) rfl rfl rfl ?_
  refine me_go (pc1 := 42) (lv1 := [(4, .int (μ.1 19)), (0, .ref P.1), (1, .int x1), (2, .int x2), (3, .int x3)]) (st1 := [.int x2, .int (μ.1 19), .ref (P.2.1 22)]) 2 rfl ?_
  have hi := h.1
  replace h := h.2
  refine me_iast rfl (g := 22) rfl rfl hi ?_
  refine me_go (pc1 := 44) (lv1 := [(4, .int (μ.1 19)), (0, .ref P.1), (1, .int x1), (2, .int x2), (3, .int x3)]) (st1 := [.ref P.1]) 1 rfl ?_
  refine me_getf (v := .ref (P.2.1 23)) rfl rfl rfl ?_
  refine me_go (pc1 := 50) (lv1 := [(4, .int (μ.1 19)), (0, .ref P.1), (1, .int x1), (2, .int x2), (3, .int x3)]) (st1 := [.int x3, .int (μ.1 19), .ref (P.2.1 23)]) 2 rfl ?_
  have hi := h.1
  replace h := h.2
  refine me_iast rfl (g := 23) rfl rfl hi ?_
  refine me_go (pc1 := 52) (lv1 := [(4, .int (μ.1 19)), (0, .ref P.1), (1, .int x1), (2, .int x2), (3, .int x3)]) (st1 := [.ref P.1]) 1 rfl ?_
  refine me_getf (v := .ref (P.2.1 24)) rfl rfl rfl ?_
  refine me_go (pc1 := 58) (lv1 := [(4, .int (μ.1 19)), (0, .ref P.1), (1, .int x1), (2, .int x2), (3, .int x3)]) (st1 := [.int (-1), .int (μ.1 19), .ref (P.2.1 24)]) 2 rfl ?_
  have hi := h.1
  replace h := h.2
  refine me_iast rfl (g := 24) rfl rfl hi ?_
  refine me_go (pc1 := 60) (lv1 := [(4, .int (μ.1 19)), (0, .ref P.1), (1, .int x1), (2, .int x2), (3, .int x3)]) (st1 := [.ref P.1]) 1 rfl ?_
  refine me_getf (v := .ref (P.2.1 25)) rfl rfl rfl ?_
  refine me_go (pc1 := 66) (lv1 := [(4, .int (μ.1 19)), (0, .ref P.1), (1, .int x1), (2, .int x2), (3, .int x3)]) (st1 := [.int (-1), .int (μ.1 19), .ref (P.2.1 25)]) 2 rfl ?_
  have hi := h.1
  replace h := h.2
  refine me_iast rfl (g := 25) rfl rfl hi ?_
  refine me_go (pc1 := 68) (lv1 := [(4, .int (μ.1 19)), (0, .ref P.1), (1, .int x1), (2, .int x2), (3, .int x3)]) (st1 := [.ref P.1]) 1 rfl ?_
  refine me_getf (v := .ref (P.2.1 26)) rfl rfl rfl ?_
  refine me_go (pc1 := 74) (lv1 := [(4, .int (μ.1 19)), (0, .ref P.1), (1, .int x1), (2, .int x2), (3, .int x3)]) (st1 := [.int (-1), .int (μ.1 19), .ref (P.2.1 26)]) 2 rfl ?_
  have hi := h.1
  replace h := h.2
  refine me_iast rfl (g := 26) rfl rfl hi ?_
  refine me_go (pc1 := 76) (lv1 := [(4, .int (μ.1 19)), (0, .ref P.1), (1, .int x1), (2, .int x2), (3, .int x3)]) (st1 := [.ref P.1]) 1 rfl ?_
  refine me_getf (v := .ref (P.2.1 27)) rfl rfl rfl ?_
  refine me_go (pc1 := 82) (lv1 := [(4, .int (μ.1 19)), (0, .ref P.1), (1, .int x1), (2, .int x2), (3, .int x3)]) (st1 := [.int (-1), .int (μ.1 19), .ref (P.2.1 27)]) 2 rfl ?_
  have hi := h.1
  replace h := h.2
  refine me_iast rfl (g := 27) rfl rfl hi ?_
  refine me_go (pc1 := 84) (lv1 := [(4, .int (μ.1 19)), (0, .ref P.1), (1, .int x1), (2, .int x2), (3, .int x3)]) (st1 := [.ref P.1]) 1 rfl ?_
  refine me_getf (v := .ref (P.2.1 28)) rfl rfl rfl ?_
  refine me_go (pc1 := 90) (lv1 := [(4, .int (μ.1 19)), (0, .ref P.1), (1, .int x1), (2, .int x2), (3, .int x3)]) (st1 := [.int (-1), .int (μ.1 19), .ref (P.2.1 28)]) 2 rfl ?_
  have hi := h.1
  replace h := h.2
  refine me_iast rfl (g := 28) rfl rfl hi ?_
  refine me_go (pc1 := 92) (lv1 := [(4, .int (μ.1 19)), (0, .ref P.1), (1, .int x1), (2, .int x2), (3, .int x3)]) (st1 := [.ref P.1]) 1 rfl ?_
  refine me_getf (v := .ref (P.2.1 29)) rfl rfl rfl ?_
  refine me_go (pc1 := 98) (lv1 := [(4, .int (μ.1 19)), (0, .ref P.1), (1, .int x1), (2, .int x2), (3, .int x3)]) (st1 := [.ref P.1, .int (μ.1 19), .ref (P.2.1 29)]) 2 rfl ?_
  refine me_getf (v := .int (μ1.1 33)) rfl rfl rfl ?_
  have hi := h.1
  replace h := h.2
  refine me_iast rfl (g := 29) rfl rfl hi ?_
  refine me_go (pc1 := 103) (lv1 := [(4, .int (μ.1 19)), (0, .ref P.1), (1, .int x1), (2, .int x2), (3, .int x3)]) (st1 := [.ref P.1]) 1 rfl ?_
  refine me_getf (v := .ref (P.2.1 30)) rfl rfl rfl ?_
  refine me_go (pc1 := 109) (lv1 := [(4, .int (μ.1 19)), (0, .ref P.1), (1, .int x1), (2, .int x2), (3, .int x3)]) (st1 := [.ref P.1, .int (μ.1 19), .ref (P.2.1 30)]) 2 rfl ?_
  refine me_getf (v := .int (μ1.1 34)) rfl rfl rfl ?_
  have hi := h.1
  replace h := h.2
  refine me_iast rfl (g := 30) rfl rfl hi ?_
  refine me_go (pc1 := 114) (lv1 := [(4, .int (μ.1 19)), (0, .ref P.1), (1, .int x1), (2, .int x2), (3, .int x3)]) (st1 := [.ref P.1]) 1 rfl ?_
  refine me_getf (v := .ref (P.2.1 31)) rfl rfl rfl ?_
  refine me_go (pc1 := 120) (lv1 := [(4, .int (μ.1 19)), (0, .ref P.1), (1, .int x1), (2, .int x2), (3, .int x3)]) (st1 := [.ref P.1, .int (μ.1 19), .ref (P.2.1 31)]) 2 rfl ?_
  refine me_callN rfl rfl rfl (h.mono (fun r2 μ2 h => ?_) (fun _ h => h))
  have hi := h.1
  replace h := h.2
  refine me_iast rfl (g := 31) rfl rfl hi ?_
  refine me_go (pc1 := 126) (lv1 := [(4, .int (μ.1 19)), (0, .ref P.1), (1, .int x1), (2, .int x2), (3, .int x3)]) (st1 := [.int (μ.1 19)]) 1 rfl ?_
  exact me_ret rfl rfl rfl h
theorem v_look_0 {X : ev_X} {W : Nat → Prop} {d : Nat} {P : MP} {μ : MS} {R : Int32 → MS → Prop} {T : MS → Prop}  (h : (MI (μ.1 32) (μ.2.2 9) ∧ ((¬ (μ.2.1 9 ((μ.1 32)).toNatClampNeg) = 202 → R 0 μ) ∧ ((μ.2.1 9 ((μ.1 32)).toNatClampNeg) = 202 → MC X W true d 291 [.ref P.1] P μ (fun r1 μ1 => MC X W true d 289 [.ref P.1, .int 1, .int r1] P μ1 (fun r2 μ2 => R 0 μ2) T) (fun _ => False))))) : ME X W true d 293 0 [(0, .ref P.1)] [] P μ R T := by
  refine me_go (pc1 := 1) (lv1 := [(0, .ref P.1)]) (st1 := [.ref P.1]) 1 rfl ?_
  refine me_getf (v := .ref (P.2.1 9)) rfl rfl rfl ?_
  refine me_go (pc1 := 5) (lv1 := [(0, .ref P.1)]) (st1 := [.ref P.1, .ref (P.2.1 9)]) 1 rfl ?_
  refine me_getf (v := .int (μ.1 32)) rfl rfl rfl ?_
  refine me_iald rfl (g := 9) rfl rfl h.1 ?_
  replace h := h.2
  refine me_go (pc1 := 12) (lv1 := [(0, .ref P.1)]) (st1 := [.int 202, .int (μ.2.1 9 ((μ.1 32)).toNatClampNeg)]) 1 rfl ?_
  refine me_icmp rfl rfl (fun c => ?_) (fun c => ?_)
  · replace h := h.1 (ci_ne c)
    exact me_ret (v := none) (r := 0) rfl rfl rfl h
  · replace h := h.2 (cn_ne c)
    refine me_go (pc1 := 18) (lv1 := [(0, .ref P.1)]) (st1 := [.ref P.1, .int 1, .ref P.1]) 3 rfl ?_
    refine me_callN rfl rfl rfl (h.mono (fun r1 μ1 h => ?_) (fun _ h => h))
    refine me_call rfl rfl rfl rfl (h.mono (fun r2 μ2 h => ?_) (fun _ h => h))
    exact me_ret (v := none) (r := 0) rfl rfl rfl h
theorem v_next_0 {X : ev_X} {W : Nat → Prop} {d : Nat} {P : MP} {μ : MS} {R : Int32 → MS → Prop} {T : MS → Prop}  (h : MC X W true d 293 [.ref P.1] P (mS1 μ 32 ((μ.1 32) + 1)) (fun r1 μ1 => R 0 μ1) T) : ME X W true d 294 0 [(0, .ref P.1)] [] P μ R T := by
  refine me_go (pc1 := 2) (lv1 := [(0, .ref P.1)]) (st1 := [.ref P.1, .ref P.1]) 2 rfl ?_
  refine me_getf (v := .int (μ.1 32)) rfl rfl rfl ?_
  refine me_go (pc1 := 7) (lv1 := [(0, .ref P.1)]) (st1 := [.int ((μ.1 32) + 1), .ref P.1]) 2 rfl ?_
  refine me_put rfl rfl rfl ?_
  refine me_go (pc1 := 11) (lv1 := [(0, .ref P.1)]) (st1 := [.ref P.1]) 1 rfl ?_
  refine me_call rfl rfl rfl rfl (h.mono (fun r1 μ1 h => ?_) (fun _ h => h))
  exact me_ret (v := none) (r := 0) rfl rfl rfl h
theorem v_unfit_0 {X : ev_X} {W : Nat → Prop} {d : Nat} {P : MP} {μ : MS} {R : Int32 → MS → Prop} {T : MS → Prop}  (h : MC X W true d 291 [.ref P.1] P μ (fun r1 μ1 => MC X W true d 289 [.ref P.1, .int 2, .int r1] P μ1 (fun r2 μ2 => R 0 μ2) T) (fun _ => False)) : ME X W true d 295 0 [(0, .ref P.1)] [] P μ R T := by
  refine me_go (pc1 := 3) (lv1 := [(0, .ref P.1)]) (st1 := [.ref P.1, .int 2, .ref P.1]) 3 rfl ?_
  refine me_callN rfl rfl rfl (h.mono (fun r1 μ1 h => ?_) (fun _ h => h))
  refine me_call rfl rfl rfl rfl (h.mono (fun r2 μ2 h => ?_) (fun _ h => h))
  exact me_ret (v := none) (r := 0) rfl rfl rfl h
theorem v_is_0 {X : ev_X} {W : Nat → Prop} {d : Nat} {P : MP} {μ : MS} {R : Int32 → MS → Prop} {T : MS → Prop} (x1 : Int32) (h : (MI (μ.1 32) (μ.2.2 9) ∧ ((¬ (μ.2.1 9 ((μ.1 32)).toNatClampNeg) = x1 → R 0 μ) ∧ ((μ.2.1 9 ((μ.1 32)).toNatClampNeg) = x1 → R 1 μ)))) : ME X W true d 296 0 [(0, .ref P.1), (1, .int x1)] [] P μ R T := by
  refine me_go (pc1 := 1) (lv1 := [(0, .ref P.1), (1, .int x1)]) (st1 := [.ref P.1]) 1 rfl ?_
  refine me_getf (v := .ref (P.2.1 9)) rfl rfl rfl ?_
  refine me_go (pc1 := 5) (lv1 := [(0, .ref P.1), (1, .int x1)]) (st1 := [.ref P.1, .ref (P.2.1 9)]) 1 rfl ?_
  refine me_getf (v := .int (μ.1 32)) rfl rfl rfl ?_
  refine me_iald rfl (g := 9) rfl rfl h.1 ?_
  replace h := h.2
  refine me_go (pc1 := 10) (lv1 := [(0, .ref P.1), (1, .int x1)]) (st1 := [.int x1, .int (μ.2.1 9 ((μ.1 32)).toNatClampNeg)]) 1 rfl ?_
  refine me_icmp rfl rfl (fun c => ?_) (fun c => ?_)
  · replace h := h.1 (ci_ne c)
    refine me_go (pc1 := 18) (lv1 := [(0, .ref P.1), (1, .int x1)]) (st1 := [.int 0]) 1 rfl ?_
    exact me_retB rfl rfl (by decide) h
  · replace h := h.2 (cn_ne c)
    refine me_go (pc1 := 18) (lv1 := [(0, .ref P.1), (1, .int x1)]) (st1 := [.int 1]) 2 rfl ?_
    exact me_retB rfl rfl (by decide) h
theorem v_expect_0 {X : ev_X} {W : Nat → Prop} {d : Nat} {P : MP} {μ : MS} {R : Int32 → MS → Prop} {T : MS → Prop} (x1 : Int32) (h : MC X W true d 296 [.ref P.1, .int x1] P μ (fun r1 μ1 => ((¬ r1 = 0 → MC X W true d 294 [.ref P.1] P μ1 (fun r2 μ2 => R 0 μ2) T) ∧ (r1 = 0 → MC X W true d 295 [.ref P.1] P μ1 (fun r3 μ3 => MC X W true d 294 [.ref P.1] P μ3 (fun r4 μ4 => R 0 μ4) T) T))) (fun _ => False)) : ME X W true d 297 0 [(0, .ref P.1), (1, .int x1)] [] P μ R T := by
  refine me_go (pc1 := 2) (lv1 := [(0, .ref P.1), (1, .int x1)]) (st1 := [.int x1, .ref P.1]) 2 rfl ?_
  refine me_callN rfl rfl rfl (h.mono (fun r1 μ1 h => ?_) (fun _ h => h))
  refine me_ifc rfl rfl (fun c => ?_) (fun c => ?_)
  · replace h := h.1 (ci_ne c)
    refine me_go (pc1 := 13) (lv1 := [(0, .ref P.1), (1, .int x1)]) (st1 := [.ref P.1]) 1 rfl ?_
    refine me_call rfl rfl rfl rfl (h.mono (fun r2 μ2 h => ?_) (fun _ h => h))
    exact me_ret (v := none) (r := 0) rfl rfl rfl h
  · replace h := h.2 (cn_ne c)
    refine me_go (pc1 := 9) (lv1 := [(0, .ref P.1), (1, .int x1)]) (st1 := [.ref P.1]) 1 rfl ?_
    refine me_call rfl rfl rfl rfl (h.mono (fun r3 μ3 h => ?_) (fun _ h => h))
    refine me_go (pc1 := 13) (lv1 := [(0, .ref P.1), (1, .int x1)]) (st1 := [.ref P.1]) 1 rfl ?_
    refine me_call rfl rfl rfl rfl (h.mono (fun r4 μ4 h => ?_) (fun _ h => h))
    exact me_ret (v := none) (r := 0) rfl rfl rfl h
theorem v_name_0 {X : ev_X} {W : Nat → Prop} {d : Nat} {P : MP} {μ : MS} {R : Int32 → MS → Prop} {T : MS → Prop}  (h : MC X W true d 296 [.ref P.1, .int 200] P μ (fun r1 μ1 => ((¬ r1 = 0 → (MI (μ1.1 32) (μ1.2.2 10) ∧ MC X W true d 294 [.ref P.1] P μ1 (fun r2 μ2 => R (μ1.2.1 10 ((μ1.1 32)).toNatClampNeg) μ2) T)) ∧ (r1 = 0 → MC X W true d 295 [.ref P.1] P μ1 (fun r3 μ3 => (MI (μ3.1 32) (μ3.2.2 10) ∧ MC X W true d 294 [.ref P.1] P μ3 (fun r4 μ4 => R (μ3.2.1 10 ((μ3.1 32)).toNatClampNeg) μ4) T)) T))) (fun _ => False)) : ME X W true d 298 0 [(0, .ref P.1)] [] P μ R T := by
  refine me_go (pc1 := 4) (lv1 := [(0, .ref P.1)]) (st1 := [.int 200, .ref P.1]) 2 rfl ?_
  refine me_callN rfl rfl rfl (h.mono (fun r1 μ1 h => ?_) (fun _ h => h))
  refine me_ifc rfl rfl (fun c => ?_) (fun c => ?_)
  · replace h := h.1 (ci_ne c)
    refine me_go (pc1 := 15) (lv1 := [(0, .ref P.1)]) (st1 := [.ref P.1]) 1 rfl ?_
    refine me_getf (v := .ref (P.2.1 10)) rfl rfl rfl ?_
    refine me_go (pc1 := 19) (lv1 := [(0, .ref P.1)]) (st1 := [.ref P.1, .ref (P.2.1 10)]) 1 rfl ?_
    refine me_getf (v := .int (μ1.1 32)) rfl rfl rfl ?_
    refine me_iald rfl (g := 10) rfl rfl h.1 ?_
    replace h := h.2
    refine me_go (pc1 := 25) (lv1 := [(1, .int (μ1.2.1 10 ((μ1.1 32)).toNatClampNeg)), (0, .ref P.1)]) (st1 := [.ref P.1]) 2 rfl ?_
    refine me_call rfl rfl rfl rfl (h.mono (fun r2 μ2 h => ?_) (fun _ h => h))
    refine me_go (pc1 := 29) (lv1 := [(1, .int (μ1.2.1 10 ((μ1.1 32)).toNatClampNeg)), (0, .ref P.1)]) (st1 := [.int (μ1.2.1 10 ((μ1.1 32)).toNatClampNeg)]) 1 rfl ?_
    exact me_ret rfl rfl rfl h
  · replace h := h.2 (cn_ne c)
    refine me_go (pc1 := 11) (lv1 := [(0, .ref P.1)]) (st1 := [.ref P.1]) 1 rfl ?_
    refine me_call rfl rfl rfl rfl (h.mono (fun r3 μ3 h => ?_) (fun _ h => h))
    refine me_go (pc1 := 15) (lv1 := [(0, .ref P.1)]) (st1 := [.ref P.1]) 1 rfl ?_
    refine me_getf (v := .ref (P.2.1 10)) rfl rfl rfl ?_
    refine me_go (pc1 := 19) (lv1 := [(0, .ref P.1)]) (st1 := [.ref P.1, .ref (P.2.1 10)]) 1 rfl ?_
    refine me_getf (v := .int (μ3.1 32)) rfl rfl rfl ?_
    refine me_iald rfl (g := 10) rfl rfl h.1 ?_
    replace h := h.2
    refine me_go (pc1 := 25) (lv1 := [(1, .int (μ3.2.1 10 ((μ3.1 32)).toNatClampNeg)), (0, .ref P.1)]) (st1 := [.ref P.1]) 2 rfl ?_
    refine me_call rfl rfl rfl rfl (h.mono (fun r4 μ4 h => ?_) (fun _ h => h))
    refine me_go (pc1 := 29) (lv1 := [(1, .int (μ3.2.1 10 ((μ3.1 32)).toNatClampNeg)), (0, .ref P.1)]) (st1 := [.int (μ3.2.1 10 ((μ3.1 32)).toNatClampNeg)]) 1 rfl ?_
    exact me_ret rfl rfl rfl h
theorem v_open_0 {X : ev_X} {W : Nat → Prop} {d : Nat} {P : MP} {μ : MS} {R : Int32 → MS → Prop} {T : MS → Prop} (x1 : Int32) (h : MC X W true d 296 [.ref P.1, .int x1] P μ (fun r1 μ1 => ((¬ r1 = 0 → ((¬ (μ1.1 37) = 20 → MC X W true d 294 [.ref P.1] P (mS1 μ1 37 ((μ1.1 37) + 1)) (fun r2 μ2 => R 0 μ2) T) ∧ ((μ1.1 37) = 20 → MC X W true d 291 [.ref P.1] P μ1 (fun r3 μ3 => MC X W true d 289 [.ref P.1, .int 3, .int r3] P μ3 (fun r4 μ4 => MC X W true d 294 [.ref P.1] P (mS1 μ4 37 ((μ4.1 37) + 1)) (fun r5 μ5 => R 0 μ5) T) T) (fun _ => False)))) ∧ (r1 = 0 → MC X W true d 295 [.ref P.1] P μ1 (fun r6 μ6 => ((¬ (μ6.1 37) = 20 → MC X W true d 294 [.ref P.1] P (mS1 μ6 37 ((μ6.1 37) + 1)) (fun r7 μ7 => R 0 μ7) T) ∧ ((μ6.1 37) = 20 → MC X W true d 291 [.ref P.1] P μ6 (fun r8 μ8 => MC X W true d 289 [.ref P.1, .int 3, .int r8] P μ8 (fun r9 μ9 => MC X W true d 294 [.ref P.1] P (mS1 μ9 37 ((μ9.1 37) + 1)) (fun r10 μ10 => R 0 μ10) T) T) (fun _ => False)))) T))) (fun _ => False)) : ME X W true d 299 0 [(0, .ref P.1), (1, .int x1)] [] P μ R T := by
  refine me_go (pc1 := 2) (lv1 := [(0, .ref P.1), (1, .int x1)]) (st1 := [.int x1, .ref P.1]) 2 rfl ?_
  refine me_callN rfl rfl rfl (h.mono (fun r1 μ1 h => ?_) (fun _ h => h))
  refine me_ifc rfl rfl (fun c => ?_) (fun c => ?_)
  · replace h := h.1 (ci_ne c)
    refine me_go (pc1 := 13) (lv1 := [(0, .ref P.1), (1, .int x1)]) (st1 := [.ref P.1]) 1 rfl ?_
    refine me_getf (v := .int (μ1.1 37)) rfl rfl rfl ?_
    refine me_go (pc1 := 18) (lv1 := [(0, .ref P.1), (1, .int x1)]) (st1 := [.int 20, .int (μ1.1 37)]) 1 rfl ?_
    refine me_icmp rfl rfl (fun c => ?_) (fun c => ?_)
    · replace h := h.1 (ci_ne c)
      refine me_go (pc1 := 32) (lv1 := [(0, .ref P.1), (1, .int x1)]) (st1 := [.ref P.1, .ref P.1]) 2 rfl ?_
      refine me_getf (v := .int (μ1.1 37)) rfl rfl rfl ?_
      refine me_go (pc1 := 37) (lv1 := [(0, .ref P.1), (1, .int x1)]) (st1 := [.int ((μ1.1 37) + 1), .ref P.1]) 2 rfl ?_
      refine me_put rfl rfl rfl ?_
      refine me_go (pc1 := 41) (lv1 := [(0, .ref P.1), (1, .int x1)]) (st1 := [.ref P.1]) 1 rfl ?_
      refine me_call rfl rfl rfl rfl (h.mono (fun r2 μ2 h => ?_) (fun _ h => h))
      exact me_ret (v := none) (r := 0) rfl rfl rfl h
    · replace h := h.2 (cn_ne c)
      refine me_go (pc1 := 24) (lv1 := [(0, .ref P.1), (1, .int x1)]) (st1 := [.ref P.1, .int 3, .ref P.1]) 3 rfl ?_
      refine me_callN rfl rfl rfl (h.mono (fun r3 μ3 h => ?_) (fun _ h => h))
      refine me_call rfl rfl rfl rfl (h.mono (fun r4 μ4 h => ?_) (fun _ h => h))
      refine me_go (pc1 := 32) (lv1 := [(0, .ref P.1), (1, .int x1)]) (st1 := [.ref P.1, .ref P.1]) 2 rfl ?_
      refine me_getf (v := .int (μ4.1 37)) rfl rfl rfl ?_
      refine me_go (pc1 := 37) (lv1 := [(0, .ref P.1), (1, .int x1)]) (st1 := [.int ((μ4.1 37) + 1), .ref P.1]) 2 rfl ?_
      refine me_put rfl rfl rfl ?_
      refine me_go (pc1 := 41) (lv1 := [(0, .ref P.1), (1, .int x1)]) (st1 := [.ref P.1]) 1 rfl ?_
      refine me_call rfl rfl rfl rfl (h.mono (fun r5 μ5 h => ?_) (fun _ h => h))
      exact me_ret (v := none) (r := 0) rfl rfl rfl h
  · replace h := h.2 (cn_ne c)
    refine me_go (pc1 := 9) (lv1 := [(0, .ref P.1), (1, .int x1)]) (st1 := [.ref P.1]) 1 rfl ?_
    refine me_call rfl rfl rfl rfl (h.mono (fun r6 μ6 h => ?_) (fun _ h => h))
    refine me_go (pc1 := 13) (lv1 := [(0, .ref P.1), (1, .int x1)]) (st1 := [.ref P.1]) 1 rfl ?_
    refine me_getf (v := .int (μ6.1 37)) rfl rfl rfl ?_
    refine me_go (pc1 := 18) (lv1 := [(0, .ref P.1), (1, .int x1)]) (st1 := [.int 20, .int (μ6.1 37)]) 1 rfl ?_
    refine me_icmp rfl rfl (fun c => ?_) (fun c => ?_)
    · replace h := h.1 (ci_ne c)
      refine me_go (pc1 := 32) (lv1 := [(0, .ref P.1), (1, .int x1)]) (st1 := [.ref P.1, .ref P.1]) 2 rfl ?_
      refine me_getf (v := .int (μ6.1 37)) rfl rfl rfl ?_
      refine me_go (pc1 := 37) (lv1 := [(0, .ref P.1), (1, .int x1)]) (st1 := [.int ((μ6.1 37) + 1), .ref P.1]) 2 rfl ?_
      refine me_put rfl rfl rfl ?_
      refine me_go (pc1 := 41) (lv1 := [(0, .ref P.1), (1, .int x1)]) (st1 := [.ref P.1]) 1 rfl ?_
      refine me_call rfl rfl rfl rfl (h.mono (fun r7 μ7 h => ?_) (fun _ h => h))
      exact me_ret (v := none) (r := 0) rfl rfl rfl h
    · replace h := h.2 (cn_ne c)
      refine me_go (pc1 := 24) (lv1 := [(0, .ref P.1), (1, .int x1)]) (st1 := [.ref P.1, .int 3, .ref P.1]) 3 rfl ?_
      refine me_callN rfl rfl rfl (h.mono (fun r8 μ8 h => ?_) (fun _ h => h))
      refine me_call rfl rfl rfl rfl (h.mono (fun r9 μ9 h => ?_) (fun _ h => h))
      refine me_go (pc1 := 32) (lv1 := [(0, .ref P.1), (1, .int x1)]) (st1 := [.ref P.1, .ref P.1]) 2 rfl ?_
      refine me_getf (v := .int (μ9.1 37)) rfl rfl rfl ?_
      refine me_go (pc1 := 37) (lv1 := [(0, .ref P.1), (1, .int x1)]) (st1 := [.int ((μ9.1 37) + 1), .ref P.1]) 2 rfl ?_
      refine me_put rfl rfl rfl ?_
      refine me_go (pc1 := 41) (lv1 := [(0, .ref P.1), (1, .int x1)]) (st1 := [.ref P.1]) 1 rfl ?_
      refine me_call rfl rfl rfl rfl (h.mono (fun r10 μ10 h => ?_) (fun _ h => h))
      exact me_ret (v := none) (r := 0) rfl rfl rfl h
theorem v_close_0 {X : ev_X} {W : Nat → Prop} {d : Nat} {P : MP} {μ : MS} {R : Int32 → MS → Prop} {T : MS → Prop} (x1 : Int32) (h : MC X W true d 297 [.ref P.1, .int x1] P μ (fun r1 μ1 => R 0 (mS1 μ1 37 ((μ1.1 37) - 1))) T) : ME X W true d 300 0 [(0, .ref P.1), (1, .int x1)] [] P μ R T := by
  refine me_go (pc1 := 2) (lv1 := [(0, .ref P.1), (1, .int x1)]) (st1 := [.int x1, .ref P.1]) 2 rfl ?_
  refine me_call rfl rfl rfl rfl (h.mono (fun r1 μ1 h => ?_) (fun _ h => h))
  refine me_go (pc1 := 7) (lv1 := [(0, .ref P.1), (1, .int x1)]) (st1 := [.ref P.1, .ref P.1]) 2 rfl ?_
  refine me_getf (v := .int (μ1.1 37)) rfl rfl rfl ?_
  refine me_go (pc1 := 12) (lv1 := [(0, .ref P.1), (1, .int x1)]) (st1 := [.int ((μ1.1 37) - 1), .ref P.1]) 2 rfl ?_
  refine me_put rfl rfl rfl ?_
  exact me_ret (v := none) (r := 0) rfl rfl rfl h
theorem v_parse_0 {X : ev_X} {W : Nat → Prop} {d : Nat} {P : MP} {μ : MS} {R : Int32 → MS → Prop} {T : MS → Prop}  (h : MC X W true d 293 [.ref P.1] P (mS1 (mS1 (mS1 (mS1 (mS1 (mS1 (mS1 (mS1 (mS1 μ 19 0) 32 0) 33 0) 34 0) 41 0) 37 0) 38 0) 39 0) 40 0) (fun r1 μ1 => ME X W true d 301 51 [(0, .ref P.1), (1, .int 1)] [] P μ1 R T) T) : ME X W true d 301 0 [(0, .ref P.1)] [] P μ R T := by
  refine me_go (pc1 := 2) (lv1 := [(0, .ref P.1)]) (st1 := [.int 0, .ref P.1]) 2 rfl ?_
  refine me_put rfl rfl rfl ?_
  refine me_go (pc1 := 7) (lv1 := [(0, .ref P.1)]) (st1 := [.int 0, .ref P.1]) 2 rfl ?_
  refine me_put rfl rfl rfl ?_
  refine me_go (pc1 := 12) (lv1 := [(0, .ref P.1)]) (st1 := [.int 0, .ref P.1]) 2 rfl ?_
  refine me_put rfl rfl rfl ?_
  refine me_go (pc1 := 17) (lv1 := [(0, .ref P.1)]) (st1 := [.int 0, .ref P.1]) 2 rfl ?_
  refine me_put rfl rfl rfl ?_
  refine me_go (pc1 := 22) (lv1 := [(0, .ref P.1)]) (st1 := [.int 0, .ref P.1]) 2 rfl ?_
  refine me_put rfl rfl rfl ?_
  refine me_go (pc1 := 27) (lv1 := [(0, .ref P.1)]) (st1 := [.int 0, .ref P.1]) 2 rfl ?_
  refine me_put rfl rfl rfl ?_
  refine me_go (pc1 := 32) (lv1 := [(0, .ref P.1)]) (st1 := [.int 0, .ref P.1]) 2 rfl ?_
  refine me_put rfl rfl rfl ?_
  refine me_go (pc1 := 37) (lv1 := [(0, .ref P.1)]) (st1 := [.int 0, .ref P.1]) 2 rfl ?_
  refine me_put rfl rfl rfl ?_
  refine me_go (pc1 := 42) (lv1 := [(0, .ref P.1)]) (st1 := [.int 0, .ref P.1]) 2 rfl ?_
  refine me_put rfl rfl rfl ?_
  refine me_go (pc1 := 46) (lv1 := [(0, .ref P.1)]) (st1 := [.ref P.1]) 1 rfl ?_
  refine me_call rfl rfl rfl rfl (h.mono (fun r1 μ1 h => ?_) (fun _ h => h))
  refine me_go (pc1 := 51) (lv1 := [(1, .int 1), (0, .ref P.1)]) (st1 := []) 2 rfl ?_
  refine me_lv [(0, .ref P.1), (1, .int 1)] (fl_c rfl (fl_c rfl fl_0)) ?_
  exact h
theorem v_parse_51 {X : ev_X} {W : Nat → Prop} {d : Nat} {P : MP} {μ : MS} {R : Int32 → MS → Prop} {T : MS → Prop} (x1 : Int32) (h : ((x1 = 0 → R 0 μ) ∧ (¬ x1 = 0 → MC X W true d 296 [.ref P.1, .int 21] P μ (fun r1 μ1 => ((¬ r1 = 0 → ((¬ (μ1.1 41) = 12 → (MI (μ1.1 41) (μ1.2.2 42) ∧ MC X W true d 302 [.ref P.1] P (mS1 (mA1 μ1 42 (((μ1.1 41)).toNatClampNeg) (-1)) 33 (μ1.1 41)) (fun r2 μ2 => MC X W true d 296 [.ref P.1, .int 203] P (mS1 μ2 41 ((μ2.1 41) + 1)) (fun r3 μ3 => ((¬ r3 = 0 → ME X W true d 301 51 [(0, .ref P.1), (1, .int 0)] [] P μ3 R T) ∧ (r3 = 0 → ME X W true d 301 51 [(0, .ref P.1), (1, .int 1)] [] P μ3 R T))) (fun _ => False)) T)) ∧ ((μ1.1 41) = 12 → MC X W true d 295 [.ref P.1] P μ1 (fun r4 μ4 => (MI (μ4.1 41) (μ4.2.2 42) ∧ MC X W true d 302 [.ref P.1] P (mS1 (mA1 μ4 42 (((μ4.1 41)).toNatClampNeg) (-1)) 33 (μ4.1 41)) (fun r5 μ5 => MC X W true d 296 [.ref P.1, .int 203] P (mS1 μ5 41 ((μ5.1 41) + 1)) (fun r6 μ6 => ((¬ r6 = 0 → ME X W true d 301 51 [(0, .ref P.1), (1, .int 0)] [] P μ6 R T) ∧ (r6 = 0 → ME X W true d 301 51 [(0, .ref P.1), (1, .int 1)] [] P μ6 R T))) (fun _ => False)) T)) T))) ∧ (r1 = 0 → MC X W true d 296 [.ref P.1, .int 28] P μ1 (fun r7 μ7 => ((r7 = 0 → MC X W true d 295 [.ref P.1] P μ7 (fun r8 μ8 => (MI (μ8.1 41) (μ8.2.2 42) ∧ MC X W true d 302 [.ref P.1] P (mS1 (mA1 μ8 42 (((μ8.1 41)).toNatClampNeg) (-1)) 33 (μ8.1 41)) (fun r9 μ9 => MC X W true d 296 [.ref P.1, .int 203] P (mS1 μ9 41 ((μ9.1 41) + 1)) (fun r10 μ10 => ((¬ r10 = 0 → ME X W true d 301 51 [(0, .ref P.1), (1, .int 0)] [] P μ10 R T) ∧ (r10 = 0 → ME X W true d 301 51 [(0, .ref P.1), (1, .int 1)] [] P μ10 R T))) (fun _ => False)) T)) T) ∧ (¬ r7 = 0 → ((¬ (μ7.1 41) = 12 → (MI (μ7.1 41) (μ7.2.2 42) ∧ MC X W true d 302 [.ref P.1] P (mS1 (mA1 μ7 42 (((μ7.1 41)).toNatClampNeg) (-1)) 33 (μ7.1 41)) (fun r11 μ11 => MC X W true d 296 [.ref P.1, .int 203] P (mS1 μ11 41 ((μ11.1 41) + 1)) (fun r12 μ12 => ((¬ r12 = 0 → ME X W true d 301 51 [(0, .ref P.1), (1, .int 0)] [] P μ12 R T) ∧ (r12 = 0 → ME X W true d 301 51 [(0, .ref P.1), (1, .int 1)] [] P μ12 R T))) (fun _ => False)) T)) ∧ ((μ7.1 41) = 12 → MC X W true d 295 [.ref P.1] P μ7 (fun r13 μ13 => (MI (μ13.1 41) (μ13.2.2 42) ∧ MC X W true d 302 [.ref P.1] P (mS1 (mA1 μ13 42 (((μ13.1 41)).toNatClampNeg) (-1)) 33 (μ13.1 41)) (fun r14 μ14 => MC X W true d 296 [.ref P.1, .int 203] P (mS1 μ14 41 ((μ14.1 41) + 1)) (fun r15 μ15 => ((¬ r15 = 0 → ME X W true d 301 51 [(0, .ref P.1), (1, .int 0)] [] P μ15 R T) ∧ (r15 = 0 → ME X W true d 301 51 [(0, .ref P.1), (1, .int 1)] [] P μ15 R T))) (fun _ => False)) T)) T))))) (fun _ => False)))) (fun _ => False)))) : ME X W true d 301 51 [(0, .ref P.1), (1, .int x1)] [] P μ R T := by
  refine me_go (pc1 := 52) (lv1 := [(0, .ref P.1), (1, .int x1)]) (st1 := [.int x1]) 1 rfl ?_
  refine me_ifc rfl rfl (fun c => ?_) (fun c => ?_)
  · replace h := h.1 (ci_eq c)
    exact me_ret (v := none) (r := 0) rfl rfl rfl h
  · replace h := h.2 (cn_eq c)
    refine me_go (pc1 := 58) (lv1 := [(0, .ref P.1), (1, .int x1)]) (st1 := [.int 21, .ref P.1]) 2 rfl ?_
    refine me_callN rfl rfl rfl (h.mono (fun r1 μ1 h => ?_) (fun _ h => h))
    refine me_ifc rfl rfl (fun c => ?_) (fun c => ?_)
    · replace h := h.1 (ci_ne c)
      refine me_go (pc1 := 74) (lv1 := [(0, .ref P.1), (1, .int x1)]) (st1 := [.ref P.1]) 1 rfl ?_
      refine me_getf (v := .int (μ1.1 41)) rfl rfl rfl ?_
      refine me_go (pc1 := 79) (lv1 := [(0, .ref P.1), (1, .int x1)]) (st1 := [.int 12, .int (μ1.1 41)]) 1 rfl ?_
      refine me_icmp rfl rfl (fun c => ?_) (fun c => ?_)
      · replace h := h.1 (ci_ne c)
        refine me_go (pc1 := 87) (lv1 := [(0, .ref P.1), (1, .int x1)]) (st1 := [.ref P.1]) 1 rfl ?_
        refine me_getf (v := .ref (P.2.1 42)) rfl rfl rfl ?_
        refine me_go (pc1 := 91) (lv1 := [(0, .ref P.1), (1, .int x1)]) (st1 := [.ref P.1, .ref (P.2.1 42)]) 1 rfl ?_
        refine me_getf (v := .int (μ1.1 41)) rfl rfl rfl ?_
        refine me_go (pc1 := 95) (lv1 := [(0, .ref P.1), (1, .int x1)]) (st1 := [.int (-1), .int (μ1.1 41), .ref (P.2.1 42)]) 1 rfl ?_
        have hi := h.1
        replace h := h.2
        refine me_iast rfl (g := 42) rfl rfl hi ?_
        refine me_go (pc1 := 98) (lv1 := [(0, .ref P.1), (1, .int x1)]) (st1 := [.ref P.1, .ref P.1]) 2 rfl ?_
        refine me_getf (v := .int (μ1.1 41)) rfl rfl rfl ?_
        refine me_put rfl rfl rfl ?_
        refine me_go (pc1 := 105) (lv1 := [(0, .ref P.1), (1, .int x1)]) (st1 := [.ref P.1]) 1 rfl ?_
        refine me_call rfl rfl rfl rfl (h.mono (fun r2 μ2 h => ?_) (fun _ h => h))
        refine me_go (pc1 := 110) (lv1 := [(0, .ref P.1), (1, .int x1)]) (st1 := [.ref P.1, .ref P.1]) 2 rfl ?_
        refine me_getf (v := .int (μ2.1 41)) rfl rfl rfl ?_
        refine me_go (pc1 := 115) (lv1 := [(0, .ref P.1), (1, .int x1)]) (st1 := [.int ((μ2.1 41) + 1), .ref P.1]) 2 rfl ?_
        refine me_put rfl rfl rfl ?_
        refine me_go (pc1 := 122) (lv1 := [(0, .ref P.1), (1, .int x1)]) (st1 := [.int 203, .ref P.1]) 2 rfl ?_
        refine me_callN rfl rfl rfl (h.mono (fun r3 μ3 h => ?_) (fun _ h => h))
        refine me_ifc rfl rfl (fun c => ?_) (fun c => ?_)
        · replace h := h.1 (ci_ne c)
          refine me_go (pc1 := 51) (lv1 := [(1, .int 0), (0, .ref P.1)]) (st1 := []) 3 rfl ?_
          refine me_lv [(0, .ref P.1), (1, .int 0)] (fl_c rfl (fl_c rfl fl_0)) ?_
          exact h
        · replace h := h.2 (cn_ne c)
          refine me_go (pc1 := 51) (lv1 := [(1, .int 1), (0, .ref P.1)]) (st1 := []) 4 rfl ?_
          refine me_lv [(0, .ref P.1), (1, .int 1)] (fl_c rfl (fl_c rfl fl_0)) ?_
          exact h
      · replace h := h.2 (cn_ne c)
        refine me_go (pc1 := 83) (lv1 := [(0, .ref P.1), (1, .int x1)]) (st1 := [.ref P.1]) 1 rfl ?_
        refine me_call rfl rfl rfl rfl (h.mono (fun r4 μ4 h => ?_) (fun _ h => h))
        refine me_go (pc1 := 87) (lv1 := [(0, .ref P.1), (1, .int x1)]) (st1 := [.ref P.1]) 1 rfl ?_
        refine me_getf (v := .ref (P.2.1 42)) rfl rfl rfl ?_
        refine me_go (pc1 := 91) (lv1 := [(0, .ref P.1), (1, .int x1)]) (st1 := [.ref P.1, .ref (P.2.1 42)]) 1 rfl ?_
        refine me_getf (v := .int (μ4.1 41)) rfl rfl rfl ?_
        refine me_go (pc1 := 95) (lv1 := [(0, .ref P.1), (1, .int x1)]) (st1 := [.int (-1), .int (μ4.1 41), .ref (P.2.1 42)]) 1 rfl ?_
        have hi := h.1
        replace h := h.2
        refine me_iast rfl (g := 42) rfl rfl hi ?_
        refine me_go (pc1 := 98) (lv1 := [(0, .ref P.1), (1, .int x1)]) (st1 := [.ref P.1, .ref P.1]) 2 rfl ?_
        refine me_getf (v := .int (μ4.1 41)) rfl rfl rfl ?_
        refine me_put rfl rfl rfl ?_
        refine me_go (pc1 := 105) (lv1 := [(0, .ref P.1), (1, .int x1)]) (st1 := [.ref P.1]) 1 rfl ?_
        refine me_call rfl rfl rfl rfl (h.mono (fun r5 μ5 h => ?_) (fun _ h => h))
        refine me_go (pc1 := 110) (lv1 := [(0, .ref P.1), (1, .int x1)]) (st1 := [.ref P.1, .ref P.1]) 2 rfl ?_
        refine me_getf (v := .int (μ5.1 41)) rfl rfl rfl ?_
        refine me_go (pc1 := 115) (lv1 := [(0, .ref P.1), (1, .int x1)]) (st1 := [.int ((μ5.1 41) + 1), .ref P.1]) 2 rfl ?_
        refine me_put rfl rfl rfl ?_
        refine me_go (pc1 := 122) (lv1 := [(0, .ref P.1), (1, .int x1)]) (st1 := [.int 203, .ref P.1]) 2 rfl ?_
        refine me_callN rfl rfl rfl (h.mono (fun r6 μ6 h => ?_) (fun _ h => h))
        refine me_ifc rfl rfl (fun c => ?_) (fun c => ?_)
        · replace h := h.1 (ci_ne c)
          refine me_go (pc1 := 51) (lv1 := [(1, .int 0), (0, .ref P.1)]) (st1 := []) 3 rfl ?_
          refine me_lv [(0, .ref P.1), (1, .int 0)] (fl_c rfl (fl_c rfl fl_0)) ?_
          exact h
        · replace h := h.2 (cn_ne c)
          refine me_go (pc1 := 51) (lv1 := [(1, .int 1), (0, .ref P.1)]) (st1 := []) 4 rfl ?_
          refine me_lv [(0, .ref P.1), (1, .int 1)] (fl_c rfl (fl_c rfl fl_0)) ?_
          exact h
    · replace h := h.2 (cn_ne c)
      refine me_go (pc1 := 67) (lv1 := [(0, .ref P.1), (1, .int x1)]) (st1 := [.int 28, .ref P.1]) 2 rfl ?_
      refine me_callN rfl rfl rfl (h.mono (fun r7 μ7 h => ?_) (fun _ h => h))
      refine me_ifc rfl rfl (fun c => ?_) (fun c => ?_)
      · replace h := h.1 (ci_eq c)
        refine me_go (pc1 := 83) (lv1 := [(0, .ref P.1), (1, .int x1)]) (st1 := [.ref P.1]) 1 rfl ?_
        refine me_call rfl rfl rfl rfl (h.mono (fun r8 μ8 h => ?_) (fun _ h => h))
        refine me_go (pc1 := 87) (lv1 := [(0, .ref P.1), (1, .int x1)]) (st1 := [.ref P.1]) 1 rfl ?_
        refine me_getf (v := .ref (P.2.1 42)) rfl rfl rfl ?_
        refine me_go (pc1 := 91) (lv1 := [(0, .ref P.1), (1, .int x1)]) (st1 := [.ref P.1, .ref (P.2.1 42)]) 1 rfl ?_
        refine me_getf (v := .int (μ8.1 41)) rfl rfl rfl ?_
        refine me_go (pc1 := 95) (lv1 := [(0, .ref P.1), (1, .int x1)]) (st1 := [.int (-1), .int (μ8.1 41), .ref (P.2.1 42)]) 1 rfl ?_
        have hi := h.1
        replace h := h.2
        refine me_iast rfl (g := 42) rfl rfl hi ?_
        refine me_go (pc1 := 98) (lv1 := [(0, .ref P.1), (1, .int x1)]) (st1 := [.ref P.1, .ref P.1]) 2 rfl ?_
        refine me_getf (v := .int (μ8.1 41)) rfl rfl rfl ?_
        refine me_put rfl rfl rfl ?_
        refine me_go (pc1 := 105) (lv1 := [(0, .ref P.1), (1, .int x1)]) (st1 := [.ref P.1]) 1 rfl ?_
        refine me_call rfl rfl rfl rfl (h.mono (fun r9 μ9 h => ?_) (fun _ h => h))
        refine me_go (pc1 := 110) (lv1 := [(0, .ref P.1), (1, .int x1)]) (st1 := [.ref P.1, .ref P.1]) 2 rfl ?_
        refine me_getf (v := .int (μ9.1 41)) rfl rfl rfl ?_
        refine me_go (pc1 := 115) (lv1 := [(0, .ref P.1), (1, .int x1)]) (st1 := [.int ((μ9.1 41) + 1), .ref P.1]) 2 rfl ?_
        refine me_put rfl rfl rfl ?_
        refine me_go (pc1 := 122) (lv1 := [(0, .ref P.1), (1, .int x1)]) (st1 := [.int 203, .ref P.1]) 2 rfl ?_
        refine me_callN rfl rfl rfl (h.mono (fun r10 μ10 h => ?_) (fun _ h => h))
        refine me_ifc rfl rfl (fun c => ?_) (fun c => ?_)
        · replace h := h.1 (ci_ne c)
          refine me_go (pc1 := 51) (lv1 := [(1, .int 0), (0, .ref P.1)]) (st1 := []) 3 rfl ?_
          refine me_lv [(0, .ref P.1), (1, .int 0)] (fl_c rfl (fl_c rfl fl_0)) ?_
          exact h
        · replace h := h.2 (cn_ne c)
          refine me_go (pc1 := 51) (lv1 := [(1, .int 1), (0, .ref P.1)]) (st1 := []) 4 rfl ?_
          refine me_lv [(0, .ref P.1), (1, .int 1)] (fl_c rfl (fl_c rfl fl_0)) ?_
          exact h
      · replace h := h.2 (cn_eq c)
        refine me_go (pc1 := 74) (lv1 := [(0, .ref P.1), (1, .int x1)]) (st1 := [.ref P.1]) 1 rfl ?_
        refine me_getf (v := .int (μ7.1 41)) rfl rfl rfl ?_
        refine me_go (pc1 := 79) (lv1 := [(0, .ref P.1), (1, .int x1)]) (st1 := [.int 12, .int (μ7.1 41)]) 1 rfl ?_
        refine me_icmp rfl rfl (fun c => ?_) (fun c => ?_)
        · replace h := h.1 (ci_ne c)
          refine me_go (pc1 := 87) (lv1 := [(0, .ref P.1), (1, .int x1)]) (st1 := [.ref P.1]) 1 rfl ?_
          refine me_getf (v := .ref (P.2.1 42)) rfl rfl rfl ?_
          refine me_go (pc1 := 91) (lv1 := [(0, .ref P.1), (1, .int x1)]) (st1 := [.ref P.1, .ref (P.2.1 42)]) 1 rfl ?_
          refine me_getf (v := .int (μ7.1 41)) rfl rfl rfl ?_
          refine me_go (pc1 := 95) (lv1 := [(0, .ref P.1), (1, .int x1)]) (st1 := [.int (-1), .int (μ7.1 41), .ref (P.2.1 42)]) 1 rfl ?_
          have hi := h.1
          replace h := h.2
          refine me_iast rfl (g := 42) rfl rfl hi ?_
          refine me_go (pc1 := 98) (lv1 := [(0, .ref P.1), (1, .int x1)]) (st1 := [.ref P.1, .ref P.1]) 2 rfl ?_
          refine me_getf (v := .int (μ7.1 41)) rfl rfl rfl ?_
          refine me_put rfl rfl rfl ?_
          refine me_go (pc1 := 105) (lv1 := [(0, .ref P.1), (1, .int x1)]) (st1 := [.ref P.1]) 1 rfl ?_
          refine me_call rfl rfl rfl rfl (h.mono (fun r11 μ11 h => ?_) (fun _ h => h))
          refine me_go (pc1 := 110) (lv1 := [(0, .ref P.1), (1, .int x1)]) (st1 := [.ref P.1, .ref P.1]) 2 rfl ?_
          refine me_getf (v := .int (μ11.1 41)) rfl rfl rfl ?_
          refine me_go (pc1 := 115) (lv1 := [(0, .ref P.1), (1, .int x1)]) (st1 := [.int ((μ11.1 41) + 1), .ref P.1]) 2 rfl ?_
          refine me_put rfl rfl rfl ?_
          refine me_go (pc1 := 122) (lv1 := [(0, .ref P.1), (1, .int x1)]) (st1 := [.int 203, .ref P.1]) 2 rfl ?_
          refine me_callN rfl rfl rfl (h.mono (fun r12 μ12 h => ?_) (fun _ h => h))
          refine me_ifc rfl rfl (fun c => ?_) (fun c => ?_)
          · replace h := h.1 (ci_ne c)
            refine me_go (pc1 := 51) (lv1 := [(1, .int 0), (0, .ref P.1)]) (st1 := []) 3 rfl ?_
            refine me_lv [(0, .ref P.1), (1, .int 0)] (fl_c rfl (fl_c rfl fl_0)) ?_
            exact h
          · replace h := h.2 (cn_ne c)
            refine me_go (pc1 := 51) (lv1 := [(1, .int 1), (0, .ref P.1)]) (st1 := []) 4 rfl ?_
            refine me_lv [(0, .ref P.1), (1, .int 1)] (fl_c rfl (fl_c rfl fl_0)) ?_
            exact h
        · replace h := h.2 (cn_ne c)
          refine me_go (pc1 := 83) (lv1 := [(0, .ref P.1), (1, .int x1)]) (st1 := [.ref P.1]) 1 rfl ?_
          refine me_call rfl rfl rfl rfl (h.mono (fun r13 μ13 h => ?_) (fun _ h => h))
          refine me_go (pc1 := 87) (lv1 := [(0, .ref P.1), (1, .int x1)]) (st1 := [.ref P.1]) 1 rfl ?_
          refine me_getf (v := .ref (P.2.1 42)) rfl rfl rfl ?_
          refine me_go (pc1 := 91) (lv1 := [(0, .ref P.1), (1, .int x1)]) (st1 := [.ref P.1, .ref (P.2.1 42)]) 1 rfl ?_
          refine me_getf (v := .int (μ13.1 41)) rfl rfl rfl ?_
          refine me_go (pc1 := 95) (lv1 := [(0, .ref P.1), (1, .int x1)]) (st1 := [.int (-1), .int (μ13.1 41), .ref (P.2.1 42)]) 1 rfl ?_
          have hi := h.1
          replace h := h.2
          refine me_iast rfl (g := 42) rfl rfl hi ?_
          refine me_go (pc1 := 98) (lv1 := [(0, .ref P.1), (1, .int x1)]) (st1 := [.ref P.1, .ref P.1]) 2 rfl ?_
          refine me_getf (v := .int (μ13.1 41)) rfl rfl rfl ?_
          refine me_put rfl rfl rfl ?_
          refine me_go (pc1 := 105) (lv1 := [(0, .ref P.1), (1, .int x1)]) (st1 := [.ref P.1]) 1 rfl ?_
          refine me_call rfl rfl rfl rfl (h.mono (fun r14 μ14 h => ?_) (fun _ h => h))
          refine me_go (pc1 := 110) (lv1 := [(0, .ref P.1), (1, .int x1)]) (st1 := [.ref P.1, .ref P.1]) 2 rfl ?_
          refine me_getf (v := .int (μ14.1 41)) rfl rfl rfl ?_
          refine me_go (pc1 := 115) (lv1 := [(0, .ref P.1), (1, .int x1)]) (st1 := [.int ((μ14.1 41) + 1), .ref P.1]) 2 rfl ?_
          refine me_put rfl rfl rfl ?_
          refine me_go (pc1 := 122) (lv1 := [(0, .ref P.1), (1, .int x1)]) (st1 := [.int 203, .ref P.1]) 2 rfl ?_
          refine me_callN rfl rfl rfl (h.mono (fun r15 μ15 h => ?_) (fun _ h => h))
          refine me_ifc rfl rfl (fun c => ?_) (fun c => ?_)
          · replace h := h.1 (ci_ne c)
            refine me_go (pc1 := 51) (lv1 := [(1, .int 0), (0, .ref P.1)]) (st1 := []) 3 rfl ?_
            refine me_lv [(0, .ref P.1), (1, .int 0)] (fl_c rfl (fl_c rfl fl_0)) ?_
            exact h
          · replace h := h.2 (cn_ne c)
            refine me_go (pc1 := 51) (lv1 := [(1, .int 1), (0, .ref P.1)]) (st1 := []) 4 rfl ?_
            refine me_lv [(0, .ref P.1), (1, .int 1)] (fl_c rfl (fl_c rfl fl_0)) ?_
            exact h
theorem v_parseUnit_0 {X : ev_X} {W : Nat → Prop} {d : Nat} {P : MP} {μ : MS} {R : Int32 → MS → Prop} {T : MS → Prop}  (h : MC X W true d 296 [.ref P.1, .int 28] P μ (fun r1 μ1 => MC X W true d 294 [.ref P.1] P μ1 (fun r2 μ2 => MC X W true d 291 [.ref P.1] P μ2 (fun r3 μ3 => MC X W true d 292 [.ref P.1, .int 1, .int (-1), .int (-1)] P (mS1 μ3 34 r3) (fun r4 μ4 => (MI (μ4.1 41) (μ4.2.2 42) ∧ ((r1 = 0 → (MI r4 (μ4.2.2 26) ∧ MC X W true d 298 [.ref P.1] P (mA1 (mA1 μ4 42 (((μ4.1 41)).toNatClampNeg) r4) 26 r4.toNatClampNeg 0) (fun r5 μ5 => (MI r4 (μ5.2.2 22) ∧ MC X W true d 297 [.ref P.1, .int 107] P (mA1 μ5 22 r4.toNatClampNeg r5) (fun r6 μ6 => MC X W true d 296 [.ref P.1, .int 19] P μ6 (fun r7 μ7 => ((r7 = 0 → ME X W true d 302 98 [(0, .ref P.1), (1, .int r1), (2, .int r4)] [] P μ7 R T) ∧ (¬ r7 = 0 → MC X W true d 294 [.ref P.1] P μ7 (fun r8 μ8 => MC X W true d 304 [.ref P.1, .int 2] P μ8 (fun r9 μ9 => (MI r4 (μ9.2.2 23) ∧ MC X W true d 297 [.ref P.1, .int 107] P (mA1 μ9 23 r4.toNatClampNeg r9) (fun r10 μ10 => ME X W true d 302 98 [(0, .ref P.1), (1, .int r1), (2, .int r4)] [] P μ10 R T) T)) T) T))) (fun _ => False)) T)) T)) ∧ (¬ r1 = 0 → (MI r4 (μ4.2.2 26) ∧ MC X W true d 298 [.ref P.1] P (mA1 (mA1 μ4 42 (((μ4.1 41)).toNatClampNeg) r4) 26 r4.toNatClampNeg 1) (fun r11 μ11 => (MI r4 (μ11.2.2 22) ∧ MC X W true d 297 [.ref P.1, .int 107] P (mA1 μ11 22 r4.toNatClampNeg r11) (fun r12 μ12 => MC X W true d 296 [.ref P.1, .int 19] P μ12 (fun r13 μ13 => ((r13 = 0 → ME X W true d 302 98 [(0, .ref P.1), (1, .int r1), (2, .int r4)] [] P μ13 R T) ∧ (¬ r13 = 0 → MC X W true d 294 [.ref P.1] P μ13 (fun r14 μ14 => MC X W true d 304 [.ref P.1, .int 2] P μ14 (fun r15 μ15 => (MI r4 (μ15.2.2 23) ∧ MC X W true d 297 [.ref P.1, .int 107] P (mA1 μ15 23 r4.toNatClampNeg r15) (fun r16 μ16 => ME X W true d 302 98 [(0, .ref P.1), (1, .int r1), (2, .int r4)] [] P μ16 R T) T)) T) T))) (fun _ => False)) T)) T))))) (fun _ => False)) (fun _ => False)) T) (fun _ => False)) : ME X W true d 302 0 [(0, .ref P.1)] [] P μ R T := by
  refine me_go (pc1 := 3) (lv1 := [(0, .ref P.1)]) (st1 := [.int 28, .ref P.1]) 2 rfl ?_
  refine me_callN rfl rfl rfl (h.mono (fun r1 μ1 h => ?_) (fun _ h => h))
  refine me_go (pc1 := 8) (lv1 := [(1, .int r1), (0, .ref P.1)]) (st1 := [.ref P.1]) 2 rfl ?_
  refine me_call rfl rfl rfl rfl (h.mono (fun r2 μ2 h => ?_) (fun _ h => h))
  refine me_go (pc1 := 13) (lv1 := [(1, .int r1), (0, .ref P.1)]) (st1 := [.ref P.1, .ref P.1]) 2 rfl ?_
  refine me_callN rfl rfl rfl (h.mono (fun r3 μ3 h => ?_) (fun _ h => h))
  refine me_put rfl rfl rfl ?_
  refine me_go (pc1 := 23) (lv1 := [(1, .int r1), (0, .ref P.1)]) (st1 := [.int (-1), .int (-1), .int 1, .ref P.1]) 4 rfl ?_
  refine me_callN rfl rfl rfl (h.mono (fun r4 μ4 h => ?_) (fun _ h => h))
  refine me_go (pc1 := 28) (lv1 := [(2, .int r4), (1, .int r1), (0, .ref P.1)]) (st1 := [.ref P.1]) 2 rfl ?_
  refine me_getf (v := .ref (P.2.1 42)) rfl rfl rfl ?_
  refine me_go (pc1 := 32) (lv1 := [(2, .int r4), (1, .int r1), (0, .ref P.1)]) (st1 := [.ref P.1, .ref (P.2.1 42)]) 1 rfl ?_
  refine me_getf (v := .int (μ4.1 41)) rfl rfl rfl ?_
  refine me_go (pc1 := 36) (lv1 := [(2, .int r4), (1, .int r1), (0, .ref P.1)]) (st1 := [.int r4, .int (μ4.1 41), .ref (P.2.1 42)]) 1 rfl ?_
  have hi := h.1
  replace h := h.2
  refine me_iast rfl (g := 42) rfl rfl hi ?_
  refine me_go (pc1 := 38) (lv1 := [(2, .int r4), (1, .int r1), (0, .ref P.1)]) (st1 := [.ref P.1]) 1 rfl ?_
  refine me_getf (v := .ref (P.2.1 26)) rfl rfl rfl ?_
  refine me_go (pc1 := 43) (lv1 := [(2, .int r4), (1, .int r1), (0, .ref P.1)]) (st1 := [.int r1, .int r4, .ref (P.2.1 26)]) 2 rfl ?_
  refine me_ifc rfl rfl (fun c => ?_) (fun c => ?_)
  · replace h := h.1 (ci_eq c)
    refine me_go (pc1 := 51) (lv1 := [(2, .int r4), (1, .int r1), (0, .ref P.1)]) (st1 := [.int 0, .int r4, .ref (P.2.1 26)]) 1 rfl ?_
    have hi := h.1
    replace h := h.2
    refine me_iast rfl (g := 26) rfl rfl hi ?_
    refine me_go (pc1 := 53) (lv1 := [(2, .int r4), (1, .int r1), (0, .ref P.1)]) (st1 := [.ref P.1]) 1 rfl ?_
    refine me_getf (v := .ref (P.2.1 22)) rfl rfl rfl ?_
    refine me_go (pc1 := 58) (lv1 := [(2, .int r4), (1, .int r1), (0, .ref P.1)]) (st1 := [.ref P.1, .int r4, .ref (P.2.1 22)]) 2 rfl ?_
    refine me_call rfl rfl rfl rfl (h.mono (fun r5 μ5 h => ?_) (fun _ h => h))
    have hi := h.1
    replace h := h.2
    refine me_iast rfl (g := 22) rfl rfl hi ?_
    refine me_go (pc1 := 65) (lv1 := [(2, .int r4), (1, .int r1), (0, .ref P.1)]) (st1 := [.int 107, .ref P.1]) 2 rfl ?_
    refine me_call rfl rfl rfl rfl (h.mono (fun r6 μ6 h => ?_) (fun _ h => h))
    refine me_go (pc1 := 71) (lv1 := [(2, .int r4), (1, .int r1), (0, .ref P.1)]) (st1 := [.int 19, .ref P.1]) 2 rfl ?_
    refine me_callN rfl rfl rfl (h.mono (fun r7 μ7 h => ?_) (fun _ h => h))
    refine me_ifc rfl rfl (fun c => ?_) (fun c => ?_)
    · replace h := h.1 (ci_eq c)
      refine me_lv [(0, .ref P.1), (1, .int r1), (2, .int r4)] (fl_c rfl (fl_c rfl (fl_c rfl fl_0))) ?_
      exact h
    · replace h := h.2 (cn_eq c)
      refine me_go (pc1 := 78) (lv1 := [(2, .int r4), (1, .int r1), (0, .ref P.1)]) (st1 := [.ref P.1]) 1 rfl ?_
      refine me_call rfl rfl rfl rfl (h.mono (fun r8 μ8 h => ?_) (fun _ h => h))
      refine me_go (pc1 := 82) (lv1 := [(2, .int r4), (1, .int r1), (0, .ref P.1)]) (st1 := [.ref P.1]) 1 rfl ?_
      refine me_getf (v := .ref (P.2.1 23)) rfl rfl rfl ?_
      refine me_go (pc1 := 88) (lv1 := [(2, .int r4), (1, .int r1), (0, .ref P.1)]) (st1 := [.int 2, .ref P.1, .int r4, .ref (P.2.1 23)]) 3 rfl ?_
      refine me_call rfl rfl rfl rfl (h.mono (fun r9 μ9 h => ?_) (fun _ h => h))
      have hi := h.1
      replace h := h.2
      refine me_iast rfl (g := 23) rfl rfl hi ?_
      refine me_go (pc1 := 95) (lv1 := [(2, .int r4), (1, .int r1), (0, .ref P.1)]) (st1 := [.int 107, .ref P.1]) 2 rfl ?_
      refine me_call rfl rfl rfl rfl (h.mono (fun r10 μ10 h => ?_) (fun _ h => h))
      refine me_lv [(0, .ref P.1), (1, .int r1), (2, .int r4)] (fl_c rfl (fl_c rfl (fl_c rfl fl_0))) ?_
      exact h
  · replace h := h.2 (cn_eq c)
    refine me_go (pc1 := 51) (lv1 := [(2, .int r4), (1, .int r1), (0, .ref P.1)]) (st1 := [.int 1, .int r4, .ref (P.2.1 26)]) 2 rfl ?_
    have hi := h.1
    replace h := h.2
    refine me_iast rfl (g := 26) rfl rfl hi ?_
    refine me_go (pc1 := 53) (lv1 := [(2, .int r4), (1, .int r1), (0, .ref P.1)]) (st1 := [.ref P.1]) 1 rfl ?_
    refine me_getf (v := .ref (P.2.1 22)) rfl rfl rfl ?_
    refine me_go (pc1 := 58) (lv1 := [(2, .int r4), (1, .int r1), (0, .ref P.1)]) (st1 := [.ref P.1, .int r4, .ref (P.2.1 22)]) 2 rfl ?_
    refine me_call rfl rfl rfl rfl (h.mono (fun r11 μ11 h => ?_) (fun _ h => h))
    have hi := h.1
    replace h := h.2
    refine me_iast rfl (g := 22) rfl rfl hi ?_
    refine me_go (pc1 := 65) (lv1 := [(2, .int r4), (1, .int r1), (0, .ref P.1)]) (st1 := [.int 107, .ref P.1]) 2 rfl ?_
    refine me_call rfl rfl rfl rfl (h.mono (fun r12 μ12 h => ?_) (fun _ h => h))
    refine me_go (pc1 := 71) (lv1 := [(2, .int r4), (1, .int r1), (0, .ref P.1)]) (st1 := [.int 19, .ref P.1]) 2 rfl ?_
    refine me_callN rfl rfl rfl (h.mono (fun r13 μ13 h => ?_) (fun _ h => h))
    refine me_ifc rfl rfl (fun c => ?_) (fun c => ?_)
    · replace h := h.1 (ci_eq c)
      refine me_lv [(0, .ref P.1), (1, .int r1), (2, .int r4)] (fl_c rfl (fl_c rfl (fl_c rfl fl_0))) ?_
      exact h
    · replace h := h.2 (cn_eq c)
      refine me_go (pc1 := 78) (lv1 := [(2, .int r4), (1, .int r1), (0, .ref P.1)]) (st1 := [.ref P.1]) 1 rfl ?_
      refine me_call rfl rfl rfl rfl (h.mono (fun r14 μ14 h => ?_) (fun _ h => h))
      refine me_go (pc1 := 82) (lv1 := [(2, .int r4), (1, .int r1), (0, .ref P.1)]) (st1 := [.ref P.1]) 1 rfl ?_
      refine me_getf (v := .ref (P.2.1 23)) rfl rfl rfl ?_
      refine me_go (pc1 := 88) (lv1 := [(2, .int r4), (1, .int r1), (0, .ref P.1)]) (st1 := [.int 2, .ref P.1, .int r4, .ref (P.2.1 23)]) 3 rfl ?_
      refine me_call rfl rfl rfl rfl (h.mono (fun r15 μ15 h => ?_) (fun _ h => h))
      have hi := h.1
      replace h := h.2
      refine me_iast rfl (g := 23) rfl rfl hi ?_
      refine me_go (pc1 := 95) (lv1 := [(2, .int r4), (1, .int r1), (0, .ref P.1)]) (st1 := [.int 107, .ref P.1]) 2 rfl ?_
      refine me_call rfl rfl rfl rfl (h.mono (fun r16 μ16 h => ?_) (fun _ h => h))
      refine me_lv [(0, .ref P.1), (1, .int r1), (2, .int r4)] (fl_c rfl (fl_c rfl (fl_c rfl fl_0))) ?_
      exact h
theorem v_parseUnit_98 {X : ev_X} {W : Nat → Prop} {d : Nat} {P : MP} {μ : MS} {R : Int32 → MS → Prop} {T : MS → Prop} (x1 : Int32) (x2 : Int32) (h : ME X W true d 302 103 [(0, .ref P.1), (1, .int x1), (2, .int x2), (3, .int (-1)), (4, .int (-1))] [] P μ R T) : ME X W true d 302 98 [(0, .ref P.1), (1, .int x1), (2, .int x2)] [] P μ R T := by
  refine me_go (pc1 := 103) (lv1 := [(4, .int (-1)), (3, .int (-1)), (0, .ref P.1), (1, .int x1), (2, .int x2)]) (st1 := []) 4 rfl ?_
  refine me_lv [(0, .ref P.1), (1, .int x1), (2, .int x2), (3, .int (-1)), (4, .int (-1))] (fl_c rfl (fl_c rfl (fl_c rfl (fl_c rfl (fl_c rfl fl_0))))) ?_
  exact h
theorem v_parseUnit_103 {X : ev_X} {W : Nat → Prop} {d : Nat} {P : MP} {μ : MS} {R : Int32 → MS → Prop} {T : MS → Prop} (x1 : Int32) (x2 : Int32) (x3 : Int32) (x4 : Int32) (h : MC X W true d 296 [.ref P.1, .int 53] P μ (fun r1 μ1 => ((¬ r1 = 0 → ME X W true d 302 148 [(0, .ref P.1), (1, .int x1), (2, .int x2), (3, .int x3), (4, .int x4)] [] P μ1 R T) ∧ (r1 = 0 → MC X W true d 296 [.ref P.1, .int 45] P μ1 (fun r2 μ2 => ((¬ r2 = 0 → ME X W true d 302 148 [(0, .ref P.1), (1, .int x1), (2, .int x2), (3, .int x3), (4, .int x4)] [] P μ2 R T) ∧ (r2 = 0 → MC X W true d 296 [.ref P.1, .int 55] P μ2 (fun r3 μ3 => ((¬ r3 = 0 → ME X W true d 302 148 [(0, .ref P.1), (1, .int x1), (2, .int x2), (3, .int x3), (4, .int x4)] [] P μ3 R T) ∧ (r3 = 0 → MC X W true d 296 [.ref P.1, .int 12] P μ3 (fun r4 μ4 => ((¬ r4 = 0 → ME X W true d 302 148 [(0, .ref P.1), (1, .int x1), (2, .int x2), (3, .int x3), (4, .int x4)] [] P μ4 R T) ∧ (r4 = 0 → MC X W true d 296 [.ref P.1, .int 38] P μ4 (fun r5 μ5 => ((r5 = 0 → (MI x2 (μ5.2.2 24) ∧ ((x1 = 0 → ME X W true d 302 207 [(0, .ref P.1), (1, .int x1), (2, .int x2), (3, .int x3), (4, .int x4)] [] P (mA1 μ5 24 x2.toNatClampNeg x3) R T) ∧ (¬ x1 = 0 → MC X W true d 297 [.ref P.1, .int 2] P (mA1 μ5 24 x2.toNatClampNeg x3) (fun r6 μ6 => MC X W true d 321 [.ref P.1] P μ6 (fun r7 μ7 => (MI x2 (μ7.2.2 25) ∧ ME X W true d 302 207 [(0, .ref P.1), (1, .int x1), (2, .int x2), (3, .int x3), (4, .int x4)] [] P (mA1 μ7 25 x2.toNatClampNeg r7) R T)) T) T)))) ∧ (¬ r5 = 0 → ME X W true d 302 148 [(0, .ref P.1), (1, .int x1), (2, .int x2), (3, .int x3), (4, .int x4)] [] P μ5 R T))) (fun _ => False)))) (fun _ => False)))) (fun _ => False)))) (fun _ => False)))) (fun _ => False)) : ME X W true d 302 103 [(0, .ref P.1), (1, .int x1), (2, .int x2), (3, .int x3), (4, .int x4)] [] P μ R T := by
  refine me_go (pc1 := 106) (lv1 := [(0, .ref P.1), (1, .int x1), (2, .int x2), (3, .int x3), (4, .int x4)]) (st1 := [.int 53, .ref P.1]) 2 rfl ?_
  refine me_callN rfl rfl rfl (h.mono (fun r1 μ1 h => ?_) (fun _ h => h))
  refine me_ifc rfl rfl (fun c => ?_) (fun c => ?_)
  · replace h := h.1 (ci_ne c)
    exact h
  · replace h := h.2 (cn_ne c)
    refine me_go (pc1 := 115) (lv1 := [(0, .ref P.1), (1, .int x1), (2, .int x2), (3, .int x3), (4, .int x4)]) (st1 := [.int 45, .ref P.1]) 2 rfl ?_
    refine me_callN rfl rfl rfl (h.mono (fun r2 μ2 h => ?_) (fun _ h => h))
    refine me_ifc rfl rfl (fun c => ?_) (fun c => ?_)
    · replace h := h.1 (ci_ne c)
      exact h
    · replace h := h.2 (cn_ne c)
      refine me_go (pc1 := 124) (lv1 := [(0, .ref P.1), (1, .int x1), (2, .int x2), (3, .int x3), (4, .int x4)]) (st1 := [.int 55, .ref P.1]) 2 rfl ?_
      refine me_callN rfl rfl rfl (h.mono (fun r3 μ3 h => ?_) (fun _ h => h))
      refine me_ifc rfl rfl (fun c => ?_) (fun c => ?_)
      · replace h := h.1 (ci_ne c)
        exact h
      · replace h := h.2 (cn_ne c)
        refine me_go (pc1 := 133) (lv1 := [(0, .ref P.1), (1, .int x1), (2, .int x2), (3, .int x3), (4, .int x4)]) (st1 := [.int 12, .ref P.1]) 2 rfl ?_
        refine me_callN rfl rfl rfl (h.mono (fun r4 μ4 h => ?_) (fun _ h => h))
        refine me_ifc rfl rfl (fun c => ?_) (fun c => ?_)
        · replace h := h.1 (ci_ne c)
          exact h
        · replace h := h.2 (cn_ne c)
          refine me_go (pc1 := 142) (lv1 := [(0, .ref P.1), (1, .int x1), (2, .int x2), (3, .int x3), (4, .int x4)]) (st1 := [.int 38, .ref P.1]) 2 rfl ?_
          refine me_callN rfl rfl rfl (h.mono (fun r5 μ5 h => ?_) (fun _ h => h))
          refine me_ifc rfl rfl (fun c => ?_) (fun c => ?_)
          · replace h := h.1 (ci_eq c)
            refine me_go (pc1 := 182) (lv1 := [(0, .ref P.1), (1, .int x1), (2, .int x2), (3, .int x3), (4, .int x4)]) (st1 := [.ref P.1]) 1 rfl ?_
            refine me_getf (v := .ref (P.2.1 24)) rfl rfl rfl ?_
            refine me_go (pc1 := 187) (lv1 := [(0, .ref P.1), (1, .int x1), (2, .int x2), (3, .int x3), (4, .int x4)]) (st1 := [.int x3, .int x2, .ref (P.2.1 24)]) 2 rfl ?_
            have hi := h.1
            replace h := h.2
            refine me_iast rfl (g := 24) rfl rfl hi ?_
            refine me_go (pc1 := 189) (lv1 := [(0, .ref P.1), (1, .int x1), (2, .int x2), (3, .int x3), (4, .int x4)]) (st1 := [.int x1]) 1 rfl ?_
            refine me_ifc rfl rfl (fun c => ?_) (fun c => ?_)
            · replace h := h.1 (ci_eq c)
              exact h
            · replace h := h.2 (cn_eq c)
              refine me_go (pc1 := 194) (lv1 := [(0, .ref P.1), (1, .int x1), (2, .int x2), (3, .int x3), (4, .int x4)]) (st1 := [.int 2, .ref P.1]) 2 rfl ?_
              refine me_call rfl rfl rfl rfl (h.mono (fun r6 μ6 h => ?_) (fun _ h => h))
              refine me_go (pc1 := 198) (lv1 := [(0, .ref P.1), (1, .int x1), (2, .int x2), (3, .int x3), (4, .int x4)]) (st1 := [.ref P.1]) 1 rfl ?_
              refine me_getf (v := .ref (P.2.1 25)) rfl rfl rfl ?_
              refine me_go (pc1 := 203) (lv1 := [(0, .ref P.1), (1, .int x1), (2, .int x2), (3, .int x3), (4, .int x4)]) (st1 := [.ref P.1, .int x2, .ref (P.2.1 25)]) 2 rfl ?_
              refine me_call rfl rfl rfl rfl (h.mono (fun r7 μ7 h => ?_) (fun _ h => h))
              have hi := h.1
              replace h := h.2
              refine me_iast rfl (g := 25) rfl rfl hi ?_
              exact h
          · replace h := h.2 (cn_eq c)
            exact h
theorem v_parseUnit_148 {X : ev_X} {W : Nat → Prop} {d : Nat} {P : MP} {μ : MS} {R : Int32 → MS → Prop} {T : MS → Prop} (x1 : Int32) (x2 : Int32) (x3 : Int32) (x4 : Int32) (h : MC X W true d 306 [.ref P.1, .int x1] P μ (fun r1 μ1 => (((0 : Int) ≤ x3.toInt → (MI x4 (μ1.2.2 27) ∧ ME X W true d 302 174 [(0, .ref P.1), (1, .int x1), (2, .int x2), (3, .int x3), (4, .int x4), (5, .int r1)] [] P (mA1 μ1 27 x4.toNatClampNeg r1) R T)) ∧ (x3.toInt < (0 : Int) → ME X W true d 302 174 [(0, .ref P.1), (1, .int x1), (2, .int x2), (3, .int r1), (4, .int x4), (5, .int r1)] [] P μ1 R T))) T) : ME X W true d 302 148 [(0, .ref P.1), (1, .int x1), (2, .int x2), (3, .int x3), (4, .int x4)] [] P μ R T := by
  refine me_go (pc1 := 150) (lv1 := [(0, .ref P.1), (1, .int x1), (2, .int x2), (3, .int x3), (4, .int x4)]) (st1 := [.int x1, .ref P.1]) 2 rfl ?_
  refine me_call rfl rfl rfl rfl (h.mono (fun r1 μ1 h => ?_) (fun _ h => h))
  refine me_go (pc1 := 156) (lv1 := [(5, .int r1), (0, .ref P.1), (1, .int x1), (2, .int x2), (3, .int x3), (4, .int x4)]) (st1 := [.int x3]) 2 rfl ?_
  refine me_ifc rfl rfl (fun c => ?_) (fun c => ?_)
  · replace h := h.1 (ci_ge c)
    refine me_go (pc1 := 166) (lv1 := [(5, .int r1), (0, .ref P.1), (1, .int x1), (2, .int x2), (3, .int x3), (4, .int x4)]) (st1 := [.ref P.1]) 1 rfl ?_
    refine me_getf (v := .ref (P.2.1 27)) rfl rfl rfl ?_
    refine me_go (pc1 := 173) (lv1 := [(5, .int r1), (0, .ref P.1), (1, .int x1), (2, .int x2), (3, .int x3), (4, .int x4)]) (st1 := [.int r1, .int x4, .ref (P.2.1 27)]) 2 rfl ?_
    have hi := h.1
    replace h := h.2
    refine me_iast rfl (g := 27) rfl rfl hi ?_
    refine me_lv [(0, .ref P.1), (1, .int x1), (2, .int x2), (3, .int x3), (4, .int x4), (5, .int r1)] (fl_c rfl (fl_c rfl (fl_c rfl (fl_c rfl (fl_c rfl (fl_c rfl fl_0)))))) ?_
    exact h
  · replace h := h.2 (cn_ge c)
    refine me_go (pc1 := 174) (lv1 := [(3, .int r1), (5, .int r1), (0, .ref P.1), (1, .int x1), (2, .int x2), (4, .int x4)]) (st1 := []) 3 rfl ?_
    refine me_lv [(0, .ref P.1), (1, .int x1), (2, .int x2), (3, .int r1), (4, .int x4), (5, .int r1)] (fl_c rfl (fl_c rfl (fl_c rfl (fl_c rfl (fl_c rfl (fl_c rfl fl_0)))))) ?_
    exact h
theorem v_parseUnit_174 {X : ev_X} {W : Nat → Prop} {d : Nat} {P : MP} {μ : MS} {R : Int32 → MS → Prop} {T : MS → Prop} (x1 : Int32) (x2 : Int32) (x3 : Int32) (x4 : Int32) (x5 : Int32) (h : ME X W true d 302 103 [(0, .ref P.1), (1, .int x1), (2, .int x2), (3, .int x3), (4, .int x5)] [] P μ R T) : ME X W true d 302 174 [(0, .ref P.1), (1, .int x1), (2, .int x2), (3, .int x3), (4, .int x4), (5, .int x5)] [] P μ R T := by
  refine me_go (pc1 := 103) (lv1 := [(4, .int x5), (0, .ref P.1), (1, .int x1), (2, .int x2), (3, .int x3), (5, .int x5)]) (st1 := []) 3 rfl ?_
  refine me_lv [(0, .ref P.1), (1, .int x1), (2, .int x2), (3, .int x3), (4, .int x5)] (fl_c rfl (fl_c rfl (fl_c rfl (fl_c rfl (fl_c rfl fl_0))))) ?_
  exact h
theorem v_parseUnit_207 {X : ev_X} {W : Nat → Prop} {d : Nat} {P : MP} {μ : MS} {R : Int32 → MS → Prop} {T : MS → Prop} (x1 : Int32) (x2 : Int32) (x3 : Int32) (x4 : Int32) (h : MC X W true d 297 [.ref P.1, .int 10] P μ (fun r1 μ1 => (MI x2 (μ1.2.2 22) ∧ MC X W true d 303 [.ref P.1, .int (μ1.2.1 22 x2.toNatClampNeg)] P μ1 (fun r2 μ2 => MC X W true d 297 [.ref P.1, .int 109] P μ2 (fun r3 μ3 => R 0 μ3) T) T)) T) : ME X W true d 302 207 [(0, .ref P.1), (1, .int x1), (2, .int x2), (3, .int x3), (4, .int x4)] [] P μ R T := by
  refine me_go (pc1 := 210) (lv1 := [(0, .ref P.1), (1, .int x1), (2, .int x2), (3, .int x3), (4, .int x4)]) (st1 := [.int 10, .ref P.1]) 2 rfl ?_
  refine me_call rfl rfl rfl rfl (h.mono (fun r1 μ1 h => ?_) (fun _ h => h))
  refine me_go (pc1 := 215) (lv1 := [(0, .ref P.1), (1, .int x1), (2, .int x2), (3, .int x3), (4, .int x4)]) (st1 := [.ref P.1, .ref P.1]) 2 rfl ?_
  refine me_getf (v := .ref (P.2.1 22)) rfl rfl rfl ?_
  refine me_go (pc1 := 219) (lv1 := [(0, .ref P.1), (1, .int x1), (2, .int x2), (3, .int x3), (4, .int x4)]) (st1 := [.int x2, .ref (P.2.1 22), .ref P.1]) 1 rfl ?_
  refine me_iald rfl (g := 22) rfl rfl h.1 ?_
  replace h := h.2
  refine me_call rfl rfl rfl rfl (h.mono (fun r2 μ2 h => ?_) (fun _ h => h))
  refine me_go (pc1 := 226) (lv1 := [(0, .ref P.1), (1, .int x1), (2, .int x2), (3, .int x3), (4, .int x4)]) (st1 := [.int 109, .ref P.1]) 2 rfl ?_
  refine me_call rfl rfl rfl rfl (h.mono (fun r3 μ3 h => ?_) (fun _ h => h))
  exact me_ret (v := none) (r := 0) rfl rfl rfl h
theorem v_endName_0 {X : ev_X} {W : Nat → Prop} {d : Nat} {P : MP} {μ : MS} {R : Int32 → MS → Prop} {T : MS → Prop} (x1 : Int32) (h : MC X W true d 296 [.ref P.1, .int 200] P μ (fun r1 μ1 => ((¬ r1 = 0 → (MI (μ1.1 32) (μ1.2.2 10) ∧ (((μ1.2.1 10 ((μ1.1 32)).toNatClampNeg) = x1 → MC X W true d 294 [.ref P.1] P μ1 (fun r2 μ2 => R 0 μ2) T) ∧ (¬ (μ1.2.1 10 ((μ1.1 32)).toNatClampNeg) = x1 → MC X W true d 291 [.ref P.1] P μ1 (fun r3 μ3 => MC X W true d 289 [.ref P.1, .int 4, .int r3] P μ3 (fun r4 μ4 => MC X W true d 294 [.ref P.1] P μ4 (fun r5 μ5 => R 0 μ5) T) T) (fun _ => False))))) ∧ (r1 = 0 → MC X W true d 295 [.ref P.1] P μ1 (fun r6 μ6 => (MI (μ6.1 32) (μ6.2.2 10) ∧ (((μ6.2.1 10 ((μ6.1 32)).toNatClampNeg) = x1 → MC X W true d 294 [.ref P.1] P μ6 (fun r7 μ7 => R 0 μ7) T) ∧ (¬ (μ6.2.1 10 ((μ6.1 32)).toNatClampNeg) = x1 → MC X W true d 291 [.ref P.1] P μ6 (fun r8 μ8 => MC X W true d 289 [.ref P.1, .int 4, .int r8] P μ8 (fun r9 μ9 => MC X W true d 294 [.ref P.1] P μ9 (fun r10 μ10 => R 0 μ10) T) T) (fun _ => False))))) T))) (fun _ => False)) : ME X W true d 303 0 [(0, .ref P.1), (1, .int x1)] [] P μ R T := by
  refine me_go (pc1 := 4) (lv1 := [(0, .ref P.1), (1, .int x1)]) (st1 := [.int 200, .ref P.1]) 2 rfl ?_
  refine me_callN rfl rfl rfl (h.mono (fun r1 μ1 h => ?_) (fun _ h => h))
  refine me_ifc rfl rfl (fun c => ?_) (fun c => ?_)
  · replace h := h.1 (ci_ne c)
    refine me_go (pc1 := 15) (lv1 := [(0, .ref P.1), (1, .int x1)]) (st1 := [.ref P.1]) 1 rfl ?_
    refine me_getf (v := .ref (P.2.1 10)) rfl rfl rfl ?_
    refine me_go (pc1 := 19) (lv1 := [(0, .ref P.1), (1, .int x1)]) (st1 := [.ref P.1, .ref (P.2.1 10)]) 1 rfl ?_
    refine me_getf (v := .int (μ1.1 32)) rfl rfl rfl ?_
    refine me_iald rfl (g := 10) rfl rfl h.1 ?_
    replace h := h.2
    refine me_go (pc1 := 24) (lv1 := [(0, .ref P.1), (1, .int x1)]) (st1 := [.int x1, .int (μ1.2.1 10 ((μ1.1 32)).toNatClampNeg)]) 1 rfl ?_
    refine me_icmp rfl rfl (fun c => ?_) (fun c => ?_)
    · replace h := h.1 (ci_eq c)
      refine me_go (pc1 := 37) (lv1 := [(0, .ref P.1), (1, .int x1)]) (st1 := [.ref P.1]) 1 rfl ?_
      refine me_call rfl rfl rfl rfl (h.mono (fun r2 μ2 h => ?_) (fun _ h => h))
      exact me_ret (v := none) (r := 0) rfl rfl rfl h
    · replace h := h.2 (cn_eq c)
      refine me_go (pc1 := 30) (lv1 := [(0, .ref P.1), (1, .int x1)]) (st1 := [.ref P.1, .int 4, .ref P.1]) 3 rfl ?_
      refine me_callN rfl rfl rfl (h.mono (fun r3 μ3 h => ?_) (fun _ h => h))
      refine me_call rfl rfl rfl rfl (h.mono (fun r4 μ4 h => ?_) (fun _ h => h))
      refine me_go (pc1 := 37) (lv1 := [(0, .ref P.1), (1, .int x1)]) (st1 := [.ref P.1]) 1 rfl ?_
      refine me_call rfl rfl rfl rfl (h.mono (fun r5 μ5 h => ?_) (fun _ h => h))
      exact me_ret (v := none) (r := 0) rfl rfl rfl h
  · replace h := h.2 (cn_ne c)
    refine me_go (pc1 := 11) (lv1 := [(0, .ref P.1), (1, .int x1)]) (st1 := [.ref P.1]) 1 rfl ?_
    refine me_call rfl rfl rfl rfl (h.mono (fun r6 μ6 h => ?_) (fun _ h => h))
    refine me_go (pc1 := 15) (lv1 := [(0, .ref P.1), (1, .int x1)]) (st1 := [.ref P.1]) 1 rfl ?_
    refine me_getf (v := .ref (P.2.1 10)) rfl rfl rfl ?_
    refine me_go (pc1 := 19) (lv1 := [(0, .ref P.1), (1, .int x1)]) (st1 := [.ref P.1, .ref (P.2.1 10)]) 1 rfl ?_
    refine me_getf (v := .int (μ6.1 32)) rfl rfl rfl ?_
    refine me_iald rfl (g := 10) rfl rfl h.1 ?_
    replace h := h.2
    refine me_go (pc1 := 24) (lv1 := [(0, .ref P.1), (1, .int x1)]) (st1 := [.int x1, .int (μ6.2.1 10 ((μ6.1 32)).toNatClampNeg)]) 1 rfl ?_
    refine me_icmp rfl rfl (fun c => ?_) (fun c => ?_)
    · replace h := h.1 (ci_eq c)
      refine me_go (pc1 := 37) (lv1 := [(0, .ref P.1), (1, .int x1)]) (st1 := [.ref P.1]) 1 rfl ?_
      refine me_call rfl rfl rfl rfl (h.mono (fun r7 μ7 h => ?_) (fun _ h => h))
      exact me_ret (v := none) (r := 0) rfl rfl rfl h
    · replace h := h.2 (cn_eq c)
      refine me_go (pc1 := 30) (lv1 := [(0, .ref P.1), (1, .int x1)]) (st1 := [.ref P.1, .int 4, .ref P.1]) 3 rfl ?_
      refine me_callN rfl rfl rfl (h.mono (fun r8 μ8 h => ?_) (fun _ h => h))
      refine me_call rfl rfl rfl rfl (h.mono (fun r9 μ9 h => ?_) (fun _ h => h))
      refine me_go (pc1 := 37) (lv1 := [(0, .ref P.1), (1, .int x1)]) (st1 := [.ref P.1]) 1 rfl ?_
      refine me_call rfl rfl rfl rfl (h.mono (fun r10 μ10 h => ?_) (fun _ h => h))
      exact me_ret (v := none) (r := 0) rfl rfl rfl h
theorem v_nameRow_0 {X : ev_X} {W : Nat → Prop} {d : Nat} {P : MP} {μ : MS} {R : Int32 → MS → Prop} {T : MS → Prop} (x1 : Int32) (h : MC X W true d 292 [.ref P.1, .int x1, .int (-1), .int (-1)] P μ (fun r1 μ1 => MC X W true d 298 [.ref P.1] P μ1 (fun r2 μ2 => (MI r1 (μ2.2.2 22) ∧ ME X W true d 304 20 [(0, .ref P.1), (1, .int x1), (2, .int r1), (3, .int r1)] [] P (mA1 μ2 22 r1.toNatClampNeg r2) R T)) T) (fun _ => False)) : ME X W true d 304 0 [(0, .ref P.1), (1, .int x1)] [] P μ R T := by
  refine me_go (pc1 := 4) (lv1 := [(0, .ref P.1), (1, .int x1)]) (st1 := [.int (-1), .int (-1), .int x1, .ref P.1]) 4 rfl ?_
  refine me_callN rfl rfl rfl (h.mono (fun r1 μ1 h => ?_) (fun _ h => h))
  refine me_go (pc1 := 9) (lv1 := [(2, .int r1), (0, .ref P.1), (1, .int x1)]) (st1 := [.ref P.1]) 2 rfl ?_
  refine me_getf (v := .ref (P.2.1 22)) rfl rfl rfl ?_
  refine me_go (pc1 := 14) (lv1 := [(2, .int r1), (0, .ref P.1), (1, .int x1)]) (st1 := [.ref P.1, .int r1, .ref (P.2.1 22)]) 2 rfl ?_
  refine me_call rfl rfl rfl rfl (h.mono (fun r2 μ2 h => ?_) (fun _ h => h))
  have hi := h.1
  replace h := h.2
  refine me_iast rfl (g := 22) rfl rfl hi ?_
  refine me_go (pc1 := 20) (lv1 := [(3, .int r1), (2, .int r1), (0, .ref P.1), (1, .int x1)]) (st1 := []) 2 rfl ?_
  refine me_lv [(0, .ref P.1), (1, .int x1), (2, .int r1), (3, .int r1)] (fl_c rfl (fl_c rfl (fl_c rfl (fl_c rfl fl_0)))) ?_
  exact h
theorem v_nameRow_20 {X : ev_X} {W : Nat → Prop} {d : Nat} {P : MP} {μ : MS} {R : Int32 → MS → Prop} {T : MS → Prop} (x1 : Int32) (x2 : Int32) (x3 : Int32) (h : MC X W true d 296 [.ref P.1, .int 106] P μ (fun r1 μ1 => ((r1 = 0 → R x2 μ1) ∧ (¬ r1 = 0 → MC X W true d 294 [.ref P.1] P μ1 (fun r2 μ2 => MC X W true d 292 [.ref P.1, .int x1, .int (-1), .int (-1)] P μ2 (fun r3 μ3 => MC X W true d 298 [.ref P.1] P μ3 (fun r4 μ4 => (MI r3 (μ4.2.2 22) ∧ (MI x3 (μ4.2.2 27) ∧ ME X W true d 304 20 [(0, .ref P.1), (1, .int x1), (2, .int x2), (3, .int r3)] [] P (mA1 (mA1 μ4 22 r3.toNatClampNeg r4) 27 x3.toNatClampNeg r3) R T))) T) (fun _ => False)) T))) (fun _ => False)) : ME X W true d 304 20 [(0, .ref P.1), (1, .int x1), (2, .int x2), (3, .int x3)] [] P μ R T := by
  refine me_go (pc1 := 23) (lv1 := [(0, .ref P.1), (1, .int x1), (2, .int x2), (3, .int x3)]) (st1 := [.int 106, .ref P.1]) 2 rfl ?_
  refine me_callN rfl rfl rfl (h.mono (fun r1 μ1 h => ?_) (fun _ h => h))
  refine me_ifc rfl rfl (fun c => ?_) (fun c => ?_)
  · replace h := h.1 (ci_eq c)
    refine me_go (pc1 := 68) (lv1 := [(0, .ref P.1), (1, .int x1), (2, .int x2), (3, .int x3)]) (st1 := [.int x2]) 1 rfl ?_
    exact me_ret rfl rfl rfl h
  · replace h := h.2 (cn_eq c)
    refine me_go (pc1 := 30) (lv1 := [(0, .ref P.1), (1, .int x1), (2, .int x2), (3, .int x3)]) (st1 := [.ref P.1]) 1 rfl ?_
    refine me_call rfl rfl rfl rfl (h.mono (fun r2 μ2 h => ?_) (fun _ h => h))
    refine me_go (pc1 := 37) (lv1 := [(0, .ref P.1), (1, .int x1), (2, .int x2), (3, .int x3)]) (st1 := [.int (-1), .int (-1), .int x1, .ref P.1]) 4 rfl ?_
    refine me_callN rfl rfl rfl (h.mono (fun r3 μ3 h => ?_) (fun _ h => h))
    refine me_go (pc1 := 43) (lv1 := [(4, .int r3), (0, .ref P.1), (1, .int x1), (2, .int x2), (3, .int x3)]) (st1 := [.ref P.1]) 2 rfl ?_
    refine me_getf (v := .ref (P.2.1 22)) rfl rfl rfl ?_
    refine me_go (pc1 := 49) (lv1 := [(4, .int r3), (0, .ref P.1), (1, .int x1), (2, .int x2), (3, .int x3)]) (st1 := [.ref P.1, .int r3, .ref (P.2.1 22)]) 2 rfl ?_
    refine me_call rfl rfl rfl rfl (h.mono (fun r4 μ4 h => ?_) (fun _ h => h))
    have hi := h.1
    replace h := h.2
    refine me_iast rfl (g := 22) rfl rfl hi ?_
    refine me_go (pc1 := 54) (lv1 := [(4, .int r3), (0, .ref P.1), (1, .int x1), (2, .int x2), (3, .int x3)]) (st1 := [.ref P.1]) 1 rfl ?_
    refine me_getf (v := .ref (P.2.1 27)) rfl rfl rfl ?_
    refine me_go (pc1 := 60) (lv1 := [(4, .int r3), (0, .ref P.1), (1, .int x1), (2, .int x2), (3, .int x3)]) (st1 := [.int r3, .int x3, .ref (P.2.1 27)]) 2 rfl ?_
    have hi := h.1
    replace h := h.2
    refine me_iast rfl (g := 27) rfl rfl hi ?_
    refine me_go (pc1 := 20) (lv1 := [(3, .int r3), (4, .int r3), (0, .ref P.1), (1, .int x1), (2, .int x2)]) (st1 := []) 3 rfl ?_
    refine me_lv [(0, .ref P.1), (1, .int x1), (2, .int x2), (3, .int r3)] (fl_c rfl (fl_c rfl (fl_c rfl (fl_c rfl fl_0)))) ?_
    exact h
theorem v_qname_0 {X : ev_X} {W : Nat → Prop} {d : Nat} {P : MP} {μ : MS} {R : Int32 → MS → Prop} {T : MS → Prop}  (h : MC X W true d 292 [.ref P.1, .int 11, .int (-1), .int (-1)] P μ (fun r1 μ1 => MC X W true d 298 [.ref P.1] P μ1 (fun r2 μ2 => (MI r1 (μ2.2.2 22) ∧ MC X W true d 296 [.ref P.1, .int 109] P (mA1 μ2 22 r1.toNatClampNeg r2) (fun r3 μ3 => ((r3 = 0 → R r1 μ3) ∧ (¬ r3 = 0 → MC X W true d 294 [.ref P.1] P μ3 (fun r4 μ4 => MC X W true d 298 [.ref P.1] P μ4 (fun r5 μ5 => (MI r1 (μ5.2.2 23) ∧ R r1 (mA1 μ5 23 r1.toNatClampNeg r5))) T) T))) (fun _ => False))) T) (fun _ => False)) : ME X W true d 305 0 [(0, .ref P.1)] [] P μ R T := by
  refine me_go (pc1 := 5) (lv1 := [(0, .ref P.1)]) (st1 := [.int (-1), .int (-1), .int 11, .ref P.1]) 4 rfl ?_
  refine me_callN rfl rfl rfl (h.mono (fun r1 μ1 h => ?_) (fun _ h => h))
  refine me_go (pc1 := 10) (lv1 := [(1, .int r1), (0, .ref P.1)]) (st1 := [.ref P.1]) 2 rfl ?_
  refine me_getf (v := .ref (P.2.1 22)) rfl rfl rfl ?_
  refine me_go (pc1 := 15) (lv1 := [(1, .int r1), (0, .ref P.1)]) (st1 := [.ref P.1, .int r1, .ref (P.2.1 22)]) 2 rfl ?_
  refine me_call rfl rfl rfl rfl (h.mono (fun r2 μ2 h => ?_) (fun _ h => h))
  have hi := h.1
  replace h := h.2
  refine me_iast rfl (g := 22) rfl rfl hi ?_
  refine me_go (pc1 := 22) (lv1 := [(1, .int r1), (0, .ref P.1)]) (st1 := [.int 109, .ref P.1]) 2 rfl ?_
  refine me_callN rfl rfl rfl (h.mono (fun r3 μ3 h => ?_) (fun _ h => h))
  refine me_ifc rfl rfl (fun c => ?_) (fun c => ?_)
  · replace h := h.1 (ci_eq c)
    refine me_go (pc1 := 43) (lv1 := [(1, .int r1), (0, .ref P.1)]) (st1 := [.int r1]) 1 rfl ?_
    exact me_ret rfl rfl rfl h
  · replace h := h.2 (cn_eq c)
    refine me_go (pc1 := 29) (lv1 := [(1, .int r1), (0, .ref P.1)]) (st1 := [.ref P.1]) 1 rfl ?_
    refine me_call rfl rfl rfl rfl (h.mono (fun r4 μ4 h => ?_) (fun _ h => h))
    refine me_go (pc1 := 33) (lv1 := [(1, .int r1), (0, .ref P.1)]) (st1 := [.ref P.1]) 1 rfl ?_
    refine me_getf (v := .ref (P.2.1 23)) rfl rfl rfl ?_
    refine me_go (pc1 := 38) (lv1 := [(1, .int r1), (0, .ref P.1)]) (st1 := [.ref P.1, .int r1, .ref (P.2.1 23)]) 2 rfl ?_
    refine me_call rfl rfl rfl rfl (h.mono (fun r5 μ5 h => ?_) (fun _ h => h))
    have hi := h.1
    replace h := h.2
    refine me_iast rfl (g := 23) rfl rfl hi ?_
    refine me_go (pc1 := 43) (lv1 := [(1, .int r1), (0, .ref P.1)]) (st1 := [.int r1]) 1 rfl ?_
    exact me_ret rfl rfl rfl h
theorem v_declaration_0 {X : ev_X} {W : Nat → Prop} {d : Nat} {P : MP} {μ : MS} {R : Int32 → MS → Prop} {T : MS → Prop} (x1 : Int32) (h : MC X W true d 291 [.ref P.1] P μ (fun r1 μ1 => MC X W true d 292 [.ref P.1, .int 3, .int (-1), .int (-1)] P (mS1 μ1 34 r1) (fun r2 μ2 => MC X W true d 296 [.ref P.1, .int 53] P μ2 (fun r3 μ3 => ((r3 = 0 → MC X W true d 296 [.ref P.1, .int 45] P μ3 (fun r4 μ4 => ((r4 = 0 → MC X W true d 296 [.ref P.1, .int 55] P μ4 (fun r5 μ5 => ((r5 = 0 → MC X W true d 296 [.ref P.1, .int 12] P μ5 (fun r6 μ6 => ((r6 = 0 → MC X W true d 308 [.ref P.1, .int r2, .int x1] P μ6 (fun r7 μ7 => MC X W true d 297 [.ref P.1, .int 107] P μ7 (fun r8 μ8 => R r2 μ8) T) T) ∧ (¬ r6 = 0 → (MI r2 (μ6.2.2 20) ∧ MC X W true d 294 [.ref P.1] P (mA1 μ6 20 r2.toNatClampNeg 8) (fun r9 μ9 => MC X W true d 291 [.ref P.1] P μ9 (fun r10 μ10 => (MI r2 (μ10.2.2 31) ∧ MC X W true d 298 [.ref P.1] P (mA1 μ10 31 r2.toNatClampNeg r10) (fun r11 μ11 => (MI r2 (μ11.2.2 22) ∧ MC X W true d 297 [.ref P.1, .int 107] P (mA1 μ11 22 r2.toNatClampNeg r11) (fun r12 μ12 => R r2 μ12) T)) T)) (fun _ => False)) T)))) (fun _ => False)) ∧ (¬ r5 = 0 → (MI r2 (μ5.2.2 20) ∧ MC X W true d 307 [.ref P.1, .int r2] P (mA1 μ5 20 r2.toNatClampNeg 7) (fun r13 μ13 => MC X W true d 297 [.ref P.1, .int 107] P μ13 (fun r14 μ14 => R r2 μ14) T) T)))) (fun _ => False)) ∧ (¬ r4 = 0 → MC X W true d 294 [.ref P.1] P μ4 (fun r15 μ15 => MC X W true d 305 [.ref P.1] P μ15 (fun r16 μ16 => (MI r2 (μ16.2.2 22) ∧ MC X W true d 296 [.ref P.1, .int 123] P (mA1 μ16 22 r2.toNatClampNeg r16) (fun r17 μ17 => ((r17 = 0 → (MI r2 (μ17.2.2 20) ∧ MC X W true d 296 [.ref P.1, .int 123] P (mA1 μ17 20 r2.toNatClampNeg 6) (fun r18 μ18 => ((r18 = 0 → MC X W true d 297 [.ref P.1, .int 112] P μ18 (fun r19 μ19 => MC X W true d 313 [.ref P.1] P μ19 (fun r20 μ20 => (MI r2 (μ20.2.2 23) ∧ MC X W true d 297 [.ref P.1, .int 107] P (mA1 μ20 23 r2.toNatClampNeg r20) (fun r21 μ21 => R r2 μ21) T)) T) T) ∧ (¬ r18 = 0 → MC X W true d 294 [.ref P.1] P μ18 (fun r22 μ22 => MC X W true d 312 [.ref P.1] P μ22 (fun r23 μ23 => (MI r2 (μ23.2.2 23) ∧ MC X W true d 297 [.ref P.1, .int 107] P (mA1 μ23 23 r2.toNatClampNeg r23) (fun r24 μ24 => R r2 μ24) T)) T) T))) (fun _ => False))) ∧ (¬ r17 = 0 → (MI r2 (μ17.2.2 20) ∧ MC X W true d 296 [.ref P.1, .int 123] P (mA1 μ17 20 r2.toNatClampNeg 5) (fun r25 μ25 => ((r25 = 0 → MC X W true d 297 [.ref P.1, .int 112] P μ25 (fun r26 μ26 => MC X W true d 313 [.ref P.1] P μ26 (fun r27 μ27 => (MI r2 (μ27.2.2 23) ∧ MC X W true d 297 [.ref P.1, .int 107] P (mA1 μ27 23 r2.toNatClampNeg r27) (fun r28 μ28 => R r2 μ28) T)) T) T) ∧ (¬ r25 = 0 → MC X W true d 294 [.ref P.1] P μ25 (fun r29 μ29 => MC X W true d 312 [.ref P.1] P μ29 (fun r30 μ30 => (MI r2 (μ30.2.2 23) ∧ MC X W true d 297 [.ref P.1, .int 107] P (mA1 μ30 23 r2.toNatClampNeg r30) (fun r31 μ31 => R r2 μ31) T)) T) T))) (fun _ => False))))) (fun _ => False))) T) T))) (fun _ => False)) ∧ (¬ r3 = 0 → MC X W true d 294 [.ref P.1] P μ3 (fun r32 μ32 => MC X W true d 291 [.ref P.1] P μ32 (fun r33 μ33 => (MI r2 (μ33.2.2 31) ∧ MC X W true d 298 [.ref P.1] P (mA1 μ33 31 r2.toNatClampNeg r33) (fun r34 μ34 => (MI r2 (μ34.2.2 22) ∧ MC X W true d 296 [.ref P.1, .int 123] P (mA1 μ34 22 r2.toNatClampNeg r34) (fun r35 μ35 => ((r35 = 0 → MC X W true d 296 [.ref P.1, .int 112] P μ35 (fun r36 μ36 => ((¬ r36 = 0 → MC X W true d 294 [.ref P.1] P μ36 (fun r37 μ37 => MC X W true d 312 [.ref P.1] P μ37 (fun r38 μ38 => (MI r2 (μ38.2.2 23) ∧ MC X W true d 297 [.ref P.1, .int 107] P (mA1 μ38 23 r2.toNatClampNeg r38) (fun r39 μ39 => R r2 μ39) T)) T) T) ∧ (r36 = 0 → MC X W true d 295 [.ref P.1] P μ36 (fun r40 μ40 => MC X W true d 294 [.ref P.1] P μ40 (fun r41 μ41 => MC X W true d 312 [.ref P.1] P μ41 (fun r42 μ42 => (MI r2 (μ42.2.2 23) ∧ MC X W true d 297 [.ref P.1, .int 107] P (mA1 μ42 23 r2.toNatClampNeg r42) (fun r43 μ43 => R r2 μ43) T)) T) T) T))) (fun _ => False)) ∧ (¬ r35 = 0 → (MI r2 (μ35.2.2 20) ∧ MC X W true d 294 [.ref P.1] P (mA1 μ35 20 r2.toNatClampNeg 4) (fun r44 μ44 => MC X W true d 312 [.ref P.1] P μ44 (fun r45 μ45 => (MI r2 (μ45.2.2 23) ∧ MC X W true d 297 [.ref P.1, .int 107] P (mA1 μ45 23 r2.toNatClampNeg r45) (fun r46 μ46 => R r2 μ46) T)) T) T)))) (fun _ => False))) T)) (fun _ => False)) T))) (fun _ => False)) (fun _ => False)) (fun _ => False)) : ME X W true d 306 0 [(0, .ref P.1), (1, .int x1)] [] P μ R T := by
  refine me_go (pc1 := 2) (lv1 := [(0, .ref P.1), (1, .int x1)]) (st1 := [.ref P.1, .ref P.1]) 2 rfl ?_
  refine me_callN rfl rfl rfl (h.mono (fun r1 μ1 h => ?_) (fun _ h => h))
  refine me_put rfl rfl rfl ?_
  refine me_go (pc1 := 12) (lv1 := [(0, .ref P.1), (1, .int x1)]) (st1 := [.int (-1), .int (-1), .int 3, .ref P.1]) 4 rfl ?_
  refine me_callN rfl rfl rfl (h.mono (fun r2 μ2 h => ?_) (fun _ h => h))
  refine me_go (pc1 := 19) (lv1 := [(2, .int r2), (0, .ref P.1), (1, .int x1)]) (st1 := [.int 53, .ref P.1]) 3 rfl ?_
  refine me_callN rfl rfl rfl (h.mono (fun r3 μ3 h => ?_) (fun _ h => h))
  refine me_ifc rfl rfl (fun c => ?_) (fun c => ?_)
  · replace h := h.1 (ci_eq c)
    refine me_go (pc1 := 101) (lv1 := [(2, .int r2), (0, .ref P.1), (1, .int x1)]) (st1 := [.int 45, .ref P.1]) 2 rfl ?_
    refine me_callN rfl rfl rfl (h.mono (fun r4 μ4 h => ?_) (fun _ h => h))
    refine me_ifc rfl rfl (fun c => ?_) (fun c => ?_)
    · replace h := h.1 (ci_eq c)
      refine me_go (pc1 := 190) (lv1 := [(2, .int r2), (0, .ref P.1), (1, .int x1)]) (st1 := [.int 55, .ref P.1]) 2 rfl ?_
      refine me_callN rfl rfl rfl (h.mono (fun r5 μ5 h => ?_) (fun _ h => h))
      refine me_ifc rfl rfl (fun c => ?_) (fun c => ?_)
      · replace h := h.1 (ci_eq c)
        refine me_go (pc1 := 215) (lv1 := [(2, .int r2), (0, .ref P.1), (1, .int x1)]) (st1 := [.int 12, .ref P.1]) 2 rfl ?_
        refine me_callN rfl rfl rfl (h.mono (fun r6 μ6 h => ?_) (fun _ h => h))
        refine me_ifc rfl rfl (fun c => ?_) (fun c => ?_)
        · replace h := h.1 (ci_eq c)
          refine me_go (pc1 := 259) (lv1 := [(2, .int r2), (0, .ref P.1), (1, .int x1)]) (st1 := [.int x1, .int r2, .ref P.1]) 3 rfl ?_
          refine me_call rfl rfl rfl rfl (h.mono (fun r7 μ7 h => ?_) (fun _ h => h))
          refine me_go (pc1 := 265) (lv1 := [(2, .int r2), (0, .ref P.1), (1, .int x1)]) (st1 := [.int 107, .ref P.1]) 2 rfl ?_
          refine me_call rfl rfl rfl rfl (h.mono (fun r8 μ8 h => ?_) (fun _ h => h))
          refine me_go (pc1 := 269) (lv1 := [(2, .int r2), (0, .ref P.1), (1, .int x1)]) (st1 := [.int r2]) 1 rfl ?_
          exact me_ret rfl rfl rfl h
        · replace h := h.2 (cn_eq c)
          refine me_go (pc1 := 222) (lv1 := [(2, .int r2), (0, .ref P.1), (1, .int x1)]) (st1 := [.ref P.1]) 1 rfl ?_
          refine me_getf (v := .ref (P.2.1 20)) rfl rfl rfl ?_
          refine me_go (pc1 := 228) (lv1 := [(2, .int r2), (0, .ref P.1), (1, .int x1)]) (st1 := [.int 8, .int r2, .ref (P.2.1 20)]) 2 rfl ?_
          have hi := h.1
          replace h := h.2
          refine me_iast rfl (g := 20) rfl rfl hi ?_
          refine me_go (pc1 := 230) (lv1 := [(2, .int r2), (0, .ref P.1), (1, .int x1)]) (st1 := [.ref P.1]) 1 rfl ?_
          refine me_call rfl rfl rfl rfl (h.mono (fun r9 μ9 h => ?_) (fun _ h => h))
          refine me_go (pc1 := 234) (lv1 := [(2, .int r2), (0, .ref P.1), (1, .int x1)]) (st1 := [.ref P.1]) 1 rfl ?_
          refine me_getf (v := .ref (P.2.1 31)) rfl rfl rfl ?_
          refine me_go (pc1 := 239) (lv1 := [(2, .int r2), (0, .ref P.1), (1, .int x1)]) (st1 := [.ref P.1, .int r2, .ref (P.2.1 31)]) 2 rfl ?_
          refine me_callN rfl rfl rfl (h.mono (fun r10 μ10 h => ?_) (fun _ h => h))
          have hi := h.1
          replace h := h.2
          refine me_iast rfl (g := 31) rfl rfl hi ?_
          refine me_go (pc1 := 244) (lv1 := [(2, .int r2), (0, .ref P.1), (1, .int x1)]) (st1 := [.ref P.1]) 1 rfl ?_
          refine me_getf (v := .ref (P.2.1 22)) rfl rfl rfl ?_
          refine me_go (pc1 := 249) (lv1 := [(2, .int r2), (0, .ref P.1), (1, .int x1)]) (st1 := [.ref P.1, .int r2, .ref (P.2.1 22)]) 2 rfl ?_
          refine me_call rfl rfl rfl rfl (h.mono (fun r11 μ11 h => ?_) (fun _ h => h))
          have hi := h.1
          replace h := h.2
          refine me_iast rfl (g := 22) rfl rfl hi ?_
          refine me_go (pc1 := 265) (lv1 := [(2, .int r2), (0, .ref P.1), (1, .int x1)]) (st1 := [.int 107, .ref P.1]) 3 rfl ?_
          refine me_call rfl rfl rfl rfl (h.mono (fun r12 μ12 h => ?_) (fun _ h => h))
          refine me_go (pc1 := 269) (lv1 := [(2, .int r2), (0, .ref P.1), (1, .int x1)]) (st1 := [.int r2]) 1 rfl ?_
          exact me_ret rfl rfl rfl h
      · replace h := h.2 (cn_eq c)
        refine me_go (pc1 := 197) (lv1 := [(2, .int r2), (0, .ref P.1), (1, .int x1)]) (st1 := [.ref P.1]) 1 rfl ?_
        refine me_getf (v := .ref (P.2.1 20)) rfl rfl rfl ?_
        refine me_go (pc1 := 203) (lv1 := [(2, .int r2), (0, .ref P.1), (1, .int x1)]) (st1 := [.int 7, .int r2, .ref (P.2.1 20)]) 2 rfl ?_
        have hi := h.1
        replace h := h.2
        refine me_iast rfl (g := 20) rfl rfl hi ?_
        refine me_go (pc1 := 206) (lv1 := [(2, .int r2), (0, .ref P.1), (1, .int x1)]) (st1 := [.int r2, .ref P.1]) 2 rfl ?_
        refine me_call rfl rfl rfl rfl (h.mono (fun r13 μ13 h => ?_) (fun _ h => h))
        refine me_go (pc1 := 265) (lv1 := [(2, .int r2), (0, .ref P.1), (1, .int x1)]) (st1 := [.int 107, .ref P.1]) 3 rfl ?_
        refine me_call rfl rfl rfl rfl (h.mono (fun r14 μ14 h => ?_) (fun _ h => h))
        refine me_go (pc1 := 269) (lv1 := [(2, .int r2), (0, .ref P.1), (1, .int x1)]) (st1 := [.int r2]) 1 rfl ?_
        exact me_ret rfl rfl rfl h
    · replace h := h.2 (cn_eq c)
      refine me_go (pc1 := 108) (lv1 := [(2, .int r2), (0, .ref P.1), (1, .int x1)]) (st1 := [.ref P.1]) 1 rfl ?_
      refine me_call rfl rfl rfl rfl (h.mono (fun r15 μ15 h => ?_) (fun _ h => h))
      refine me_go (pc1 := 112) (lv1 := [(2, .int r2), (0, .ref P.1), (1, .int x1)]) (st1 := [.ref P.1]) 1 rfl ?_
      refine me_getf (v := .ref (P.2.1 22)) rfl rfl rfl ?_
      refine me_go (pc1 := 117) (lv1 := [(2, .int r2), (0, .ref P.1), (1, .int x1)]) (st1 := [.ref P.1, .int r2, .ref (P.2.1 22)]) 2 rfl ?_
      refine me_call rfl rfl rfl rfl (h.mono (fun r16 μ16 h => ?_) (fun _ h => h))
      have hi := h.1
      replace h := h.2
      refine me_iast rfl (g := 22) rfl rfl hi ?_
      refine me_go (pc1 := 122) (lv1 := [(2, .int r2), (0, .ref P.1), (1, .int x1)]) (st1 := [.ref P.1]) 1 rfl ?_
      refine me_getf (v := .ref (P.2.1 20)) rfl rfl rfl ?_
      refine me_go (pc1 := 129) (lv1 := [(2, .int r2), (0, .ref P.1), (1, .int x1)]) (st1 := [.int 123, .ref P.1, .int r2, .ref (P.2.1 20)]) 3 rfl ?_
      refine me_callN rfl rfl rfl (h.mono (fun r17 μ17 h => ?_) (fun _ h => h))
      refine me_ifc rfl rfl (fun c => ?_) (fun c => ?_)
      · replace h := h.1 (ci_eq c)
        refine me_go (pc1 := 141) (lv1 := [(2, .int r2), (0, .ref P.1), (1, .int x1)]) (st1 := [.int 6, .int r2, .ref (P.2.1 20)]) 1 rfl ?_
        have hi := h.1
        replace h := h.2
        refine me_iast rfl (g := 20) rfl rfl hi ?_
        refine me_go (pc1 := 145) (lv1 := [(2, .int r2), (0, .ref P.1), (1, .int x1)]) (st1 := [.int 123, .ref P.1]) 2 rfl ?_
        refine me_callN rfl rfl rfl (h.mono (fun r18 μ18 h => ?_) (fun _ h => h))
        refine me_ifc rfl rfl (fun c => ?_) (fun c => ?_)
        · replace h := h.1 (ci_eq c)
          refine me_go (pc1 := 171) (lv1 := [(2, .int r2), (0, .ref P.1), (1, .int x1)]) (st1 := [.int 112, .ref P.1]) 2 rfl ?_
          refine me_call rfl rfl rfl rfl (h.mono (fun r19 μ19 h => ?_) (fun _ h => h))
          refine me_go (pc1 := 175) (lv1 := [(2, .int r2), (0, .ref P.1), (1, .int x1)]) (st1 := [.ref P.1]) 1 rfl ?_
          refine me_getf (v := .ref (P.2.1 23)) rfl rfl rfl ?_
          refine me_go (pc1 := 180) (lv1 := [(2, .int r2), (0, .ref P.1), (1, .int x1)]) (st1 := [.ref P.1, .int r2, .ref (P.2.1 23)]) 2 rfl ?_
          refine me_call rfl rfl rfl rfl (h.mono (fun r20 μ20 h => ?_) (fun _ h => h))
          have hi := h.1
          replace h := h.2
          refine me_iast rfl (g := 23) rfl rfl hi ?_
          refine me_go (pc1 := 265) (lv1 := [(2, .int r2), (0, .ref P.1), (1, .int x1)]) (st1 := [.int 107, .ref P.1]) 3 rfl ?_
          refine me_call rfl rfl rfl rfl (h.mono (fun r21 μ21 h => ?_) (fun _ h => h))
          refine me_go (pc1 := 269) (lv1 := [(2, .int r2), (0, .ref P.1), (1, .int x1)]) (st1 := [.int r2]) 1 rfl ?_
          exact me_ret rfl rfl rfl h
        · replace h := h.2 (cn_eq c)
          refine me_go (pc1 := 152) (lv1 := [(2, .int r2), (0, .ref P.1), (1, .int x1)]) (st1 := [.ref P.1]) 1 rfl ?_
          refine me_call rfl rfl rfl rfl (h.mono (fun r22 μ22 h => ?_) (fun _ h => h))
          refine me_go (pc1 := 156) (lv1 := [(2, .int r2), (0, .ref P.1), (1, .int x1)]) (st1 := [.ref P.1]) 1 rfl ?_
          refine me_getf (v := .ref (P.2.1 23)) rfl rfl rfl ?_
          refine me_go (pc1 := 161) (lv1 := [(2, .int r2), (0, .ref P.1), (1, .int x1)]) (st1 := [.ref P.1, .int r2, .ref (P.2.1 23)]) 2 rfl ?_
          refine me_call rfl rfl rfl rfl (h.mono (fun r23 μ23 h => ?_) (fun _ h => h))
          have hi := h.1
          replace h := h.2
          refine me_iast rfl (g := 23) rfl rfl hi ?_
          refine me_go (pc1 := 265) (lv1 := [(2, .int r2), (0, .ref P.1), (1, .int x1)]) (st1 := [.int 107, .ref P.1]) 3 rfl ?_
          refine me_call rfl rfl rfl rfl (h.mono (fun r24 μ24 h => ?_) (fun _ h => h))
          refine me_go (pc1 := 269) (lv1 := [(2, .int r2), (0, .ref P.1), (1, .int x1)]) (st1 := [.int r2]) 1 rfl ?_
          exact me_ret rfl rfl rfl h
      · replace h := h.2 (cn_eq c)
        refine me_go (pc1 := 141) (lv1 := [(2, .int r2), (0, .ref P.1), (1, .int x1)]) (st1 := [.int 5, .int r2, .ref (P.2.1 20)]) 2 rfl ?_
        have hi := h.1
        replace h := h.2
        refine me_iast rfl (g := 20) rfl rfl hi ?_
        refine me_go (pc1 := 145) (lv1 := [(2, .int r2), (0, .ref P.1), (1, .int x1)]) (st1 := [.int 123, .ref P.1]) 2 rfl ?_
        refine me_callN rfl rfl rfl (h.mono (fun r25 μ25 h => ?_) (fun _ h => h))
        refine me_ifc rfl rfl (fun c => ?_) (fun c => ?_)
        · replace h := h.1 (ci_eq c)
          refine me_go (pc1 := 171) (lv1 := [(2, .int r2), (0, .ref P.1), (1, .int x1)]) (st1 := [.int 112, .ref P.1]) 2 rfl ?_
          refine me_call rfl rfl rfl rfl (h.mono (fun r26 μ26 h => ?_) (fun _ h => h))
          refine me_go (pc1 := 175) (lv1 := [(2, .int r2), (0, .ref P.1), (1, .int x1)]) (st1 := [.ref P.1]) 1 rfl ?_
          refine me_getf (v := .ref (P.2.1 23)) rfl rfl rfl ?_
          refine me_go (pc1 := 180) (lv1 := [(2, .int r2), (0, .ref P.1), (1, .int x1)]) (st1 := [.ref P.1, .int r2, .ref (P.2.1 23)]) 2 rfl ?_
          refine me_call rfl rfl rfl rfl (h.mono (fun r27 μ27 h => ?_) (fun _ h => h))
          have hi := h.1
          replace h := h.2
          refine me_iast rfl (g := 23) rfl rfl hi ?_
          refine me_go (pc1 := 265) (lv1 := [(2, .int r2), (0, .ref P.1), (1, .int x1)]) (st1 := [.int 107, .ref P.1]) 3 rfl ?_
          refine me_call rfl rfl rfl rfl (h.mono (fun r28 μ28 h => ?_) (fun _ h => h))
          refine me_go (pc1 := 269) (lv1 := [(2, .int r2), (0, .ref P.1), (1, .int x1)]) (st1 := [.int r2]) 1 rfl ?_
          exact me_ret rfl rfl rfl h
        · replace h := h.2 (cn_eq c)
          refine me_go (pc1 := 152) (lv1 := [(2, .int r2), (0, .ref P.1), (1, .int x1)]) (st1 := [.ref P.1]) 1 rfl ?_
          refine me_call rfl rfl rfl rfl (h.mono (fun r29 μ29 h => ?_) (fun _ h => h))
          refine me_go (pc1 := 156) (lv1 := [(2, .int r2), (0, .ref P.1), (1, .int x1)]) (st1 := [.ref P.1]) 1 rfl ?_
          refine me_getf (v := .ref (P.2.1 23)) rfl rfl rfl ?_
          refine me_go (pc1 := 161) (lv1 := [(2, .int r2), (0, .ref P.1), (1, .int x1)]) (st1 := [.ref P.1, .int r2, .ref (P.2.1 23)]) 2 rfl ?_
          refine me_call rfl rfl rfl rfl (h.mono (fun r30 μ30 h => ?_) (fun _ h => h))
          have hi := h.1
          replace h := h.2
          refine me_iast rfl (g := 23) rfl rfl hi ?_
          refine me_go (pc1 := 265) (lv1 := [(2, .int r2), (0, .ref P.1), (1, .int x1)]) (st1 := [.int 107, .ref P.1]) 3 rfl ?_
          refine me_call rfl rfl rfl rfl (h.mono (fun r31 μ31 h => ?_) (fun _ h => h))
          refine me_go (pc1 := 269) (lv1 := [(2, .int r2), (0, .ref P.1), (1, .int x1)]) (st1 := [.int r2]) 1 rfl ?_
          exact me_ret rfl rfl rfl h
  · replace h := h.2 (cn_eq c)
    refine me_go (pc1 := 26) (lv1 := [(2, .int r2), (0, .ref P.1), (1, .int x1)]) (st1 := [.ref P.1]) 1 rfl ?_
    refine me_call rfl rfl rfl rfl (h.mono (fun r32 μ32 h => ?_) (fun _ h => h))
    refine me_go (pc1 := 30) (lv1 := [(2, .int r2), (0, .ref P.1), (1, .int x1)]) (st1 := [.ref P.1]) 1 rfl ?_
    refine me_getf (v := .ref (P.2.1 31)) rfl rfl rfl ?_
    refine me_go (pc1 := 35) (lv1 := [(2, .int r2), (0, .ref P.1), (1, .int x1)]) (st1 := [.ref P.1, .int r2, .ref (P.2.1 31)]) 2 rfl ?_
    refine me_callN rfl rfl rfl (h.mono (fun r33 μ33 h => ?_) (fun _ h => h))
    have hi := h.1
    replace h := h.2
    refine me_iast rfl (g := 31) rfl rfl hi ?_
    refine me_go (pc1 := 40) (lv1 := [(2, .int r2), (0, .ref P.1), (1, .int x1)]) (st1 := [.ref P.1]) 1 rfl ?_
    refine me_getf (v := .ref (P.2.1 22)) rfl rfl rfl ?_
    refine me_go (pc1 := 45) (lv1 := [(2, .int r2), (0, .ref P.1), (1, .int x1)]) (st1 := [.ref P.1, .int r2, .ref (P.2.1 22)]) 2 rfl ?_
    refine me_call rfl rfl rfl rfl (h.mono (fun r34 μ34 h => ?_) (fun _ h => h))
    have hi := h.1
    replace h := h.2
    refine me_iast rfl (g := 22) rfl rfl hi ?_
    refine me_go (pc1 := 52) (lv1 := [(2, .int r2), (0, .ref P.1), (1, .int x1)]) (st1 := [.int 123, .ref P.1]) 2 rfl ?_
    refine me_callN rfl rfl rfl (h.mono (fun r35 μ35 h => ?_) (fun _ h => h))
    refine me_ifc rfl rfl (fun c => ?_) (fun c => ?_)
    · replace h := h.1 (ci_eq c)
      refine me_go (pc1 := 71) (lv1 := [(2, .int r2), (0, .ref P.1), (1, .int x1)]) (st1 := [.int 112, .ref P.1]) 2 rfl ?_
      refine me_callN rfl rfl rfl (h.mono (fun r36 μ36 h => ?_) (fun _ h => h))
      refine me_ifc rfl rfl (fun c => ?_) (fun c => ?_)
      · replace h := h.1 (ci_ne c)
        refine me_go (pc1 := 82) (lv1 := [(2, .int r2), (0, .ref P.1), (1, .int x1)]) (st1 := [.ref P.1]) 1 rfl ?_
        refine me_call rfl rfl rfl rfl (h.mono (fun r37 μ37 h => ?_) (fun _ h => h))
        refine me_go (pc1 := 86) (lv1 := [(2, .int r2), (0, .ref P.1), (1, .int x1)]) (st1 := [.ref P.1]) 1 rfl ?_
        refine me_getf (v := .ref (P.2.1 23)) rfl rfl rfl ?_
        refine me_go (pc1 := 91) (lv1 := [(2, .int r2), (0, .ref P.1), (1, .int x1)]) (st1 := [.ref P.1, .int r2, .ref (P.2.1 23)]) 2 rfl ?_
        refine me_call rfl rfl rfl rfl (h.mono (fun r38 μ38 h => ?_) (fun _ h => h))
        have hi := h.1
        replace h := h.2
        refine me_iast rfl (g := 23) rfl rfl hi ?_
        refine me_go (pc1 := 265) (lv1 := [(2, .int r2), (0, .ref P.1), (1, .int x1)]) (st1 := [.int 107, .ref P.1]) 3 rfl ?_
        refine me_call rfl rfl rfl rfl (h.mono (fun r39 μ39 h => ?_) (fun _ h => h))
        refine me_go (pc1 := 269) (lv1 := [(2, .int r2), (0, .ref P.1), (1, .int x1)]) (st1 := [.int r2]) 1 rfl ?_
        exact me_ret rfl rfl rfl h
      · replace h := h.2 (cn_ne c)
        refine me_go (pc1 := 78) (lv1 := [(2, .int r2), (0, .ref P.1), (1, .int x1)]) (st1 := [.ref P.1]) 1 rfl ?_
        refine me_call rfl rfl rfl rfl (h.mono (fun r40 μ40 h => ?_) (fun _ h => h))
        refine me_go (pc1 := 82) (lv1 := [(2, .int r2), (0, .ref P.1), (1, .int x1)]) (st1 := [.ref P.1]) 1 rfl ?_
        refine me_call rfl rfl rfl rfl (h.mono (fun r41 μ41 h => ?_) (fun _ h => h))
        refine me_go (pc1 := 86) (lv1 := [(2, .int r2), (0, .ref P.1), (1, .int x1)]) (st1 := [.ref P.1]) 1 rfl ?_
        refine me_getf (v := .ref (P.2.1 23)) rfl rfl rfl ?_
        refine me_go (pc1 := 91) (lv1 := [(2, .int r2), (0, .ref P.1), (1, .int x1)]) (st1 := [.ref P.1, .int r2, .ref (P.2.1 23)]) 2 rfl ?_
        refine me_call rfl rfl rfl rfl (h.mono (fun r42 μ42 h => ?_) (fun _ h => h))
        have hi := h.1
        replace h := h.2
        refine me_iast rfl (g := 23) rfl rfl hi ?_
        refine me_go (pc1 := 265) (lv1 := [(2, .int r2), (0, .ref P.1), (1, .int x1)]) (st1 := [.int 107, .ref P.1]) 3 rfl ?_
        refine me_call rfl rfl rfl rfl (h.mono (fun r43 μ43 h => ?_) (fun _ h => h))
        refine me_go (pc1 := 269) (lv1 := [(2, .int r2), (0, .ref P.1), (1, .int x1)]) (st1 := [.int r2]) 1 rfl ?_
        exact me_ret rfl rfl rfl h
    · replace h := h.2 (cn_eq c)
      refine me_go (pc1 := 59) (lv1 := [(2, .int r2), (0, .ref P.1), (1, .int x1)]) (st1 := [.ref P.1]) 1 rfl ?_
      refine me_getf (v := .ref (P.2.1 20)) rfl rfl rfl ?_
      refine me_go (pc1 := 64) (lv1 := [(2, .int r2), (0, .ref P.1), (1, .int x1)]) (st1 := [.int 4, .int r2, .ref (P.2.1 20)]) 2 rfl ?_
      have hi := h.1
      replace h := h.2
      refine me_iast rfl (g := 20) rfl rfl hi ?_
      refine me_go (pc1 := 82) (lv1 := [(2, .int r2), (0, .ref P.1), (1, .int x1)]) (st1 := [.ref P.1]) 2 rfl ?_
      refine me_call rfl rfl rfl rfl (h.mono (fun r44 μ44 h => ?_) (fun _ h => h))
      refine me_go (pc1 := 86) (lv1 := [(2, .int r2), (0, .ref P.1), (1, .int x1)]) (st1 := [.ref P.1]) 1 rfl ?_
      refine me_getf (v := .ref (P.2.1 23)) rfl rfl rfl ?_
      refine me_go (pc1 := 91) (lv1 := [(2, .int r2), (0, .ref P.1), (1, .int x1)]) (st1 := [.ref P.1, .int r2, .ref (P.2.1 23)]) 2 rfl ?_
      refine me_call rfl rfl rfl rfl (h.mono (fun r45 μ45 h => ?_) (fun _ h => h))
      have hi := h.1
      replace h := h.2
      refine me_iast rfl (g := 23) rfl rfl hi ?_
      refine me_go (pc1 := 265) (lv1 := [(2, .int r2), (0, .ref P.1), (1, .int x1)]) (st1 := [.int 107, .ref P.1]) 3 rfl ?_
      refine me_call rfl rfl rfl rfl (h.mono (fun r46 μ46 h => ?_) (fun _ h => h))
      refine me_go (pc1 := 269) (lv1 := [(2, .int r2), (0, .ref P.1), (1, .int x1)]) (st1 := [.int r2]) 1 rfl ?_
      exact me_ret rfl rfl rfl h
theorem v_variables_0 {X : ev_X} {W : Nat → Prop} {d : Nat} {P : MP} {μ : MS} {R : Int32 → MS → Prop} {T : MS → Prop} (x1 : Int32) (h : MC X W true d 294 [.ref P.1] P μ (fun r1 μ1 => MC X W true d 304 [.ref P.1, .int 10] P μ1 (fun r2 μ2 => (MI x1 (μ2.2.2 22) ∧ MC X W true d 297 [.ref P.1, .int 108] P (mA1 μ2 22 x1.toNatClampNeg r2) (fun r3 μ3 => MC X W true d 312 [.ref P.1] P μ3 (fun r4 μ4 => (MI x1 (μ4.2.2 23) ∧ R 0 (mA1 μ4 23 x1.toNatClampNeg r4))) T) T)) T) T) : ME X W true d 307 0 [(0, .ref P.1), (1, .int x1)] [] P μ R T := by
  refine me_go (pc1 := 1) (lv1 := [(0, .ref P.1), (1, .int x1)]) (st1 := [.ref P.1]) 1 rfl ?_
  refine me_call rfl rfl rfl rfl (h.mono (fun r1 μ1 h => ?_) (fun _ h => h))
  refine me_go (pc1 := 5) (lv1 := [(0, .ref P.1), (1, .int x1)]) (st1 := [.ref P.1]) 1 rfl ?_
  refine me_getf (v := .ref (P.2.1 22)) rfl rfl rfl ?_
  refine me_go (pc1 := 12) (lv1 := [(0, .ref P.1), (1, .int x1)]) (st1 := [.int 10, .ref P.1, .int x1, .ref (P.2.1 22)]) 3 rfl ?_
  refine me_call rfl rfl rfl rfl (h.mono (fun r2 μ2 h => ?_) (fun _ h => h))
  have hi := h.1
  replace h := h.2
  refine me_iast rfl (g := 22) rfl rfl hi ?_
  refine me_go (pc1 := 19) (lv1 := [(0, .ref P.1), (1, .int x1)]) (st1 := [.int 108, .ref P.1]) 2 rfl ?_
  refine me_call rfl rfl rfl rfl (h.mono (fun r3 μ3 h => ?_) (fun _ h => h))
  refine me_go (pc1 := 23) (lv1 := [(0, .ref P.1), (1, .int x1)]) (st1 := [.ref P.1]) 1 rfl ?_
  refine me_getf (v := .ref (P.2.1 23)) rfl rfl rfl ?_
  refine me_go (pc1 := 28) (lv1 := [(0, .ref P.1), (1, .int x1)]) (st1 := [.ref P.1, .int x1, .ref (P.2.1 23)]) 2 rfl ?_
  refine me_call rfl rfl rfl rfl (h.mono (fun r4 μ4 h => ?_) (fun _ h => h))
  have hi := h.1
  replace h := h.2
  refine me_iast rfl (g := 23) rfl rfl hi ?_
  exact me_ret (v := none) (r := 0) rfl rfl rfl h
theorem v_procedure_0 {X : ev_X} {W : Nat → Prop} {d : Nat} {P : MP} {μ : MS} {R : Int32 → MS → Prop} {T : MS → Prop} (x1 : Int32) (x2 : Int32) (h : (MI x1 (μ.2.2 20) ∧ MC X W true d 294 [.ref P.1] P (mA1 μ 20 x1.toNatClampNeg 9) (fun r1 μ1 => MC X W true d 291 [.ref P.1] P μ1 (fun r2 μ2 => (MI x1 (μ2.2.2 31) ∧ MC X W true d 298 [.ref P.1] P (mA1 μ2 31 x1.toNatClampNeg r2) (fun r3 μ3 => (MI x1 (μ3.2.2 22) ∧ MC X W true d 309 [.ref P.1] P (mA1 μ3 22 x1.toNatClampNeg r3) (fun r4 μ4 => (MI x1 (μ4.2.2 23) ∧ ((¬ x2 = 0 → MC X W true d 297 [.ref P.1, .int 112] P (mA1 μ4 23 x1.toNatClampNeg r4) (fun r5 μ5 => ME X W true d 308 58 [(0, .ref P.1), (1, .int x1), (2, .int x2), (3, .int (-1)), (4, .int (-1))] [] P μ5 R T) T) ∧ (x2 = 0 → R 0 (mA1 μ4 23 x1.toNatClampNeg r4))))) T)) T)) (fun _ => False)) T)) : ME X W true d 308 0 [(0, .ref P.1), (1, .int x1), (2, .int x2)] [] P μ R T := by
  refine me_go (pc1 := 1) (lv1 := [(0, .ref P.1), (1, .int x1), (2, .int x2)]) (st1 := [.ref P.1]) 1 rfl ?_
  refine me_getf (v := .ref (P.2.1 20)) rfl rfl rfl ?_
  refine me_go (pc1 := 7) (lv1 := [(0, .ref P.1), (1, .int x1), (2, .int x2)]) (st1 := [.int 9, .int x1, .ref (P.2.1 20)]) 2 rfl ?_
  have hi := h.1
  replace h := h.2
  refine me_iast rfl (g := 20) rfl rfl hi ?_
  refine me_go (pc1 := 9) (lv1 := [(0, .ref P.1), (1, .int x1), (2, .int x2)]) (st1 := [.ref P.1]) 1 rfl ?_
  refine me_call rfl rfl rfl rfl (h.mono (fun r1 μ1 h => ?_) (fun _ h => h))
  refine me_go (pc1 := 13) (lv1 := [(0, .ref P.1), (1, .int x1), (2, .int x2)]) (st1 := [.ref P.1]) 1 rfl ?_
  refine me_getf (v := .ref (P.2.1 31)) rfl rfl rfl ?_
  refine me_go (pc1 := 18) (lv1 := [(0, .ref P.1), (1, .int x1), (2, .int x2)]) (st1 := [.ref P.1, .int x1, .ref (P.2.1 31)]) 2 rfl ?_
  refine me_callN rfl rfl rfl (h.mono (fun r2 μ2 h => ?_) (fun _ h => h))
  have hi := h.1
  replace h := h.2
  refine me_iast rfl (g := 31) rfl rfl hi ?_
  refine me_go (pc1 := 23) (lv1 := [(0, .ref P.1), (1, .int x1), (2, .int x2)]) (st1 := [.ref P.1]) 1 rfl ?_
  refine me_getf (v := .ref (P.2.1 22)) rfl rfl rfl ?_
  refine me_go (pc1 := 28) (lv1 := [(0, .ref P.1), (1, .int x1), (2, .int x2)]) (st1 := [.ref P.1, .int x1, .ref (P.2.1 22)]) 2 rfl ?_
  refine me_call rfl rfl rfl rfl (h.mono (fun r3 μ3 h => ?_) (fun _ h => h))
  have hi := h.1
  replace h := h.2
  refine me_iast rfl (g := 22) rfl rfl hi ?_
  refine me_go (pc1 := 33) (lv1 := [(0, .ref P.1), (1, .int x1), (2, .int x2)]) (st1 := [.ref P.1]) 1 rfl ?_
  refine me_getf (v := .ref (P.2.1 23)) rfl rfl rfl ?_
  refine me_go (pc1 := 38) (lv1 := [(0, .ref P.1), (1, .int x1), (2, .int x2)]) (st1 := [.ref P.1, .int x1, .ref (P.2.1 23)]) 2 rfl ?_
  refine me_call rfl rfl rfl rfl (h.mono (fun r4 μ4 h => ?_) (fun _ h => h))
  have hi := h.1
  replace h := h.2
  refine me_iast rfl (g := 23) rfl rfl hi ?_
  refine me_go (pc1 := 43) (lv1 := [(0, .ref P.1), (1, .int x1), (2, .int x2)]) (st1 := [.int x2]) 1 rfl ?_
  refine me_ifc rfl rfl (fun c => ?_) (fun c => ?_)
  · replace h := h.1 (ci_ne c)
    refine me_go (pc1 := 50) (lv1 := [(0, .ref P.1), (1, .int x1), (2, .int x2)]) (st1 := [.int 112, .ref P.1]) 2 rfl ?_
    refine me_call rfl rfl rfl rfl (h.mono (fun r5 μ5 h => ?_) (fun _ h => h))
    refine me_go (pc1 := 58) (lv1 := [(4, .int (-1)), (3, .int (-1)), (0, .ref P.1), (1, .int x1), (2, .int x2)]) (st1 := []) 4 rfl ?_
    refine me_lv [(0, .ref P.1), (1, .int x1), (2, .int x2), (3, .int (-1)), (4, .int (-1))] (fl_c rfl (fl_c rfl (fl_c rfl (fl_c rfl (fl_c rfl fl_0))))) ?_
    exact h
  · replace h := h.2 (cn_ne c)
    exact me_ret (v := none) (r := 0) rfl rfl rfl h
theorem v_procedure_58 {X : ev_X} {W : Nat → Prop} {d : Nat} {P : MP} {μ : MS} {R : Int32 → MS → Prop} {T : MS → Prop} (x1 : Int32) (x2 : Int32) (x3 : Int32) (x4 : Int32) (h : MC X W true d 296 [.ref P.1, .int 55] P μ (fun r1 μ1 => ((r1 = 0 → (MI x1 (μ1.2.2 24) ∧ MC X W true d 297 [.ref P.1, .int 2] P (mA1 μ1 24 x1.toNatClampNeg x3) (fun r2 μ2 => MC X W true d 321 [.ref P.1] P μ2 (fun r3 μ3 => (MI x1 (μ3.2.2 25) ∧ MC X W true d 291 [.ref P.1] P (mA1 μ3 25 x1.toNatClampNeg r3) (fun r4 μ4 => (MI x1 (μ4.2.2 26) ∧ MC X W true d 297 [.ref P.1, .int 10] P (mA1 μ4 26 x1.toNatClampNeg r4) (fun r5 μ5 => (MI x1 (μ5.2.2 22) ∧ MC X W true d 303 [.ref P.1, .int (μ5.2.1 22 x1.toNatClampNeg)] P μ5 (fun r6 μ6 => R 0 μ6) T)) T)) (fun _ => False))) T) T)) ∧ (¬ r1 = 0 → MC X W true d 291 [.ref P.1] P μ1 (fun r7 μ7 => MC X W true d 292 [.ref P.1, .int 7, .int (-1), .int (-1)] P (mS1 μ7 34 r7) (fun r8 μ8 => MC X W true d 307 [.ref P.1, .int r8] P μ8 (fun r9 μ9 => MC X W true d 297 [.ref P.1, .int 107] P μ9 (fun r10 μ10 => (((0 : Int) ≤ x3.toInt → (MI x4 (μ10.2.2 27) ∧ ME X W true d 308 58 [(0, .ref P.1), (1, .int x1), (2, .int x2), (3, .int x3), (4, .int r8)] [] P (mA1 μ10 27 x4.toNatClampNeg r8) R T)) ∧ (x3.toInt < (0 : Int) → ME X W true d 308 58 [(0, .ref P.1), (1, .int x1), (2, .int x2), (3, .int r8), (4, .int r8)] [] P μ10 R T))) T) T) (fun _ => False)) (fun _ => False)))) (fun _ => False)) : ME X W true d 308 58 [(0, .ref P.1), (1, .int x1), (2, .int x2), (3, .int x3), (4, .int x4)] [] P μ R T := by
  refine me_go (pc1 := 61) (lv1 := [(0, .ref P.1), (1, .int x1), (2, .int x2), (3, .int x3), (4, .int x4)]) (st1 := [.int 55, .ref P.1]) 2 rfl ?_
  refine me_callN rfl rfl rfl (h.mono (fun r1 μ1 h => ?_) (fun _ h => h))
  refine me_ifc rfl rfl (fun c => ?_) (fun c => ?_)
  · replace h := h.1 (ci_eq c)
    refine me_go (pc1 := 124) (lv1 := [(0, .ref P.1), (1, .int x1), (2, .int x2), (3, .int x3), (4, .int x4)]) (st1 := [.ref P.1]) 1 rfl ?_
    refine me_getf (v := .ref (P.2.1 24)) rfl rfl rfl ?_
    refine me_go (pc1 := 129) (lv1 := [(0, .ref P.1), (1, .int x1), (2, .int x2), (3, .int x3), (4, .int x4)]) (st1 := [.int x3, .int x1, .ref (P.2.1 24)]) 2 rfl ?_
    have hi := h.1
    replace h := h.2
    refine me_iast rfl (g := 24) rfl rfl hi ?_
    refine me_go (pc1 := 132) (lv1 := [(0, .ref P.1), (1, .int x1), (2, .int x2), (3, .int x3), (4, .int x4)]) (st1 := [.int 2, .ref P.1]) 2 rfl ?_
    refine me_call rfl rfl rfl rfl (h.mono (fun r2 μ2 h => ?_) (fun _ h => h))
    refine me_go (pc1 := 136) (lv1 := [(0, .ref P.1), (1, .int x1), (2, .int x2), (3, .int x3), (4, .int x4)]) (st1 := [.ref P.1]) 1 rfl ?_
    refine me_getf (v := .ref (P.2.1 25)) rfl rfl rfl ?_
    refine me_go (pc1 := 141) (lv1 := [(0, .ref P.1), (1, .int x1), (2, .int x2), (3, .int x3), (4, .int x4)]) (st1 := [.ref P.1, .int x1, .ref (P.2.1 25)]) 2 rfl ?_
    refine me_call rfl rfl rfl rfl (h.mono (fun r3 μ3 h => ?_) (fun _ h => h))
    have hi := h.1
    replace h := h.2
    refine me_iast rfl (g := 25) rfl rfl hi ?_
    refine me_go (pc1 := 146) (lv1 := [(0, .ref P.1), (1, .int x1), (2, .int x2), (3, .int x3), (4, .int x4)]) (st1 := [.ref P.1]) 1 rfl ?_
    refine me_getf (v := .ref (P.2.1 26)) rfl rfl rfl ?_
    refine me_go (pc1 := 151) (lv1 := [(0, .ref P.1), (1, .int x1), (2, .int x2), (3, .int x3), (4, .int x4)]) (st1 := [.ref P.1, .int x1, .ref (P.2.1 26)]) 2 rfl ?_
    refine me_callN rfl rfl rfl (h.mono (fun r4 μ4 h => ?_) (fun _ h => h))
    have hi := h.1
    replace h := h.2
    refine me_iast rfl (g := 26) rfl rfl hi ?_
    refine me_go (pc1 := 158) (lv1 := [(0, .ref P.1), (1, .int x1), (2, .int x2), (3, .int x3), (4, .int x4)]) (st1 := [.int 10, .ref P.1]) 2 rfl ?_
    refine me_call rfl rfl rfl rfl (h.mono (fun r5 μ5 h => ?_) (fun _ h => h))
    refine me_go (pc1 := 163) (lv1 := [(0, .ref P.1), (1, .int x1), (2, .int x2), (3, .int x3), (4, .int x4)]) (st1 := [.ref P.1, .ref P.1]) 2 rfl ?_
    refine me_getf (v := .ref (P.2.1 22)) rfl rfl rfl ?_
    refine me_go (pc1 := 167) (lv1 := [(0, .ref P.1), (1, .int x1), (2, .int x2), (3, .int x3), (4, .int x4)]) (st1 := [.int x1, .ref (P.2.1 22), .ref P.1]) 1 rfl ?_
    refine me_iald rfl (g := 22) rfl rfl h.1 ?_
    replace h := h.2
    refine me_call rfl rfl rfl rfl (h.mono (fun r6 μ6 h => ?_) (fun _ h => h))
    exact me_ret (v := none) (r := 0) rfl rfl rfl h
  · replace h := h.2 (cn_eq c)
    refine me_go (pc1 := 69) (lv1 := [(0, .ref P.1), (1, .int x1), (2, .int x2), (3, .int x3), (4, .int x4)]) (st1 := [.ref P.1, .ref P.1]) 2 rfl ?_
    refine me_callN rfl rfl rfl (h.mono (fun r7 μ7 h => ?_) (fun _ h => h))
    refine me_put rfl rfl rfl ?_
    refine me_go (pc1 := 80) (lv1 := [(0, .ref P.1), (1, .int x1), (2, .int x2), (3, .int x3), (4, .int x4)]) (st1 := [.int (-1), .int (-1), .int 7, .ref P.1]) 4 rfl ?_
    refine me_callN rfl rfl rfl (h.mono (fun r8 μ8 h => ?_) (fun _ h => h))
    refine me_go (pc1 := 88) (lv1 := [(5, .int r8), (0, .ref P.1), (1, .int x1), (2, .int x2), (3, .int x3), (4, .int x4)]) (st1 := [.int r8, .ref P.1]) 3 rfl ?_
    refine me_call rfl rfl rfl rfl (h.mono (fun r9 μ9 h => ?_) (fun _ h => h))
    refine me_go (pc1 := 94) (lv1 := [(5, .int r8), (0, .ref P.1), (1, .int x1), (2, .int x2), (3, .int x3), (4, .int x4)]) (st1 := [.int 107, .ref P.1]) 2 rfl ?_
    refine me_call rfl rfl rfl rfl (h.mono (fun r10 μ10 h => ?_) (fun _ h => h))
    refine me_go (pc1 := 98) (lv1 := [(5, .int r8), (0, .ref P.1), (1, .int x1), (2, .int x2), (3, .int x3), (4, .int x4)]) (st1 := [.int x3]) 1 rfl ?_
    refine me_ifc rfl rfl (fun c => ?_) (fun c => ?_)
    · replace h := h.1 (ci_ge c)
      refine me_go (pc1 := 108) (lv1 := [(5, .int r8), (0, .ref P.1), (1, .int x1), (2, .int x2), (3, .int x3), (4, .int x4)]) (st1 := [.ref P.1]) 1 rfl ?_
      refine me_getf (v := .ref (P.2.1 27)) rfl rfl rfl ?_
      refine me_go (pc1 := 115) (lv1 := [(5, .int r8), (0, .ref P.1), (1, .int x1), (2, .int x2), (3, .int x3), (4, .int x4)]) (st1 := [.int r8, .int x4, .ref (P.2.1 27)]) 2 rfl ?_
      have hi := h.1
      replace h := h.2
      refine me_iast rfl (g := 27) rfl rfl hi ?_
      refine me_go (pc1 := 58) (lv1 := [(4, .int r8), (5, .int r8), (0, .ref P.1), (1, .int x1), (2, .int x2), (3, .int x3)]) (st1 := []) 3 rfl ?_
      refine me_lv [(0, .ref P.1), (1, .int x1), (2, .int x2), (3, .int x3), (4, .int r8)] (fl_c rfl (fl_c rfl (fl_c rfl (fl_c rfl (fl_c rfl fl_0))))) ?_
      exact h
    · replace h := h.2 (cn_ge c)
      refine me_go (pc1 := 58) (lv1 := [(4, .int r8), (3, .int r8), (5, .int r8), (0, .ref P.1), (1, .int x1), (2, .int x2)]) (st1 := []) 6 rfl ?_
      refine me_lv [(0, .ref P.1), (1, .int x1), (2, .int x2), (3, .int r8), (4, .int r8)] (fl_c rfl (fl_c rfl (fl_c rfl (fl_c rfl (fl_c rfl fl_0))))) ?_
      exact h
theorem v_signature_0 {X : ev_X} {W : Nat → Prop} {d : Nat} {P : MP} {μ : MS} {R : Int32 → MS → Prop} {T : MS → Prop}  (h : MC X W true d 292 [.ref P.1, .int 12, .int (-1), .int (-1)] P μ (fun r1 μ1 => MC X W true d 299 [.ref P.1, .int 100] P μ1 (fun r2 μ2 => MC X W true d 296 [.ref P.1, .int 101] P μ2 (fun r3 μ3 => ((¬ r3 = 0 → ME X W true d 309 38 [(0, .ref P.1), (1, .int r1), (2, .int 0), (3, .int (-1)), (4, .int (-1)), (5, .int 0)] [] P μ3 R T) ∧ (r3 = 0 → ME X W true d 309 38 [(0, .ref P.1), (1, .int r1), (2, .int 0), (3, .int (-1)), (4, .int (-1)), (5, .int 1)] [] P μ3 R T))) (fun _ => False)) T) (fun _ => False)) : ME X W true d 309 0 [(0, .ref P.1)] [] P μ R T := by
  refine me_go (pc1 := 5) (lv1 := [(0, .ref P.1)]) (st1 := [.int (-1), .int (-1), .int 12, .ref P.1]) 4 rfl ?_
  refine me_callN rfl rfl rfl (h.mono (fun r1 μ1 h => ?_) (fun _ h => h))
  refine me_go (pc1 := 12) (lv1 := [(1, .int r1), (0, .ref P.1)]) (st1 := [.int 100, .ref P.1]) 3 rfl ?_
  refine me_call rfl rfl rfl rfl (h.mono (fun r2 μ2 h => ?_) (fun _ h => h))
  refine me_go (pc1 := 25) (lv1 := [(4, .int (-1)), (3, .int (-1)), (2, .int 0), (1, .int r1), (0, .ref P.1)]) (st1 := [.int 101, .ref P.1]) 8 rfl ?_
  refine me_callN rfl rfl rfl (h.mono (fun r3 μ3 h => ?_) (fun _ h => h))
  refine me_ifc rfl rfl (fun c => ?_) (fun c => ?_)
  · replace h := h.1 (ci_ne c)
    refine me_go (pc1 := 38) (lv1 := [(5, .int 0), (4, .int (-1)), (3, .int (-1)), (2, .int 0), (1, .int r1), (0, .ref P.1)]) (st1 := []) 2 rfl ?_
    refine me_lv [(0, .ref P.1), (1, .int r1), (2, .int 0), (3, .int (-1)), (4, .int (-1)), (5, .int 0)] (fl_c rfl (fl_c rfl (fl_c rfl (fl_c rfl (fl_c rfl (fl_c rfl fl_0)))))) ?_
    exact h
  · replace h := h.2 (cn_ne c)
    refine me_go (pc1 := 38) (lv1 := [(5, .int 1), (4, .int (-1)), (3, .int (-1)), (2, .int 0), (1, .int r1), (0, .ref P.1)]) (st1 := []) 3 rfl ?_
    refine me_lv [(0, .ref P.1), (1, .int r1), (2, .int 0), (3, .int (-1)), (4, .int (-1)), (5, .int 1)] (fl_c rfl (fl_c rfl (fl_c rfl (fl_c rfl (fl_c rfl (fl_c rfl fl_0)))))) ?_
    exact h
theorem v_signature_38 {X : ev_X} {W : Nat → Prop} {d : Nat} {P : MP} {μ : MS} {R : Int32 → MS → Prop} {T : MS → Prop} (x1 : Int32) (x2 : Int32) (x3 : Int32) (x4 : Int32) (x5 : Int32) (h : ((x5 = 0 → (MI x1 (μ.2.2 22) ∧ MC X W true d 300 [.ref P.1, .int 101] P (mA1 μ 22 x1.toNatClampNeg x3) (fun r1 μ1 => MC X W true d 296 [.ref P.1, .int 108] P μ1 (fun r2 μ2 => ((r2 = 0 → ME X W true d 309 287 [(0, .ref P.1), (1, .int x1), (2, .int x2), (3, .int x3), (4, .int x4), (5, .int x5)] [] P μ2 R T) ∧ (¬ r2 = 0 → MC X W true d 294 [.ref P.1] P μ2 (fun r3 μ3 => MC X W true d 312 [.ref P.1] P μ3 (fun r4 μ4 => (MI x1 (μ4.2.2 23) ∧ ME X W true d 309 287 [(0, .ref P.1), (1, .int x1), (2, .int x2), (3, .int x3), (4, .int x4), (5, .int x5)] [] P (mA1 μ4 23 x1.toNatClampNeg r4) R T)) T) T))) (fun _ => False)) T)) ∧ (¬ x5 = 0 → MC X W true d 296 [.ref P.1, .int 55] P μ (fun r5 μ5 => ((r5 = 0 → ME X W true d 309 60 [(0, .ref P.1), (1, .int x1), (2, .int x2), (3, .int x3), (4, .int x4), (5, .int x5), (6, .int r5)] [] P μ5 R T) ∧ (¬ r5 = 0 → MC X W true d 294 [.ref P.1] P μ5 (fun r6 μ6 => ME X W true d 309 60 [(0, .ref P.1), (1, .int x1), (2, .int x2), (3, .int x3), (4, .int x4), (5, .int x5), (6, .int r5)] [] P μ6 R T) T))) (fun _ => False)))) : ME X W true d 309 38 [(0, .ref P.1), (1, .int x1), (2, .int x2), (3, .int x3), (4, .int x4), (5, .int x5)] [] P μ R T := by
  refine me_go (pc1 := 40) (lv1 := [(0, .ref P.1), (1, .int x1), (2, .int x2), (3, .int x3), (4, .int x4), (5, .int x5)]) (st1 := [.int x5]) 1 rfl ?_
  refine me_ifc rfl rfl (fun c => ?_) (fun c => ?_)
  · replace h := h.1 (ci_eq c)
    refine me_go (pc1 := 252) (lv1 := [(0, .ref P.1), (1, .int x1), (2, .int x2), (3, .int x3), (4, .int x4), (5, .int x5)]) (st1 := [.ref P.1]) 1 rfl ?_
    refine me_getf (v := .ref (P.2.1 22)) rfl rfl rfl ?_
    refine me_go (pc1 := 257) (lv1 := [(0, .ref P.1), (1, .int x1), (2, .int x2), (3, .int x3), (4, .int x4), (5, .int x5)]) (st1 := [.int x3, .int x1, .ref (P.2.1 22)]) 2 rfl ?_
    have hi := h.1
    replace h := h.2
    refine me_iast rfl (g := 22) rfl rfl hi ?_
    refine me_go (pc1 := 261) (lv1 := [(0, .ref P.1), (1, .int x1), (2, .int x2), (3, .int x3), (4, .int x4), (5, .int x5)]) (st1 := [.int 101, .ref P.1]) 2 rfl ?_
    refine me_call rfl rfl rfl rfl (h.mono (fun r1 μ1 h => ?_) (fun _ h => h))
    refine me_go (pc1 := 267) (lv1 := [(0, .ref P.1), (1, .int x1), (2, .int x2), (3, .int x3), (4, .int x4), (5, .int x5)]) (st1 := [.int 108, .ref P.1]) 2 rfl ?_
    refine me_callN rfl rfl rfl (h.mono (fun r2 μ2 h => ?_) (fun _ h => h))
    refine me_ifc rfl rfl (fun c => ?_) (fun c => ?_)
    · replace h := h.1 (ci_eq c)
      exact h
    · replace h := h.2 (cn_eq c)
      refine me_go (pc1 := 274) (lv1 := [(0, .ref P.1), (1, .int x1), (2, .int x2), (3, .int x3), (4, .int x4), (5, .int x5)]) (st1 := [.ref P.1]) 1 rfl ?_
      refine me_call rfl rfl rfl rfl (h.mono (fun r3 μ3 h => ?_) (fun _ h => h))
      refine me_go (pc1 := 278) (lv1 := [(0, .ref P.1), (1, .int x1), (2, .int x2), (3, .int x3), (4, .int x4), (5, .int x5)]) (st1 := [.ref P.1]) 1 rfl ?_
      refine me_getf (v := .ref (P.2.1 23)) rfl rfl rfl ?_
      refine me_go (pc1 := 283) (lv1 := [(0, .ref P.1), (1, .int x1), (2, .int x2), (3, .int x3), (4, .int x4), (5, .int x5)]) (st1 := [.ref P.1, .int x1, .ref (P.2.1 23)]) 2 rfl ?_
      refine me_call rfl rfl rfl rfl (h.mono (fun r4 μ4 h => ?_) (fun _ h => h))
      have hi := h.1
      replace h := h.2
      refine me_iast rfl (g := 23) rfl rfl hi ?_
      exact h
  · replace h := h.2 (cn_eq c)
    refine me_go (pc1 := 46) (lv1 := [(0, .ref P.1), (1, .int x1), (2, .int x2), (3, .int x3), (4, .int x4), (5, .int x5)]) (st1 := [.int 55, .ref P.1]) 2 rfl ?_
    refine me_callN rfl rfl rfl (h.mono (fun r5 μ5 h => ?_) (fun _ h => h))
    refine me_go (pc1 := 53) (lv1 := [(6, .int r5), (0, .ref P.1), (1, .int x1), (2, .int x2), (3, .int x3), (4, .int x4), (5, .int x5)]) (st1 := [.int r5]) 2 rfl ?_
    refine me_ifc rfl rfl (fun c => ?_) (fun c => ?_)
    · replace h := h.1 (ci_eq c)
      refine me_lv [(0, .ref P.1), (1, .int x1), (2, .int x2), (3, .int x3), (4, .int x4), (5, .int x5), (6, .int r5)] (fl_c rfl (fl_c rfl (fl_c rfl (fl_c rfl (fl_c rfl (fl_c rfl (fl_c rfl fl_0))))))) ?_
      exact h
    · replace h := h.2 (cn_eq c)
      refine me_go (pc1 := 57) (lv1 := [(6, .int r5), (0, .ref P.1), (1, .int x1), (2, .int x2), (3, .int x3), (4, .int x4), (5, .int x5)]) (st1 := [.ref P.1]) 1 rfl ?_
      refine me_call rfl rfl rfl rfl (h.mono (fun r6 μ6 h => ?_) (fun _ h => h))
      refine me_lv [(0, .ref P.1), (1, .int x1), (2, .int x2), (3, .int x3), (4, .int x4), (5, .int x5), (6, .int r5)] (fl_c rfl (fl_c rfl (fl_c rfl (fl_c rfl (fl_c rfl (fl_c rfl (fl_c rfl fl_0))))))) ?_
      exact h
theorem v_signature_60 {X : ev_X} {W : Nat → Prop} {d : Nat} {P : MP} {μ : MS} {R : Int32 → MS → Prop} {T : MS → Prop} (x1 : Int32) (x2 : Int32) (x3 : Int32) (x4 : Int32) (x5 : Int32) (x6 : Int32) (h : ME X W true d 309 66 [(0, .ref P.1), (1, .int x1), (2, .int x2), (3, .int x3), (4, .int x4), (5, .int x5), (6, .int x6), (7, .int (-1)), (8, .int 1)] [] P μ R T) : ME X W true d 309 60 [(0, .ref P.1), (1, .int x1), (2, .int x2), (3, .int x3), (4, .int x4), (5, .int x5), (6, .int x6)] [] P μ R T := by
  refine me_go (pc1 := 66) (lv1 := [(8, .int 1), (7, .int (-1)), (0, .ref P.1), (1, .int x1), (2, .int x2), (3, .int x3), (4, .int x4), (5, .int x5), (6, .int x6)]) (st1 := []) 4 rfl ?_
  refine me_lv [(0, .ref P.1), (1, .int x1), (2, .int x2), (3, .int x3), (4, .int x4), (5, .int x5), (6, .int x6), (7, .int (-1)), (8, .int 1)] (fl_c rfl (fl_c rfl (fl_c rfl (fl_c rfl (fl_c rfl (fl_c rfl (fl_c rfl (fl_c rfl (fl_c rfl fl_0))))))))) ?_
  exact h
theorem v_signature_66 {X : ev_X} {W : Nat → Prop} {d : Nat} {P : MP} {μ : MS} {R : Int32 → MS → Prop} {T : MS → Prop} (x1 : Int32) (x2 : Int32) (x3 : Int32) (x4 : Int32) (x5 : Int32) (x6 : Int32) (x7 : Int32) (x8 : Int32) (h : ((x8 = 0 → MC X W true d 297 [.ref P.1, .int 108] P μ (fun r1 μ1 => MC X W true d 312 [.ref P.1] P μ1 (fun r2 μ2 => ME X W true d 309 205 [(0, .ref P.1), (1, .int x1), (2, .int x2), (3, .int x3), (4, .int x4), (5, .int x5), (6, .int x6), (7, .int x7), (8, .int x8), (9, .int r2), (10, .int x7)] [] P μ2 R T) T) T) ∧ (¬ x8 = 0 → MC X W true d 296 [.ref P.1, .int 200] P μ (fun r3 μ3 => ((r3 = 0 → ME X W true d 309 87 [(0, .ref P.1), (1, .int x1), (2, .int x2), (3, .int x3), (4, .int x4), (5, .int x5), (6, .int x6), (7, .int x7), (8, .int x8)] [] P μ3 R T) ∧ (¬ r3 = 0 → ((¬ x2 = 8 → ME X W true d 309 91 [(0, .ref P.1), (1, .int x1), (2, .int x2), (3, .int x3), (4, .int x4), (5, .int x5), (6, .int x6), (7, .int x7), (8, .int x8)] [] P μ3 R T) ∧ (x2 = 8 → ME X W true d 309 87 [(0, .ref P.1), (1, .int x1), (2, .int x2), (3, .int x3), (4, .int x4), (5, .int x5), (6, .int x6), (7, .int x7), (8, .int x8)] [] P μ3 R T))))) (fun _ => False)))) : ME X W true d 309 66 [(0, .ref P.1), (1, .int x1), (2, .int x2), (3, .int x3), (4, .int x4), (5, .int x5), (6, .int x6), (7, .int x7), (8, .int x8)] [] P μ R T := by
  refine me_go (pc1 := 68) (lv1 := [(0, .ref P.1), (1, .int x1), (2, .int x2), (3, .int x3), (4, .int x4), (5, .int x5), (6, .int x6), (7, .int x7), (8, .int x8)]) (st1 := [.int x8]) 1 rfl ?_
  refine me_ifc rfl rfl (fun c => ?_) (fun c => ?_)
  · replace h := h.1 (ci_eq c)
    refine me_go (pc1 := 192) (lv1 := [(0, .ref P.1), (1, .int x1), (2, .int x2), (3, .int x3), (4, .int x4), (5, .int x5), (6, .int x6), (7, .int x7), (8, .int x8)]) (st1 := [.int 108, .ref P.1]) 2 rfl ?_
    refine me_call rfl rfl rfl rfl (h.mono (fun r1 μ1 h => ?_) (fun _ h => h))
    refine me_go (pc1 := 196) (lv1 := [(0, .ref P.1), (1, .int x1), (2, .int x2), (3, .int x3), (4, .int x4), (5, .int x5), (6, .int x6), (7, .int x7), (8, .int x8)]) (st1 := [.ref P.1]) 1 rfl ?_
    refine me_call rfl rfl rfl rfl (h.mono (fun r2 μ2 h => ?_) (fun _ h => h))
    refine me_go (pc1 := 205) (lv1 := [(10, .int x7), (9, .int r2), (0, .ref P.1), (1, .int x1), (2, .int x2), (3, .int x3), (4, .int x4), (5, .int x5), (6, .int x6), (7, .int x7), (8, .int x8)]) (st1 := []) 3 rfl ?_
    refine me_lv [(0, .ref P.1), (1, .int x1), (2, .int x2), (3, .int x3), (4, .int x4), (5, .int x5), (6, .int x6), (7, .int x7), (8, .int x8), (9, .int r2), (10, .int x7)] (fl_c rfl (fl_c rfl (fl_c rfl (fl_c rfl (fl_c rfl (fl_c rfl (fl_c rfl (fl_c rfl (fl_c rfl (fl_c rfl (fl_c rfl fl_0))))))))))) ?_
    exact h
  · replace h := h.2 (cn_eq c)
    refine me_go (pc1 := 75) (lv1 := [(0, .ref P.1), (1, .int x1), (2, .int x2), (3, .int x3), (4, .int x4), (5, .int x5), (6, .int x6), (7, .int x7), (8, .int x8)]) (st1 := [.int 200, .ref P.1]) 2 rfl ?_
    refine me_callN rfl rfl rfl (h.mono (fun r3 μ3 h => ?_) (fun _ h => h))
    refine me_ifc rfl rfl (fun c => ?_) (fun c => ?_)
    · replace h := h.1 (ci_eq c)
      exact h
    · replace h := h.2 (cn_eq c)
      refine me_go (pc1 := 84) (lv1 := [(0, .ref P.1), (1, .int x1), (2, .int x2), (3, .int x3), (4, .int x4), (5, .int x5), (6, .int x6), (7, .int x7), (8, .int x8)]) (st1 := [.int 8, .int x2]) 2 rfl ?_
      refine me_icmp rfl rfl (fun c => ?_) (fun c => ?_)
      · replace h := h.1 (ci_ne c)
        exact h
      · replace h := h.2 (cn_ne c)
        exact h
theorem v_signature_87 {X : ev_X} {W : Nat → Prop} {d : Nat} {P : MP} {μ : MS} {R : Int32 → MS → Prop} {T : MS → Prop} (x1 : Int32) (x2 : Int32) (x3 : Int32) (x4 : Int32) (x5 : Int32) (x6 : Int32) (x7 : Int32) (x8 : Int32) (h : MC X W true d 295 [.ref P.1] P μ (fun r1 μ1 => ME X W true d 309 91 [(0, .ref P.1), (1, .int x1), (2, .int x2), (3, .int x3), (4, .int x4), (5, .int x5), (6, .int x6), (7, .int x7), (8, .int x8)] [] P μ1 R T) T) : ME X W true d 309 87 [(0, .ref P.1), (1, .int x1), (2, .int x2), (3, .int x3), (4, .int x4), (5, .int x5), (6, .int x6), (7, .int x7), (8, .int x8)] [] P μ R T := by
  refine me_go (pc1 := 88) (lv1 := [(0, .ref P.1), (1, .int x1), (2, .int x2), (3, .int x3), (4, .int x4), (5, .int x5), (6, .int x6), (7, .int x7), (8, .int x8)]) (st1 := [.ref P.1]) 1 rfl ?_
  refine me_call rfl rfl rfl rfl (h.mono (fun r1 μ1 h => ?_) (fun _ h => h))
  exact h
theorem v_signature_91 {X : ev_X} {W : Nat → Prop} {d : Nat} {P : MP} {μ : MS} {R : Int32 → MS → Prop} {T : MS → Prop} (x1 : Int32) (x2 : Int32) (x3 : Int32) (x4 : Int32) (x5 : Int32) (x6 : Int32) (x7 : Int32) (x8 : Int32) (h : MC X W true d 292 [.ref P.1, .int 13, .int (-1), .int (-1)] P μ (fun r1 μ1 => MC X W true d 298 [.ref P.1] P μ1 (fun r2 μ2 => (MI r1 (μ2.2.2 22) ∧ ((x6 = 0 → (MI r1 (μ2.2.2 24) ∧ (((0 : Int) ≤ x3.toInt → (MI x4 (μ2.2.2 27) ∧ ME X W true d 309 151 [(0, .ref P.1), (1, .int x1), (2, .int (x2 + 1)), (3, .int x3), (4, .int x4), (5, .int x5), (6, .int x6), (7, .int x7), (8, .int x8), (9, .int r1)] [] P (mA1 (mA1 (mA1 μ2 22 r1.toNatClampNeg r2) 24 r1.toNatClampNeg 0) 27 x4.toNatClampNeg r1) R T)) ∧ (x3.toInt < (0 : Int) → ME X W true d 309 151 [(0, .ref P.1), (1, .int x1), (2, .int (x2 + 1)), (3, .int r1), (4, .int x4), (5, .int x5), (6, .int x6), (7, .int x7), (8, .int x8), (9, .int r1)] [] P (mA1 (mA1 μ2 22 r1.toNatClampNeg r2) 24 r1.toNatClampNeg 0) R T)))) ∧ (¬ x6 = 0 → (MI r1 (μ2.2.2 24) ∧ (((0 : Int) ≤ x3.toInt → (MI x4 (μ2.2.2 27) ∧ ME X W true d 309 151 [(0, .ref P.1), (1, .int x1), (2, .int (x2 + 1)), (3, .int x3), (4, .int x4), (5, .int x5), (6, .int x6), (7, .int x7), (8, .int x8), (9, .int r1)] [] P (mA1 (mA1 (mA1 μ2 22 r1.toNatClampNeg r2) 24 r1.toNatClampNeg 1) 27 x4.toNatClampNeg r1) R T)) ∧ (x3.toInt < (0 : Int) → ME X W true d 309 151 [(0, .ref P.1), (1, .int x1), (2, .int (x2 + 1)), (3, .int r1), (4, .int x4), (5, .int x5), (6, .int x6), (7, .int x7), (8, .int x8), (9, .int r1)] [] P (mA1 (mA1 μ2 22 r1.toNatClampNeg r2) 24 r1.toNatClampNeg 1) R T))))))) T) (fun _ => False)) : ME X W true d 309 91 [(0, .ref P.1), (1, .int x1), (2, .int x2), (3, .int x3), (4, .int x4), (5, .int x5), (6, .int x6), (7, .int x7), (8, .int x8)] [] P μ R T := by
  refine me_go (pc1 := 96) (lv1 := [(0, .ref P.1), (1, .int x1), (2, .int x2), (3, .int x3), (4, .int x4), (5, .int x5), (6, .int x6), (7, .int x7), (8, .int x8)]) (st1 := [.int (-1), .int (-1), .int 13, .ref P.1]) 4 rfl ?_
  refine me_callN rfl rfl rfl (h.mono (fun r1 μ1 h => ?_) (fun _ h => h))
  refine me_go (pc1 := 102) (lv1 := [(9, .int r1), (0, .ref P.1), (1, .int x1), (2, .int x2), (3, .int x3), (4, .int x4), (5, .int x5), (6, .int x6), (7, .int x7), (8, .int x8)]) (st1 := [.ref P.1]) 2 rfl ?_
  refine me_getf (v := .ref (P.2.1 22)) rfl rfl rfl ?_
  refine me_go (pc1 := 108) (lv1 := [(9, .int r1), (0, .ref P.1), (1, .int x1), (2, .int x2), (3, .int x3), (4, .int x4), (5, .int x5), (6, .int x6), (7, .int x7), (8, .int x8)]) (st1 := [.ref P.1, .int r1, .ref (P.2.1 22)]) 2 rfl ?_
  refine me_call rfl rfl rfl rfl (h.mono (fun r2 μ2 h => ?_) (fun _ h => h))
  have hi := h.1
  replace h := h.2
  refine me_iast rfl (g := 22) rfl rfl hi ?_
  refine me_go (pc1 := 113) (lv1 := [(9, .int r1), (0, .ref P.1), (1, .int x1), (2, .int x2), (3, .int x3), (4, .int x4), (5, .int x5), (6, .int x6), (7, .int x7), (8, .int x8)]) (st1 := [.ref P.1]) 1 rfl ?_
  refine me_getf (v := .ref (P.2.1 24)) rfl rfl rfl ?_
  refine me_go (pc1 := 120) (lv1 := [(9, .int r1), (0, .ref P.1), (1, .int x1), (2, .int x2), (3, .int x3), (4, .int x4), (5, .int x5), (6, .int x6), (7, .int x7), (8, .int x8)]) (st1 := [.int x6, .int r1, .ref (P.2.1 24)]) 2 rfl ?_
  refine me_ifc rfl rfl (fun c => ?_) (fun c => ?_)
  · replace h := h.1 (ci_eq c)
    refine me_go (pc1 := 128) (lv1 := [(9, .int r1), (0, .ref P.1), (1, .int x1), (2, .int x2), (3, .int x3), (4, .int x4), (5, .int x5), (6, .int x6), (7, .int x7), (8, .int x8)]) (st1 := [.int 0, .int r1, .ref (P.2.1 24)]) 1 rfl ?_
    have hi := h.1
    replace h := h.2
    refine me_iast rfl (g := 24) rfl rfl hi ?_
    refine me_go (pc1 := 133) (lv1 := [(2, .int (x2 + 1)), (9, .int r1), (0, .ref P.1), (1, .int x1), (3, .int x3), (4, .int x4), (5, .int x5), (6, .int x6), (7, .int x7), (8, .int x8)]) (st1 := [.int x3]) 2 rfl ?_
    refine me_ifc rfl rfl (fun c => ?_) (fun c => ?_)
    · replace h := h.1 (ci_ge c)
      refine me_go (pc1 := 143) (lv1 := [(2, .int (x2 + 1)), (9, .int r1), (0, .ref P.1), (1, .int x1), (3, .int x3), (4, .int x4), (5, .int x5), (6, .int x6), (7, .int x7), (8, .int x8)]) (st1 := [.ref P.1]) 1 rfl ?_
      refine me_getf (v := .ref (P.2.1 27)) rfl rfl rfl ?_
      refine me_go (pc1 := 150) (lv1 := [(2, .int (x2 + 1)), (9, .int r1), (0, .ref P.1), (1, .int x1), (3, .int x3), (4, .int x4), (5, .int x5), (6, .int x6), (7, .int x7), (8, .int x8)]) (st1 := [.int r1, .int x4, .ref (P.2.1 27)]) 2 rfl ?_
      have hi := h.1
      replace h := h.2
      refine me_iast rfl (g := 27) rfl rfl hi ?_
      refine me_lv [(0, .ref P.1), (1, .int x1), (2, .int (x2 + 1)), (3, .int x3), (4, .int x4), (5, .int x5), (6, .int x6), (7, .int x7), (8, .int x8), (9, .int r1)] (fl_c rfl (fl_c rfl (fl_c rfl (fl_c rfl (fl_c rfl (fl_c rfl (fl_c rfl (fl_c rfl (fl_c rfl (fl_c rfl fl_0)))))))))) ?_
      exact h
    · replace h := h.2 (cn_ge c)
      refine me_go (pc1 := 151) (lv1 := [(3, .int r1), (2, .int (x2 + 1)), (9, .int r1), (0, .ref P.1), (1, .int x1), (4, .int x4), (5, .int x5), (6, .int x6), (7, .int x7), (8, .int x8)]) (st1 := []) 3 rfl ?_
      refine me_lv [(0, .ref P.1), (1, .int x1), (2, .int (x2 + 1)), (3, .int r1), (4, .int x4), (5, .int x5), (6, .int x6), (7, .int x7), (8, .int x8), (9, .int r1)] (fl_c rfl (fl_c rfl (fl_c rfl (fl_c rfl (fl_c rfl (fl_c rfl (fl_c rfl (fl_c rfl (fl_c rfl (fl_c rfl fl_0)))))))))) ?_
      exact h
  · replace h := h.2 (cn_eq c)
    refine me_go (pc1 := 128) (lv1 := [(9, .int r1), (0, .ref P.1), (1, .int x1), (2, .int x2), (3, .int x3), (4, .int x4), (5, .int x5), (6, .int x6), (7, .int x7), (8, .int x8)]) (st1 := [.int 1, .int r1, .ref (P.2.1 24)]) 2 rfl ?_
    have hi := h.1
    replace h := h.2
    refine me_iast rfl (g := 24) rfl rfl hi ?_
    refine me_go (pc1 := 133) (lv1 := [(2, .int (x2 + 1)), (9, .int r1), (0, .ref P.1), (1, .int x1), (3, .int x3), (4, .int x4), (5, .int x5), (6, .int x6), (7, .int x7), (8, .int x8)]) (st1 := [.int x3]) 2 rfl ?_
    refine me_ifc rfl rfl (fun c => ?_) (fun c => ?_)
    · replace h := h.1 (ci_ge c)
      refine me_go (pc1 := 143) (lv1 := [(2, .int (x2 + 1)), (9, .int r1), (0, .ref P.1), (1, .int x1), (3, .int x3), (4, .int x4), (5, .int x5), (6, .int x6), (7, .int x7), (8, .int x8)]) (st1 := [.ref P.1]) 1 rfl ?_
      refine me_getf (v := .ref (P.2.1 27)) rfl rfl rfl ?_
      refine me_go (pc1 := 150) (lv1 := [(2, .int (x2 + 1)), (9, .int r1), (0, .ref P.1), (1, .int x1), (3, .int x3), (4, .int x4), (5, .int x5), (6, .int x6), (7, .int x7), (8, .int x8)]) (st1 := [.int r1, .int x4, .ref (P.2.1 27)]) 2 rfl ?_
      have hi := h.1
      replace h := h.2
      refine me_iast rfl (g := 27) rfl rfl hi ?_
      refine me_lv [(0, .ref P.1), (1, .int x1), (2, .int (x2 + 1)), (3, .int x3), (4, .int x4), (5, .int x5), (6, .int x6), (7, .int x7), (8, .int x8), (9, .int r1)] (fl_c rfl (fl_c rfl (fl_c rfl (fl_c rfl (fl_c rfl (fl_c rfl (fl_c rfl (fl_c rfl (fl_c rfl (fl_c rfl fl_0)))))))))) ?_
      exact h
    · replace h := h.2 (cn_ge c)
      refine me_go (pc1 := 151) (lv1 := [(3, .int r1), (2, .int (x2 + 1)), (9, .int r1), (0, .ref P.1), (1, .int x1), (4, .int x4), (5, .int x5), (6, .int x6), (7, .int x7), (8, .int x8)]) (st1 := []) 3 rfl ?_
      refine me_lv [(0, .ref P.1), (1, .int x1), (2, .int (x2 + 1)), (3, .int r1), (4, .int x4), (5, .int x5), (6, .int x6), (7, .int x7), (8, .int x8), (9, .int r1)] (fl_c rfl (fl_c rfl (fl_c rfl (fl_c rfl (fl_c rfl (fl_c rfl (fl_c rfl (fl_c rfl (fl_c rfl (fl_c rfl fl_0)))))))))) ?_
      exact h
theorem v_signature_151 {X : ev_X} {W : Nat → Prop} {d : Nat} {P : MP} {μ : MS} {R : Int32 → MS → Prop} {T : MS → Prop} (x1 : Int32) (x2 : Int32) (x3 : Int32) (x4 : Int32) (x5 : Int32) (x6 : Int32) (x7 : Int32) (x8 : Int32) (x9 : Int32) (h : (((0 : Int) ≤ x7.toInt → ME X W true d 309 169 [(0, .ref P.1), (1, .int x1), (2, .int x2), (3, .int x3), (4, .int x9), (5, .int x5), (6, .int x6), (7, .int x7), (8, .int x8), (9, .int x9)] [] P μ R T) ∧ (x7.toInt < (0 : Int) → ME X W true d 309 169 [(0, .ref P.1), (1, .int x1), (2, .int x2), (3, .int x3), (4, .int x9), (5, .int x5), (6, .int x6), (7, .int x9), (8, .int x8), (9, .int x9)] [] P μ R T))) : ME X W true d 309 151 [(0, .ref P.1), (1, .int x1), (2, .int x2), (3, .int x3), (4, .int x4), (5, .int x5), (6, .int x6), (7, .int x7), (8, .int x8), (9, .int x9)] [] P μ R T := by
  refine me_go (pc1 := 157) (lv1 := [(4, .int x9), (0, .ref P.1), (1, .int x1), (2, .int x2), (3, .int x3), (5, .int x5), (6, .int x6), (7, .int x7), (8, .int x8), (9, .int x9)]) (st1 := [.int x7]) 3 rfl ?_
  refine me_ifc rfl rfl (fun c => ?_) (fun c => ?_)
  · replace h := h.1 (ci_ge c)
    refine me_go (pc1 := 169) (lv1 := [(7, .int x7), (4, .int x9), (0, .ref P.1), (1, .int x1), (2, .int x2), (3, .int x3), (5, .int x5), (6, .int x6), (8, .int x8), (9, .int x9)]) (st1 := []) 2 rfl ?_
    refine me_lv [(0, .ref P.1), (1, .int x1), (2, .int x2), (3, .int x3), (4, .int x9), (5, .int x5), (6, .int x6), (7, .int x7), (8, .int x8), (9, .int x9)] (fl_c rfl (fl_c rfl (fl_c rfl (fl_c rfl (fl_c rfl (fl_c rfl (fl_c rfl (fl_c rfl (fl_c rfl (fl_c rfl fl_0)))))))))) ?_
    exact h
  · replace h := h.2 (cn_ge c)
    refine me_go (pc1 := 169) (lv1 := [(7, .int x9), (4, .int x9), (0, .ref P.1), (1, .int x1), (2, .int x2), (3, .int x3), (5, .int x5), (6, .int x6), (8, .int x8), (9, .int x9)]) (st1 := []) 3 rfl ?_
    refine me_lv [(0, .ref P.1), (1, .int x1), (2, .int x2), (3, .int x3), (4, .int x9), (5, .int x5), (6, .int x6), (7, .int x9), (8, .int x8), (9, .int x9)] (fl_c rfl (fl_c rfl (fl_c rfl (fl_c rfl (fl_c rfl (fl_c rfl (fl_c rfl (fl_c rfl (fl_c rfl (fl_c rfl fl_0)))))))))) ?_
    exact h
theorem v_signature_169 {X : ev_X} {W : Nat → Prop} {d : Nat} {P : MP} {μ : MS} {R : Int32 → MS → Prop} {T : MS → Prop} (x1 : Int32) (x2 : Int32) (x3 : Int32) (x4 : Int32) (x5 : Int32) (x6 : Int32) (x7 : Int32) (x8 : Int32) (x9 : Int32) (h : MC X W true d 296 [.ref P.1, .int 106] P μ (fun r1 μ1 => ((r1 = 0 → ME X W true d 309 186 [(0, .ref P.1), (1, .int x1), (2, .int x2), (3, .int x3), (4, .int x4), (5, .int x5), (6, .int x6), (7, .int x7), (8, .int r1), (9, .int x9)] [] P μ1 R T) ∧ (¬ r1 = 0 → MC X W true d 294 [.ref P.1] P μ1 (fun r2 μ2 => ME X W true d 309 186 [(0, .ref P.1), (1, .int x1), (2, .int x2), (3, .int x3), (4, .int x4), (5, .int x5), (6, .int x6), (7, .int x7), (8, .int r1), (9, .int x9)] [] P μ2 R T) T))) (fun _ => False)) : ME X W true d 309 169 [(0, .ref P.1), (1, .int x1), (2, .int x2), (3, .int x3), (4, .int x4), (5, .int x5), (6, .int x6), (7, .int x7), (8, .int x8), (9, .int x9)] [] P μ R T := by
  refine me_go (pc1 := 172) (lv1 := [(0, .ref P.1), (1, .int x1), (2, .int x2), (3, .int x3), (4, .int x4), (5, .int x5), (6, .int x6), (7, .int x7), (8, .int x8), (9, .int x9)]) (st1 := [.int 106, .ref P.1]) 2 rfl ?_
  refine me_callN rfl rfl rfl (h.mono (fun r1 μ1 h => ?_) (fun _ h => h))
  refine me_go (pc1 := 179) (lv1 := [(8, .int r1), (0, .ref P.1), (1, .int x1), (2, .int x2), (3, .int x3), (4, .int x4), (5, .int x5), (6, .int x6), (7, .int x7), (9, .int x9)]) (st1 := [.int r1]) 2 rfl ?_
  refine me_ifc rfl rfl (fun c => ?_) (fun c => ?_)
  · replace h := h.1 (ci_eq c)
    refine me_lv [(0, .ref P.1), (1, .int x1), (2, .int x2), (3, .int x3), (4, .int x4), (5, .int x5), (6, .int x6), (7, .int x7), (8, .int r1), (9, .int x9)] (fl_c rfl (fl_c rfl (fl_c rfl (fl_c rfl (fl_c rfl (fl_c rfl (fl_c rfl (fl_c rfl (fl_c rfl (fl_c rfl fl_0)))))))))) ?_
    exact h
  · replace h := h.2 (cn_eq c)
    refine me_go (pc1 := 183) (lv1 := [(8, .int r1), (0, .ref P.1), (1, .int x1), (2, .int x2), (3, .int x3), (4, .int x4), (5, .int x5), (6, .int x6), (7, .int x7), (9, .int x9)]) (st1 := [.ref P.1]) 1 rfl ?_
    refine me_call rfl rfl rfl rfl (h.mono (fun r2 μ2 h => ?_) (fun _ h => h))
    refine me_lv [(0, .ref P.1), (1, .int x1), (2, .int x2), (3, .int x3), (4, .int x4), (5, .int x5), (6, .int x6), (7, .int x7), (8, .int r1), (9, .int x9)] (fl_c rfl (fl_c rfl (fl_c rfl (fl_c rfl (fl_c rfl (fl_c rfl (fl_c rfl (fl_c rfl (fl_c rfl (fl_c rfl fl_0)))))))))) ?_
    exact h
theorem v_signature_186 {X : ev_X} {W : Nat → Prop} {d : Nat} {P : MP} {μ : MS} {R : Int32 → MS → Prop} {T : MS → Prop} (x1 : Int32) (x2 : Int32) (x3 : Int32) (x4 : Int32) (x5 : Int32) (x6 : Int32) (x7 : Int32) (x8 : Int32) (x9 : Int32) (h : ME X W true d 309 66 [(0, .ref P.1), (1, .int x1), (2, .int x2), (3, .int x3), (4, .int x4), (5, .int x5), (6, .int x6), (7, .int x7), (8, .int x8)] [] P μ R T) : ME X W true d 309 186 [(0, .ref P.1), (1, .int x1), (2, .int x2), (3, .int x3), (4, .int x4), (5, .int x5), (6, .int x6), (7, .int x7), (8, .int x8), (9, .int x9)] [] P μ R T := by
  refine me_go (pc1 := 66) (lv1 := [(0, .ref P.1), (1, .int x1), (2, .int x2), (3, .int x3), (4, .int x4), (5, .int x5), (6, .int x6), (7, .int x7), (8, .int x8), (9, .int x9)]) (st1 := []) 1 rfl ?_
  refine me_lv [(0, .ref P.1), (1, .int x1), (2, .int x2), (3, .int x3), (4, .int x4), (5, .int x5), (6, .int x6), (7, .int x7), (8, .int x8)] (fl_c rfl (fl_c rfl (fl_c rfl (fl_c rfl (fl_c rfl (fl_c rfl (fl_c rfl (fl_c rfl (fl_c rfl fl_0))))))))) ?_
  exact h
theorem v_signature_205 {X : ev_X} {W : Nat → Prop} {d : Nat} {P : MP} {μ : MS} {R : Int32 → MS → Prop} {T : MS → Prop} (x1 : Int32) (x2 : Int32) (x3 : Int32) (x4 : Int32) (x5 : Int32) (x6 : Int32) (x7 : Int32) (x8 : Int32) (x9 : Int32) (x10 : Int32) (h : ((x10.toInt < (0 : Int) → MC X W true d 296 [.ref P.1, .int 107] P μ (fun r1 μ1 => ((r1 = 0 → ME X W true d 309 248 [(0, .ref P.1), (1, .int x1), (2, .int x2), (3, .int x3), (4, .int x4), (5, .int r1), (6, .int x6), (7, .int x7), (8, .int x8), (9, .int x9), (10, .int x10)] [] P μ1 R T) ∧ (¬ r1 = 0 → MC X W true d 294 [.ref P.1] P μ1 (fun r2 μ2 => ME X W true d 309 248 [(0, .ref P.1), (1, .int x1), (2, .int x2), (3, .int x3), (4, .int x4), (5, .int r1), (6, .int x6), (7, .int x7), (8, .int x8), (9, .int x9), (10, .int x10)] [] P μ2 R T) T))) (fun _ => False)) ∧ ((0 : Int) ≤ x10.toInt → (MI x10 (μ.2.2 23) ∧ (MI x10 (μ.2.2 27) ∧ ME X W true d 309 205 [(0, .ref P.1), (1, .int x1), (2, .int x2), (3, .int x3), (4, .int x4), (5, .int x5), (6, .int x6), (7, .int x7), (8, .int x8), (9, .int x9), (10, .int (μ.2.1 27 x10.toNatClampNeg))] [] P (mA1 μ 23 x10.toNatClampNeg x9) R T))))) : ME X W true d 309 205 [(0, .ref P.1), (1, .int x1), (2, .int x2), (3, .int x3), (4, .int x4), (5, .int x5), (6, .int x6), (7, .int x7), (8, .int x8), (9, .int x9), (10, .int x10)] [] P μ R T := by
  refine me_go (pc1 := 207) (lv1 := [(0, .ref P.1), (1, .int x1), (2, .int x2), (3, .int x3), (4, .int x4), (5, .int x5), (6, .int x6), (7, .int x7), (8, .int x8), (9, .int x9), (10, .int x10)]) (st1 := [.int x10]) 1 rfl ?_
  refine me_ifc rfl rfl (fun c => ?_) (fun c => ?_)
  · replace h := h.1 (ci_lt c)
    refine me_go (pc1 := 234) (lv1 := [(0, .ref P.1), (1, .int x1), (2, .int x2), (3, .int x3), (4, .int x4), (5, .int x5), (6, .int x6), (7, .int x7), (8, .int x8), (9, .int x9), (10, .int x10)]) (st1 := [.int 107, .ref P.1]) 2 rfl ?_
    refine me_callN rfl rfl rfl (h.mono (fun r1 μ1 h => ?_) (fun _ h => h))
    refine me_go (pc1 := 241) (lv1 := [(5, .int r1), (0, .ref P.1), (1, .int x1), (2, .int x2), (3, .int x3), (4, .int x4), (6, .int x6), (7, .int x7), (8, .int x8), (9, .int x9), (10, .int x10)]) (st1 := [.int r1]) 2 rfl ?_
    refine me_ifc rfl rfl (fun c => ?_) (fun c => ?_)
    · replace h := h.1 (ci_eq c)
      refine me_lv [(0, .ref P.1), (1, .int x1), (2, .int x2), (3, .int x3), (4, .int x4), (5, .int r1), (6, .int x6), (7, .int x7), (8, .int x8), (9, .int x9), (10, .int x10)] (fl_c rfl (fl_c rfl (fl_c rfl (fl_c rfl (fl_c rfl (fl_c rfl (fl_c rfl (fl_c rfl (fl_c rfl (fl_c rfl (fl_c rfl fl_0))))))))))) ?_
      exact h
    · replace h := h.2 (cn_eq c)
      refine me_go (pc1 := 245) (lv1 := [(5, .int r1), (0, .ref P.1), (1, .int x1), (2, .int x2), (3, .int x3), (4, .int x4), (6, .int x6), (7, .int x7), (8, .int x8), (9, .int x9), (10, .int x10)]) (st1 := [.ref P.1]) 1 rfl ?_
      refine me_call rfl rfl rfl rfl (h.mono (fun r2 μ2 h => ?_) (fun _ h => h))
      refine me_lv [(0, .ref P.1), (1, .int x1), (2, .int x2), (3, .int x3), (4, .int x4), (5, .int r1), (6, .int x6), (7, .int x7), (8, .int x8), (9, .int x9), (10, .int x10)] (fl_c rfl (fl_c rfl (fl_c rfl (fl_c rfl (fl_c rfl (fl_c rfl (fl_c rfl (fl_c rfl (fl_c rfl (fl_c rfl (fl_c rfl fl_0))))))))))) ?_
      exact h
  · replace h := h.2 (cn_lt c)
    refine me_go (pc1 := 211) (lv1 := [(0, .ref P.1), (1, .int x1), (2, .int x2), (3, .int x3), (4, .int x4), (5, .int x5), (6, .int x6), (7, .int x7), (8, .int x8), (9, .int x9), (10, .int x10)]) (st1 := [.ref P.1]) 1 rfl ?_
    refine me_getf (v := .ref (P.2.1 23)) rfl rfl rfl ?_
    refine me_go (pc1 := 218) (lv1 := [(0, .ref P.1), (1, .int x1), (2, .int x2), (3, .int x3), (4, .int x4), (5, .int x5), (6, .int x6), (7, .int x7), (8, .int x8), (9, .int x9), (10, .int x10)]) (st1 := [.int x9, .int x10, .ref (P.2.1 23)]) 2 rfl ?_
    have hi := h.1
    replace h := h.2
    refine me_iast rfl (g := 23) rfl rfl hi ?_
    refine me_go (pc1 := 220) (lv1 := [(0, .ref P.1), (1, .int x1), (2, .int x2), (3, .int x3), (4, .int x4), (5, .int x5), (6, .int x6), (7, .int x7), (8, .int x8), (9, .int x9), (10, .int x10)]) (st1 := [.ref P.1]) 1 rfl ?_
    refine me_getf (v := .ref (P.2.1 27)) rfl rfl rfl ?_
    refine me_go (pc1 := 225) (lv1 := [(0, .ref P.1), (1, .int x1), (2, .int x2), (3, .int x3), (4, .int x4), (5, .int x5), (6, .int x6), (7, .int x7), (8, .int x8), (9, .int x9), (10, .int x10)]) (st1 := [.int x10, .ref (P.2.1 27)]) 1 rfl ?_
    refine me_iald rfl (g := 27) rfl rfl h.1 ?_
    replace h := h.2
    refine me_go (pc1 := 205) (lv1 := [(10, .int (μ.2.1 27 x10.toNatClampNeg)), (0, .ref P.1), (1, .int x1), (2, .int x2), (3, .int x3), (4, .int x4), (5, .int x5), (6, .int x6), (7, .int x7), (8, .int x8), (9, .int x9)]) (st1 := []) 2 rfl ?_
    refine me_lv [(0, .ref P.1), (1, .int x1), (2, .int x2), (3, .int x3), (4, .int x4), (5, .int x5), (6, .int x6), (7, .int x7), (8, .int x8), (9, .int x9), (10, .int (μ.2.1 27 x10.toNatClampNeg))] (fl_c rfl (fl_c rfl (fl_c rfl (fl_c rfl (fl_c rfl (fl_c rfl (fl_c rfl (fl_c rfl (fl_c rfl (fl_c rfl (fl_c rfl fl_0))))))))))) ?_
    exact h
theorem v_signature_248 {X : ev_X} {W : Nat → Prop} {d : Nat} {P : MP} {μ : MS} {R : Int32 → MS → Prop} {T : MS → Prop} (x1 : Int32) (x2 : Int32) (x3 : Int32) (x4 : Int32) (x5 : Int32) (x6 : Int32) (x7 : Int32) (x8 : Int32) (x9 : Int32) (x10 : Int32) (h : ME X W true d 309 38 [(0, .ref P.1), (1, .int x1), (2, .int x2), (3, .int x3), (4, .int x4), (5, .int x5)] [] P μ R T) : ME X W true d 309 248 [(0, .ref P.1), (1, .int x1), (2, .int x2), (3, .int x3), (4, .int x4), (5, .int x5), (6, .int x6), (7, .int x7), (8, .int x8), (9, .int x9), (10, .int x10)] [] P μ R T := by
  refine me_go (pc1 := 38) (lv1 := [(0, .ref P.1), (1, .int x1), (2, .int x2), (3, .int x3), (4, .int x4), (5, .int x5), (6, .int x6), (7, .int x7), (8, .int x8), (9, .int x9), (10, .int x10)]) (st1 := []) 1 rfl ?_
  refine me_lv [(0, .ref P.1), (1, .int x1), (2, .int x2), (3, .int x3), (4, .int x4), (5, .int x5)] (fl_c rfl (fl_c rfl (fl_c rfl (fl_c rfl (fl_c rfl (fl_c rfl fl_0)))))) ?_
  exact h
theorem v_signature_287 {X : ev_X} {W : Nat → Prop} {d : Nat} {P : MP} {μ : MS} {R : Int32 → MS → Prop} {T : MS → Prop} (x1 : Int32) (x2 : Int32) (x3 : Int32) (x4 : Int32) (x5 : Int32) (h : MC X W true d 296 [.ref P.1, .int 41] P μ (fun r1 μ1 => ((r1 = 0 → ME X W true d 309 331 [(0, .ref P.1), (1, .int x1), (2, .int x2), (3, .int x3), (4, .int x4), (5, .int x5)] [] P μ1 R T) ∧ (¬ r1 = 0 → MC X W true d 294 [.ref P.1] P μ1 (fun r2 μ2 => MC X W true d 297 [.ref P.1, .int 102] P μ2 (fun r3 μ3 => MC X W true d 296 [.ref P.1, .int 103] P μ3 (fun r4 μ4 => ((¬ r4 = 0 → ME X W true d 309 325 [(0, .ref P.1), (1, .int x1), (2, .int x2), (3, .int x3), (4, .int x4), (5, .int x5)] [] P μ4 R T) ∧ (r4 = 0 → MC X W true d 310 [.ref P.1] P μ4 (fun r5 μ5 => (MI x1 (μ5.2.2 24) ∧ ME X W true d 309 325 [(0, .ref P.1), (1, .int x1), (2, .int x2), (3, .int x3), (4, .int x4), (5, .int x5)] [] P (mA1 μ5 24 x1.toNatClampNeg r5) R T)) T))) (fun _ => False)) T) T))) (fun _ => False)) : ME X W true d 309 287 [(0, .ref P.1), (1, .int x1), (2, .int x2), (3, .int x3), (4, .int x4), (5, .int x5)] [] P μ R T := by
  refine me_go (pc1 := 290) (lv1 := [(0, .ref P.1), (1, .int x1), (2, .int x2), (3, .int x3), (4, .int x4), (5, .int x5)]) (st1 := [.int 41, .ref P.1]) 2 rfl ?_
  refine me_callN rfl rfl rfl (h.mono (fun r1 μ1 h => ?_) (fun _ h => h))
  refine me_ifc rfl rfl (fun c => ?_) (fun c => ?_)
  · replace h := h.1 (ci_eq c)
    exact h
  · replace h := h.2 (cn_eq c)
    refine me_go (pc1 := 297) (lv1 := [(0, .ref P.1), (1, .int x1), (2, .int x2), (3, .int x3), (4, .int x4), (5, .int x5)]) (st1 := [.ref P.1]) 1 rfl ?_
    refine me_call rfl rfl rfl rfl (h.mono (fun r2 μ2 h => ?_) (fun _ h => h))
    refine me_go (pc1 := 303) (lv1 := [(0, .ref P.1), (1, .int x1), (2, .int x2), (3, .int x3), (4, .int x4), (5, .int x5)]) (st1 := [.int 102, .ref P.1]) 2 rfl ?_
    refine me_call rfl rfl rfl rfl (h.mono (fun r3 μ3 h => ?_) (fun _ h => h))
    refine me_go (pc1 := 309) (lv1 := [(0, .ref P.1), (1, .int x1), (2, .int x2), (3, .int x3), (4, .int x4), (5, .int x5)]) (st1 := [.int 103, .ref P.1]) 2 rfl ?_
    refine me_callN rfl rfl rfl (h.mono (fun r4 μ4 h => ?_) (fun _ h => h))
    refine me_ifc rfl rfl (fun c => ?_) (fun c => ?_)
    · replace h := h.1 (ci_ne c)
      exact h
    · replace h := h.2 (cn_ne c)
      refine me_go (pc1 := 316) (lv1 := [(0, .ref P.1), (1, .int x1), (2, .int x2), (3, .int x3), (4, .int x4), (5, .int x5)]) (st1 := [.ref P.1]) 1 rfl ?_
      refine me_getf (v := .ref (P.2.1 24)) rfl rfl rfl ?_
      refine me_go (pc1 := 321) (lv1 := [(0, .ref P.1), (1, .int x1), (2, .int x2), (3, .int x3), (4, .int x4), (5, .int x5)]) (st1 := [.ref P.1, .int x1, .ref (P.2.1 24)]) 2 rfl ?_
      refine me_call rfl rfl rfl rfl (h.mono (fun r5 μ5 h => ?_) (fun _ h => h))
      have hi := h.1
      replace h := h.2
      refine me_iast rfl (g := 24) rfl rfl hi ?_
      exact h
theorem v_signature_325 {X : ev_X} {W : Nat → Prop} {d : Nat} {P : MP} {μ : MS} {R : Int32 → MS → Prop} {T : MS → Prop} (x1 : Int32) (x2 : Int32) (x3 : Int32) (x4 : Int32) (x5 : Int32) (h : MC X W true d 297 [.ref P.1, .int 103] P μ (fun r1 μ1 => ME X W true d 309 331 [(0, .ref P.1), (1, .int x1), (2, .int x2), (3, .int x3), (4, .int x4), (5, .int x5)] [] P μ1 R T) T) : ME X W true d 309 325 [(0, .ref P.1), (1, .int x1), (2, .int x2), (3, .int x3), (4, .int x4), (5, .int x5)] [] P μ R T := by
  refine me_go (pc1 := 328) (lv1 := [(0, .ref P.1), (1, .int x1), (2, .int x2), (3, .int x3), (4, .int x4), (5, .int x5)]) (st1 := [.int 103, .ref P.1]) 2 rfl ?_
  refine me_call rfl rfl rfl rfl (h.mono (fun r1 μ1 h => ?_) (fun _ h => h))
  exact h
theorem v_signature_331 {X : ev_X} {W : Nat → Prop} {d : Nat} {P : MP} {μ : MS} {R : Int32 → MS → Prop} {T : MS → Prop} (x1 : Int32) (x2 : Int32) (x3 : Int32) (x4 : Int32) (x5 : Int32) (h : R x1 μ) : ME X W true d 309 331 [(0, .ref P.1), (1, .int x1), (2, .int x2), (3, .int x3), (4, .int x4), (5, .int x5)] [] P μ R T := by
  refine me_go (pc1 := 332) (lv1 := [(0, .ref P.1), (1, .int x1), (2, .int x2), (3, .int x3), (4, .int x4), (5, .int x5)]) (st1 := [.int x1]) 1 rfl ?_
  exact me_ret rfl rfl rfl h
theorem v_qnames_0 {X : ev_X} {W : Nat → Prop} {d : Nat} {P : MP} {μ : MS} {R : Int32 → MS → Prop} {T : MS → Prop}  (h : MC X W true d 305 [.ref P.1] P μ (fun r1 μ1 => ME X W true d 310 7 [(0, .ref P.1), (1, .int r1), (2, .int r1)] [] P μ1 R T) T) : ME X W true d 310 0 [(0, .ref P.1)] [] P μ R T := by
  refine me_go (pc1 := 1) (lv1 := [(0, .ref P.1)]) (st1 := [.ref P.1]) 1 rfl ?_
  refine me_call rfl rfl rfl rfl (h.mono (fun r1 μ1 h => ?_) (fun _ h => h))
  refine me_go (pc1 := 7) (lv1 := [(2, .int r1), (1, .int r1), (0, .ref P.1)]) (st1 := []) 3 rfl ?_
  refine me_lv [(0, .ref P.1), (1, .int r1), (2, .int r1)] (fl_c rfl (fl_c rfl (fl_c rfl fl_0))) ?_
  exact h
theorem v_qnames_7 {X : ev_X} {W : Nat → Prop} {d : Nat} {P : MP} {μ : MS} {R : Int32 → MS → Prop} {T : MS → Prop} (x1 : Int32) (x2 : Int32) (h : MC X W true d 296 [.ref P.1, .int 106] P μ (fun r1 μ1 => ((r1 = 0 → R x1 μ1) ∧ (¬ r1 = 0 → MC X W true d 294 [.ref P.1] P μ1 (fun r2 μ2 => MC X W true d 305 [.ref P.1] P μ2 (fun r3 μ3 => (MI x2 (μ3.2.2 27) ∧ ME X W true d 310 7 [(0, .ref P.1), (1, .int x1), (2, .int r3)] [] P (mA1 μ3 27 x2.toNatClampNeg r3) R T)) T) T))) (fun _ => False)) : ME X W true d 310 7 [(0, .ref P.1), (1, .int x1), (2, .int x2)] [] P μ R T := by
  refine me_go (pc1 := 10) (lv1 := [(0, .ref P.1), (1, .int x1), (2, .int x2)]) (st1 := [.int 106, .ref P.1]) 2 rfl ?_
  refine me_callN rfl rfl rfl (h.mono (fun r1 μ1 h => ?_) (fun _ h => h))
  refine me_ifc rfl rfl (fun c => ?_) (fun c => ?_)
  · replace h := h.1 (ci_eq c)
    refine me_go (pc1 := 38) (lv1 := [(0, .ref P.1), (1, .int x1), (2, .int x2)]) (st1 := [.int x1]) 1 rfl ?_
    exact me_ret rfl rfl rfl h
  · replace h := h.2 (cn_eq c)
    refine me_go (pc1 := 17) (lv1 := [(0, .ref P.1), (1, .int x1), (2, .int x2)]) (st1 := [.ref P.1]) 1 rfl ?_
    refine me_call rfl rfl rfl rfl (h.mono (fun r2 μ2 h => ?_) (fun _ h => h))
    refine me_go (pc1 := 21) (lv1 := [(0, .ref P.1), (1, .int x1), (2, .int x2)]) (st1 := [.ref P.1]) 1 rfl ?_
    refine me_call rfl rfl rfl rfl (h.mono (fun r3 μ3 h => ?_) (fun _ h => h))
    refine me_go (pc1 := 26) (lv1 := [(3, .int r3), (0, .ref P.1), (1, .int x1), (2, .int x2)]) (st1 := [.ref P.1]) 2 rfl ?_
    refine me_getf (v := .ref (P.2.1 27)) rfl rfl rfl ?_
    refine me_go (pc1 := 31) (lv1 := [(3, .int r3), (0, .ref P.1), (1, .int x1), (2, .int x2)]) (st1 := [.int r3, .int x2, .ref (P.2.1 27)]) 2 rfl ?_
    have hi := h.1
    replace h := h.2
    refine me_iast rfl (g := 27) rfl rfl hi ?_
    refine me_go (pc1 := 7) (lv1 := [(2, .int r3), (3, .int r3), (0, .ref P.1), (1, .int x1)]) (st1 := []) 3 rfl ?_
    refine me_lv [(0, .ref P.1), (1, .int x1), (2, .int r3)] (fl_c rfl (fl_c rfl (fl_c rfl fl_0))) ?_
    exact h
theorem v_beginsType_0 {X : ev_X} {W : Nat → Prop} {d : Nat} {P : MP} {μ : MS} {R : Int32 → MS → Prop} {T : MS → Prop}  (h : MC X W true d 296 [.ref P.1, .int 200] P μ (fun r1 μ1 => ((¬ r1 = 0 → R 1 μ1) ∧ (r1 = 0 → MC X W true d 296 [.ref P.1, .int 20] P μ1 (fun r2 μ2 => ((¬ r2 = 0 → R 1 μ2) ∧ (r2 = 0 → MC X W true d 296 [.ref P.1, .int 3] P μ2 (fun r3 μ3 => ((¬ r3 = 0 → R 1 μ3) ∧ (r3 = 0 → MC X W true d 296 [.ref P.1, .int 29] P μ3 (fun r4 μ4 => ((¬ r4 = 0 → R 1 μ4) ∧ (r4 = 0 → MC X W true d 296 [.ref P.1, .int 5] P μ4 (fun r5 μ5 => ((¬ r5 = 0 → R 1 μ5) ∧ (r5 = 0 → MC X W true d 296 [.ref P.1, .int 49] P μ5 (fun r6 μ6 => ((¬ r6 = 0 → R 1 μ6) ∧ (r6 = 0 → MC X W true d 296 [.ref P.1, .int 46] P μ6 (fun r7 μ7 => ((¬ r7 = 0 → R 1 μ7) ∧ (r7 = 0 → MC X W true d 296 [.ref P.1, .int 104] P μ7 (fun r8 μ8 => ((¬ r8 = 0 → R 1 μ8) ∧ (r8 = 0 → MC X W true d 296 [.ref P.1, .int 1] P μ8 (fun r9 μ9 => ((¬ r9 = 0 → R 1 μ9) ∧ (r9 = 0 → MC X W true d 296 [.ref P.1, .int 42] P μ9 (fun r10 μ10 => ((¬ r10 = 0 → R 1 μ10) ∧ (r10 = 0 → MC X W true d 296 [.ref P.1, .int 43] P μ10 (fun r11 μ11 => ((¬ r11 = 0 → R 1 μ11) ∧ (r11 = 0 → MC X W true d 296 [.ref P.1, .int 38] P μ11 (fun r12 μ12 => ((¬ r12 = 0 → R 1 μ12) ∧ (r12 = 0 → MC X W true d 296 [.ref P.1, .int 34] P μ12 (fun r13 μ13 => ((r13 = 0 → R 0 μ13) ∧ (¬ r13 = 0 → R 1 μ13))) (fun _ => False)))) (fun _ => False)))) (fun _ => False)))) (fun _ => False)))) (fun _ => False)))) (fun _ => False)))) (fun _ => False)))) (fun _ => False)))) (fun _ => False)))) (fun _ => False)))) (fun _ => False)))) (fun _ => False)))) (fun _ => False)) : ME X W true d 311 0 [(0, .ref P.1)] [] P μ R T := by
  refine me_go (pc1 := 4) (lv1 := [(0, .ref P.1)]) (st1 := [.int 200, .ref P.1]) 2 rfl ?_
  refine me_callN rfl rfl rfl (h.mono (fun r1 μ1 h => ?_) (fun _ h => h))
  refine me_ifc rfl rfl (fun c => ?_) (fun c => ?_)
  · replace h := h.1 (ci_ne c)
    refine me_go (pc1 := 120) (lv1 := [(0, .ref P.1)]) (st1 := [.int 1]) 2 rfl ?_
    exact me_retB rfl rfl (by decide) h
  · replace h := h.2 (cn_ne c)
    refine me_go (pc1 := 13) (lv1 := [(0, .ref P.1)]) (st1 := [.int 20, .ref P.1]) 2 rfl ?_
    refine me_callN rfl rfl rfl (h.mono (fun r2 μ2 h => ?_) (fun _ h => h))
    refine me_ifc rfl rfl (fun c => ?_) (fun c => ?_)
    · replace h := h.1 (ci_ne c)
      refine me_go (pc1 := 120) (lv1 := [(0, .ref P.1)]) (st1 := [.int 1]) 2 rfl ?_
      exact me_retB rfl rfl (by decide) h
    · replace h := h.2 (cn_ne c)
      refine me_go (pc1 := 21) (lv1 := [(0, .ref P.1)]) (st1 := [.int 3, .ref P.1]) 2 rfl ?_
      refine me_callN rfl rfl rfl (h.mono (fun r3 μ3 h => ?_) (fun _ h => h))
      refine me_ifc rfl rfl (fun c => ?_) (fun c => ?_)
      · replace h := h.1 (ci_ne c)
        refine me_go (pc1 := 120) (lv1 := [(0, .ref P.1)]) (st1 := [.int 1]) 2 rfl ?_
        exact me_retB rfl rfl (by decide) h
      · replace h := h.2 (cn_ne c)
        refine me_go (pc1 := 30) (lv1 := [(0, .ref P.1)]) (st1 := [.int 29, .ref P.1]) 2 rfl ?_
        refine me_callN rfl rfl rfl (h.mono (fun r4 μ4 h => ?_) (fun _ h => h))
        refine me_ifc rfl rfl (fun c => ?_) (fun c => ?_)
        · replace h := h.1 (ci_ne c)
          refine me_go (pc1 := 120) (lv1 := [(0, .ref P.1)]) (st1 := [.int 1]) 2 rfl ?_
          exact me_retB rfl rfl (by decide) h
        · replace h := h.2 (cn_ne c)
          refine me_go (pc1 := 38) (lv1 := [(0, .ref P.1)]) (st1 := [.int 5, .ref P.1]) 2 rfl ?_
          refine me_callN rfl rfl rfl (h.mono (fun r5 μ5 h => ?_) (fun _ h => h))
          refine me_ifc rfl rfl (fun c => ?_) (fun c => ?_)
          · replace h := h.1 (ci_ne c)
            refine me_go (pc1 := 120) (lv1 := [(0, .ref P.1)]) (st1 := [.int 1]) 2 rfl ?_
            exact me_retB rfl rfl (by decide) h
          · replace h := h.2 (cn_ne c)
            refine me_go (pc1 := 47) (lv1 := [(0, .ref P.1)]) (st1 := [.int 49, .ref P.1]) 2 rfl ?_
            refine me_callN rfl rfl rfl (h.mono (fun r6 μ6 h => ?_) (fun _ h => h))
            refine me_ifc rfl rfl (fun c => ?_) (fun c => ?_)
            · replace h := h.1 (ci_ne c)
              refine me_go (pc1 := 120) (lv1 := [(0, .ref P.1)]) (st1 := [.int 1]) 2 rfl ?_
              exact me_retB rfl rfl (by decide) h
            · replace h := h.2 (cn_ne c)
              refine me_go (pc1 := 56) (lv1 := [(0, .ref P.1)]) (st1 := [.int 46, .ref P.1]) 2 rfl ?_
              refine me_callN rfl rfl rfl (h.mono (fun r7 μ7 h => ?_) (fun _ h => h))
              refine me_ifc rfl rfl (fun c => ?_) (fun c => ?_)
              · replace h := h.1 (ci_ne c)
                refine me_go (pc1 := 120) (lv1 := [(0, .ref P.1)]) (st1 := [.int 1]) 2 rfl ?_
                exact me_retB rfl rfl (by decide) h
              · replace h := h.2 (cn_ne c)
                refine me_go (pc1 := 65) (lv1 := [(0, .ref P.1)]) (st1 := [.int 104, .ref P.1]) 2 rfl ?_
                refine me_callN rfl rfl rfl (h.mono (fun r8 μ8 h => ?_) (fun _ h => h))
                refine me_ifc rfl rfl (fun c => ?_) (fun c => ?_)
                · replace h := h.1 (ci_ne c)
                  refine me_go (pc1 := 120) (lv1 := [(0, .ref P.1)]) (st1 := [.int 1]) 2 rfl ?_
                  exact me_retB rfl rfl (by decide) h
                · replace h := h.2 (cn_ne c)
                  refine me_go (pc1 := 73) (lv1 := [(0, .ref P.1)]) (st1 := [.int 1, .ref P.1]) 2 rfl ?_
                  refine me_callN rfl rfl rfl (h.mono (fun r9 μ9 h => ?_) (fun _ h => h))
                  refine me_ifc rfl rfl (fun c => ?_) (fun c => ?_)
                  · replace h := h.1 (ci_ne c)
                    refine me_go (pc1 := 120) (lv1 := [(0, .ref P.1)]) (st1 := [.int 1]) 2 rfl ?_
                    exact me_retB rfl rfl (by decide) h
                  · replace h := h.2 (cn_ne c)
                    refine me_go (pc1 := 82) (lv1 := [(0, .ref P.1)]) (st1 := [.int 42, .ref P.1]) 2 rfl ?_
                    refine me_callN rfl rfl rfl (h.mono (fun r10 μ10 h => ?_) (fun _ h => h))
                    refine me_ifc rfl rfl (fun c => ?_) (fun c => ?_)
                    · replace h := h.1 (ci_ne c)
                      refine me_go (pc1 := 120) (lv1 := [(0, .ref P.1)]) (st1 := [.int 1]) 2 rfl ?_
                      exact me_retB rfl rfl (by decide) h
                    · replace h := h.2 (cn_ne c)
                      refine me_go (pc1 := 91) (lv1 := [(0, .ref P.1)]) (st1 := [.int 43, .ref P.1]) 2 rfl ?_
                      refine me_callN rfl rfl rfl (h.mono (fun r11 μ11 h => ?_) (fun _ h => h))
                      refine me_ifc rfl rfl (fun c => ?_) (fun c => ?_)
                      · replace h := h.1 (ci_ne c)
                        refine me_go (pc1 := 120) (lv1 := [(0, .ref P.1)]) (st1 := [.int 1]) 2 rfl ?_
                        exact me_retB rfl rfl (by decide) h
                      · replace h := h.2 (cn_ne c)
                        refine me_go (pc1 := 100) (lv1 := [(0, .ref P.1)]) (st1 := [.int 38, .ref P.1]) 2 rfl ?_
                        refine me_callN rfl rfl rfl (h.mono (fun r12 μ12 h => ?_) (fun _ h => h))
                        refine me_ifc rfl rfl (fun c => ?_) (fun c => ?_)
                        · replace h := h.1 (ci_ne c)
                          refine me_go (pc1 := 120) (lv1 := [(0, .ref P.1)]) (st1 := [.int 1]) 2 rfl ?_
                          exact me_retB rfl rfl (by decide) h
                        · replace h := h.2 (cn_ne c)
                          refine me_go (pc1 := 109) (lv1 := [(0, .ref P.1)]) (st1 := [.int 34, .ref P.1]) 2 rfl ?_
                          refine me_callN rfl rfl rfl (h.mono (fun r13 μ13 h => ?_) (fun _ h => h))
                          refine me_ifc rfl rfl (fun c => ?_) (fun c => ?_)
                          · replace h := h.1 (ci_eq c)
                            refine me_go (pc1 := 120) (lv1 := [(0, .ref P.1)]) (st1 := [.int 0]) 1 rfl ?_
                            exact me_retB rfl rfl (by decide) h
                          · replace h := h.2 (cn_eq c)
                            refine me_go (pc1 := 120) (lv1 := [(0, .ref P.1)]) (st1 := [.int 1]) 2 rfl ?_
                            exact me_retB rfl rfl (by decide) h
theorem v_type_0 {X : ev_X} {W : Nat → Prop} {d : Nat} {P : MP} {μ : MS} {R : Int32 → MS → Prop} {T : MS → Prop}  (h : MC X W true d 311 [.ref P.1] P μ (fun r1 μ1 => ((¬ r1 = 0 → ((¬ (μ1.1 39) = 20 → MC X W true d 316 [.ref P.1] P (mS1 μ1 39 ((μ1.1 39) + 1)) (fun r2 μ2 => R r2 (mS1 μ2 39 ((μ2.1 39) - 1))) T) ∧ ((μ1.1 39) = 20 → MC X W true d 291 [.ref P.1] P μ1 (fun r3 μ3 => MC X W true d 289 [.ref P.1, .int 3, .int r3] P μ3 (fun r4 μ4 => MC X W true d 316 [.ref P.1] P (mS1 μ4 39 ((μ4.1 39) + 1)) (fun r5 μ5 => R r5 (mS1 μ5 39 ((μ5.1 39) - 1))) T) T) (fun _ => False)))) ∧ (r1 = 0 → MC X W true d 295 [.ref P.1] P μ1 (fun r6 μ6 => ((¬ (μ6.1 39) = 20 → MC X W true d 316 [.ref P.1] P (mS1 μ6 39 ((μ6.1 39) + 1)) (fun r7 μ7 => R r7 (mS1 μ7 39 ((μ7.1 39) - 1))) T) ∧ ((μ6.1 39) = 20 → MC X W true d 291 [.ref P.1] P μ6 (fun r8 μ8 => MC X W true d 289 [.ref P.1, .int 3, .int r8] P μ8 (fun r9 μ9 => MC X W true d 316 [.ref P.1] P (mS1 μ9 39 ((μ9.1 39) + 1)) (fun r10 μ10 => R r10 (mS1 μ10 39 ((μ10.1 39) - 1))) T) T) (fun _ => False)))) T))) (fun _ => False)) : ME X W true d 312 0 [(0, .ref P.1)] [] P μ R T := by
  refine me_go (pc1 := 1) (lv1 := [(0, .ref P.1)]) (st1 := [.ref P.1]) 1 rfl ?_
  refine me_callN rfl rfl rfl (h.mono (fun r1 μ1 h => ?_) (fun _ h => h))
  refine me_ifc rfl rfl (fun c => ?_) (fun c => ?_)
  · replace h := h.1 (ci_ne c)
    refine me_go (pc1 := 12) (lv1 := [(0, .ref P.1)]) (st1 := [.ref P.1]) 1 rfl ?_
    refine me_getf (v := .int (μ1.1 39)) rfl rfl rfl ?_
    refine me_go (pc1 := 17) (lv1 := [(0, .ref P.1)]) (st1 := [.int 20, .int (μ1.1 39)]) 1 rfl ?_
    refine me_icmp rfl rfl (fun c => ?_) (fun c => ?_)
    · replace h := h.1 (ci_ne c)
      refine me_go (pc1 := 31) (lv1 := [(0, .ref P.1)]) (st1 := [.ref P.1, .ref P.1]) 2 rfl ?_
      refine me_getf (v := .int (μ1.1 39)) rfl rfl rfl ?_
      refine me_go (pc1 := 36) (lv1 := [(0, .ref P.1)]) (st1 := [.int ((μ1.1 39) + 1), .ref P.1]) 2 rfl ?_
      refine me_put rfl rfl rfl ?_
      refine me_go (pc1 := 40) (lv1 := [(0, .ref P.1)]) (st1 := [.ref P.1]) 1 rfl ?_
      refine me_call rfl rfl rfl rfl (h.mono (fun r2 μ2 h => ?_) (fun _ h => h))
      refine me_go (pc1 := 46) (lv1 := [(1, .int r2), (0, .ref P.1)]) (st1 := [.ref P.1, .ref P.1]) 3 rfl ?_
      refine me_getf (v := .int (μ2.1 39)) rfl rfl rfl ?_
      refine me_go (pc1 := 51) (lv1 := [(1, .int r2), (0, .ref P.1)]) (st1 := [.int ((μ2.1 39) - 1), .ref P.1]) 2 rfl ?_
      refine me_put rfl rfl rfl ?_
      refine me_go (pc1 := 55) (lv1 := [(1, .int r2), (0, .ref P.1)]) (st1 := [.int r2]) 1 rfl ?_
      exact me_ret rfl rfl rfl h
    · replace h := h.2 (cn_ne c)
      refine me_go (pc1 := 23) (lv1 := [(0, .ref P.1)]) (st1 := [.ref P.1, .int 3, .ref P.1]) 3 rfl ?_
      refine me_callN rfl rfl rfl (h.mono (fun r3 μ3 h => ?_) (fun _ h => h))
      refine me_call rfl rfl rfl rfl (h.mono (fun r4 μ4 h => ?_) (fun _ h => h))
      refine me_go (pc1 := 31) (lv1 := [(0, .ref P.1)]) (st1 := [.ref P.1, .ref P.1]) 2 rfl ?_
      refine me_getf (v := .int (μ4.1 39)) rfl rfl rfl ?_
      refine me_go (pc1 := 36) (lv1 := [(0, .ref P.1)]) (st1 := [.int ((μ4.1 39) + 1), .ref P.1]) 2 rfl ?_
      refine me_put rfl rfl rfl ?_
      refine me_go (pc1 := 40) (lv1 := [(0, .ref P.1)]) (st1 := [.ref P.1]) 1 rfl ?_
      refine me_call rfl rfl rfl rfl (h.mono (fun r5 μ5 h => ?_) (fun _ h => h))
      refine me_go (pc1 := 46) (lv1 := [(1, .int r5), (0, .ref P.1)]) (st1 := [.ref P.1, .ref P.1]) 3 rfl ?_
      refine me_getf (v := .int (μ5.1 39)) rfl rfl rfl ?_
      refine me_go (pc1 := 51) (lv1 := [(1, .int r5), (0, .ref P.1)]) (st1 := [.int ((μ5.1 39) - 1), .ref P.1]) 2 rfl ?_
      refine me_put rfl rfl rfl ?_
      refine me_go (pc1 := 55) (lv1 := [(1, .int r5), (0, .ref P.1)]) (st1 := [.int r5]) 1 rfl ?_
      exact me_ret rfl rfl rfl h
  · replace h := h.2 (cn_ne c)
    refine me_go (pc1 := 8) (lv1 := [(0, .ref P.1)]) (st1 := [.ref P.1]) 1 rfl ?_
    refine me_call rfl rfl rfl rfl (h.mono (fun r6 μ6 h => ?_) (fun _ h => h))
    refine me_go (pc1 := 12) (lv1 := [(0, .ref P.1)]) (st1 := [.ref P.1]) 1 rfl ?_
    refine me_getf (v := .int (μ6.1 39)) rfl rfl rfl ?_
    refine me_go (pc1 := 17) (lv1 := [(0, .ref P.1)]) (st1 := [.int 20, .int (μ6.1 39)]) 1 rfl ?_
    refine me_icmp rfl rfl (fun c => ?_) (fun c => ?_)
    · replace h := h.1 (ci_ne c)
      refine me_go (pc1 := 31) (lv1 := [(0, .ref P.1)]) (st1 := [.ref P.1, .ref P.1]) 2 rfl ?_
      refine me_getf (v := .int (μ6.1 39)) rfl rfl rfl ?_
      refine me_go (pc1 := 36) (lv1 := [(0, .ref P.1)]) (st1 := [.int ((μ6.1 39) + 1), .ref P.1]) 2 rfl ?_
      refine me_put rfl rfl rfl ?_
      refine me_go (pc1 := 40) (lv1 := [(0, .ref P.1)]) (st1 := [.ref P.1]) 1 rfl ?_
      refine me_call rfl rfl rfl rfl (h.mono (fun r7 μ7 h => ?_) (fun _ h => h))
      refine me_go (pc1 := 46) (lv1 := [(1, .int r7), (0, .ref P.1)]) (st1 := [.ref P.1, .ref P.1]) 3 rfl ?_
      refine me_getf (v := .int (μ7.1 39)) rfl rfl rfl ?_
      refine me_go (pc1 := 51) (lv1 := [(1, .int r7), (0, .ref P.1)]) (st1 := [.int ((μ7.1 39) - 1), .ref P.1]) 2 rfl ?_
      refine me_put rfl rfl rfl ?_
      refine me_go (pc1 := 55) (lv1 := [(1, .int r7), (0, .ref P.1)]) (st1 := [.int r7]) 1 rfl ?_
      exact me_ret rfl rfl rfl h
    · replace h := h.2 (cn_ne c)
      refine me_go (pc1 := 23) (lv1 := [(0, .ref P.1)]) (st1 := [.ref P.1, .int 3, .ref P.1]) 3 rfl ?_
      refine me_callN rfl rfl rfl (h.mono (fun r8 μ8 h => ?_) (fun _ h => h))
      refine me_call rfl rfl rfl rfl (h.mono (fun r9 μ9 h => ?_) (fun _ h => h))
      refine me_go (pc1 := 31) (lv1 := [(0, .ref P.1)]) (st1 := [.ref P.1, .ref P.1]) 2 rfl ?_
      refine me_getf (v := .int (μ9.1 39)) rfl rfl rfl ?_
      refine me_go (pc1 := 36) (lv1 := [(0, .ref P.1)]) (st1 := [.int ((μ9.1 39) + 1), .ref P.1]) 2 rfl ?_
      refine me_put rfl rfl rfl ?_
      refine me_go (pc1 := 40) (lv1 := [(0, .ref P.1)]) (st1 := [.ref P.1]) 1 rfl ?_
      refine me_call rfl rfl rfl rfl (h.mono (fun r10 μ10 h => ?_) (fun _ h => h))
      refine me_go (pc1 := 46) (lv1 := [(1, .int r10), (0, .ref P.1)]) (st1 := [.ref P.1, .ref P.1]) 3 rfl ?_
      refine me_getf (v := .int (μ10.1 39)) rfl rfl rfl ?_
      refine me_go (pc1 := 51) (lv1 := [(1, .int r10), (0, .ref P.1)]) (st1 := [.int ((μ10.1 39) - 1), .ref P.1]) 2 rfl ?_
      refine me_put rfl rfl rfl ?_
      refine me_go (pc1 := 55) (lv1 := [(1, .int r10), (0, .ref P.1)]) (st1 := [.int r10]) 1 rfl ?_
      exact me_ret rfl rfl rfl h
theorem v_levelAlone_0 {X : ev_X} {W : Nat → Prop} {d : Nat} {P : MP} {μ : MS} {R : Int32 → MS → Prop} {T : MS → Prop}  (h : MC X W true d 296 [.ref P.1, .int 200] P μ (fun r1 μ1 => ((¬ r1 = 0 → MC X W true d 316 [.ref P.1] P μ1 (fun r2 μ2 => (MI r2 (μ2.2.2 20) ∧ (((μ2.2.1 20 r2.toNatClampNeg) = 32 → R r2 μ2) ∧ (¬ (μ2.2.1 20 r2.toNatClampNeg) = 32 → MC X W true d 295 [.ref P.1] P μ2 (fun r3 μ3 => R r2 μ3) T)))) T) ∧ (r1 = 0 → MC X W true d 296 [.ref P.1, .int 46] P μ1 (fun r4 μ4 => ((¬ r4 = 0 → MC X W true d 316 [.ref P.1] P μ4 (fun r5 μ5 => (MI r5 (μ5.2.2 20) ∧ (((μ5.2.1 20 r5.toNatClampNeg) = 32 → R r5 μ5) ∧ (¬ (μ5.2.1 20 r5.toNatClampNeg) = 32 → MC X W true d 295 [.ref P.1] P μ5 (fun r6 μ6 => R r5 μ6) T)))) T) ∧ (r4 = 0 → MC X W true d 296 [.ref P.1, .int 34] P μ4 (fun r7 μ7 => ((¬ r7 = 0 → MC X W true d 316 [.ref P.1] P μ7 (fun r8 μ8 => (MI r8 (μ8.2.2 20) ∧ (((μ8.2.1 20 r8.toNatClampNeg) = 32 → R r8 μ8) ∧ (¬ (μ8.2.1 20 r8.toNatClampNeg) = 32 → MC X W true d 295 [.ref P.1] P μ8 (fun r9 μ9 => R r8 μ9) T)))) T) ∧ (r7 = 0 → MC X W true d 295 [.ref P.1] P μ7 (fun r10 μ10 => MC X W true d 316 [.ref P.1] P μ10 (fun r11 μ11 => (MI r11 (μ11.2.2 20) ∧ (((μ11.2.1 20 r11.toNatClampNeg) = 32 → R r11 μ11) ∧ (¬ (μ11.2.1 20 r11.toNatClampNeg) = 32 → MC X W true d 295 [.ref P.1] P μ11 (fun r12 μ12 => R r11 μ12) T)))) T) T))) (fun _ => False)))) (fun _ => False)))) (fun _ => False)) : ME X W true d 313 0 [(0, .ref P.1)] [] P μ R T := by
  refine me_go (pc1 := 4) (lv1 := [(0, .ref P.1)]) (st1 := [.int 200, .ref P.1]) 2 rfl ?_
  refine me_callN rfl rfl rfl (h.mono (fun r1 μ1 h => ?_) (fun _ h => h))
  refine me_ifc rfl rfl (fun c => ?_) (fun c => ?_)
  · replace h := h.1 (ci_ne c)
    refine me_go (pc1 := 33) (lv1 := [(0, .ref P.1)]) (st1 := [.ref P.1]) 1 rfl ?_
    refine me_call rfl rfl rfl rfl (h.mono (fun r2 μ2 h => ?_) (fun _ h => h))
    refine me_go (pc1 := 38) (lv1 := [(1, .int r2), (0, .ref P.1)]) (st1 := [.ref P.1]) 2 rfl ?_
    refine me_getf (v := .ref (P.2.1 20)) rfl rfl rfl ?_
    refine me_go (pc1 := 42) (lv1 := [(1, .int r2), (0, .ref P.1)]) (st1 := [.int r2, .ref (P.2.1 20)]) 1 rfl ?_
    refine me_iald rfl (g := 20) rfl rfl h.1 ?_
    replace h := h.2
    refine me_go (pc1 := 45) (lv1 := [(1, .int r2), (0, .ref P.1)]) (st1 := [.int 32, .int (μ2.2.1 20 r2.toNatClampNeg)]) 1 rfl ?_
    refine me_icmp rfl rfl (fun c => ?_) (fun c => ?_)
    · replace h := h.1 (ci_eq c)
      refine me_go (pc1 := 53) (lv1 := [(1, .int r2), (0, .ref P.1)]) (st1 := [.int r2]) 1 rfl ?_
      exact me_ret rfl rfl rfl h
    · replace h := h.2 (cn_eq c)
      refine me_go (pc1 := 49) (lv1 := [(1, .int r2), (0, .ref P.1)]) (st1 := [.ref P.1]) 1 rfl ?_
      refine me_call rfl rfl rfl rfl (h.mono (fun r3 μ3 h => ?_) (fun _ h => h))
      refine me_go (pc1 := 53) (lv1 := [(1, .int r2), (0, .ref P.1)]) (st1 := [.int r2]) 1 rfl ?_
      exact me_ret rfl rfl rfl h
  · replace h := h.2 (cn_ne c)
    refine me_go (pc1 := 13) (lv1 := [(0, .ref P.1)]) (st1 := [.int 46, .ref P.1]) 2 rfl ?_
    refine me_callN rfl rfl rfl (h.mono (fun r4 μ4 h => ?_) (fun _ h => h))
    refine me_ifc rfl rfl (fun c => ?_) (fun c => ?_)
    · replace h := h.1 (ci_ne c)
      refine me_go (pc1 := 33) (lv1 := [(0, .ref P.1)]) (st1 := [.ref P.1]) 1 rfl ?_
      refine me_call rfl rfl rfl rfl (h.mono (fun r5 μ5 h => ?_) (fun _ h => h))
      refine me_go (pc1 := 38) (lv1 := [(1, .int r5), (0, .ref P.1)]) (st1 := [.ref P.1]) 2 rfl ?_
      refine me_getf (v := .ref (P.2.1 20)) rfl rfl rfl ?_
      refine me_go (pc1 := 42) (lv1 := [(1, .int r5), (0, .ref P.1)]) (st1 := [.int r5, .ref (P.2.1 20)]) 1 rfl ?_
      refine me_iald rfl (g := 20) rfl rfl h.1 ?_
      replace h := h.2
      refine me_go (pc1 := 45) (lv1 := [(1, .int r5), (0, .ref P.1)]) (st1 := [.int 32, .int (μ5.2.1 20 r5.toNatClampNeg)]) 1 rfl ?_
      refine me_icmp rfl rfl (fun c => ?_) (fun c => ?_)
      · replace h := h.1 (ci_eq c)
        refine me_go (pc1 := 53) (lv1 := [(1, .int r5), (0, .ref P.1)]) (st1 := [.int r5]) 1 rfl ?_
        exact me_ret rfl rfl rfl h
      · replace h := h.2 (cn_eq c)
        refine me_go (pc1 := 49) (lv1 := [(1, .int r5), (0, .ref P.1)]) (st1 := [.ref P.1]) 1 rfl ?_
        refine me_call rfl rfl rfl rfl (h.mono (fun r6 μ6 h => ?_) (fun _ h => h))
        refine me_go (pc1 := 53) (lv1 := [(1, .int r5), (0, .ref P.1)]) (st1 := [.int r5]) 1 rfl ?_
        exact me_ret rfl rfl rfl h
    · replace h := h.2 (cn_ne c)
      refine me_go (pc1 := 22) (lv1 := [(0, .ref P.1)]) (st1 := [.int 34, .ref P.1]) 2 rfl ?_
      refine me_callN rfl rfl rfl (h.mono (fun r7 μ7 h => ?_) (fun _ h => h))
      refine me_ifc rfl rfl (fun c => ?_) (fun c => ?_)
      · replace h := h.1 (ci_ne c)
        refine me_go (pc1 := 33) (lv1 := [(0, .ref P.1)]) (st1 := [.ref P.1]) 1 rfl ?_
        refine me_call rfl rfl rfl rfl (h.mono (fun r8 μ8 h => ?_) (fun _ h => h))
        refine me_go (pc1 := 38) (lv1 := [(1, .int r8), (0, .ref P.1)]) (st1 := [.ref P.1]) 2 rfl ?_
        refine me_getf (v := .ref (P.2.1 20)) rfl rfl rfl ?_
        refine me_go (pc1 := 42) (lv1 := [(1, .int r8), (0, .ref P.1)]) (st1 := [.int r8, .ref (P.2.1 20)]) 1 rfl ?_
        refine me_iald rfl (g := 20) rfl rfl h.1 ?_
        replace h := h.2
        refine me_go (pc1 := 45) (lv1 := [(1, .int r8), (0, .ref P.1)]) (st1 := [.int 32, .int (μ8.2.1 20 r8.toNatClampNeg)]) 1 rfl ?_
        refine me_icmp rfl rfl (fun c => ?_) (fun c => ?_)
        · replace h := h.1 (ci_eq c)
          refine me_go (pc1 := 53) (lv1 := [(1, .int r8), (0, .ref P.1)]) (st1 := [.int r8]) 1 rfl ?_
          exact me_ret rfl rfl rfl h
        · replace h := h.2 (cn_eq c)
          refine me_go (pc1 := 49) (lv1 := [(1, .int r8), (0, .ref P.1)]) (st1 := [.ref P.1]) 1 rfl ?_
          refine me_call rfl rfl rfl rfl (h.mono (fun r9 μ9 h => ?_) (fun _ h => h))
          refine me_go (pc1 := 53) (lv1 := [(1, .int r8), (0, .ref P.1)]) (st1 := [.int r8]) 1 rfl ?_
          exact me_ret rfl rfl rfl h
      · replace h := h.2 (cn_ne c)
        refine me_go (pc1 := 29) (lv1 := [(0, .ref P.1)]) (st1 := [.ref P.1]) 1 rfl ?_
        refine me_call rfl rfl rfl rfl (h.mono (fun r10 μ10 h => ?_) (fun _ h => h))
        refine me_go (pc1 := 33) (lv1 := [(0, .ref P.1)]) (st1 := [.ref P.1]) 1 rfl ?_
        refine me_call rfl rfl rfl rfl (h.mono (fun r11 μ11 h => ?_) (fun _ h => h))
        refine me_go (pc1 := 38) (lv1 := [(1, .int r11), (0, .ref P.1)]) (st1 := [.ref P.1]) 2 rfl ?_
        refine me_getf (v := .ref (P.2.1 20)) rfl rfl rfl ?_
        refine me_go (pc1 := 42) (lv1 := [(1, .int r11), (0, .ref P.1)]) (st1 := [.int r11, .ref (P.2.1 20)]) 1 rfl ?_
        refine me_iald rfl (g := 20) rfl rfl h.1 ?_
        replace h := h.2
        refine me_go (pc1 := 45) (lv1 := [(1, .int r11), (0, .ref P.1)]) (st1 := [.int 32, .int (μ11.2.1 20 r11.toNatClampNeg)]) 1 rfl ?_
        refine me_icmp rfl rfl (fun c => ?_) (fun c => ?_)
        · replace h := h.1 (ci_eq c)
          refine me_go (pc1 := 53) (lv1 := [(1, .int r11), (0, .ref P.1)]) (st1 := [.int r11]) 1 rfl ?_
          exact me_ret rfl rfl rfl h
        · replace h := h.2 (cn_eq c)
          refine me_go (pc1 := 49) (lv1 := [(1, .int r11), (0, .ref P.1)]) (st1 := [.ref P.1]) 1 rfl ?_
          refine me_call rfl rfl rfl rfl (h.mono (fun r12 μ12 h => ?_) (fun _ h => h))
          refine me_go (pc1 := 53) (lv1 := [(1, .int r11), (0, .ref P.1)]) (st1 := [.int r11]) 1 rfl ?_
          exact me_ret rfl rfl rfl h
theorem v_bound_0 {X : ev_X} {W : Nat → Prop} {d : Nat} {P : MP} {μ : MS} {R : Int32 → MS → Prop} {T : MS → Prop}  (h : MC X W true d 296 [.ref P.1, .int 119] P μ (fun r1 μ1 => ((r1 = 0 → MC X W true d 296 [.ref P.1, .int 201] P μ1 (fun r2 μ2 => ((¬ r2 = 0 → (MI (μ2.1 32) (μ2.2.2 10) ∧ MC X W true d 294 [.ref P.1] P μ2 (fun r3 μ3 => ((r1 = 0 → R (μ2.2.1 10 ((μ2.1 32)).toNatClampNeg) μ3) ∧ (¬ r1 = 0 → R (-(μ2.2.1 10 ((μ2.1 32)).toNatClampNeg)) μ3))) T)) ∧ (r2 = 0 → MC X W true d 295 [.ref P.1] P μ2 (fun r4 μ4 => (MI (μ4.1 32) (μ4.2.2 10) ∧ MC X W true d 294 [.ref P.1] P μ4 (fun r5 μ5 => ((r1 = 0 → R (μ4.2.1 10 ((μ4.1 32)).toNatClampNeg) μ5) ∧ (¬ r1 = 0 → R (-(μ4.2.1 10 ((μ4.1 32)).toNatClampNeg)) μ5))) T)) T))) (fun _ => False)) ∧ (¬ r1 = 0 → MC X W true d 294 [.ref P.1] P μ1 (fun r6 μ6 => MC X W true d 296 [.ref P.1, .int 201] P μ6 (fun r7 μ7 => ((¬ r7 = 0 → (MI (μ7.1 32) (μ7.2.2 10) ∧ MC X W true d 294 [.ref P.1] P μ7 (fun r8 μ8 => ((r1 = 0 → R (μ7.2.1 10 ((μ7.1 32)).toNatClampNeg) μ8) ∧ (¬ r1 = 0 → R (-(μ7.2.1 10 ((μ7.1 32)).toNatClampNeg)) μ8))) T)) ∧ (r7 = 0 → MC X W true d 295 [.ref P.1] P μ7 (fun r9 μ9 => (MI (μ9.1 32) (μ9.2.2 10) ∧ MC X W true d 294 [.ref P.1] P μ9 (fun r10 μ10 => ((r1 = 0 → R (μ9.2.1 10 ((μ9.1 32)).toNatClampNeg) μ10) ∧ (¬ r1 = 0 → R (-(μ9.2.1 10 ((μ9.1 32)).toNatClampNeg)) μ10))) T)) T))) (fun _ => False)) T))) (fun _ => False)) : ME X W true d 314 0 [(0, .ref P.1)] [] P μ R T := by
  refine me_go (pc1 := 3) (lv1 := [(0, .ref P.1)]) (st1 := [.int 119, .ref P.1]) 2 rfl ?_
  refine me_callN rfl rfl rfl (h.mono (fun r1 μ1 h => ?_) (fun _ h => h))
  refine me_go (pc1 := 8) (lv1 := [(1, .int r1), (0, .ref P.1)]) (st1 := [.int r1]) 2 rfl ?_
  refine me_ifc rfl rfl (fun c => ?_) (fun c => ?_)
  · replace h := h.1 (ci_eq c)
    refine me_go (pc1 := 19) (lv1 := [(1, .int r1), (0, .ref P.1)]) (st1 := [.int 201, .ref P.1]) 2 rfl ?_
    refine me_callN rfl rfl rfl (h.mono (fun r2 μ2 h => ?_) (fun _ h => h))
    refine me_ifc rfl rfl (fun c => ?_) (fun c => ?_)
    · replace h := h.1 (ci_ne c)
      refine me_go (pc1 := 30) (lv1 := [(1, .int r1), (0, .ref P.1)]) (st1 := [.ref P.1]) 1 rfl ?_
      refine me_getf (v := .ref (P.2.1 10)) rfl rfl rfl ?_
      refine me_go (pc1 := 34) (lv1 := [(1, .int r1), (0, .ref P.1)]) (st1 := [.ref P.1, .ref (P.2.1 10)]) 1 rfl ?_
      refine me_getf (v := .int (μ2.1 32)) rfl rfl rfl ?_
      refine me_iald rfl (g := 10) rfl rfl h.1 ?_
      replace h := h.2
      refine me_go (pc1 := 40) (lv1 := [(2, .int (μ2.2.1 10 ((μ2.1 32)).toNatClampNeg)), (1, .int r1), (0, .ref P.1)]) (st1 := [.ref P.1]) 2 rfl ?_
      refine me_call rfl rfl rfl rfl (h.mono (fun r3 μ3 h => ?_) (fun _ h => h))
      refine me_go (pc1 := 44) (lv1 := [(2, .int (μ2.2.1 10 ((μ2.1 32)).toNatClampNeg)), (1, .int r1), (0, .ref P.1)]) (st1 := [.int r1]) 1 rfl ?_
      refine me_ifc rfl rfl (fun c => ?_) (fun c => ?_)
      · replace h := h.1 (ci_eq c)
        refine me_go (pc1 := 53) (lv1 := [(2, .int (μ2.2.1 10 ((μ2.1 32)).toNatClampNeg)), (1, .int r1), (0, .ref P.1)]) (st1 := [.int (μ2.2.1 10 ((μ2.1 32)).toNatClampNeg)]) 1 rfl ?_
        exact me_ret rfl rfl rfl h
      · replace h := h.2 (cn_eq c)
        refine me_go (pc1 := 53) (lv1 := [(2, .int (μ2.2.1 10 ((μ2.1 32)).toNatClampNeg)), (1, .int r1), (0, .ref P.1)]) (st1 := [.int (-(μ2.2.1 10 ((μ2.1 32)).toNatClampNeg))]) 3 rfl ?_
        exact me_ret rfl rfl rfl h
    · replace h := h.2 (cn_ne c)
      refine me_go (pc1 := 26) (lv1 := [(1, .int r1), (0, .ref P.1)]) (st1 := [.ref P.1]) 1 rfl ?_
      refine me_call rfl rfl rfl rfl (h.mono (fun r4 μ4 h => ?_) (fun _ h => h))
      refine me_go (pc1 := 30) (lv1 := [(1, .int r1), (0, .ref P.1)]) (st1 := [.ref P.1]) 1 rfl ?_
      refine me_getf (v := .ref (P.2.1 10)) rfl rfl rfl ?_
      refine me_go (pc1 := 34) (lv1 := [(1, .int r1), (0, .ref P.1)]) (st1 := [.ref P.1, .ref (P.2.1 10)]) 1 rfl ?_
      refine me_getf (v := .int (μ4.1 32)) rfl rfl rfl ?_
      refine me_iald rfl (g := 10) rfl rfl h.1 ?_
      replace h := h.2
      refine me_go (pc1 := 40) (lv1 := [(2, .int (μ4.2.1 10 ((μ4.1 32)).toNatClampNeg)), (1, .int r1), (0, .ref P.1)]) (st1 := [.ref P.1]) 2 rfl ?_
      refine me_call rfl rfl rfl rfl (h.mono (fun r5 μ5 h => ?_) (fun _ h => h))
      refine me_go (pc1 := 44) (lv1 := [(2, .int (μ4.2.1 10 ((μ4.1 32)).toNatClampNeg)), (1, .int r1), (0, .ref P.1)]) (st1 := [.int r1]) 1 rfl ?_
      refine me_ifc rfl rfl (fun c => ?_) (fun c => ?_)
      · replace h := h.1 (ci_eq c)
        refine me_go (pc1 := 53) (lv1 := [(2, .int (μ4.2.1 10 ((μ4.1 32)).toNatClampNeg)), (1, .int r1), (0, .ref P.1)]) (st1 := [.int (μ4.2.1 10 ((μ4.1 32)).toNatClampNeg)]) 1 rfl ?_
        exact me_ret rfl rfl rfl h
      · replace h := h.2 (cn_eq c)
        refine me_go (pc1 := 53) (lv1 := [(2, .int (μ4.2.1 10 ((μ4.1 32)).toNatClampNeg)), (1, .int r1), (0, .ref P.1)]) (st1 := [.int (-(μ4.2.1 10 ((μ4.1 32)).toNatClampNeg))]) 3 rfl ?_
        exact me_ret rfl rfl rfl h
  · replace h := h.2 (cn_eq c)
    refine me_go (pc1 := 12) (lv1 := [(1, .int r1), (0, .ref P.1)]) (st1 := [.ref P.1]) 1 rfl ?_
    refine me_call rfl rfl rfl rfl (h.mono (fun r6 μ6 h => ?_) (fun _ h => h))
    refine me_go (pc1 := 19) (lv1 := [(1, .int r1), (0, .ref P.1)]) (st1 := [.int 201, .ref P.1]) 2 rfl ?_
    refine me_callN rfl rfl rfl (h.mono (fun r7 μ7 h => ?_) (fun _ h => h))
    refine me_ifc rfl rfl (fun c => ?_) (fun c => ?_)
    · replace h := h.1 (ci_ne c)
      refine me_go (pc1 := 30) (lv1 := [(1, .int r1), (0, .ref P.1)]) (st1 := [.ref P.1]) 1 rfl ?_
      refine me_getf (v := .ref (P.2.1 10)) rfl rfl rfl ?_
      refine me_go (pc1 := 34) (lv1 := [(1, .int r1), (0, .ref P.1)]) (st1 := [.ref P.1, .ref (P.2.1 10)]) 1 rfl ?_
      refine me_getf (v := .int (μ7.1 32)) rfl rfl rfl ?_
      refine me_iald rfl (g := 10) rfl rfl h.1 ?_
      replace h := h.2
      refine me_go (pc1 := 40) (lv1 := [(2, .int (μ7.2.1 10 ((μ7.1 32)).toNatClampNeg)), (1, .int r1), (0, .ref P.1)]) (st1 := [.ref P.1]) 2 rfl ?_
      refine me_call rfl rfl rfl rfl (h.mono (fun r8 μ8 h => ?_) (fun _ h => h))
      refine me_go (pc1 := 44) (lv1 := [(2, .int (μ7.2.1 10 ((μ7.1 32)).toNatClampNeg)), (1, .int r1), (0, .ref P.1)]) (st1 := [.int r1]) 1 rfl ?_
      refine me_ifc rfl rfl (fun c => ?_) (fun c => ?_)
      · replace h := h.1 (ci_eq c)
        refine me_go (pc1 := 53) (lv1 := [(2, .int (μ7.2.1 10 ((μ7.1 32)).toNatClampNeg)), (1, .int r1), (0, .ref P.1)]) (st1 := [.int (μ7.2.1 10 ((μ7.1 32)).toNatClampNeg)]) 1 rfl ?_
        exact me_ret rfl rfl rfl h
      · replace h := h.2 (cn_eq c)
        refine me_go (pc1 := 53) (lv1 := [(2, .int (μ7.2.1 10 ((μ7.1 32)).toNatClampNeg)), (1, .int r1), (0, .ref P.1)]) (st1 := [.int (-(μ7.2.1 10 ((μ7.1 32)).toNatClampNeg))]) 3 rfl ?_
        exact me_ret rfl rfl rfl h
    · replace h := h.2 (cn_ne c)
      refine me_go (pc1 := 26) (lv1 := [(1, .int r1), (0, .ref P.1)]) (st1 := [.ref P.1]) 1 rfl ?_
      refine me_call rfl rfl rfl rfl (h.mono (fun r9 μ9 h => ?_) (fun _ h => h))
      refine me_go (pc1 := 30) (lv1 := [(1, .int r1), (0, .ref P.1)]) (st1 := [.ref P.1]) 1 rfl ?_
      refine me_getf (v := .ref (P.2.1 10)) rfl rfl rfl ?_
      refine me_go (pc1 := 34) (lv1 := [(1, .int r1), (0, .ref P.1)]) (st1 := [.ref P.1, .ref (P.2.1 10)]) 1 rfl ?_
      refine me_getf (v := .int (μ9.1 32)) rfl rfl rfl ?_
      refine me_iald rfl (g := 10) rfl rfl h.1 ?_
      replace h := h.2
      refine me_go (pc1 := 40) (lv1 := [(2, .int (μ9.2.1 10 ((μ9.1 32)).toNatClampNeg)), (1, .int r1), (0, .ref P.1)]) (st1 := [.ref P.1]) 2 rfl ?_
      refine me_call rfl rfl rfl rfl (h.mono (fun r10 μ10 h => ?_) (fun _ h => h))
      refine me_go (pc1 := 44) (lv1 := [(2, .int (μ9.2.1 10 ((μ9.1 32)).toNatClampNeg)), (1, .int r1), (0, .ref P.1)]) (st1 := [.int r1]) 1 rfl ?_
      refine me_ifc rfl rfl (fun c => ?_) (fun c => ?_)
      · replace h := h.1 (ci_eq c)
        refine me_go (pc1 := 53) (lv1 := [(2, .int (μ9.2.1 10 ((μ9.1 32)).toNatClampNeg)), (1, .int r1), (0, .ref P.1)]) (st1 := [.int (μ9.2.1 10 ((μ9.1 32)).toNatClampNeg)]) 1 rfl ?_
        exact me_ret rfl rfl rfl h
      · replace h := h.2 (cn_eq c)
        refine me_go (pc1 := 53) (lv1 := [(2, .int (μ9.2.1 10 ((μ9.1 32)).toNatClampNeg)), (1, .int r1), (0, .ref P.1)]) (st1 := [.int (-(μ9.2.1 10 ((μ9.1 32)).toNatClampNeg))]) 3 rfl ?_
        exact me_ret rfl rfl rfl h
theorem v_bounds_0 {X : ev_X} {W : Nat → Prop} {d : Nat} {P : MP} {μ : MS} {R : Int32 → MS → Prop} {T : MS → Prop} (x1 : Int32) (h : MC X W true d 299 [.ref P.1, .int 104] P μ (fun r1 μ1 => MC X W true d 314 [.ref P.1] P μ1 (fun r2 μ2 => (MI x1 (μ2.2.2 22) ∧ MC X W true d 297 [.ref P.1, .int 110] P (mA1 μ2 22 x1.toNatClampNeg r2) (fun r3 μ3 => MC X W true d 314 [.ref P.1] P μ3 (fun r4 μ4 => (MI x1 (μ4.2.2 23) ∧ MC X W true d 300 [.ref P.1, .int 105] P (mA1 μ4 23 x1.toNatClampNeg r4) (fun r5 μ5 => R 0 μ5) T)) T) T)) T) T) : ME X W true d 315 0 [(0, .ref P.1), (1, .int x1)] [] P μ R T := by
  refine me_go (pc1 := 3) (lv1 := [(0, .ref P.1), (1, .int x1)]) (st1 := [.int 104, .ref P.1]) 2 rfl ?_
  refine me_call rfl rfl rfl rfl (h.mono (fun r1 μ1 h => ?_) (fun _ h => h))
  refine me_go (pc1 := 7) (lv1 := [(0, .ref P.1), (1, .int x1)]) (st1 := [.ref P.1]) 1 rfl ?_
  refine me_getf (v := .ref (P.2.1 22)) rfl rfl rfl ?_
  refine me_go (pc1 := 12) (lv1 := [(0, .ref P.1), (1, .int x1)]) (st1 := [.ref P.1, .int x1, .ref (P.2.1 22)]) 2 rfl ?_
  refine me_call rfl rfl rfl rfl (h.mono (fun r2 μ2 h => ?_) (fun _ h => h))
  have hi := h.1
  replace h := h.2
  refine me_iast rfl (g := 22) rfl rfl hi ?_
  refine me_go (pc1 := 19) (lv1 := [(0, .ref P.1), (1, .int x1)]) (st1 := [.int 110, .ref P.1]) 2 rfl ?_
  refine me_call rfl rfl rfl rfl (h.mono (fun r3 μ3 h => ?_) (fun _ h => h))
  refine me_go (pc1 := 23) (lv1 := [(0, .ref P.1), (1, .int x1)]) (st1 := [.ref P.1]) 1 rfl ?_
  refine me_getf (v := .ref (P.2.1 23)) rfl rfl rfl ?_
  refine me_go (pc1 := 28) (lv1 := [(0, .ref P.1), (1, .int x1)]) (st1 := [.ref P.1, .int x1, .ref (P.2.1 23)]) 2 rfl ?_
  refine me_call rfl rfl rfl rfl (h.mono (fun r4 μ4 h => ?_) (fun _ h => h))
  have hi := h.1
  replace h := h.2
  refine me_iast rfl (g := 23) rfl rfl hi ?_
  refine me_go (pc1 := 35) (lv1 := [(0, .ref P.1), (1, .int x1)]) (st1 := [.int 105, .ref P.1]) 2 rfl ?_
  refine me_call rfl rfl rfl rfl (h.mono (fun r5 μ5 h => ?_) (fun _ h => h))
  exact me_ret (v := none) (r := 0) rfl rfl rfl h
theorem v_typeInside_0 {X : ev_X} {W : Nat → Prop} {d : Nat} {P : MP} {μ : MS} {R : Int32 → MS → Prop} {T : MS → Prop}  (h : MC X W true d 292 [.ref P.1, .int 20, .int (-1), .int (-1)] P μ (fun r1 μ1 => (MI (μ1.1 32) (μ1.2.2 9) ∧ ((((μ1.2.1 9 ((μ1.1 32)).toNatClampNeg) = 1) → (MI r1 (μ1.2.2 20) ∧ MC X W true d 294 [.ref P.1] P (mA1 μ1 20 r1.toNatClampNeg 28) (fun r2 μ2 => MC X W true d 315 [.ref P.1, .int r1] P μ2 (fun r3 μ3 => MC X W true d 297 [.ref P.1, .int 35] P μ3 (fun r4 μ4 => MC X W true d 312 [.ref P.1] P μ4 (fun r5 μ5 => (MI r1 (μ5.2.2 24) ∧ R r1 (mA1 μ5 24 r1.toNatClampNeg r5))) T) T) T) T)) ∧ (((μ1.2.1 9 ((μ1.1 32)).toNatClampNeg) = 3 ∨ (μ1.2.1 9 ((μ1.1 32)).toNatClampNeg) = 5 ∨ (μ1.2.1 9 ((μ1.1 32)).toNatClampNeg) = 20 ∨ (μ1.2.1 9 ((μ1.1 32)).toNatClampNeg) = 29 ∨ (μ1.2.1 9 ((μ1.1 32)).toNatClampNeg) = 49) → ((¬ (μ1.2.1 9 ((μ1.1 32)).toNatClampNeg) = 20 → ((¬ (μ1.2.1 9 ((μ1.1 32)).toNatClampNeg) = 3 → ((¬ (μ1.2.1 9 ((μ1.1 32)).toNatClampNeg) = 29 → ((¬ (μ1.2.1 9 ((μ1.1 32)).toNatClampNeg) = 5 → (MI r1 (μ1.2.2 20) ∧ MC X W true d 294 [.ref P.1] P (mA1 μ1 20 r1.toNatClampNeg 25) (fun r6 μ6 => R r1 μ6) T)) ∧ ((μ1.2.1 9 ((μ1.1 32)).toNatClampNeg) = 5 → (MI r1 (μ1.2.2 20) ∧ MC X W true d 294 [.ref P.1] P (mA1 μ1 20 r1.toNatClampNeg 24) (fun r7 μ7 => R r1 μ7) T)))) ∧ ((μ1.2.1 9 ((μ1.1 32)).toNatClampNeg) = 29 → (MI r1 (μ1.2.2 20) ∧ MC X W true d 294 [.ref P.1] P (mA1 μ1 20 r1.toNatClampNeg 23) (fun r8 μ8 => R r1 μ8) T)))) ∧ ((μ1.2.1 9 ((μ1.1 32)).toNatClampNeg) = 3 → (MI r1 (μ1.2.2 20) ∧ MC X W true d 294 [.ref P.1] P (mA1 μ1 20 r1.toNatClampNeg 22) (fun r9 μ9 => R r1 μ9) T)))) ∧ ((μ1.2.1 9 ((μ1.1 32)).toNatClampNeg) = 20 → (MI r1 (μ1.2.2 20) ∧ MC X W true d 294 [.ref P.1] P (mA1 μ1 20 r1.toNatClampNeg 21) (fun r10 μ10 => R r1 μ10) T)))) ∧ (((μ1.2.1 9 ((μ1.1 32)).toNatClampNeg) = 34) → MC X W true d 318 [.ref P.1, .int (-1)] P μ1 (fun r11 μ11 => R r11 μ11) T) ∧ (((μ1.2.1 9 ((μ1.1 32)).toNatClampNeg) = 42) → (MI r1 (μ1.2.2 20) ∧ MC X W true d 294 [.ref P.1] P (mA1 μ1 20 r1.toNatClampNeg 29) (fun r12 μ12 => MC X W true d 317 [.ref P.1] P μ12 (fun r13 μ13 => (MI r1 (μ13.2.2 22) ∧ MC X W true d 297 [.ref P.1, .int 10] P (mA1 μ13 22 r1.toNatClampNeg r13) (fun r14 μ14 => R r1 μ14) T)) T) T)) ∧ (((μ1.2.1 9 ((μ1.1 32)).toNatClampNeg) = 43) → (MI r1 (μ1.2.2 20) ∧ MC X W true d 294 [.ref P.1] P (mA1 μ1 20 r1.toNatClampNeg 30) (fun r15 μ15 => MC X W true d 312 [.ref P.1] P μ15 (fun r16 μ16 => (MI r1 (μ16.2.2 22) ∧ R r1 (mA1 μ16 22 r1.toNatClampNeg r16))) T) T)) ∧ (((μ1.2.1 9 ((μ1.1 32)).toNatClampNeg) = 46) → (MI r1 (μ1.2.2 20) ∧ MC X W true d 294 [.ref P.1] P (mA1 μ1 20 r1.toNatClampNeg 26) (fun r17 μ17 => MC X W true d 296 [.ref P.1, .int 34] P μ17 (fun r18 μ18 => ((r18 = 0 → R r1 μ18) ∧ (¬ r18 = 0 → MC X W true d 318 [.ref P.1, .int r1] P μ18 (fun r19 μ19 => R r19 μ19) T))) (fun _ => False)) T)) ∧ (((μ1.2.1 9 ((μ1.1 32)).toNatClampNeg) = 104) → (MI r1 (μ1.2.2 20) ∧ MC X W true d 315 [.ref P.1, .int r1] P (mA1 μ1 20 r1.toNatClampNeg 27) (fun r20 μ20 => R r1 μ20) T)) ∧ (((μ1.2.1 9 ((μ1.1 32)).toNatClampNeg) = 200) → (MI r1 (μ1.2.2 28) ∧ MC X W true d 305 [.ref P.1] P (mA1 μ1 28 r1.toNatClampNeg (-1)) (fun r21 μ21 => (MI r1 (μ21.2.2 22) ∧ MC X W true d 296 [.ref P.1, .int 34] P (mA1 μ21 22 r1.toNatClampNeg r21) (fun r22 μ22 => ((r22 = 0 → R r1 μ22) ∧ (¬ r22 = 0 → MC X W true d 318 [.ref P.1, .int r1] P μ22 (fun r23 μ23 => R r23 μ23) T))) (fun _ => False))) T)) ∧ ((∀ v ∈ [(1 : Int32), (3 : Int32), (5 : Int32), (20 : Int32), (29 : Int32), (34 : Int32), (42 : Int32), (43 : Int32), (46 : Int32), (49 : Int32), (104 : Int32), (200 : Int32)], ¬ (μ1.2.1 9 ((μ1.1 32)).toNatClampNeg) = v) → (MI r1 (μ1.2.2 20) ∧ MC X W true d 294 [.ref P.1] P (mA1 μ1 20 r1.toNatClampNeg 31) (fun r24 μ24 => MC X W true d 309 [.ref P.1] P μ24 (fun r25 μ25 => (MI r1 (μ25.2.2 22) ∧ R r1 (mA1 μ25 22 r1.toNatClampNeg r25))) T) T))))) (fun _ => False)) : ME X W true d 316 0 [(0, .ref P.1)] [] P μ R T := by
  refine me_go (pc1 := 5) (lv1 := [(0, .ref P.1)]) (st1 := [.int (-1), .int (-1), .int 20, .ref P.1]) 4 rfl ?_
  refine me_callN rfl rfl rfl (h.mono (fun r1 μ1 h => ?_) (fun _ h => h))
  refine me_go (pc1 := 10) (lv1 := [(1, .int r1), (0, .ref P.1)]) (st1 := [.ref P.1]) 2 rfl ?_
  refine me_getf (v := .ref (P.2.1 9)) rfl rfl rfl ?_
  refine me_go (pc1 := 14) (lv1 := [(1, .int r1), (0, .ref P.1)]) (st1 := [.ref P.1, .ref (P.2.1 9)]) 1 rfl ?_
  refine me_getf (v := .int (μ1.1 32)) rfl rfl rfl ?_
  refine me_iald rfl (g := 9) rfl rfl h.1 ?_
  replace h := h.2
  refine me_go (pc1 := 20) (lv1 := [(2, .int (μ1.2.1 9 ((μ1.1 32)).toNatClampNeg)), (1, .int r1), (0, .ref P.1)]) (st1 := [.int (μ1.2.1 9 ((μ1.1 32)).toNatClampNeg)]) 2 rfl ?_
  have hD := h
  have q20_0 : ((μ1.2.1 9 ((μ1.1 32)).toNatClampNeg) = 1) → ME X W true d 316 272 [(2, .int (μ1.2.1 9 ((μ1.1 32)).toNatClampNeg)), (1, .int r1), (0, .ref P.1)] [] P μ1 R T := fun c => by
      replace h := hD.1 c
      refine me_go (pc1 := 273) (lv1 := [(2, .int (μ1.2.1 9 ((μ1.1 32)).toNatClampNeg)), (1, .int r1), (0, .ref P.1)]) (st1 := [.ref P.1]) 1 rfl ?_
      refine me_getf (v := .ref (P.2.1 20)) rfl rfl rfl ?_
      refine me_go (pc1 := 279) (lv1 := [(2, .int (μ1.2.1 9 ((μ1.1 32)).toNatClampNeg)), (1, .int r1), (0, .ref P.1)]) (st1 := [.int 28, .int r1, .ref (P.2.1 20)]) 2 rfl ?_
      have hi := h.1
      replace h := h.2
      refine me_iast rfl (g := 20) rfl rfl hi ?_
      refine me_go (pc1 := 281) (lv1 := [(2, .int (μ1.2.1 9 ((μ1.1 32)).toNatClampNeg)), (1, .int r1), (0, .ref P.1)]) (st1 := [.ref P.1]) 1 rfl ?_
      refine me_call rfl rfl rfl rfl (h.mono (fun r2 μ2 h => ?_) (fun _ h => h))
      refine me_go (pc1 := 286) (lv1 := [(2, .int (μ1.2.1 9 ((μ1.1 32)).toNatClampNeg)), (1, .int r1), (0, .ref P.1)]) (st1 := [.int r1, .ref P.1]) 2 rfl ?_
      refine me_call rfl rfl rfl rfl (h.mono (fun r3 μ3 h => ?_) (fun _ h => h))
      refine me_go (pc1 := 292) (lv1 := [(2, .int (μ1.2.1 9 ((μ1.1 32)).toNatClampNeg)), (1, .int r1), (0, .ref P.1)]) (st1 := [.int 35, .ref P.1]) 2 rfl ?_
      refine me_call rfl rfl rfl rfl (h.mono (fun r4 μ4 h => ?_) (fun _ h => h))
      refine me_go (pc1 := 296) (lv1 := [(2, .int (μ1.2.1 9 ((μ1.1 32)).toNatClampNeg)), (1, .int r1), (0, .ref P.1)]) (st1 := [.ref P.1]) 1 rfl ?_
      refine me_getf (v := .ref (P.2.1 24)) rfl rfl rfl ?_
      refine me_go (pc1 := 301) (lv1 := [(2, .int (μ1.2.1 9 ((μ1.1 32)).toNatClampNeg)), (1, .int r1), (0, .ref P.1)]) (st1 := [.ref P.1, .int r1, .ref (P.2.1 24)]) 2 rfl ?_
      refine me_call rfl rfl rfl rfl (h.mono (fun r5 μ5 h => ?_) (fun _ h => h))
      have hi := h.1
      replace h := h.2
      refine me_iast rfl (g := 24) rfl rfl hi ?_
      refine me_go (pc1 := 306) (lv1 := [(2, .int (μ1.2.1 9 ((μ1.1 32)).toNatClampNeg)), (1, .int r1), (0, .ref P.1)]) (st1 := [.int r1]) 1 rfl ?_
      exact me_ret rfl rfl rfl h
  have q20_1 : ((μ1.2.1 9 ((μ1.1 32)).toNatClampNeg) = 3 ∨ (μ1.2.1 9 ((μ1.1 32)).toNatClampNeg) = 5 ∨ (μ1.2.1 9 ((μ1.1 32)).toNatClampNeg) = 20 ∨ (μ1.2.1 9 ((μ1.1 32)).toNatClampNeg) = 29 ∨ (μ1.2.1 9 ((μ1.1 32)).toNatClampNeg) = 49) → ME X W true d 316 201 [(2, .int (μ1.2.1 9 ((μ1.1 32)).toNatClampNeg)), (1, .int r1), (0, .ref P.1)] [] P μ1 R T := fun c => by
      replace h := hD.2.1 c
      refine me_go (pc1 := 202) (lv1 := [(2, .int (μ1.2.1 9 ((μ1.1 32)).toNatClampNeg)), (1, .int r1), (0, .ref P.1)]) (st1 := [.ref P.1]) 1 rfl ?_
      refine me_getf (v := .ref (P.2.1 20)) rfl rfl rfl ?_
      refine me_go (pc1 := 209) (lv1 := [(2, .int (μ1.2.1 9 ((μ1.1 32)).toNatClampNeg)), (1, .int r1), (0, .ref P.1)]) (st1 := [.int 20, .int (μ1.2.1 9 ((μ1.1 32)).toNatClampNeg), .int r1, .ref (P.2.1 20)]) 3 rfl ?_
      refine me_icmp rfl rfl (fun c => ?_) (fun c => ?_)
      · replace h := h.1 (ci_ne c)
        refine me_go (pc1 := 219) (lv1 := [(2, .int (μ1.2.1 9 ((μ1.1 32)).toNatClampNeg)), (1, .int r1), (0, .ref P.1)]) (st1 := [.int 3, .int (μ1.2.1 9 ((μ1.1 32)).toNatClampNeg), .int r1, .ref (P.2.1 20)]) 2 rfl ?_
        refine me_icmp rfl rfl (fun c => ?_) (fun c => ?_)
        · replace h := h.1 (ci_ne c)
          refine me_go (pc1 := 230) (lv1 := [(2, .int (μ1.2.1 9 ((μ1.1 32)).toNatClampNeg)), (1, .int r1), (0, .ref P.1)]) (st1 := [.int 29, .int (μ1.2.1 9 ((μ1.1 32)).toNatClampNeg), .int r1, .ref (P.2.1 20)]) 2 rfl ?_
          refine me_icmp rfl rfl (fun c => ?_) (fun c => ?_)
          · replace h := h.1 (ci_ne c)
            refine me_go (pc1 := 240) (lv1 := [(2, .int (μ1.2.1 9 ((μ1.1 32)).toNatClampNeg)), (1, .int r1), (0, .ref P.1)]) (st1 := [.int 5, .int (μ1.2.1 9 ((μ1.1 32)).toNatClampNeg), .int r1, .ref (P.2.1 20)]) 2 rfl ?_
            refine me_icmp rfl rfl (fun c => ?_) (fun c => ?_)
            · replace h := h.1 (ci_ne c)
              refine me_go (pc1 := 250) (lv1 := [(2, .int (μ1.2.1 9 ((μ1.1 32)).toNatClampNeg)), (1, .int r1), (0, .ref P.1)]) (st1 := [.int 25, .int r1, .ref (P.2.1 20)]) 1 rfl ?_
              have hi := h.1
              replace h := h.2
              refine me_iast rfl (g := 20) rfl rfl hi ?_
              refine me_go (pc1 := 252) (lv1 := [(2, .int (μ1.2.1 9 ((μ1.1 32)).toNatClampNeg)), (1, .int r1), (0, .ref P.1)]) (st1 := [.ref P.1]) 1 rfl ?_
              refine me_call rfl rfl rfl rfl (h.mono (fun r6 μ6 h => ?_) (fun _ h => h))
              refine me_go (pc1 := 256) (lv1 := [(2, .int (μ1.2.1 9 ((μ1.1 32)).toNatClampNeg)), (1, .int r1), (0, .ref P.1)]) (st1 := [.int r1]) 1 rfl ?_
              exact me_ret rfl rfl rfl h
            · replace h := h.2 (cn_ne c)
              refine me_go (pc1 := 250) (lv1 := [(2, .int (μ1.2.1 9 ((μ1.1 32)).toNatClampNeg)), (1, .int r1), (0, .ref P.1)]) (st1 := [.int 24, .int r1, .ref (P.2.1 20)]) 2 rfl ?_
              have hi := h.1
              replace h := h.2
              refine me_iast rfl (g := 20) rfl rfl hi ?_
              refine me_go (pc1 := 252) (lv1 := [(2, .int (μ1.2.1 9 ((μ1.1 32)).toNatClampNeg)), (1, .int r1), (0, .ref P.1)]) (st1 := [.ref P.1]) 1 rfl ?_
              refine me_call rfl rfl rfl rfl (h.mono (fun r7 μ7 h => ?_) (fun _ h => h))
              refine me_go (pc1 := 256) (lv1 := [(2, .int (μ1.2.1 9 ((μ1.1 32)).toNatClampNeg)), (1, .int r1), (0, .ref P.1)]) (st1 := [.int r1]) 1 rfl ?_
              exact me_ret rfl rfl rfl h
          · replace h := h.2 (cn_ne c)
            refine me_go (pc1 := 250) (lv1 := [(2, .int (μ1.2.1 9 ((μ1.1 32)).toNatClampNeg)), (1, .int r1), (0, .ref P.1)]) (st1 := [.int 23, .int r1, .ref (P.2.1 20)]) 2 rfl ?_
            have hi := h.1
            replace h := h.2
            refine me_iast rfl (g := 20) rfl rfl hi ?_
            refine me_go (pc1 := 252) (lv1 := [(2, .int (μ1.2.1 9 ((μ1.1 32)).toNatClampNeg)), (1, .int r1), (0, .ref P.1)]) (st1 := [.ref P.1]) 1 rfl ?_
            refine me_call rfl rfl rfl rfl (h.mono (fun r8 μ8 h => ?_) (fun _ h => h))
            refine me_go (pc1 := 256) (lv1 := [(2, .int (μ1.2.1 9 ((μ1.1 32)).toNatClampNeg)), (1, .int r1), (0, .ref P.1)]) (st1 := [.int r1]) 1 rfl ?_
            exact me_ret rfl rfl rfl h
        · replace h := h.2 (cn_ne c)
          refine me_go (pc1 := 250) (lv1 := [(2, .int (μ1.2.1 9 ((μ1.1 32)).toNatClampNeg)), (1, .int r1), (0, .ref P.1)]) (st1 := [.int 22, .int r1, .ref (P.2.1 20)]) 2 rfl ?_
          have hi := h.1
          replace h := h.2
          refine me_iast rfl (g := 20) rfl rfl hi ?_
          refine me_go (pc1 := 252) (lv1 := [(2, .int (μ1.2.1 9 ((μ1.1 32)).toNatClampNeg)), (1, .int r1), (0, .ref P.1)]) (st1 := [.ref P.1]) 1 rfl ?_
          refine me_call rfl rfl rfl rfl (h.mono (fun r9 μ9 h => ?_) (fun _ h => h))
          refine me_go (pc1 := 256) (lv1 := [(2, .int (μ1.2.1 9 ((μ1.1 32)).toNatClampNeg)), (1, .int r1), (0, .ref P.1)]) (st1 := [.int r1]) 1 rfl ?_
          exact me_ret rfl rfl rfl h
      · replace h := h.2 (cn_ne c)
        refine me_go (pc1 := 250) (lv1 := [(2, .int (μ1.2.1 9 ((μ1.1 32)).toNatClampNeg)), (1, .int r1), (0, .ref P.1)]) (st1 := [.int 21, .int r1, .ref (P.2.1 20)]) 2 rfl ?_
        have hi := h.1
        replace h := h.2
        refine me_iast rfl (g := 20) rfl rfl hi ?_
        refine me_go (pc1 := 252) (lv1 := [(2, .int (μ1.2.1 9 ((μ1.1 32)).toNatClampNeg)), (1, .int r1), (0, .ref P.1)]) (st1 := [.ref P.1]) 1 rfl ?_
        refine me_call rfl rfl rfl rfl (h.mono (fun r10 μ10 h => ?_) (fun _ h => h))
        refine me_go (pc1 := 256) (lv1 := [(2, .int (μ1.2.1 9 ((μ1.1 32)).toNatClampNeg)), (1, .int r1), (0, .ref P.1)]) (st1 := [.int r1]) 1 rfl ?_
        exact me_ret rfl rfl rfl h
  have q20_2 : ((μ1.2.1 9 ((μ1.1 32)).toNatClampNeg) = 34) → ME X W true d 316 195 [(2, .int (μ1.2.1 9 ((μ1.1 32)).toNatClampNeg)), (1, .int r1), (0, .ref P.1)] [] P μ1 R T := fun c => by
      replace h := hD.2.2.1 c
      refine me_go (pc1 := 197) (lv1 := [(2, .int (μ1.2.1 9 ((μ1.1 32)).toNatClampNeg)), (1, .int r1), (0, .ref P.1)]) (st1 := [.int (-1), .ref P.1]) 2 rfl ?_
      refine me_call rfl rfl rfl rfl (h.mono (fun r11 μ11 h => ?_) (fun _ h => h))
      exact me_ret rfl rfl rfl h
  have q20_3 : ((μ1.2.1 9 ((μ1.1 32)).toNatClampNeg) = 42) → ME X W true d 316 307 [(2, .int (μ1.2.1 9 ((μ1.1 32)).toNatClampNeg)), (1, .int r1), (0, .ref P.1)] [] P μ1 R T := fun c => by
      replace h := hD.2.2.2.1 c
      refine me_go (pc1 := 308) (lv1 := [(2, .int (μ1.2.1 9 ((μ1.1 32)).toNatClampNeg)), (1, .int r1), (0, .ref P.1)]) (st1 := [.ref P.1]) 1 rfl ?_
      refine me_getf (v := .ref (P.2.1 20)) rfl rfl rfl ?_
      refine me_go (pc1 := 314) (lv1 := [(2, .int (μ1.2.1 9 ((μ1.1 32)).toNatClampNeg)), (1, .int r1), (0, .ref P.1)]) (st1 := [.int 29, .int r1, .ref (P.2.1 20)]) 2 rfl ?_
      have hi := h.1
      replace h := h.2
      refine me_iast rfl (g := 20) rfl rfl hi ?_
      refine me_go (pc1 := 316) (lv1 := [(2, .int (μ1.2.1 9 ((μ1.1 32)).toNatClampNeg)), (1, .int r1), (0, .ref P.1)]) (st1 := [.ref P.1]) 1 rfl ?_
      refine me_call rfl rfl rfl rfl (h.mono (fun r12 μ12 h => ?_) (fun _ h => h))
      refine me_go (pc1 := 320) (lv1 := [(2, .int (μ1.2.1 9 ((μ1.1 32)).toNatClampNeg)), (1, .int r1), (0, .ref P.1)]) (st1 := [.ref P.1]) 1 rfl ?_
      refine me_getf (v := .ref (P.2.1 22)) rfl rfl rfl ?_
      refine me_go (pc1 := 325) (lv1 := [(2, .int (μ1.2.1 9 ((μ1.1 32)).toNatClampNeg)), (1, .int r1), (0, .ref P.1)]) (st1 := [.ref P.1, .int r1, .ref (P.2.1 22)]) 2 rfl ?_
      refine me_call rfl rfl rfl rfl (h.mono (fun r13 μ13 h => ?_) (fun _ h => h))
      have hi := h.1
      replace h := h.2
      refine me_iast rfl (g := 22) rfl rfl hi ?_
      refine me_go (pc1 := 332) (lv1 := [(2, .int (μ1.2.1 9 ((μ1.1 32)).toNatClampNeg)), (1, .int r1), (0, .ref P.1)]) (st1 := [.int 10, .ref P.1]) 2 rfl ?_
      refine me_call rfl rfl rfl rfl (h.mono (fun r14 μ14 h => ?_) (fun _ h => h))
      refine me_go (pc1 := 336) (lv1 := [(2, .int (μ1.2.1 9 ((μ1.1 32)).toNatClampNeg)), (1, .int r1), (0, .ref P.1)]) (st1 := [.int r1]) 1 rfl ?_
      exact me_ret rfl rfl rfl h
  have q20_4 : ((μ1.2.1 9 ((μ1.1 32)).toNatClampNeg) = 43) → ME X W true d 316 337 [(2, .int (μ1.2.1 9 ((μ1.1 32)).toNatClampNeg)), (1, .int r1), (0, .ref P.1)] [] P μ1 R T := fun c => by
      replace h := hD.2.2.2.2.1 c
      refine me_go (pc1 := 338) (lv1 := [(2, .int (μ1.2.1 9 ((μ1.1 32)).toNatClampNeg)), (1, .int r1), (0, .ref P.1)]) (st1 := [.ref P.1]) 1 rfl ?_
      refine me_getf (v := .ref (P.2.1 20)) rfl rfl rfl ?_
      refine me_go (pc1 := 344) (lv1 := [(2, .int (μ1.2.1 9 ((μ1.1 32)).toNatClampNeg)), (1, .int r1), (0, .ref P.1)]) (st1 := [.int 30, .int r1, .ref (P.2.1 20)]) 2 rfl ?_
      have hi := h.1
      replace h := h.2
      refine me_iast rfl (g := 20) rfl rfl hi ?_
      refine me_go (pc1 := 346) (lv1 := [(2, .int (μ1.2.1 9 ((μ1.1 32)).toNatClampNeg)), (1, .int r1), (0, .ref P.1)]) (st1 := [.ref P.1]) 1 rfl ?_
      refine me_call rfl rfl rfl rfl (h.mono (fun r15 μ15 h => ?_) (fun _ h => h))
      refine me_go (pc1 := 350) (lv1 := [(2, .int (μ1.2.1 9 ((μ1.1 32)).toNatClampNeg)), (1, .int r1), (0, .ref P.1)]) (st1 := [.ref P.1]) 1 rfl ?_
      refine me_getf (v := .ref (P.2.1 22)) rfl rfl rfl ?_
      refine me_go (pc1 := 355) (lv1 := [(2, .int (μ1.2.1 9 ((μ1.1 32)).toNatClampNeg)), (1, .int r1), (0, .ref P.1)]) (st1 := [.ref P.1, .int r1, .ref (P.2.1 22)]) 2 rfl ?_
      refine me_call rfl rfl rfl rfl (h.mono (fun r16 μ16 h => ?_) (fun _ h => h))
      have hi := h.1
      replace h := h.2
      refine me_iast rfl (g := 22) rfl rfl hi ?_
      refine me_go (pc1 := 360) (lv1 := [(2, .int (μ1.2.1 9 ((μ1.1 32)).toNatClampNeg)), (1, .int r1), (0, .ref P.1)]) (st1 := [.int r1]) 1 rfl ?_
      exact me_ret rfl rfl rfl h
  have q20_5 : ((μ1.2.1 9 ((μ1.1 32)).toNatClampNeg) = 46) → ME X W true d 316 164 [(2, .int (μ1.2.1 9 ((μ1.1 32)).toNatClampNeg)), (1, .int r1), (0, .ref P.1)] [] P μ1 R T := fun c => by
      replace h := hD.2.2.2.2.2.1 c
      refine me_go (pc1 := 165) (lv1 := [(2, .int (μ1.2.1 9 ((μ1.1 32)).toNatClampNeg)), (1, .int r1), (0, .ref P.1)]) (st1 := [.ref P.1]) 1 rfl ?_
      refine me_getf (v := .ref (P.2.1 20)) rfl rfl rfl ?_
      refine me_go (pc1 := 171) (lv1 := [(2, .int (μ1.2.1 9 ((μ1.1 32)).toNatClampNeg)), (1, .int r1), (0, .ref P.1)]) (st1 := [.int 26, .int r1, .ref (P.2.1 20)]) 2 rfl ?_
      have hi := h.1
      replace h := h.2
      refine me_iast rfl (g := 20) rfl rfl hi ?_
      refine me_go (pc1 := 173) (lv1 := [(2, .int (μ1.2.1 9 ((μ1.1 32)).toNatClampNeg)), (1, .int r1), (0, .ref P.1)]) (st1 := [.ref P.1]) 1 rfl ?_
      refine me_call rfl rfl rfl rfl (h.mono (fun r17 μ17 h => ?_) (fun _ h => h))
      refine me_go (pc1 := 179) (lv1 := [(2, .int (μ1.2.1 9 ((μ1.1 32)).toNatClampNeg)), (1, .int r1), (0, .ref P.1)]) (st1 := [.int 34, .ref P.1]) 2 rfl ?_
      refine me_callN rfl rfl rfl (h.mono (fun r18 μ18 h => ?_) (fun _ h => h))
      refine me_ifc rfl rfl (fun c => ?_) (fun c => ?_)
      · replace h := h.1 (ci_eq c)
        refine me_go (pc1 := 194) (lv1 := [(2, .int (μ1.2.1 9 ((μ1.1 32)).toNatClampNeg)), (1, .int r1), (0, .ref P.1)]) (st1 := [.int r1]) 1 rfl ?_
        exact me_ret rfl rfl rfl h
      · replace h := h.2 (cn_eq c)
        refine me_go (pc1 := 187) (lv1 := [(2, .int (μ1.2.1 9 ((μ1.1 32)).toNatClampNeg)), (1, .int r1), (0, .ref P.1)]) (st1 := [.int r1, .ref P.1]) 2 rfl ?_
        refine me_call rfl rfl rfl rfl (h.mono (fun r19 μ19 h => ?_) (fun _ h => h))
        refine me_go (pc1 := 194) (lv1 := [(2, .int (μ1.2.1 9 ((μ1.1 32)).toNatClampNeg)), (1, .int r1), (0, .ref P.1)]) (st1 := [.int r19]) 1 rfl ?_
        exact me_ret rfl rfl rfl h
  have q20_6 : ((μ1.2.1 9 ((μ1.1 32)).toNatClampNeg) = 104) → ME X W true d 316 257 [(2, .int (μ1.2.1 9 ((μ1.1 32)).toNatClampNeg)), (1, .int r1), (0, .ref P.1)] [] P μ1 R T := fun c => by
      replace h := hD.2.2.2.2.2.2.1 c
      refine me_go (pc1 := 258) (lv1 := [(2, .int (μ1.2.1 9 ((μ1.1 32)).toNatClampNeg)), (1, .int r1), (0, .ref P.1)]) (st1 := [.ref P.1]) 1 rfl ?_
      refine me_getf (v := .ref (P.2.1 20)) rfl rfl rfl ?_
      refine me_go (pc1 := 264) (lv1 := [(2, .int (μ1.2.1 9 ((μ1.1 32)).toNatClampNeg)), (1, .int r1), (0, .ref P.1)]) (st1 := [.int 27, .int r1, .ref (P.2.1 20)]) 2 rfl ?_
      have hi := h.1
      replace h := h.2
      refine me_iast rfl (g := 20) rfl rfl hi ?_
      refine me_go (pc1 := 267) (lv1 := [(2, .int (μ1.2.1 9 ((μ1.1 32)).toNatClampNeg)), (1, .int r1), (0, .ref P.1)]) (st1 := [.int r1, .ref P.1]) 2 rfl ?_
      refine me_call rfl rfl rfl rfl (h.mono (fun r20 μ20 h => ?_) (fun _ h => h))
      refine me_go (pc1 := 271) (lv1 := [(2, .int (μ1.2.1 9 ((μ1.1 32)).toNatClampNeg)), (1, .int r1), (0, .ref P.1)]) (st1 := [.int r1]) 1 rfl ?_
      exact me_ret rfl rfl rfl h
  have q20_7 : ((μ1.2.1 9 ((μ1.1 32)).toNatClampNeg) = 200) → ME X W true d 316 128 [(2, .int (μ1.2.1 9 ((μ1.1 32)).toNatClampNeg)), (1, .int r1), (0, .ref P.1)] [] P μ1 R T := fun c => by
      replace h := hD.2.2.2.2.2.2.2.1 c
      refine me_go (pc1 := 129) (lv1 := [(2, .int (μ1.2.1 9 ((μ1.1 32)).toNatClampNeg)), (1, .int r1), (0, .ref P.1)]) (st1 := [.ref P.1]) 1 rfl ?_
      refine me_getf (v := .ref (P.2.1 28)) rfl rfl rfl ?_
      refine me_go (pc1 := 134) (lv1 := [(2, .int (μ1.2.1 9 ((μ1.1 32)).toNatClampNeg)), (1, .int r1), (0, .ref P.1)]) (st1 := [.int (-1), .int r1, .ref (P.2.1 28)]) 2 rfl ?_
      have hi := h.1
      replace h := h.2
      refine me_iast rfl (g := 28) rfl rfl hi ?_
      refine me_go (pc1 := 136) (lv1 := [(2, .int (μ1.2.1 9 ((μ1.1 32)).toNatClampNeg)), (1, .int r1), (0, .ref P.1)]) (st1 := [.ref P.1]) 1 rfl ?_
      refine me_getf (v := .ref (P.2.1 22)) rfl rfl rfl ?_
      refine me_go (pc1 := 141) (lv1 := [(2, .int (μ1.2.1 9 ((μ1.1 32)).toNatClampNeg)), (1, .int r1), (0, .ref P.1)]) (st1 := [.ref P.1, .int r1, .ref (P.2.1 22)]) 2 rfl ?_
      refine me_call rfl rfl rfl rfl (h.mono (fun r21 μ21 h => ?_) (fun _ h => h))
      have hi := h.1
      replace h := h.2
      refine me_iast rfl (g := 22) rfl rfl hi ?_
      refine me_go (pc1 := 148) (lv1 := [(2, .int (μ1.2.1 9 ((μ1.1 32)).toNatClampNeg)), (1, .int r1), (0, .ref P.1)]) (st1 := [.int 34, .ref P.1]) 2 rfl ?_
      refine me_callN rfl rfl rfl (h.mono (fun r22 μ22 h => ?_) (fun _ h => h))
      refine me_ifc rfl rfl (fun c => ?_) (fun c => ?_)
      · replace h := h.1 (ci_eq c)
        refine me_go (pc1 := 163) (lv1 := [(2, .int (μ1.2.1 9 ((μ1.1 32)).toNatClampNeg)), (1, .int r1), (0, .ref P.1)]) (st1 := [.int r1]) 1 rfl ?_
        exact me_ret rfl rfl rfl h
      · replace h := h.2 (cn_eq c)
        refine me_go (pc1 := 156) (lv1 := [(2, .int (μ1.2.1 9 ((μ1.1 32)).toNatClampNeg)), (1, .int r1), (0, .ref P.1)]) (st1 := [.int r1, .ref P.1]) 2 rfl ?_
        refine me_call rfl rfl rfl rfl (h.mono (fun r23 μ23 h => ?_) (fun _ h => h))
        refine me_go (pc1 := 163) (lv1 := [(2, .int (μ1.2.1 9 ((μ1.1 32)).toNatClampNeg)), (1, .int r1), (0, .ref P.1)]) (st1 := [.int r23]) 1 rfl ?_
        exact me_ret rfl rfl rfl h
  by_cases c : (μ1.2.1 9 ((μ1.1 32)).toNatClampNeg) = 1
  · exact me_sw rfl c (t := 272) rfl (q20_0 (c))
  rename ¬ (μ1.2.1 9 ((μ1.1 32)).toNatClampNeg) = 1 => n0
  by_cases c : (μ1.2.1 9 ((μ1.1 32)).toNatClampNeg) = 3
  · exact me_sw rfl c (t := 201) rfl (q20_1 (Or.inl c))
  rename ¬ (μ1.2.1 9 ((μ1.1 32)).toNatClampNeg) = 3 => n1
  by_cases c : (μ1.2.1 9 ((μ1.1 32)).toNatClampNeg) = 5
  · exact me_sw rfl c (t := 201) rfl (q20_1 (Or.inr (Or.inl c)))
  rename ¬ (μ1.2.1 9 ((μ1.1 32)).toNatClampNeg) = 5 => n2
  by_cases c : (μ1.2.1 9 ((μ1.1 32)).toNatClampNeg) = 20
  · exact me_sw rfl c (t := 201) rfl (q20_1 (Or.inr (Or.inr (Or.inl c))))
  rename ¬ (μ1.2.1 9 ((μ1.1 32)).toNatClampNeg) = 20 => n3
  by_cases c : (μ1.2.1 9 ((μ1.1 32)).toNatClampNeg) = 29
  · exact me_sw rfl c (t := 201) rfl (q20_1 (Or.inr (Or.inr (Or.inr (Or.inl c)))))
  rename ¬ (μ1.2.1 9 ((μ1.1 32)).toNatClampNeg) = 29 => n4
  by_cases c : (μ1.2.1 9 ((μ1.1 32)).toNatClampNeg) = 49
  · exact me_sw rfl c (t := 201) rfl (q20_1 (Or.inr (Or.inr (Or.inr (Or.inr (c))))))
  rename ¬ (μ1.2.1 9 ((μ1.1 32)).toNatClampNeg) = 49 => n9
  by_cases c : (μ1.2.1 9 ((μ1.1 32)).toNatClampNeg) = 34
  · exact me_sw rfl c (t := 195) rfl (q20_2 (c))
  rename ¬ (μ1.2.1 9 ((μ1.1 32)).toNatClampNeg) = 34 => n5
  by_cases c : (μ1.2.1 9 ((μ1.1 32)).toNatClampNeg) = 42
  · exact me_sw rfl c (t := 307) rfl (q20_3 (c))
  rename ¬ (μ1.2.1 9 ((μ1.1 32)).toNatClampNeg) = 42 => n6
  by_cases c : (μ1.2.1 9 ((μ1.1 32)).toNatClampNeg) = 43
  · exact me_sw rfl c (t := 337) rfl (q20_4 (c))
  rename ¬ (μ1.2.1 9 ((μ1.1 32)).toNatClampNeg) = 43 => n7
  by_cases c : (μ1.2.1 9 ((μ1.1 32)).toNatClampNeg) = 46
  · exact me_sw rfl c (t := 164) rfl (q20_5 (c))
  rename ¬ (μ1.2.1 9 ((μ1.1 32)).toNatClampNeg) = 46 => n8
  by_cases c : (μ1.2.1 9 ((μ1.1 32)).toNatClampNeg) = 104
  · exact me_sw rfl c (t := 257) rfl (q20_6 (c))
  rename ¬ (μ1.2.1 9 ((μ1.1 32)).toNatClampNeg) = 104 => n10
  by_cases c : (μ1.2.1 9 ((μ1.1 32)).toNatClampNeg) = 200
  · exact me_sw rfl c (t := 128) rfl (q20_7 (c))
  rename ¬ (μ1.2.1 9 ((μ1.1 32)).toNatClampNeg) = 200 => n11
  have hk : ∀ v ∈ [(1 : Int32), (3 : Int32), (5 : Int32), (20 : Int32), (29 : Int32), (34 : Int32), (42 : Int32), (43 : Int32), (46 : Int32), (49 : Int32), (104 : Int32), (200 : Int32)], ¬ (μ1.2.1 9 ((μ1.1 32)).toNatClampNeg) = v := fun v hv => by
    simp only [List.mem_cons, List.not_mem_nil, or_false] at hv
    rcases hv with rfl | rfl | rfl | rfl | rfl | rfl | rfl | rfl | rfl | rfl | rfl | rfl <;> assumption
  refine me_lsD (t := 361) rfl _ rfl rfl hk ?_
  replace h := hD.2.2.2.2.2.2.2.2 hk
  refine me_go (pc1 := 362) (lv1 := [(2, .int (μ1.2.1 9 ((μ1.1 32)).toNatClampNeg)), (1, .int r1), (0, .ref P.1)]) (st1 := [.ref P.1]) 1 rfl ?_
  refine me_getf (v := .ref (P.2.1 20)) rfl rfl rfl ?_
  refine me_go (pc1 := 368) (lv1 := [(2, .int (μ1.2.1 9 ((μ1.1 32)).toNatClampNeg)), (1, .int r1), (0, .ref P.1)]) (st1 := [.int 31, .int r1, .ref (P.2.1 20)]) 2 rfl ?_
  have hi := h.1
  replace h := h.2
  refine me_iast rfl (g := 20) rfl rfl hi ?_
  refine me_go (pc1 := 370) (lv1 := [(2, .int (μ1.2.1 9 ((μ1.1 32)).toNatClampNeg)), (1, .int r1), (0, .ref P.1)]) (st1 := [.ref P.1]) 1 rfl ?_
  refine me_call rfl rfl rfl rfl (h.mono (fun r24 μ24 h => ?_) (fun _ h => h))
  refine me_go (pc1 := 374) (lv1 := [(2, .int (μ1.2.1 9 ((μ1.1 32)).toNatClampNeg)), (1, .int r1), (0, .ref P.1)]) (st1 := [.ref P.1]) 1 rfl ?_
  refine me_getf (v := .ref (P.2.1 22)) rfl rfl rfl ?_
  refine me_go (pc1 := 379) (lv1 := [(2, .int (μ1.2.1 9 ((μ1.1 32)).toNatClampNeg)), (1, .int r1), (0, .ref P.1)]) (st1 := [.ref P.1, .int r1, .ref (P.2.1 22)]) 2 rfl ?_
  refine me_call rfl rfl rfl rfl (h.mono (fun r25 μ25 h => ?_) (fun _ h => h))
  have hi := h.1
  replace h := h.2
  refine me_iast rfl (g := 22) rfl rfl hi ?_
  refine me_go (pc1 := 384) (lv1 := [(2, .int (μ1.2.1 9 ((μ1.1 32)).toNatClampNeg)), (1, .int r1), (0, .ref P.1)]) (st1 := [.int r1]) 1 rfl ?_
  exact me_ret rfl rfl rfl h
theorem v_fields_0 {X : ev_X} {W : Nat → Prop} {d : Nat} {P : MP} {μ : MS} {R : Int32 → MS → Prop} {T : MS → Prop}  (h : ME X W true d 317 9 [(0, .ref P.1), (1, .int (-1)), (2, .int (-1)), (3, .int (μ.1 34))] [] P μ R T) : ME X W true d 317 0 [(0, .ref P.1)] [] P μ R T := by
  refine me_go (pc1 := 5) (lv1 := [(2, .int (-1)), (1, .int (-1)), (0, .ref P.1)]) (st1 := [.ref P.1]) 5 rfl ?_
  refine me_getf (v := .int (μ.1 34)) rfl rfl rfl ?_
  refine me_go (pc1 := 9) (lv1 := [(3, .int (μ.1 34)), (2, .int (-1)), (1, .int (-1)), (0, .ref P.1)]) (st1 := []) 1 rfl ?_
  refine me_lv [(0, .ref P.1), (1, .int (-1)), (2, .int (-1)), (3, .int (μ.1 34))] (fl_c rfl (fl_c rfl (fl_c rfl (fl_c rfl fl_0)))) ?_
  exact h
theorem v_fields_9 {X : ev_X} {W : Nat → Prop} {d : Nat} {P : MP} {μ : MS} {R : Int32 → MS → Prop} {T : MS → Prop} (x1 : Int32) (x2 : Int32) (x3 : Int32) (h : MC X W true d 296 [.ref P.1, .int 200] P μ (fun r1 μ1 => ((r1 = 0 → R x1 μ1) ∧ (¬ r1 = 0 → MC X W true d 291 [.ref P.1] P μ1 (fun r2 μ2 => MC X W true d 304 [.ref P.1, .int 33] P (mS1 μ2 34 r2) (fun r3 μ3 => MC X W true d 297 [.ref P.1, .int 108] P μ3 (fun r4 μ4 => MC X W true d 312 [.ref P.1] P μ4 (fun r5 μ5 => MC X W true d 297 [.ref P.1, .int 107] P μ5 (fun r6 μ6 => (((0 : Int) ≤ x1.toInt → (MI x2 (μ6.2.2 27) ∧ ME X W true d 317 75 [(0, .ref P.1), (1, .int x1), (2, .int x2), (3, .int x3), (4, .int r3), (5, .int r5), (6, .int r3)] [] P (mA1 μ6 27 x2.toNatClampNeg r3) R T)) ∧ (x1.toInt < (0 : Int) → ME X W true d 317 75 [(0, .ref P.1), (1, .int r3), (2, .int x2), (3, .int x3), (4, .int r3), (5, .int r5), (6, .int r3)] [] P μ6 R T))) T) T) T) T) (fun _ => False)))) (fun _ => False)) : ME X W true d 317 9 [(0, .ref P.1), (1, .int x1), (2, .int x2), (3, .int x3)] [] P μ R T := by
  refine me_go (pc1 := 13) (lv1 := [(0, .ref P.1), (1, .int x1), (2, .int x2), (3, .int x3)]) (st1 := [.int 200, .ref P.1]) 2 rfl ?_
  refine me_callN rfl rfl rfl (h.mono (fun r1 μ1 h => ?_) (fun _ h => h))
  refine me_ifc rfl rfl (fun c => ?_) (fun c => ?_)
  · replace h := h.1 (ci_eq c)
    refine me_go (pc1 := 113) (lv1 := [(0, .ref P.1), (1, .int x1), (2, .int x2), (3, .int x3)]) (st1 := [.int x1]) 1 rfl ?_
    exact me_ret rfl rfl rfl h
  · replace h := h.2 (cn_eq c)
    refine me_go (pc1 := 21) (lv1 := [(0, .ref P.1), (1, .int x1), (2, .int x2), (3, .int x3)]) (st1 := [.ref P.1, .ref P.1]) 2 rfl ?_
    refine me_callN rfl rfl rfl (h.mono (fun r2 μ2 h => ?_) (fun _ h => h))
    refine me_put rfl rfl rfl ?_
    refine me_go (pc1 := 30) (lv1 := [(0, .ref P.1), (1, .int x1), (2, .int x2), (3, .int x3)]) (st1 := [.int 33, .ref P.1]) 2 rfl ?_
    refine me_call rfl rfl rfl rfl (h.mono (fun r3 μ3 h => ?_) (fun _ h => h))
    refine me_go (pc1 := 38) (lv1 := [(4, .int r3), (0, .ref P.1), (1, .int x1), (2, .int x2), (3, .int x3)]) (st1 := [.int 108, .ref P.1]) 3 rfl ?_
    refine me_call rfl rfl rfl rfl (h.mono (fun r4 μ4 h => ?_) (fun _ h => h))
    refine me_go (pc1 := 42) (lv1 := [(4, .int r3), (0, .ref P.1), (1, .int x1), (2, .int x2), (3, .int x3)]) (st1 := [.ref P.1]) 1 rfl ?_
    refine me_call rfl rfl rfl rfl (h.mono (fun r5 μ5 h => ?_) (fun _ h => h))
    refine me_go (pc1 := 50) (lv1 := [(5, .int r5), (4, .int r3), (0, .ref P.1), (1, .int x1), (2, .int x2), (3, .int x3)]) (st1 := [.int 107, .ref P.1]) 3 rfl ?_
    refine me_call rfl rfl rfl rfl (h.mono (fun r6 μ6 h => ?_) (fun _ h => h))
    refine me_go (pc1 := 54) (lv1 := [(5, .int r5), (4, .int r3), (0, .ref P.1), (1, .int x1), (2, .int x2), (3, .int x3)]) (st1 := [.int x1]) 1 rfl ?_
    refine me_ifc rfl rfl (fun c => ?_) (fun c => ?_)
    · replace h := h.1 (ci_ge c)
      refine me_go (pc1 := 64) (lv1 := [(5, .int r5), (4, .int r3), (0, .ref P.1), (1, .int x1), (2, .int x2), (3, .int x3)]) (st1 := [.ref P.1]) 1 rfl ?_
      refine me_getf (v := .ref (P.2.1 27)) rfl rfl rfl ?_
      refine me_go (pc1 := 70) (lv1 := [(5, .int r5), (4, .int r3), (0, .ref P.1), (1, .int x1), (2, .int x2), (3, .int x3)]) (st1 := [.int r3, .int x2, .ref (P.2.1 27)]) 2 rfl ?_
      have hi := h.1
      replace h := h.2
      refine me_iast rfl (g := 27) rfl rfl hi ?_
      refine me_go (pc1 := 75) (lv1 := [(6, .int r3), (5, .int r5), (4, .int r3), (0, .ref P.1), (1, .int x1), (2, .int x2), (3, .int x3)]) (st1 := []) 2 rfl ?_
      refine me_lv [(0, .ref P.1), (1, .int x1), (2, .int x2), (3, .int x3), (4, .int r3), (5, .int r5), (6, .int r3)] (fl_c rfl (fl_c rfl (fl_c rfl (fl_c rfl (fl_c rfl (fl_c rfl (fl_c rfl fl_0))))))) ?_
      exact h
    · replace h := h.2 (cn_ge c)
      refine me_go (pc1 := 75) (lv1 := [(6, .int r3), (1, .int r3), (5, .int r5), (4, .int r3), (0, .ref P.1), (2, .int x2), (3, .int x3)]) (st1 := []) 5 rfl ?_
      refine me_lv [(0, .ref P.1), (1, .int r3), (2, .int x2), (3, .int x3), (4, .int r3), (5, .int r5), (6, .int r3)] (fl_c rfl (fl_c rfl (fl_c rfl (fl_c rfl (fl_c rfl (fl_c rfl (fl_c rfl fl_0))))))) ?_
      exact h
theorem v_fields_75 {X : ev_X} {W : Nat → Prop} {d : Nat} {P : MP} {μ : MS} {R : Int32 → MS → Prop} {T : MS → Prop} (x1 : Int32) (x2 : Int32) (x3 : Int32) (x4 : Int32) (x5 : Int32) (x6 : Int32) (h : ((x6.toInt < (0 : Int) → ME X W true d 317 9 [(0, .ref P.1), (1, .int x1), (2, .int x2), (3, .int x3)] [] P (mS1 μ 34 x3) R T) ∧ ((0 : Int) ≤ x6.toInt → (MI x6 (μ.2.2 23) ∧ (MI x6 (μ.2.2 27) ∧ ME X W true d 317 75 [(0, .ref P.1), (1, .int x1), (2, .int x6), (3, .int x3), (4, .int x4), (5, .int x5), (6, .int (μ.2.1 27 x6.toNatClampNeg))] [] P (mA1 μ 23 x6.toNatClampNeg x5) R T))))) : ME X W true d 317 75 [(0, .ref P.1), (1, .int x1), (2, .int x2), (3, .int x3), (4, .int x4), (5, .int x5), (6, .int x6)] [] P μ R T := by
  refine me_go (pc1 := 77) (lv1 := [(0, .ref P.1), (1, .int x1), (2, .int x2), (3, .int x3), (4, .int x4), (5, .int x5), (6, .int x6)]) (st1 := [.int x6]) 1 rfl ?_
  refine me_ifc rfl rfl (fun c => ?_) (fun c => ?_)
  · replace h := h.1 (ci_lt c)
    refine me_go (pc1 := 106) (lv1 := [(0, .ref P.1), (1, .int x1), (2, .int x2), (3, .int x3), (4, .int x4), (5, .int x5), (6, .int x6)]) (st1 := [.int x3, .ref P.1]) 2 rfl ?_
    refine me_put rfl rfl rfl ?_
    refine me_go (pc1 := 9) (lv1 := [(0, .ref P.1), (1, .int x1), (2, .int x2), (3, .int x3), (4, .int x4), (5, .int x5), (6, .int x6)]) (st1 := []) 1 rfl ?_
    refine me_lv [(0, .ref P.1), (1, .int x1), (2, .int x2), (3, .int x3)] (fl_c rfl (fl_c rfl (fl_c rfl (fl_c rfl fl_0)))) ?_
    exact h
  · replace h := h.2 (cn_lt c)
    refine me_go (pc1 := 81) (lv1 := [(0, .ref P.1), (1, .int x1), (2, .int x2), (3, .int x3), (4, .int x4), (5, .int x5), (6, .int x6)]) (st1 := [.ref P.1]) 1 rfl ?_
    refine me_getf (v := .ref (P.2.1 23)) rfl rfl rfl ?_
    refine me_go (pc1 := 88) (lv1 := [(0, .ref P.1), (1, .int x1), (2, .int x2), (3, .int x3), (4, .int x4), (5, .int x5), (6, .int x6)]) (st1 := [.int x5, .int x6, .ref (P.2.1 23)]) 2 rfl ?_
    have hi := h.1
    replace h := h.2
    refine me_iast rfl (g := 23) rfl rfl hi ?_
    refine me_go (pc1 := 93) (lv1 := [(2, .int x6), (0, .ref P.1), (1, .int x1), (3, .int x3), (4, .int x4), (5, .int x5), (6, .int x6)]) (st1 := [.ref P.1]) 3 rfl ?_
    refine me_getf (v := .ref (P.2.1 27)) rfl rfl rfl ?_
    refine me_go (pc1 := 98) (lv1 := [(2, .int x6), (0, .ref P.1), (1, .int x1), (3, .int x3), (4, .int x4), (5, .int x5), (6, .int x6)]) (st1 := [.int x6, .ref (P.2.1 27)]) 1 rfl ?_
    refine me_iald rfl (g := 27) rfl rfl h.1 ?_
    replace h := h.2
    refine me_go (pc1 := 75) (lv1 := [(6, .int (μ.2.1 27 x6.toNatClampNeg)), (2, .int x6), (0, .ref P.1), (1, .int x1), (3, .int x3), (4, .int x4), (5, .int x5)]) (st1 := []) 2 rfl ?_
    refine me_lv [(0, .ref P.1), (1, .int x1), (2, .int x6), (3, .int x3), (4, .int x4), (5, .int x5), (6, .int (μ.2.1 27 x6.toNatClampNeg))] (fl_c rfl (fl_c rfl (fl_c rfl (fl_c rfl (fl_c rfl (fl_c rfl (fl_c rfl fl_0))))))) ?_
    exact h
theorem v_level_0 {X : ev_X} {W : Nat → Prop} {d : Nat} {P : MP} {μ : MS} {R : Int32 → MS → Prop} {T : MS → Prop} (x1 : Int32) (h : MC X W true d 292 [.ref P.1, .int 32, .int x1, .int (-1)] P μ (fun r1 μ1 => MC X W true d 294 [.ref P.1] P μ1 (fun r2 μ2 => MC X W true d 317 [.ref P.1] P μ2 (fun r3 μ3 => (MI r1 (μ3.2.2 23) ∧ MC X W true d 296 [.ref P.1, .int 26] P (mA1 μ3 23 r1.toNatClampNeg r3) (fun r4 μ4 => ((r4 = 0 → MC X W true d 296 [.ref P.1, .int 37] P μ4 (fun r5 μ5 => ((r5 = 0 → MC X W true d 297 [.ref P.1, .int 10] P (mS1 μ5 34 (μ3.1 34)) (fun r6 μ6 => R r1 μ6) T) ∧ (¬ r5 = 0 → MC X W true d 294 [.ref P.1] P μ5 (fun r7 μ7 => MC X W true d 319 [.ref P.1, .int 35] P μ7 (fun r8 μ8 => (MI r1 (μ8.2.2 25) ∧ MC X W true d 297 [.ref P.1, .int 10] P (mS1 (mA1 μ8 25 r1.toNatClampNeg r8) 34 (μ3.1 34)) (fun r9 μ9 => R r1 μ9) T)) T) T))) (fun _ => False)) ∧ (¬ r4 = 0 → MC X W true d 294 [.ref P.1] P μ4 (fun r10 μ10 => MC X W true d 319 [.ref P.1, .int 34] P μ10 (fun r11 μ11 => (MI r1 (μ11.2.2 24) ∧ MC X W true d 296 [.ref P.1, .int 37] P (mA1 μ11 24 r1.toNatClampNeg r11) (fun r12 μ12 => ((r12 = 0 → MC X W true d 297 [.ref P.1, .int 10] P (mS1 μ12 34 (μ3.1 34)) (fun r13 μ13 => R r1 μ13) T) ∧ (¬ r12 = 0 → MC X W true d 294 [.ref P.1] P μ12 (fun r14 μ14 => MC X W true d 319 [.ref P.1, .int 35] P μ14 (fun r15 μ15 => (MI r1 (μ15.2.2 25) ∧ MC X W true d 297 [.ref P.1, .int 10] P (mS1 (mA1 μ15 25 r1.toNatClampNeg r15) 34 (μ3.1 34)) (fun r16 μ16 => R r1 μ16) T)) T) T))) (fun _ => False))) T) T))) (fun _ => False))) T) T) (fun _ => False)) : ME X W true d 318 0 [(0, .ref P.1), (1, .int x1)] [] P μ R T := by
  refine me_go (pc1 := 5) (lv1 := [(0, .ref P.1), (1, .int x1)]) (st1 := [.int (-1), .int x1, .int 32, .ref P.1]) 4 rfl ?_
  refine me_callN rfl rfl rfl (h.mono (fun r1 μ1 h => ?_) (fun _ h => h))
  refine me_go (pc1 := 10) (lv1 := [(2, .int r1), (0, .ref P.1), (1, .int x1)]) (st1 := [.ref P.1]) 2 rfl ?_
  refine me_call rfl rfl rfl rfl (h.mono (fun r2 μ2 h => ?_) (fun _ h => h))
  refine me_go (pc1 := 14) (lv1 := [(2, .int r1), (0, .ref P.1), (1, .int x1)]) (st1 := [.ref P.1]) 1 rfl ?_
  refine me_getf (v := .ref (P.2.1 23)) rfl rfl rfl ?_
  refine me_go (pc1 := 19) (lv1 := [(2, .int r1), (0, .ref P.1), (1, .int x1)]) (st1 := [.ref P.1, .int r1, .ref (P.2.1 23)]) 2 rfl ?_
  refine me_call rfl rfl rfl rfl (h.mono (fun r3 μ3 h => ?_) (fun _ h => h))
  have hi := h.1
  replace h := h.2
  refine me_iast rfl (g := 23) rfl rfl hi ?_
  refine me_go (pc1 := 24) (lv1 := [(2, .int r1), (0, .ref P.1), (1, .int x1)]) (st1 := [.ref P.1]) 1 rfl ?_
  refine me_getf (v := .int (μ3.1 34)) rfl rfl rfl ?_
  refine me_go (pc1 := 31) (lv1 := [(3, .int (μ3.1 34)), (2, .int r1), (0, .ref P.1), (1, .int x1)]) (st1 := [.int 26, .ref P.1]) 3 rfl ?_
  refine me_callN rfl rfl rfl (h.mono (fun r4 μ4 h => ?_) (fun _ h => h))
  refine me_ifc rfl rfl (fun c => ?_) (fun c => ?_)
  · replace h := h.1 (ci_eq c)
    refine me_go (pc1 := 56) (lv1 := [(3, .int (μ3.1 34)), (2, .int r1), (0, .ref P.1), (1, .int x1)]) (st1 := [.int 37, .ref P.1]) 2 rfl ?_
    refine me_callN rfl rfl rfl (h.mono (fun r5 μ5 h => ?_) (fun _ h => h))
    refine me_ifc rfl rfl (fun c => ?_) (fun c => ?_)
    · replace h := h.1 (ci_eq c)
      refine me_go (pc1 := 80) (lv1 := [(3, .int (μ3.1 34)), (2, .int r1), (0, .ref P.1), (1, .int x1)]) (st1 := [.int (μ3.1 34), .ref P.1]) 2 rfl ?_
      refine me_put rfl rfl rfl ?_
      refine me_go (pc1 := 86) (lv1 := [(3, .int (μ3.1 34)), (2, .int r1), (0, .ref P.1), (1, .int x1)]) (st1 := [.int 10, .ref P.1]) 2 rfl ?_
      refine me_call rfl rfl rfl rfl (h.mono (fun r6 μ6 h => ?_) (fun _ h => h))
      refine me_go (pc1 := 90) (lv1 := [(3, .int (μ3.1 34)), (2, .int r1), (0, .ref P.1), (1, .int x1)]) (st1 := [.int r1]) 1 rfl ?_
      exact me_ret rfl rfl rfl h
    · replace h := h.2 (cn_eq c)
      refine me_go (pc1 := 63) (lv1 := [(3, .int (μ3.1 34)), (2, .int r1), (0, .ref P.1), (1, .int x1)]) (st1 := [.ref P.1]) 1 rfl ?_
      refine me_call rfl rfl rfl rfl (h.mono (fun r7 μ7 h => ?_) (fun _ h => h))
      refine me_go (pc1 := 67) (lv1 := [(3, .int (μ3.1 34)), (2, .int r1), (0, .ref P.1), (1, .int x1)]) (st1 := [.ref P.1]) 1 rfl ?_
      refine me_getf (v := .ref (P.2.1 25)) rfl rfl rfl ?_
      refine me_go (pc1 := 74) (lv1 := [(3, .int (μ3.1 34)), (2, .int r1), (0, .ref P.1), (1, .int x1)]) (st1 := [.int 35, .ref P.1, .int r1, .ref (P.2.1 25)]) 3 rfl ?_
      refine me_call rfl rfl rfl rfl (h.mono (fun r8 μ8 h => ?_) (fun _ h => h))
      have hi := h.1
      replace h := h.2
      refine me_iast rfl (g := 25) rfl rfl hi ?_
      refine me_go (pc1 := 80) (lv1 := [(3, .int (μ3.1 34)), (2, .int r1), (0, .ref P.1), (1, .int x1)]) (st1 := [.int (μ3.1 34), .ref P.1]) 2 rfl ?_
      refine me_put rfl rfl rfl ?_
      refine me_go (pc1 := 86) (lv1 := [(3, .int (μ3.1 34)), (2, .int r1), (0, .ref P.1), (1, .int x1)]) (st1 := [.int 10, .ref P.1]) 2 rfl ?_
      refine me_call rfl rfl rfl rfl (h.mono (fun r9 μ9 h => ?_) (fun _ h => h))
      refine me_go (pc1 := 90) (lv1 := [(3, .int (μ3.1 34)), (2, .int r1), (0, .ref P.1), (1, .int x1)]) (st1 := [.int r1]) 1 rfl ?_
      exact me_ret rfl rfl rfl h
  · replace h := h.2 (cn_eq c)
    refine me_go (pc1 := 38) (lv1 := [(3, .int (μ3.1 34)), (2, .int r1), (0, .ref P.1), (1, .int x1)]) (st1 := [.ref P.1]) 1 rfl ?_
    refine me_call rfl rfl rfl rfl (h.mono (fun r10 μ10 h => ?_) (fun _ h => h))
    refine me_go (pc1 := 42) (lv1 := [(3, .int (μ3.1 34)), (2, .int r1), (0, .ref P.1), (1, .int x1)]) (st1 := [.ref P.1]) 1 rfl ?_
    refine me_getf (v := .ref (P.2.1 24)) rfl rfl rfl ?_
    refine me_go (pc1 := 49) (lv1 := [(3, .int (μ3.1 34)), (2, .int r1), (0, .ref P.1), (1, .int x1)]) (st1 := [.int 34, .ref P.1, .int r1, .ref (P.2.1 24)]) 3 rfl ?_
    refine me_call rfl rfl rfl rfl (h.mono (fun r11 μ11 h => ?_) (fun _ h => h))
    have hi := h.1
    replace h := h.2
    refine me_iast rfl (g := 24) rfl rfl hi ?_
    refine me_go (pc1 := 56) (lv1 := [(3, .int (μ3.1 34)), (2, .int r1), (0, .ref P.1), (1, .int x1)]) (st1 := [.int 37, .ref P.1]) 2 rfl ?_
    refine me_callN rfl rfl rfl (h.mono (fun r12 μ12 h => ?_) (fun _ h => h))
    refine me_ifc rfl rfl (fun c => ?_) (fun c => ?_)
    · replace h := h.1 (ci_eq c)
      refine me_go (pc1 := 80) (lv1 := [(3, .int (μ3.1 34)), (2, .int r1), (0, .ref P.1), (1, .int x1)]) (st1 := [.int (μ3.1 34), .ref P.1]) 2 rfl ?_
      refine me_put rfl rfl rfl ?_
      refine me_go (pc1 := 86) (lv1 := [(3, .int (μ3.1 34)), (2, .int r1), (0, .ref P.1), (1, .int x1)]) (st1 := [.int 10, .ref P.1]) 2 rfl ?_
      refine me_call rfl rfl rfl rfl (h.mono (fun r13 μ13 h => ?_) (fun _ h => h))
      refine me_go (pc1 := 90) (lv1 := [(3, .int (μ3.1 34)), (2, .int r1), (0, .ref P.1), (1, .int x1)]) (st1 := [.int r1]) 1 rfl ?_
      exact me_ret rfl rfl rfl h
    · replace h := h.2 (cn_eq c)
      refine me_go (pc1 := 63) (lv1 := [(3, .int (μ3.1 34)), (2, .int r1), (0, .ref P.1), (1, .int x1)]) (st1 := [.ref P.1]) 1 rfl ?_
      refine me_call rfl rfl rfl rfl (h.mono (fun r14 μ14 h => ?_) (fun _ h => h))
      refine me_go (pc1 := 67) (lv1 := [(3, .int (μ3.1 34)), (2, .int r1), (0, .ref P.1), (1, .int x1)]) (st1 := [.ref P.1]) 1 rfl ?_
      refine me_getf (v := .ref (P.2.1 25)) rfl rfl rfl ?_
      refine me_go (pc1 := 74) (lv1 := [(3, .int (μ3.1 34)), (2, .int r1), (0, .ref P.1), (1, .int x1)]) (st1 := [.int 35, .ref P.1, .int r1, .ref (P.2.1 25)]) 3 rfl ?_
      refine me_call rfl rfl rfl rfl (h.mono (fun r15 μ15 h => ?_) (fun _ h => h))
      have hi := h.1
      replace h := h.2
      refine me_iast rfl (g := 25) rfl rfl hi ?_
      refine me_go (pc1 := 80) (lv1 := [(3, .int (μ3.1 34)), (2, .int r1), (0, .ref P.1), (1, .int x1)]) (st1 := [.int (μ3.1 34), .ref P.1]) 2 rfl ?_
      refine me_put rfl rfl rfl ?_
      refine me_go (pc1 := 86) (lv1 := [(3, .int (μ3.1 34)), (2, .int r1), (0, .ref P.1), (1, .int x1)]) (st1 := [.int 10, .ref P.1]) 2 rfl ?_
      refine me_call rfl rfl rfl rfl (h.mono (fun r16 μ16 h => ?_) (fun _ h => h))
      refine me_go (pc1 := 90) (lv1 := [(3, .int (μ3.1 34)), (2, .int r1), (0, .ref P.1), (1, .int x1)]) (st1 := [.int r1]) 1 rfl ?_
      exact me_ret rfl rfl rfl h
theorem v_members_0 {X : ev_X} {W : Nat → Prop} {d : Nat} {P : MP} {μ : MS} {R : Int32 → MS → Prop} {T : MS → Prop} (x1 : Int32) (h : ME X W true d 319 4 [(0, .ref P.1), (1, .int x1), (2, .int (-1)), (3, .int (-1))] [] P μ R T) : ME X W true d 319 0 [(0, .ref P.1), (1, .int x1)] [] P μ R T := by
  refine me_go (pc1 := 4) (lv1 := [(3, .int (-1)), (2, .int (-1)), (0, .ref P.1), (1, .int x1)]) (st1 := []) 4 rfl ?_
  refine me_lv [(0, .ref P.1), (1, .int x1), (2, .int (-1)), (3, .int (-1))] (fl_c rfl (fl_c rfl (fl_c rfl (fl_c rfl fl_0)))) ?_
  exact h
theorem v_members_4 {X : ev_X} {W : Nat → Prop} {d : Nat} {P : MP} {μ : MS} {R : Int32 → MS → Prop} {T : MS → Prop} (x1 : Int32) (x2 : Int32) (x3 : Int32) (h : MC X W true d 296 [.ref P.1, .int 200] P μ (fun r1 μ1 => ((r1 = 0 → R x2 μ1) ∧ (¬ r1 = 0 → MC X W true d 291 [.ref P.1] P μ1 (fun r2 μ2 => MC X W true d 292 [.ref P.1, .int x1, .int (-1), .int (-1)] P (mS1 μ2 34 r2) (fun r3 μ3 => MC X W true d 298 [.ref P.1] P μ3 (fun r4 μ4 => (MI r3 (μ4.2.2 22) ∧ ((¬ x1 = 34 → ((x1 = 35 → MC X W true d 297 [.ref P.1, .int 111] P (mA1 μ4 22 r3.toNatClampNeg r4) (fun r5 μ5 => MC X W true d 305 [.ref P.1] P μ5 (fun r6 μ6 => (MI r3 (μ6.2.2 24) ∧ MC X W true d 297 [.ref P.1, .int 107] P (mA1 μ6 24 r3.toNatClampNeg r6) (fun r7 μ7 => (((0 : Int) ≤ x2.toInt → (MI x3 (μ7.2.2 27) ∧ ME X W true d 319 4 [(0, .ref P.1), (1, .int x1), (2, .int x2), (3, .int r3)] [] P (mA1 μ7 27 x3.toNatClampNeg r3) R T)) ∧ (x2.toInt < (0 : Int) → ME X W true d 319 4 [(0, .ref P.1), (1, .int x1), (2, .int r3), (3, .int r3)] [] P μ7 R T))) T)) T) T) ∧ (¬ x1 = 35 → MC X W true d 296 [.ref P.1, .int 111] P (mA1 μ4 22 r3.toNatClampNeg r4) (fun r8 μ8 => ((r8 = 0 → MC X W true d 297 [.ref P.1, .int 107] P μ8 (fun r9 μ9 => (((0 : Int) ≤ x2.toInt → (MI x3 (μ9.2.2 27) ∧ ME X W true d 319 4 [(0, .ref P.1), (1, .int x1), (2, .int x2), (3, .int r3)] [] P (mA1 μ9 27 x3.toNatClampNeg r3) R T)) ∧ (x2.toInt < (0 : Int) → ME X W true d 319 4 [(0, .ref P.1), (1, .int x1), (2, .int r3), (3, .int r3)] [] P μ9 R T))) T) ∧ (¬ r8 = 0 → MC X W true d 297 [.ref P.1, .int 111] P μ8 (fun r10 μ10 => MC X W true d 305 [.ref P.1] P μ10 (fun r11 μ11 => (MI r3 (μ11.2.2 24) ∧ MC X W true d 297 [.ref P.1, .int 107] P (mA1 μ11 24 r3.toNatClampNeg r11) (fun r12 μ12 => (((0 : Int) ≤ x2.toInt → (MI x3 (μ12.2.2 27) ∧ ME X W true d 319 4 [(0, .ref P.1), (1, .int x1), (2, .int x2), (3, .int r3)] [] P (mA1 μ12 27 x3.toNatClampNeg r3) R T)) ∧ (x2.toInt < (0 : Int) → ME X W true d 319 4 [(0, .ref P.1), (1, .int x1), (2, .int r3), (3, .int r3)] [] P μ12 R T))) T)) T) T))) (fun _ => False)))) ∧ (x1 = 34 → MC X W true d 309 [.ref P.1] P (mA1 μ4 22 r3.toNatClampNeg r4) (fun r13 μ13 => (MI r3 (μ13.2.2 23) ∧ ((x1 = 35 → MC X W true d 297 [.ref P.1, .int 111] P (mA1 μ13 23 r3.toNatClampNeg r13) (fun r14 μ14 => MC X W true d 305 [.ref P.1] P μ14 (fun r15 μ15 => (MI r3 (μ15.2.2 24) ∧ MC X W true d 297 [.ref P.1, .int 107] P (mA1 μ15 24 r3.toNatClampNeg r15) (fun r16 μ16 => (((0 : Int) ≤ x2.toInt → (MI x3 (μ16.2.2 27) ∧ ME X W true d 319 4 [(0, .ref P.1), (1, .int x1), (2, .int x2), (3, .int r3)] [] P (mA1 μ16 27 x3.toNatClampNeg r3) R T)) ∧ (x2.toInt < (0 : Int) → ME X W true d 319 4 [(0, .ref P.1), (1, .int x1), (2, .int r3), (3, .int r3)] [] P μ16 R T))) T)) T) T) ∧ (¬ x1 = 35 → MC X W true d 296 [.ref P.1, .int 111] P (mA1 μ13 23 r3.toNatClampNeg r13) (fun r17 μ17 => ((r17 = 0 → MC X W true d 297 [.ref P.1, .int 107] P μ17 (fun r18 μ18 => (((0 : Int) ≤ x2.toInt → (MI x3 (μ18.2.2 27) ∧ ME X W true d 319 4 [(0, .ref P.1), (1, .int x1), (2, .int x2), (3, .int r3)] [] P (mA1 μ18 27 x3.toNatClampNeg r3) R T)) ∧ (x2.toInt < (0 : Int) → ME X W true d 319 4 [(0, .ref P.1), (1, .int x1), (2, .int r3), (3, .int r3)] [] P μ18 R T))) T) ∧ (¬ r17 = 0 → MC X W true d 297 [.ref P.1, .int 111] P μ17 (fun r19 μ19 => MC X W true d 305 [.ref P.1] P μ19 (fun r20 μ20 => (MI r3 (μ20.2.2 24) ∧ MC X W true d 297 [.ref P.1, .int 107] P (mA1 μ20 24 r3.toNatClampNeg r20) (fun r21 μ21 => (((0 : Int) ≤ x2.toInt → (MI x3 (μ21.2.2 27) ∧ ME X W true d 319 4 [(0, .ref P.1), (1, .int x1), (2, .int x2), (3, .int r3)] [] P (mA1 μ21 27 x3.toNatClampNeg r3) R T)) ∧ (x2.toInt < (0 : Int) → ME X W true d 319 4 [(0, .ref P.1), (1, .int x1), (2, .int r3), (3, .int r3)] [] P μ21 R T))) T)) T) T))) (fun _ => False))))) T)))) T) (fun _ => False)) (fun _ => False)))) (fun _ => False)) : ME X W true d 319 4 [(0, .ref P.1), (1, .int x1), (2, .int x2), (3, .int x3)] [] P μ R T := by
  refine me_go (pc1 := 8) (lv1 := [(0, .ref P.1), (1, .int x1), (2, .int x2), (3, .int x3)]) (st1 := [.int 200, .ref P.1]) 2 rfl ?_
  refine me_callN rfl rfl rfl (h.mono (fun r1 μ1 h => ?_) (fun _ h => h))
  refine me_ifc rfl rfl (fun c => ?_) (fun c => ?_)
  · replace h := h.1 (ci_eq c)
    refine me_go (pc1 := 122) (lv1 := [(0, .ref P.1), (1, .int x1), (2, .int x2), (3, .int x3)]) (st1 := [.int x2]) 1 rfl ?_
    exact me_ret rfl rfl rfl h
  · replace h := h.2 (cn_eq c)
    refine me_go (pc1 := 16) (lv1 := [(0, .ref P.1), (1, .int x1), (2, .int x2), (3, .int x3)]) (st1 := [.ref P.1, .ref P.1]) 2 rfl ?_
    refine me_callN rfl rfl rfl (h.mono (fun r2 μ2 h => ?_) (fun _ h => h))
    refine me_put rfl rfl rfl ?_
    refine me_go (pc1 := 26) (lv1 := [(0, .ref P.1), (1, .int x1), (2, .int x2), (3, .int x3)]) (st1 := [.int (-1), .int (-1), .int x1, .ref P.1]) 4 rfl ?_
    refine me_callN rfl rfl rfl (h.mono (fun r3 μ3 h => ?_) (fun _ h => h))
    refine me_go (pc1 := 32) (lv1 := [(4, .int r3), (0, .ref P.1), (1, .int x1), (2, .int x2), (3, .int x3)]) (st1 := [.ref P.1]) 2 rfl ?_
    refine me_getf (v := .ref (P.2.1 22)) rfl rfl rfl ?_
    refine me_go (pc1 := 38) (lv1 := [(4, .int r3), (0, .ref P.1), (1, .int x1), (2, .int x2), (3, .int x3)]) (st1 := [.ref P.1, .int r3, .ref (P.2.1 22)]) 2 rfl ?_
    refine me_call rfl rfl rfl rfl (h.mono (fun r4 μ4 h => ?_) (fun _ h => h))
    have hi := h.1
    replace h := h.2
    refine me_iast rfl (g := 22) rfl rfl hi ?_
    refine me_go (pc1 := 45) (lv1 := [(4, .int r3), (0, .ref P.1), (1, .int x1), (2, .int x2), (3, .int x3)]) (st1 := [.int 34, .int x1]) 2 rfl ?_
    refine me_icmp rfl rfl (fun c => ?_) (fun c => ?_)
    · replace h := h.1 (ci_ne c)
      refine me_go (pc1 := 62) (lv1 := [(4, .int r3), (0, .ref P.1), (1, .int x1), (2, .int x2), (3, .int x3)]) (st1 := [.int 35, .int x1]) 2 rfl ?_
      refine me_icmp rfl rfl (fun c => ?_) (fun c => ?_)
      · replace h := h.1 (ci_eq c)
        refine me_go (pc1 := 77) (lv1 := [(4, .int r3), (0, .ref P.1), (1, .int x1), (2, .int x2), (3, .int x3)]) (st1 := [.int 111, .ref P.1]) 2 rfl ?_
        refine me_call rfl rfl rfl rfl (h.mono (fun r5 μ5 h => ?_) (fun _ h => h))
        refine me_go (pc1 := 81) (lv1 := [(4, .int r3), (0, .ref P.1), (1, .int x1), (2, .int x2), (3, .int x3)]) (st1 := [.ref P.1]) 1 rfl ?_
        refine me_getf (v := .ref (P.2.1 24)) rfl rfl rfl ?_
        refine me_go (pc1 := 87) (lv1 := [(4, .int r3), (0, .ref P.1), (1, .int x1), (2, .int x2), (3, .int x3)]) (st1 := [.ref P.1, .int r3, .ref (P.2.1 24)]) 2 rfl ?_
        refine me_call rfl rfl rfl rfl (h.mono (fun r6 μ6 h => ?_) (fun _ h => h))
        have hi := h.1
        replace h := h.2
        refine me_iast rfl (g := 24) rfl rfl hi ?_
        refine me_go (pc1 := 94) (lv1 := [(4, .int r3), (0, .ref P.1), (1, .int x1), (2, .int x2), (3, .int x3)]) (st1 := [.int 107, .ref P.1]) 2 rfl ?_
        refine me_call rfl rfl rfl rfl (h.mono (fun r7 μ7 h => ?_) (fun _ h => h))
        refine me_go (pc1 := 98) (lv1 := [(4, .int r3), (0, .ref P.1), (1, .int x1), (2, .int x2), (3, .int x3)]) (st1 := [.int x2]) 1 rfl ?_
        refine me_ifc rfl rfl (fun c => ?_) (fun c => ?_)
        · replace h := h.1 (ci_ge c)
          refine me_go (pc1 := 108) (lv1 := [(4, .int r3), (0, .ref P.1), (1, .int x1), (2, .int x2), (3, .int x3)]) (st1 := [.ref P.1]) 1 rfl ?_
          refine me_getf (v := .ref (P.2.1 27)) rfl rfl rfl ?_
          refine me_go (pc1 := 114) (lv1 := [(4, .int r3), (0, .ref P.1), (1, .int x1), (2, .int x2), (3, .int x3)]) (st1 := [.int r3, .int x3, .ref (P.2.1 27)]) 2 rfl ?_
          have hi := h.1
          replace h := h.2
          refine me_iast rfl (g := 27) rfl rfl hi ?_
          refine me_go (pc1 := 4) (lv1 := [(3, .int r3), (4, .int r3), (0, .ref P.1), (1, .int x1), (2, .int x2)]) (st1 := []) 3 rfl ?_
          refine me_lv [(0, .ref P.1), (1, .int x1), (2, .int x2), (3, .int r3)] (fl_c rfl (fl_c rfl (fl_c rfl (fl_c rfl fl_0)))) ?_
          exact h
        · replace h := h.2 (cn_ge c)
          refine me_go (pc1 := 4) (lv1 := [(3, .int r3), (2, .int r3), (4, .int r3), (0, .ref P.1), (1, .int x1)]) (st1 := []) 6 rfl ?_
          refine me_lv [(0, .ref P.1), (1, .int x1), (2, .int r3), (3, .int r3)] (fl_c rfl (fl_c rfl (fl_c rfl (fl_c rfl fl_0)))) ?_
          exact h
      · replace h := h.2 (cn_eq c)
        refine me_go (pc1 := 68) (lv1 := [(4, .int r3), (0, .ref P.1), (1, .int x1), (2, .int x2), (3, .int x3)]) (st1 := [.int 111, .ref P.1]) 2 rfl ?_
        refine me_callN rfl rfl rfl (h.mono (fun r8 μ8 h => ?_) (fun _ h => h))
        refine me_ifc rfl rfl (fun c => ?_) (fun c => ?_)
        · replace h := h.1 (ci_eq c)
          refine me_go (pc1 := 94) (lv1 := [(4, .int r3), (0, .ref P.1), (1, .int x1), (2, .int x2), (3, .int x3)]) (st1 := [.int 107, .ref P.1]) 2 rfl ?_
          refine me_call rfl rfl rfl rfl (h.mono (fun r9 μ9 h => ?_) (fun _ h => h))
          refine me_go (pc1 := 98) (lv1 := [(4, .int r3), (0, .ref P.1), (1, .int x1), (2, .int x2), (3, .int x3)]) (st1 := [.int x2]) 1 rfl ?_
          refine me_ifc rfl rfl (fun c => ?_) (fun c => ?_)
          · replace h := h.1 (ci_ge c)
            refine me_go (pc1 := 108) (lv1 := [(4, .int r3), (0, .ref P.1), (1, .int x1), (2, .int x2), (3, .int x3)]) (st1 := [.ref P.1]) 1 rfl ?_
            refine me_getf (v := .ref (P.2.1 27)) rfl rfl rfl ?_
            refine me_go (pc1 := 114) (lv1 := [(4, .int r3), (0, .ref P.1), (1, .int x1), (2, .int x2), (3, .int x3)]) (st1 := [.int r3, .int x3, .ref (P.2.1 27)]) 2 rfl ?_
            have hi := h.1
            replace h := h.2
            refine me_iast rfl (g := 27) rfl rfl hi ?_
            refine me_go (pc1 := 4) (lv1 := [(3, .int r3), (4, .int r3), (0, .ref P.1), (1, .int x1), (2, .int x2)]) (st1 := []) 3 rfl ?_
            refine me_lv [(0, .ref P.1), (1, .int x1), (2, .int x2), (3, .int r3)] (fl_c rfl (fl_c rfl (fl_c rfl (fl_c rfl fl_0)))) ?_
            exact h
          · replace h := h.2 (cn_ge c)
            refine me_go (pc1 := 4) (lv1 := [(3, .int r3), (2, .int r3), (4, .int r3), (0, .ref P.1), (1, .int x1)]) (st1 := []) 6 rfl ?_
            refine me_lv [(0, .ref P.1), (1, .int x1), (2, .int r3), (3, .int r3)] (fl_c rfl (fl_c rfl (fl_c rfl (fl_c rfl fl_0)))) ?_
            exact h
        · replace h := h.2 (cn_eq c)
          refine me_go (pc1 := 77) (lv1 := [(4, .int r3), (0, .ref P.1), (1, .int x1), (2, .int x2), (3, .int x3)]) (st1 := [.int 111, .ref P.1]) 2 rfl ?_
          refine me_call rfl rfl rfl rfl (h.mono (fun r10 μ10 h => ?_) (fun _ h => h))
          refine me_go (pc1 := 81) (lv1 := [(4, .int r3), (0, .ref P.1), (1, .int x1), (2, .int x2), (3, .int x3)]) (st1 := [.ref P.1]) 1 rfl ?_
          refine me_getf (v := .ref (P.2.1 24)) rfl rfl rfl ?_
          refine me_go (pc1 := 87) (lv1 := [(4, .int r3), (0, .ref P.1), (1, .int x1), (2, .int x2), (3, .int x3)]) (st1 := [.ref P.1, .int r3, .ref (P.2.1 24)]) 2 rfl ?_
          refine me_call rfl rfl rfl rfl (h.mono (fun r11 μ11 h => ?_) (fun _ h => h))
          have hi := h.1
          replace h := h.2
          refine me_iast rfl (g := 24) rfl rfl hi ?_
          refine me_go (pc1 := 94) (lv1 := [(4, .int r3), (0, .ref P.1), (1, .int x1), (2, .int x2), (3, .int x3)]) (st1 := [.int 107, .ref P.1]) 2 rfl ?_
          refine me_call rfl rfl rfl rfl (h.mono (fun r12 μ12 h => ?_) (fun _ h => h))
          refine me_go (pc1 := 98) (lv1 := [(4, .int r3), (0, .ref P.1), (1, .int x1), (2, .int x2), (3, .int x3)]) (st1 := [.int x2]) 1 rfl ?_
          refine me_ifc rfl rfl (fun c => ?_) (fun c => ?_)
          · replace h := h.1 (ci_ge c)
            refine me_go (pc1 := 108) (lv1 := [(4, .int r3), (0, .ref P.1), (1, .int x1), (2, .int x2), (3, .int x3)]) (st1 := [.ref P.1]) 1 rfl ?_
            refine me_getf (v := .ref (P.2.1 27)) rfl rfl rfl ?_
            refine me_go (pc1 := 114) (lv1 := [(4, .int r3), (0, .ref P.1), (1, .int x1), (2, .int x2), (3, .int x3)]) (st1 := [.int r3, .int x3, .ref (P.2.1 27)]) 2 rfl ?_
            have hi := h.1
            replace h := h.2
            refine me_iast rfl (g := 27) rfl rfl hi ?_
            refine me_go (pc1 := 4) (lv1 := [(3, .int r3), (4, .int r3), (0, .ref P.1), (1, .int x1), (2, .int x2)]) (st1 := []) 3 rfl ?_
            refine me_lv [(0, .ref P.1), (1, .int x1), (2, .int x2), (3, .int r3)] (fl_c rfl (fl_c rfl (fl_c rfl (fl_c rfl fl_0)))) ?_
            exact h
          · replace h := h.2 (cn_ge c)
            refine me_go (pc1 := 4) (lv1 := [(3, .int r3), (2, .int r3), (4, .int r3), (0, .ref P.1), (1, .int x1)]) (st1 := []) 6 rfl ?_
            refine me_lv [(0, .ref P.1), (1, .int x1), (2, .int r3), (3, .int r3)] (fl_c rfl (fl_c rfl (fl_c rfl (fl_c rfl fl_0)))) ?_
            exact h
    · replace h := h.2 (cn_ne c)
      refine me_go (pc1 := 49) (lv1 := [(4, .int r3), (0, .ref P.1), (1, .int x1), (2, .int x2), (3, .int x3)]) (st1 := [.ref P.1]) 1 rfl ?_
      refine me_getf (v := .ref (P.2.1 23)) rfl rfl rfl ?_
      refine me_go (pc1 := 55) (lv1 := [(4, .int r3), (0, .ref P.1), (1, .int x1), (2, .int x2), (3, .int x3)]) (st1 := [.ref P.1, .int r3, .ref (P.2.1 23)]) 2 rfl ?_
      refine me_call rfl rfl rfl rfl (h.mono (fun r13 μ13 h => ?_) (fun _ h => h))
      have hi := h.1
      replace h := h.2
      refine me_iast rfl (g := 23) rfl rfl hi ?_
      refine me_go (pc1 := 62) (lv1 := [(4, .int r3), (0, .ref P.1), (1, .int x1), (2, .int x2), (3, .int x3)]) (st1 := [.int 35, .int x1]) 2 rfl ?_
      refine me_icmp rfl rfl (fun c => ?_) (fun c => ?_)
      · replace h := h.1 (ci_eq c)
        refine me_go (pc1 := 77) (lv1 := [(4, .int r3), (0, .ref P.1), (1, .int x1), (2, .int x2), (3, .int x3)]) (st1 := [.int 111, .ref P.1]) 2 rfl ?_
        refine me_call rfl rfl rfl rfl (h.mono (fun r14 μ14 h => ?_) (fun _ h => h))
        refine me_go (pc1 := 81) (lv1 := [(4, .int r3), (0, .ref P.1), (1, .int x1), (2, .int x2), (3, .int x3)]) (st1 := [.ref P.1]) 1 rfl ?_
        refine me_getf (v := .ref (P.2.1 24)) rfl rfl rfl ?_
        refine me_go (pc1 := 87) (lv1 := [(4, .int r3), (0, .ref P.1), (1, .int x1), (2, .int x2), (3, .int x3)]) (st1 := [.ref P.1, .int r3, .ref (P.2.1 24)]) 2 rfl ?_
        refine me_call rfl rfl rfl rfl (h.mono (fun r15 μ15 h => ?_) (fun _ h => h))
        have hi := h.1
        replace h := h.2
        refine me_iast rfl (g := 24) rfl rfl hi ?_
        refine me_go (pc1 := 94) (lv1 := [(4, .int r3), (0, .ref P.1), (1, .int x1), (2, .int x2), (3, .int x3)]) (st1 := [.int 107, .ref P.1]) 2 rfl ?_
        refine me_call rfl rfl rfl rfl (h.mono (fun r16 μ16 h => ?_) (fun _ h => h))
        refine me_go (pc1 := 98) (lv1 := [(4, .int r3), (0, .ref P.1), (1, .int x1), (2, .int x2), (3, .int x3)]) (st1 := [.int x2]) 1 rfl ?_
        refine me_ifc rfl rfl (fun c => ?_) (fun c => ?_)
        · replace h := h.1 (ci_ge c)
          refine me_go (pc1 := 108) (lv1 := [(4, .int r3), (0, .ref P.1), (1, .int x1), (2, .int x2), (3, .int x3)]) (st1 := [.ref P.1]) 1 rfl ?_
          refine me_getf (v := .ref (P.2.1 27)) rfl rfl rfl ?_
          refine me_go (pc1 := 114) (lv1 := [(4, .int r3), (0, .ref P.1), (1, .int x1), (2, .int x2), (3, .int x3)]) (st1 := [.int r3, .int x3, .ref (P.2.1 27)]) 2 rfl ?_
          have hi := h.1
          replace h := h.2
          refine me_iast rfl (g := 27) rfl rfl hi ?_
          refine me_go (pc1 := 4) (lv1 := [(3, .int r3), (4, .int r3), (0, .ref P.1), (1, .int x1), (2, .int x2)]) (st1 := []) 3 rfl ?_
          refine me_lv [(0, .ref P.1), (1, .int x1), (2, .int x2), (3, .int r3)] (fl_c rfl (fl_c rfl (fl_c rfl (fl_c rfl fl_0)))) ?_
          exact h
        · replace h := h.2 (cn_ge c)
          refine me_go (pc1 := 4) (lv1 := [(3, .int r3), (2, .int r3), (4, .int r3), (0, .ref P.1), (1, .int x1)]) (st1 := []) 6 rfl ?_
          refine me_lv [(0, .ref P.1), (1, .int x1), (2, .int r3), (3, .int r3)] (fl_c rfl (fl_c rfl (fl_c rfl (fl_c rfl fl_0)))) ?_
          exact h
      · replace h := h.2 (cn_eq c)
        refine me_go (pc1 := 68) (lv1 := [(4, .int r3), (0, .ref P.1), (1, .int x1), (2, .int x2), (3, .int x3)]) (st1 := [.int 111, .ref P.1]) 2 rfl ?_
        refine me_callN rfl rfl rfl (h.mono (fun r17 μ17 h => ?_) (fun _ h => h))
        refine me_ifc rfl rfl (fun c => ?_) (fun c => ?_)
        · replace h := h.1 (ci_eq c)
          refine me_go (pc1 := 94) (lv1 := [(4, .int r3), (0, .ref P.1), (1, .int x1), (2, .int x2), (3, .int x3)]) (st1 := [.int 107, .ref P.1]) 2 rfl ?_
          refine me_call rfl rfl rfl rfl (h.mono (fun r18 μ18 h => ?_) (fun _ h => h))
          refine me_go (pc1 := 98) (lv1 := [(4, .int r3), (0, .ref P.1), (1, .int x1), (2, .int x2), (3, .int x3)]) (st1 := [.int x2]) 1 rfl ?_
          refine me_ifc rfl rfl (fun c => ?_) (fun c => ?_)
          · replace h := h.1 (ci_ge c)
            refine me_go (pc1 := 108) (lv1 := [(4, .int r3), (0, .ref P.1), (1, .int x1), (2, .int x2), (3, .int x3)]) (st1 := [.ref P.1]) 1 rfl ?_
            refine me_getf (v := .ref (P.2.1 27)) rfl rfl rfl ?_
            refine me_go (pc1 := 114) (lv1 := [(4, .int r3), (0, .ref P.1), (1, .int x1), (2, .int x2), (3, .int x3)]) (st1 := [.int r3, .int x3, .ref (P.2.1 27)]) 2 rfl ?_
            have hi := h.1
            replace h := h.2
            refine me_iast rfl (g := 27) rfl rfl hi ?_
            refine me_go (pc1 := 4) (lv1 := [(3, .int r3), (4, .int r3), (0, .ref P.1), (1, .int x1), (2, .int x2)]) (st1 := []) 3 rfl ?_
            refine me_lv [(0, .ref P.1), (1, .int x1), (2, .int x2), (3, .int r3)] (fl_c rfl (fl_c rfl (fl_c rfl (fl_c rfl fl_0)))) ?_
            exact h
          · replace h := h.2 (cn_ge c)
            refine me_go (pc1 := 4) (lv1 := [(3, .int r3), (2, .int r3), (4, .int r3), (0, .ref P.1), (1, .int x1)]) (st1 := []) 6 rfl ?_
            refine me_lv [(0, .ref P.1), (1, .int x1), (2, .int r3), (3, .int r3)] (fl_c rfl (fl_c rfl (fl_c rfl (fl_c rfl fl_0)))) ?_
            exact h
        · replace h := h.2 (cn_eq c)
          refine me_go (pc1 := 77) (lv1 := [(4, .int r3), (0, .ref P.1), (1, .int x1), (2, .int x2), (3, .int x3)]) (st1 := [.int 111, .ref P.1]) 2 rfl ?_
          refine me_call rfl rfl rfl rfl (h.mono (fun r19 μ19 h => ?_) (fun _ h => h))
          refine me_go (pc1 := 81) (lv1 := [(4, .int r3), (0, .ref P.1), (1, .int x1), (2, .int x2), (3, .int x3)]) (st1 := [.ref P.1]) 1 rfl ?_
          refine me_getf (v := .ref (P.2.1 24)) rfl rfl rfl ?_
          refine me_go (pc1 := 87) (lv1 := [(4, .int r3), (0, .ref P.1), (1, .int x1), (2, .int x2), (3, .int x3)]) (st1 := [.ref P.1, .int r3, .ref (P.2.1 24)]) 2 rfl ?_
          refine me_call rfl rfl rfl rfl (h.mono (fun r20 μ20 h => ?_) (fun _ h => h))
          have hi := h.1
          replace h := h.2
          refine me_iast rfl (g := 24) rfl rfl hi ?_
          refine me_go (pc1 := 94) (lv1 := [(4, .int r3), (0, .ref P.1), (1, .int x1), (2, .int x2), (3, .int x3)]) (st1 := [.int 107, .ref P.1]) 2 rfl ?_
          refine me_call rfl rfl rfl rfl (h.mono (fun r21 μ21 h => ?_) (fun _ h => h))
          refine me_go (pc1 := 98) (lv1 := [(4, .int r3), (0, .ref P.1), (1, .int x1), (2, .int x2), (3, .int x3)]) (st1 := [.int x2]) 1 rfl ?_
          refine me_ifc rfl rfl (fun c => ?_) (fun c => ?_)
          · replace h := h.1 (ci_ge c)
            refine me_go (pc1 := 108) (lv1 := [(4, .int r3), (0, .ref P.1), (1, .int x1), (2, .int x2), (3, .int x3)]) (st1 := [.ref P.1]) 1 rfl ?_
            refine me_getf (v := .ref (P.2.1 27)) rfl rfl rfl ?_
            refine me_go (pc1 := 114) (lv1 := [(4, .int r3), (0, .ref P.1), (1, .int x1), (2, .int x2), (3, .int x3)]) (st1 := [.int r3, .int x3, .ref (P.2.1 27)]) 2 rfl ?_
            have hi := h.1
            replace h := h.2
            refine me_iast rfl (g := 27) rfl rfl hi ?_
            refine me_go (pc1 := 4) (lv1 := [(3, .int r3), (4, .int r3), (0, .ref P.1), (1, .int x1), (2, .int x2)]) (st1 := []) 3 rfl ?_
            refine me_lv [(0, .ref P.1), (1, .int x1), (2, .int x2), (3, .int r3)] (fl_c rfl (fl_c rfl (fl_c rfl (fl_c rfl fl_0)))) ?_
            exact h
          · replace h := h.2 (cn_ge c)
            refine me_go (pc1 := 4) (lv1 := [(3, .int r3), (2, .int r3), (4, .int r3), (0, .ref P.1), (1, .int x1)]) (st1 := []) 6 rfl ?_
            refine me_lv [(0, .ref P.1), (1, .int x1), (2, .int r3), (3, .int r3)] (fl_c rfl (fl_c rfl (fl_c rfl (fl_c rfl fl_0)))) ?_
            exact h
theorem v_beginsStatement_0 {X : ev_X} {W : Nat → Prop} {d : Nat} {P : MP} {μ : MS} {R : Int32 → MS → Prop} {T : MS → Prop}  (h : MC X W true d 296 [.ref P.1, .int 200] P μ (fun r1 μ1 => ((¬ r1 = 0 → R 1 μ1) ∧ (r1 = 0 → MC X W true d 296 [.ref P.1, .int 13] P μ1 (fun r2 μ2 => ((¬ r2 = 0 → R 1 μ2) ∧ (r2 = 0 → MC X W true d 296 [.ref P.1, .int 18] P μ2 (fun r3 μ3 => ((¬ r3 = 0 → R 1 μ3) ∧ (r3 = 0 → MC X W true d 296 [.ref P.1, .int 57] P μ3 (fun r4 μ4 => ((¬ r4 = 0 → R 1 μ4) ∧ (r4 = 0 → MC X W true d 296 [.ref P.1, .int 25] P μ4 (fun r5 μ5 => ((¬ r5 = 0 → R 1 μ5) ∧ (r5 = 0 → MC X W true d 296 [.ref P.1, .int 16] P μ5 (fun r6 μ6 => ((¬ r6 = 0 → R 1 μ6) ∧ (r6 = 0 → MC X W true d 296 [.ref P.1, .int 44] P μ6 (fun r7 μ7 => ((¬ r7 = 0 → R 1 μ7) ∧ (r7 = 0 → MC X W true d 296 [.ref P.1, .int 40] P μ7 (fun r8 μ8 => ((¬ r8 = 0 → R 1 μ8) ∧ (r8 = 0 → MC X W true d 296 [.ref P.1, .int 52] P μ8 (fun r9 μ9 => ((¬ r9 = 0 → R 1 μ9) ∧ (r9 = 0 → MC X W true d 296 [.ref P.1, .int 24] P μ9 (fun r10 μ10 => ((¬ r10 = 0 → R 1 μ10) ∧ (r10 = 0 → MC X W true d 296 [.ref P.1, .int 56] P μ10 (fun r11 μ11 => ((¬ r11 = 0 → R 1 μ11) ∧ (r11 = 0 → MC X W true d 296 [.ref P.1, .int 47] P μ11 (fun r12 μ12 => ((¬ r12 = 0 → R 1 μ12) ∧ (r12 = 0 → MC X W true d 296 [.ref P.1, .int 4] P μ12 (fun r13 μ13 => ((¬ r13 = 0 → R 1 μ13) ∧ (r13 = 0 → MC X W true d 296 [.ref P.1, .int 23] P μ13 (fun r14 μ14 => ((¬ r14 = 0 → R 1 μ14) ∧ (r14 = 0 → MC X W true d 296 [.ref P.1, .int 39] P μ14 (fun r15 μ15 => ((¬ r15 = 0 → R 1 μ15) ∧ (r15 = 0 → MC X W true d 296 [.ref P.1, .int 54] P μ15 (fun r16 μ16 => ((r16 = 0 → R 0 μ16) ∧ (¬ r16 = 0 → R 1 μ16))) (fun _ => False)))) (fun _ => False)))) (fun _ => False)))) (fun _ => False)))) (fun _ => False)))) (fun _ => False)))) (fun _ => False)))) (fun _ => False)))) (fun _ => False)))) (fun _ => False)))) (fun _ => False)))) (fun _ => False)))) (fun _ => False)))) (fun _ => False)))) (fun _ => False)))) (fun _ => False)) : ME X W true d 320 0 [(0, .ref P.1)] [] P μ R T := by
  refine me_go (pc1 := 4) (lv1 := [(0, .ref P.1)]) (st1 := [.int 200, .ref P.1]) 2 rfl ?_
  refine me_callN rfl rfl rfl (h.mono (fun r1 μ1 h => ?_) (fun _ h => h))
  refine me_ifc rfl rfl (fun c => ?_) (fun c => ?_)
  · replace h := h.1 (ci_ne c)
    refine me_go (pc1 := 149) (lv1 := [(0, .ref P.1)]) (st1 := [.int 1]) 2 rfl ?_
    exact me_retB rfl rfl (by decide) h
  · replace h := h.2 (cn_ne c)
    refine me_go (pc1 := 13) (lv1 := [(0, .ref P.1)]) (st1 := [.int 13, .ref P.1]) 2 rfl ?_
    refine me_callN rfl rfl rfl (h.mono (fun r2 μ2 h => ?_) (fun _ h => h))
    refine me_ifc rfl rfl (fun c => ?_) (fun c => ?_)
    · replace h := h.1 (ci_ne c)
      refine me_go (pc1 := 149) (lv1 := [(0, .ref P.1)]) (st1 := [.int 1]) 2 rfl ?_
      exact me_retB rfl rfl (by decide) h
    · replace h := h.2 (cn_ne c)
      refine me_go (pc1 := 22) (lv1 := [(0, .ref P.1)]) (st1 := [.int 18, .ref P.1]) 2 rfl ?_
      refine me_callN rfl rfl rfl (h.mono (fun r3 μ3 h => ?_) (fun _ h => h))
      refine me_ifc rfl rfl (fun c => ?_) (fun c => ?_)
      · replace h := h.1 (ci_ne c)
        refine me_go (pc1 := 149) (lv1 := [(0, .ref P.1)]) (st1 := [.int 1]) 2 rfl ?_
        exact me_retB rfl rfl (by decide) h
      · replace h := h.2 (cn_ne c)
        refine me_go (pc1 := 31) (lv1 := [(0, .ref P.1)]) (st1 := [.int 57, .ref P.1]) 2 rfl ?_
        refine me_callN rfl rfl rfl (h.mono (fun r4 μ4 h => ?_) (fun _ h => h))
        refine me_ifc rfl rfl (fun c => ?_) (fun c => ?_)
        · replace h := h.1 (ci_ne c)
          refine me_go (pc1 := 149) (lv1 := [(0, .ref P.1)]) (st1 := [.int 1]) 2 rfl ?_
          exact me_retB rfl rfl (by decide) h
        · replace h := h.2 (cn_ne c)
          refine me_go (pc1 := 40) (lv1 := [(0, .ref P.1)]) (st1 := [.int 25, .ref P.1]) 2 rfl ?_
          refine me_callN rfl rfl rfl (h.mono (fun r5 μ5 h => ?_) (fun _ h => h))
          refine me_ifc rfl rfl (fun c => ?_) (fun c => ?_)
          · replace h := h.1 (ci_ne c)
            refine me_go (pc1 := 149) (lv1 := [(0, .ref P.1)]) (st1 := [.int 1]) 2 rfl ?_
            exact me_retB rfl rfl (by decide) h
          · replace h := h.2 (cn_ne c)
            refine me_go (pc1 := 49) (lv1 := [(0, .ref P.1)]) (st1 := [.int 16, .ref P.1]) 2 rfl ?_
            refine me_callN rfl rfl rfl (h.mono (fun r6 μ6 h => ?_) (fun _ h => h))
            refine me_ifc rfl rfl (fun c => ?_) (fun c => ?_)
            · replace h := h.1 (ci_ne c)
              refine me_go (pc1 := 149) (lv1 := [(0, .ref P.1)]) (st1 := [.int 1]) 2 rfl ?_
              exact me_retB rfl rfl (by decide) h
            · replace h := h.2 (cn_ne c)
              refine me_go (pc1 := 58) (lv1 := [(0, .ref P.1)]) (st1 := [.int 44, .ref P.1]) 2 rfl ?_
              refine me_callN rfl rfl rfl (h.mono (fun r7 μ7 h => ?_) (fun _ h => h))
              refine me_ifc rfl rfl (fun c => ?_) (fun c => ?_)
              · replace h := h.1 (ci_ne c)
                refine me_go (pc1 := 149) (lv1 := [(0, .ref P.1)]) (st1 := [.int 1]) 2 rfl ?_
                exact me_retB rfl rfl (by decide) h
              · replace h := h.2 (cn_ne c)
                refine me_go (pc1 := 67) (lv1 := [(0, .ref P.1)]) (st1 := [.int 40, .ref P.1]) 2 rfl ?_
                refine me_callN rfl rfl rfl (h.mono (fun r8 μ8 h => ?_) (fun _ h => h))
                refine me_ifc rfl rfl (fun c => ?_) (fun c => ?_)
                · replace h := h.1 (ci_ne c)
                  refine me_go (pc1 := 149) (lv1 := [(0, .ref P.1)]) (st1 := [.int 1]) 2 rfl ?_
                  exact me_retB rfl rfl (by decide) h
                · replace h := h.2 (cn_ne c)
                  refine me_go (pc1 := 76) (lv1 := [(0, .ref P.1)]) (st1 := [.int 52, .ref P.1]) 2 rfl ?_
                  refine me_callN rfl rfl rfl (h.mono (fun r9 μ9 h => ?_) (fun _ h => h))
                  refine me_ifc rfl rfl (fun c => ?_) (fun c => ?_)
                  · replace h := h.1 (ci_ne c)
                    refine me_go (pc1 := 149) (lv1 := [(0, .ref P.1)]) (st1 := [.int 1]) 2 rfl ?_
                    exact me_retB rfl rfl (by decide) h
                  · replace h := h.2 (cn_ne c)
                    refine me_go (pc1 := 85) (lv1 := [(0, .ref P.1)]) (st1 := [.int 24, .ref P.1]) 2 rfl ?_
                    refine me_callN rfl rfl rfl (h.mono (fun r10 μ10 h => ?_) (fun _ h => h))
                    refine me_ifc rfl rfl (fun c => ?_) (fun c => ?_)
                    · replace h := h.1 (ci_ne c)
                      refine me_go (pc1 := 149) (lv1 := [(0, .ref P.1)]) (st1 := [.int 1]) 2 rfl ?_
                      exact me_retB rfl rfl (by decide) h
                    · replace h := h.2 (cn_ne c)
                      refine me_go (pc1 := 94) (lv1 := [(0, .ref P.1)]) (st1 := [.int 56, .ref P.1]) 2 rfl ?_
                      refine me_callN rfl rfl rfl (h.mono (fun r11 μ11 h => ?_) (fun _ h => h))
                      refine me_ifc rfl rfl (fun c => ?_) (fun c => ?_)
                      · replace h := h.1 (ci_ne c)
                        refine me_go (pc1 := 149) (lv1 := [(0, .ref P.1)]) (st1 := [.int 1]) 2 rfl ?_
                        exact me_retB rfl rfl (by decide) h
                      · replace h := h.2 (cn_ne c)
                        refine me_go (pc1 := 103) (lv1 := [(0, .ref P.1)]) (st1 := [.int 47, .ref P.1]) 2 rfl ?_
                        refine me_callN rfl rfl rfl (h.mono (fun r12 μ12 h => ?_) (fun _ h => h))
                        refine me_ifc rfl rfl (fun c => ?_) (fun c => ?_)
                        · replace h := h.1 (ci_ne c)
                          refine me_go (pc1 := 149) (lv1 := [(0, .ref P.1)]) (st1 := [.int 1]) 2 rfl ?_
                          exact me_retB rfl rfl (by decide) h
                        · replace h := h.2 (cn_ne c)
                          refine me_go (pc1 := 111) (lv1 := [(0, .ref P.1)]) (st1 := [.int 4, .ref P.1]) 2 rfl ?_
                          refine me_callN rfl rfl rfl (h.mono (fun r13 μ13 h => ?_) (fun _ h => h))
                          refine me_ifc rfl rfl (fun c => ?_) (fun c => ?_)
                          · replace h := h.1 (ci_ne c)
                            refine me_go (pc1 := 149) (lv1 := [(0, .ref P.1)]) (st1 := [.int 1]) 2 rfl ?_
                            exact me_retB rfl rfl (by decide) h
                          · replace h := h.2 (cn_ne c)
                            refine me_go (pc1 := 120) (lv1 := [(0, .ref P.1)]) (st1 := [.int 23, .ref P.1]) 2 rfl ?_
                            refine me_callN rfl rfl rfl (h.mono (fun r14 μ14 h => ?_) (fun _ h => h))
                            refine me_ifc rfl rfl (fun c => ?_) (fun c => ?_)
                            · replace h := h.1 (ci_ne c)
                              refine me_go (pc1 := 149) (lv1 := [(0, .ref P.1)]) (st1 := [.int 1]) 2 rfl ?_
                              exact me_retB rfl rfl (by decide) h
                            · replace h := h.2 (cn_ne c)
                              refine me_go (pc1 := 129) (lv1 := [(0, .ref P.1)]) (st1 := [.int 39, .ref P.1]) 2 rfl ?_
                              refine me_callN rfl rfl rfl (h.mono (fun r15 μ15 h => ?_) (fun _ h => h))
                              refine me_ifc rfl rfl (fun c => ?_) (fun c => ?_)
                              · replace h := h.1 (ci_ne c)
                                refine me_go (pc1 := 149) (lv1 := [(0, .ref P.1)]) (st1 := [.int 1]) 2 rfl ?_
                                exact me_retB rfl rfl (by decide) h
                              · replace h := h.2 (cn_ne c)
                                refine me_go (pc1 := 138) (lv1 := [(0, .ref P.1)]) (st1 := [.int 54, .ref P.1]) 2 rfl ?_
                                refine me_callN rfl rfl rfl (h.mono (fun r16 μ16 h => ?_) (fun _ h => h))
                                refine me_ifc rfl rfl (fun c => ?_) (fun c => ?_)
                                · replace h := h.1 (ci_eq c)
                                  refine me_go (pc1 := 149) (lv1 := [(0, .ref P.1)]) (st1 := [.int 0]) 1 rfl ?_
                                  exact me_retB rfl rfl (by decide) h
                                · replace h := h.2 (cn_eq c)
                                  refine me_go (pc1 := 149) (lv1 := [(0, .ref P.1)]) (st1 := [.int 1]) 2 rfl ?_
                                  exact me_retB rfl rfl (by decide) h
theorem v_statements_0 {X : ev_X} {W : Nat → Prop} {d : Nat} {P : MP} {μ : MS} {R : Int32 → MS → Prop} {T : MS → Prop}  (h : ME X W true d 321 4 [(0, .ref P.1), (1, .int (-1)), (2, .int (-1))] [] P μ R T) : ME X W true d 321 0 [(0, .ref P.1)] [] P μ R T := by
  refine me_go (pc1 := 4) (lv1 := [(2, .int (-1)), (1, .int (-1)), (0, .ref P.1)]) (st1 := []) 4 rfl ?_
  refine me_lv [(0, .ref P.1), (1, .int (-1)), (2, .int (-1))] (fl_c rfl (fl_c rfl (fl_c rfl fl_0))) ?_
  exact h
theorem v_statements_4 {X : ev_X} {W : Nat → Prop} {d : Nat} {P : MP} {μ : MS} {R : Int32 → MS → Prop} {T : MS → Prop} (x1 : Int32) (x2 : Int32) (h : MC X W true d 320 [.ref P.1] P μ (fun r1 μ1 => ((r1 = 0 → R x1 μ1) ∧ (¬ r1 = 0 → ((¬ (μ1.1 40) = 20 → MC X W true d 291 [.ref P.1] P (mS1 μ1 40 ((μ1.1 40) + 1)) (fun r2 μ2 => MC X W true d 322 [.ref P.1] P (mS1 μ2 34 r2) (fun r3 μ3 => MC X W true d 297 [.ref P.1, .int 107] P (mS1 (mS1 μ3 34 (μ1.1 34)) 40 ((μ3.1 40) - 1)) (fun r4 μ4 => (((0 : Int) ≤ x1.toInt → (MI x2 (μ4.2.2 27) ∧ ME X W true d 321 4 [(0, .ref P.1), (1, .int x1), (2, .int r3)] [] P (mA1 μ4 27 x2.toNatClampNeg r3) R T)) ∧ (x1.toInt < (0 : Int) → ME X W true d 321 4 [(0, .ref P.1), (1, .int r3), (2, .int r3)] [] P μ4 R T))) T) T) (fun _ => False)) ∧ ((μ1.1 40) = 20 → MC X W true d 291 [.ref P.1] P μ1 (fun r5 μ5 => MC X W true d 289 [.ref P.1, .int 3, .int r5] P μ5 (fun r6 μ6 => MC X W true d 291 [.ref P.1] P (mS1 μ6 40 ((μ6.1 40) + 1)) (fun r7 μ7 => MC X W true d 322 [.ref P.1] P (mS1 μ7 34 r7) (fun r8 μ8 => MC X W true d 297 [.ref P.1, .int 107] P (mS1 (mS1 μ8 34 (μ6.1 34)) 40 ((μ8.1 40) - 1)) (fun r9 μ9 => (((0 : Int) ≤ x1.toInt → (MI x2 (μ9.2.2 27) ∧ ME X W true d 321 4 [(0, .ref P.1), (1, .int x1), (2, .int r8)] [] P (mA1 μ9 27 x2.toNatClampNeg r8) R T)) ∧ (x1.toInt < (0 : Int) → ME X W true d 321 4 [(0, .ref P.1), (1, .int r8), (2, .int r8)] [] P μ9 R T))) T) T) (fun _ => False)) T) (fun _ => False)))))) (fun _ => False)) : ME X W true d 321 4 [(0, .ref P.1), (1, .int x1), (2, .int x2)] [] P μ R T := by
  refine me_go (pc1 := 5) (lv1 := [(0, .ref P.1), (1, .int x1), (2, .int x2)]) (st1 := [.ref P.1]) 1 rfl ?_
  refine me_callN rfl rfl rfl (h.mono (fun r1 μ1 h => ?_) (fun _ h => h))
  refine me_ifc rfl rfl (fun c => ?_) (fun c => ?_)
  · replace h := h.1 (ci_eq c)
    refine me_go (pc1 := 104) (lv1 := [(0, .ref P.1), (1, .int x1), (2, .int x2)]) (st1 := [.int x1]) 1 rfl ?_
    exact me_ret rfl rfl rfl h
  · replace h := h.2 (cn_eq c)
    refine me_go (pc1 := 12) (lv1 := [(0, .ref P.1), (1, .int x1), (2, .int x2)]) (st1 := [.ref P.1]) 1 rfl ?_
    refine me_getf (v := .int (μ1.1 40)) rfl rfl rfl ?_
    refine me_go (pc1 := 17) (lv1 := [(0, .ref P.1), (1, .int x1), (2, .int x2)]) (st1 := [.int 20, .int (μ1.1 40)]) 1 rfl ?_
    refine me_icmp rfl rfl (fun c => ?_) (fun c => ?_)
    · replace h := h.1 (ci_ne c)
      refine me_go (pc1 := 31) (lv1 := [(0, .ref P.1), (1, .int x1), (2, .int x2)]) (st1 := [.ref P.1, .ref P.1]) 2 rfl ?_
      refine me_getf (v := .int (μ1.1 40)) rfl rfl rfl ?_
      refine me_go (pc1 := 36) (lv1 := [(0, .ref P.1), (1, .int x1), (2, .int x2)]) (st1 := [.int ((μ1.1 40) + 1), .ref P.1]) 2 rfl ?_
      refine me_put rfl rfl rfl ?_
      refine me_go (pc1 := 40) (lv1 := [(0, .ref P.1), (1, .int x1), (2, .int x2)]) (st1 := [.ref P.1]) 1 rfl ?_
      refine me_getf (v := .int (μ1.1 34)) rfl rfl rfl ?_
      refine me_go (pc1 := 46) (lv1 := [(3, .int (μ1.1 34)), (0, .ref P.1), (1, .int x1), (2, .int x2)]) (st1 := [.ref P.1, .ref P.1]) 3 rfl ?_
      refine me_callN rfl rfl rfl (h.mono (fun r2 μ2 h => ?_) (fun _ h => h))
      refine me_put rfl rfl rfl ?_
      refine me_go (pc1 := 53) (lv1 := [(3, .int (μ1.1 34)), (0, .ref P.1), (1, .int x1), (2, .int x2)]) (st1 := [.ref P.1]) 1 rfl ?_
      refine me_call rfl rfl rfl rfl (h.mono (fun r3 μ3 h => ?_) (fun _ h => h))
      refine me_go (pc1 := 60) (lv1 := [(4, .int r3), (3, .int (μ1.1 34)), (0, .ref P.1), (1, .int x1), (2, .int x2)]) (st1 := [.int (μ1.1 34), .ref P.1]) 3 rfl ?_
      refine me_put rfl rfl rfl ?_
      refine me_go (pc1 := 65) (lv1 := [(4, .int r3), (3, .int (μ1.1 34)), (0, .ref P.1), (1, .int x1), (2, .int x2)]) (st1 := [.ref P.1, .ref P.1]) 2 rfl ?_
      refine me_getf (v := .int (μ3.1 40)) rfl rfl rfl ?_
      refine me_go (pc1 := 70) (lv1 := [(4, .int r3), (3, .int (μ1.1 34)), (0, .ref P.1), (1, .int x1), (2, .int x2)]) (st1 := [.int ((μ3.1 40) - 1), .ref P.1]) 2 rfl ?_
      refine me_put rfl rfl rfl ?_
      refine me_go (pc1 := 76) (lv1 := [(4, .int r3), (3, .int (μ1.1 34)), (0, .ref P.1), (1, .int x1), (2, .int x2)]) (st1 := [.int 107, .ref P.1]) 2 rfl ?_
      refine me_call rfl rfl rfl rfl (h.mono (fun r4 μ4 h => ?_) (fun _ h => h))
      refine me_go (pc1 := 80) (lv1 := [(4, .int r3), (3, .int (μ1.1 34)), (0, .ref P.1), (1, .int x1), (2, .int x2)]) (st1 := [.int x1]) 1 rfl ?_
      refine me_ifc rfl rfl (fun c => ?_) (fun c => ?_)
      · replace h := h.1 (ci_ge c)
        refine me_go (pc1 := 90) (lv1 := [(4, .int r3), (3, .int (μ1.1 34)), (0, .ref P.1), (1, .int x1), (2, .int x2)]) (st1 := [.ref P.1]) 1 rfl ?_
        refine me_getf (v := .ref (P.2.1 27)) rfl rfl rfl ?_
        refine me_go (pc1 := 96) (lv1 := [(4, .int r3), (3, .int (μ1.1 34)), (0, .ref P.1), (1, .int x1), (2, .int x2)]) (st1 := [.int r3, .int x2, .ref (P.2.1 27)]) 2 rfl ?_
        have hi := h.1
        replace h := h.2
        refine me_iast rfl (g := 27) rfl rfl hi ?_
        refine me_go (pc1 := 4) (lv1 := [(2, .int r3), (4, .int r3), (3, .int (μ1.1 34)), (0, .ref P.1), (1, .int x1)]) (st1 := []) 3 rfl ?_
        refine me_lv [(0, .ref P.1), (1, .int x1), (2, .int r3)] (fl_c rfl (fl_c rfl (fl_c rfl fl_0))) ?_
        exact h
      · replace h := h.2 (cn_ge c)
        refine me_go (pc1 := 4) (lv1 := [(2, .int r3), (1, .int r3), (4, .int r3), (3, .int (μ1.1 34)), (0, .ref P.1)]) (st1 := []) 6 rfl ?_
        refine me_lv [(0, .ref P.1), (1, .int r3), (2, .int r3)] (fl_c rfl (fl_c rfl (fl_c rfl fl_0))) ?_
        exact h
    · replace h := h.2 (cn_ne c)
      refine me_go (pc1 := 23) (lv1 := [(0, .ref P.1), (1, .int x1), (2, .int x2)]) (st1 := [.ref P.1, .int 3, .ref P.1]) 3 rfl ?_
      refine me_callN rfl rfl rfl (h.mono (fun r5 μ5 h => ?_) (fun _ h => h))
      refine me_call rfl rfl rfl rfl (h.mono (fun r6 μ6 h => ?_) (fun _ h => h))
      refine me_go (pc1 := 31) (lv1 := [(0, .ref P.1), (1, .int x1), (2, .int x2)]) (st1 := [.ref P.1, .ref P.1]) 2 rfl ?_
      refine me_getf (v := .int (μ6.1 40)) rfl rfl rfl ?_
      refine me_go (pc1 := 36) (lv1 := [(0, .ref P.1), (1, .int x1), (2, .int x2)]) (st1 := [.int ((μ6.1 40) + 1), .ref P.1]) 2 rfl ?_
      refine me_put rfl rfl rfl ?_
      refine me_go (pc1 := 40) (lv1 := [(0, .ref P.1), (1, .int x1), (2, .int x2)]) (st1 := [.ref P.1]) 1 rfl ?_
      refine me_getf (v := .int (μ6.1 34)) rfl rfl rfl ?_
      refine me_go (pc1 := 46) (lv1 := [(3, .int (μ6.1 34)), (0, .ref P.1), (1, .int x1), (2, .int x2)]) (st1 := [.ref P.1, .ref P.1]) 3 rfl ?_
      refine me_callN rfl rfl rfl (h.mono (fun r7 μ7 h => ?_) (fun _ h => h))
      refine me_put rfl rfl rfl ?_
      refine me_go (pc1 := 53) (lv1 := [(3, .int (μ6.1 34)), (0, .ref P.1), (1, .int x1), (2, .int x2)]) (st1 := [.ref P.1]) 1 rfl ?_
      refine me_call rfl rfl rfl rfl (h.mono (fun r8 μ8 h => ?_) (fun _ h => h))
      refine me_go (pc1 := 60) (lv1 := [(4, .int r8), (3, .int (μ6.1 34)), (0, .ref P.1), (1, .int x1), (2, .int x2)]) (st1 := [.int (μ6.1 34), .ref P.1]) 3 rfl ?_
      refine me_put rfl rfl rfl ?_
      refine me_go (pc1 := 65) (lv1 := [(4, .int r8), (3, .int (μ6.1 34)), (0, .ref P.1), (1, .int x1), (2, .int x2)]) (st1 := [.ref P.1, .ref P.1]) 2 rfl ?_
      refine me_getf (v := .int (μ8.1 40)) rfl rfl rfl ?_
      refine me_go (pc1 := 70) (lv1 := [(4, .int r8), (3, .int (μ6.1 34)), (0, .ref P.1), (1, .int x1), (2, .int x2)]) (st1 := [.int ((μ8.1 40) - 1), .ref P.1]) 2 rfl ?_
      refine me_put rfl rfl rfl ?_
      refine me_go (pc1 := 76) (lv1 := [(4, .int r8), (3, .int (μ6.1 34)), (0, .ref P.1), (1, .int x1), (2, .int x2)]) (st1 := [.int 107, .ref P.1]) 2 rfl ?_
      refine me_call rfl rfl rfl rfl (h.mono (fun r9 μ9 h => ?_) (fun _ h => h))
      refine me_go (pc1 := 80) (lv1 := [(4, .int r8), (3, .int (μ6.1 34)), (0, .ref P.1), (1, .int x1), (2, .int x2)]) (st1 := [.int x1]) 1 rfl ?_
      refine me_ifc rfl rfl (fun c => ?_) (fun c => ?_)
      · replace h := h.1 (ci_ge c)
        refine me_go (pc1 := 90) (lv1 := [(4, .int r8), (3, .int (μ6.1 34)), (0, .ref P.1), (1, .int x1), (2, .int x2)]) (st1 := [.ref P.1]) 1 rfl ?_
        refine me_getf (v := .ref (P.2.1 27)) rfl rfl rfl ?_
        refine me_go (pc1 := 96) (lv1 := [(4, .int r8), (3, .int (μ6.1 34)), (0, .ref P.1), (1, .int x1), (2, .int x2)]) (st1 := [.int r8, .int x2, .ref (P.2.1 27)]) 2 rfl ?_
        have hi := h.1
        replace h := h.2
        refine me_iast rfl (g := 27) rfl rfl hi ?_
        refine me_go (pc1 := 4) (lv1 := [(2, .int r8), (4, .int r8), (3, .int (μ6.1 34)), (0, .ref P.1), (1, .int x1)]) (st1 := []) 3 rfl ?_
        refine me_lv [(0, .ref P.1), (1, .int x1), (2, .int r8)] (fl_c rfl (fl_c rfl (fl_c rfl fl_0))) ?_
        exact h
      · replace h := h.2 (cn_ge c)
        refine me_go (pc1 := 4) (lv1 := [(2, .int r8), (1, .int r8), (4, .int r8), (3, .int (μ6.1 34)), (0, .ref P.1)]) (st1 := []) 6 rfl ?_
        refine me_lv [(0, .ref P.1), (1, .int r8), (2, .int r8)] (fl_c rfl (fl_c rfl (fl_c rfl fl_0))) ?_
        exact h
theorem v_statement_0 {X : ev_X} {W : Nat → Prop} {d : Nat} {P : MP} {μ : MS} {R : Int32 → MS → Prop} {T : MS → Prop}  (h : MC X W true d 292 [.ref P.1, .int 43, .int (-1), .int (-1)] P μ (fun r1 μ1 => (MI (μ1.1 32) (μ1.2.2 9) ∧ ((¬ (μ1.2.1 9 ((μ1.1 32)).toNatClampNeg) = 200 → MC X W true d 294 [.ref P.1] P μ1 (fun r2 μ2 => ((((μ1.2.1 9 ((μ1.1 32)).toNatClampNeg) = 13) → ME X W true d 322 553 [(0, .ref P.1), (1, .int r1), (2, .int (μ1.2.1 9 ((μ1.1 32)).toNatClampNeg))] [] P μ2 R T) ∧ (((μ1.2.1 9 ((μ1.1 32)).toNatClampNeg) = 16) → MC X W true d 324 [.ref P.1, .int r1] P μ2 (fun r3 μ3 => ME X W true d 322 553 [(0, .ref P.1), (1, .int r1), (2, .int (μ1.2.1 9 ((μ1.1 32)).toNatClampNeg))] [] P μ3 R T) T) ∧ (((μ1.2.1 9 ((μ1.1 32)).toNatClampNeg) = 18) → (MI r1 (μ2.2.2 20) ∧ MC X W true d 323 [.ref P.1] P (mA1 μ2 20 r1.toNatClampNeg 44) (fun r4 μ4 => (MI r1 (μ4.2.2 22) ∧ ME X W true d 322 553 [(0, .ref P.1), (1, .int r1), (2, .int (μ1.2.1 9 ((μ1.1 32)).toNatClampNeg))] [] P (mA1 μ4 22 r1.toNatClampNeg r4) R T)) T)) ∧ (((μ1.2.1 9 ((μ1.1 32)).toNatClampNeg) = 24) → (MI r1 (μ2.2.2 20) ∧ MC X W true d 332 [.ref P.1] P (mA1 μ2 20 r1.toNatClampNeg 54) (fun r5 μ5 => (MI r1 (μ5.2.2 22) ∧ MC X W true d 297 [.ref P.1, .int 7] P (mA1 μ5 22 r1.toNatClampNeg r5) (fun r6 μ6 => MC X W true d 321 [.ref P.1] P μ6 (fun r7 μ7 => (MI r1 (μ7.2.2 23) ∧ MC X W true d 297 [.ref P.1, .int 10] P (mA1 μ7 23 r1.toNatClampNeg r7) (fun r8 μ8 => ME X W true d 322 553 [(0, .ref P.1), (1, .int r1), (2, .int (μ1.2.1 9 ((μ1.1 32)).toNatClampNeg))] [] P μ8 R T) T)) T) T)) T)) ∧ (((μ1.2.1 9 ((μ1.1 32)).toNatClampNeg) = 25) → (MI r1 (μ2.2.2 20) ∧ MC X W true d 321 [.ref P.1] P (mA1 μ2 20 r1.toNatClampNeg 47) (fun r9 μ9 => (MI r1 (μ9.2.2 23) ∧ MC X W true d 297 [.ref P.1, .int 10] P (mA1 μ9 23 r1.toNatClampNeg r9) (fun r10 μ10 => ME X W true d 322 553 [(0, .ref P.1), (1, .int r1), (2, .int (μ1.2.1 9 ((μ1.1 32)).toNatClampNeg))] [] P μ10 R T) T)) T)) ∧ (((μ1.2.1 9 ((μ1.1 32)).toNatClampNeg) = 40) → (MI r1 (μ2.2.2 20) ∧ MC X W true d 305 [.ref P.1] P (mA1 μ2 20 r1.toNatClampNeg 50) (fun r11 μ11 => (MI r1 (μ11.2.2 22) ∧ MC X W true d 299 [.ref P.1, .int 100] P (mA1 μ11 22 r1.toNatClampNeg r11) (fun r12 μ12 => MC X W true d 332 [.ref P.1] P μ12 (fun r13 μ13 => (MI r1 (μ13.2.2 23) ∧ MC X W true d 300 [.ref P.1, .int 101] P (mA1 μ13 23 r1.toNatClampNeg r13) (fun r14 μ14 => ME X W true d 322 553 [(0, .ref P.1), (1, .int r1), (2, .int (μ1.2.1 9 ((μ1.1 32)).toNatClampNeg))] [] P μ14 R T) T)) T) T)) T)) ∧ (((μ1.2.1 9 ((μ1.1 32)).toNatClampNeg) = 44) → (MI r1 (μ2.2.2 20) ∧ MC X W true d 296 [.ref P.1, .int 107] P (mA1 μ2 20 r1.toNatClampNeg 49) (fun r15 μ15 => ((¬ r15 = 0 → ME X W true d 322 553 [(0, .ref P.1), (1, .int r1), (2, .int (μ1.2.1 9 ((μ1.1 32)).toNatClampNeg))] [] P μ15 R T) ∧ (r15 = 0 → MC X W true d 332 [.ref P.1] P μ15 (fun r16 μ16 => (MI r1 (μ16.2.2 22) ∧ ME X W true d 322 553 [(0, .ref P.1), (1, .int r1), (2, .int (μ1.2.1 9 ((μ1.1 32)).toNatClampNeg))] [] P (mA1 μ16 22 r1.toNatClampNeg r16) R T)) T))) (fun _ => False))) ∧ (((μ1.2.1 9 ((μ1.1 32)).toNatClampNeg) = 52) → MC X W true d 325 [.ref P.1, .int r1] P μ2 (fun r17 μ17 => ME X W true d 322 553 [(0, .ref P.1), (1, .int r1), (2, .int (μ1.2.1 9 ((μ1.1 32)).toNatClampNeg))] [] P μ17 R T) T) ∧ (((μ1.2.1 9 ((μ1.1 32)).toNatClampNeg) = 54) → MC X W true d 327 [.ref P.1, .int r1] P μ2 (fun r18 μ18 => ME X W true d 322 553 [(0, .ref P.1), (1, .int r1), (2, .int (μ1.2.1 9 ((μ1.1 32)).toNatClampNeg))] [] P μ18 R T) T) ∧ (((μ1.2.1 9 ((μ1.1 32)).toNatClampNeg) = 56) → (MI r1 (μ2.2.2 20) ∧ MC X W true d 332 [.ref P.1] P (mA1 μ2 20 r1.toNatClampNeg 55) (fun r19 μ19 => (MI r1 (μ19.2.2 22) ∧ MC X W true d 297 [.ref P.1, .int 106] P (mA1 μ19 22 r1.toNatClampNeg r19) (fun r20 μ20 => MC X W true d 332 [.ref P.1] P μ20 (fun r21 μ21 => (MI r1 (μ21.2.2 23) ∧ ME X W true d 322 553 [(0, .ref P.1), (1, .int r1), (2, .int (μ1.2.1 9 ((μ1.1 32)).toNatClampNeg))] [] P (mA1 μ21 23 r1.toNatClampNeg r21) R T)) T) T)) T)) ∧ (((μ1.2.1 9 ((μ1.1 32)).toNatClampNeg) = 57) → (MI r1 (μ2.2.2 20) ∧ MC X W true d 332 [.ref P.1] P (mA1 μ2 20 r1.toNatClampNeg 46) (fun r22 μ22 => (MI r1 (μ22.2.2 22) ∧ MC X W true d 297 [.ref P.1, .int 7] P (mA1 μ22 22 r1.toNatClampNeg r22) (fun r23 μ23 => MC X W true d 321 [.ref P.1] P μ23 (fun r24 μ24 => (MI r1 (μ24.2.2 23) ∧ MC X W true d 297 [.ref P.1, .int 10] P (mA1 μ24 23 r1.toNatClampNeg r24) (fun r25 μ25 => ME X W true d 322 553 [(0, .ref P.1), (1, .int r1), (2, .int (μ1.2.1 9 ((μ1.1 32)).toNatClampNeg))] [] P μ25 R T) T)) T) T)) T)) ∧ ((∀ v ∈ [(13 : Int32), (16 : Int32), (18 : Int32), (24 : Int32), (25 : Int32), (40 : Int32), (44 : Int32), (52 : Int32), (54 : Int32), (56 : Int32), (57 : Int32)], ¬ (μ1.2.1 9 ((μ1.1 32)).toNatClampNeg) = v) → ((¬ (μ1.2.1 9 ((μ1.1 32)).toNatClampNeg) = 47 → ((¬ (μ1.2.1 9 ((μ1.1 32)).toNatClampNeg) = 4 → ((¬ (μ1.2.1 9 ((μ1.1 32)).toNatClampNeg) = 23 → (MI r1 (μ2.2.2 20) ∧ MC X W true d 332 [.ref P.1] P (mA1 μ2 20 r1.toNatClampNeg 59) (fun r26 μ26 => (MI r1 (μ26.2.2 22) ∧ ME X W true d 322 553 [(0, .ref P.1), (1, .int r1), (2, .int (μ1.2.1 9 ((μ1.1 32)).toNatClampNeg))] [] P (mA1 μ26 22 r1.toNatClampNeg r26) R T)) T)) ∧ ((μ1.2.1 9 ((μ1.1 32)).toNatClampNeg) = 23 → (MI r1 (μ2.2.2 20) ∧ MC X W true d 332 [.ref P.1] P (mA1 μ2 20 r1.toNatClampNeg 58) (fun r27 μ27 => (MI r1 (μ27.2.2 22) ∧ ME X W true d 322 553 [(0, .ref P.1), (1, .int r1), (2, .int (μ1.2.1 9 ((μ1.1 32)).toNatClampNeg))] [] P (mA1 μ27 22 r1.toNatClampNeg r27) R T)) T)))) ∧ ((μ1.2.1 9 ((μ1.1 32)).toNatClampNeg) = 4 → (MI r1 (μ2.2.2 20) ∧ MC X W true d 332 [.ref P.1] P (mA1 μ2 20 r1.toNatClampNeg 57) (fun r28 μ28 => (MI r1 (μ28.2.2 22) ∧ ME X W true d 322 553 [(0, .ref P.1), (1, .int r1), (2, .int (μ1.2.1 9 ((μ1.1 32)).toNatClampNeg))] [] P (mA1 μ28 22 r1.toNatClampNeg r28) R T)) T)))) ∧ ((μ1.2.1 9 ((μ1.1 32)).toNatClampNeg) = 47 → (MI r1 (μ2.2.2 20) ∧ MC X W true d 332 [.ref P.1] P (mA1 μ2 20 r1.toNatClampNeg 56) (fun r29 μ29 => (MI r1 (μ29.2.2 22) ∧ ME X W true d 322 553 [(0, .ref P.1), (1, .int r1), (2, .int (μ1.2.1 9 ((μ1.1 32)).toNatClampNeg))] [] P (mA1 μ29 22 r1.toNatClampNeg r29) R T)) T)))))) T) ∧ ((μ1.2.1 9 ((μ1.1 32)).toNatClampNeg) = 200 → MC X W true d 329 [.ref P.1, .int r1] P μ1 (fun r30 μ30 => R r1 μ30) T)))) (fun _ => False)) : ME X W true d 322 0 [(0, .ref P.1)] [] P μ R T := by
  refine me_go (pc1 := 5) (lv1 := [(0, .ref P.1)]) (st1 := [.int (-1), .int (-1), .int 43, .ref P.1]) 4 rfl ?_
  refine me_callN rfl rfl rfl (h.mono (fun r1 μ1 h => ?_) (fun _ h => h))
  refine me_go (pc1 := 10) (lv1 := [(1, .int r1), (0, .ref P.1)]) (st1 := [.ref P.1]) 2 rfl ?_
  refine me_getf (v := .ref (P.2.1 9)) rfl rfl rfl ?_
  refine me_go (pc1 := 14) (lv1 := [(1, .int r1), (0, .ref P.1)]) (st1 := [.ref P.1, .ref (P.2.1 9)]) 1 rfl ?_
  refine me_getf (v := .int (μ1.1 32)) rfl rfl rfl ?_
  refine me_iald rfl (g := 9) rfl rfl h.1 ?_
  replace h := h.2
  refine me_go (pc1 := 23) (lv1 := [(2, .int (μ1.2.1 9 ((μ1.1 32)).toNatClampNeg)), (1, .int r1), (0, .ref P.1)]) (st1 := [.int 200, .int (μ1.2.1 9 ((μ1.1 32)).toNatClampNeg)]) 3 rfl ?_
  refine me_icmp rfl rfl (fun c => ?_) (fun c => ?_)
  · replace h := h.1 (ci_ne c)
    refine me_go (pc1 := 34) (lv1 := [(2, .int (μ1.2.1 9 ((μ1.1 32)).toNatClampNeg)), (1, .int r1), (0, .ref P.1)]) (st1 := [.ref P.1]) 1 rfl ?_
    refine me_call rfl rfl rfl rfl (h.mono (fun r2 μ2 h => ?_) (fun _ h => h))
    refine me_go (pc1 := 38) (lv1 := [(2, .int (μ1.2.1 9 ((μ1.1 32)).toNatClampNeg)), (1, .int r1), (0, .ref P.1)]) (st1 := [.int (μ1.2.1 9 ((μ1.1 32)).toNatClampNeg)]) 1 rfl ?_
    have hD := h
    have q38_0 : ((μ1.2.1 9 ((μ1.1 32)).toNatClampNeg) = 13) → ME X W true d 322 232 [(2, .int (μ1.2.1 9 ((μ1.1 32)).toNatClampNeg)), (1, .int r1), (0, .ref P.1)] [] P μ2 R T := fun c => by
        replace h := hD.1 c
        refine me_go (pc1 := 553) (lv1 := [(2, .int (μ1.2.1 9 ((μ1.1 32)).toNatClampNeg)), (1, .int r1), (0, .ref P.1)]) (st1 := []) 1 rfl ?_
        refine me_lv [(0, .ref P.1), (1, .int r1), (2, .int (μ1.2.1 9 ((μ1.1 32)).toNatClampNeg))] (fl_c rfl (fl_c rfl (fl_c rfl fl_0))) ?_
        exact h
    have q38_1 : ((μ1.2.1 9 ((μ1.1 32)).toNatClampNeg) = 16) → ME X W true d 322 326 [(2, .int (μ1.2.1 9 ((μ1.1 32)).toNatClampNeg)), (1, .int r1), (0, .ref P.1)] [] P μ2 R T := fun c => by
        replace h := hD.2.1 c
        refine me_go (pc1 := 328) (lv1 := [(2, .int (μ1.2.1 9 ((μ1.1 32)).toNatClampNeg)), (1, .int r1), (0, .ref P.1)]) (st1 := [.int r1, .ref P.1]) 2 rfl ?_
        refine me_call rfl rfl rfl rfl (h.mono (fun r3 μ3 h => ?_) (fun _ h => h))
        refine me_go (pc1 := 553) (lv1 := [(2, .int (μ1.2.1 9 ((μ1.1 32)).toNatClampNeg)), (1, .int r1), (0, .ref P.1)]) (st1 := []) 1 rfl ?_
        refine me_lv [(0, .ref P.1), (1, .int r1), (2, .int (μ1.2.1 9 ((μ1.1 32)).toNatClampNeg))] (fl_c rfl (fl_c rfl (fl_c rfl fl_0))) ?_
        exact h
    have q38_2 : ((μ1.2.1 9 ((μ1.1 32)).toNatClampNeg) = 18) → ME X W true d 322 235 [(2, .int (μ1.2.1 9 ((μ1.1 32)).toNatClampNeg)), (1, .int r1), (0, .ref P.1)] [] P μ2 R T := fun c => by
        replace h := hD.2.2.1 c
        refine me_go (pc1 := 236) (lv1 := [(2, .int (μ1.2.1 9 ((μ1.1 32)).toNatClampNeg)), (1, .int r1), (0, .ref P.1)]) (st1 := [.ref P.1]) 1 rfl ?_
        refine me_getf (v := .ref (P.2.1 20)) rfl rfl rfl ?_
        refine me_go (pc1 := 242) (lv1 := [(2, .int (μ1.2.1 9 ((μ1.1 32)).toNatClampNeg)), (1, .int r1), (0, .ref P.1)]) (st1 := [.int 44, .int r1, .ref (P.2.1 20)]) 2 rfl ?_
        have hi := h.1
        replace h := h.2
        refine me_iast rfl (g := 20) rfl rfl hi ?_
        refine me_go (pc1 := 244) (lv1 := [(2, .int (μ1.2.1 9 ((μ1.1 32)).toNatClampNeg)), (1, .int r1), (0, .ref P.1)]) (st1 := [.ref P.1]) 1 rfl ?_
        refine me_getf (v := .ref (P.2.1 22)) rfl rfl rfl ?_
        refine me_go (pc1 := 249) (lv1 := [(2, .int (μ1.2.1 9 ((μ1.1 32)).toNatClampNeg)), (1, .int r1), (0, .ref P.1)]) (st1 := [.ref P.1, .int r1, .ref (P.2.1 22)]) 2 rfl ?_
        refine me_call rfl rfl rfl rfl (h.mono (fun r4 μ4 h => ?_) (fun _ h => h))
        have hi := h.1
        replace h := h.2
        refine me_iast rfl (g := 22) rfl rfl hi ?_
        refine me_go (pc1 := 553) (lv1 := [(2, .int (μ1.2.1 9 ((μ1.1 32)).toNatClampNeg)), (1, .int r1), (0, .ref P.1)]) (st1 := []) 1 rfl ?_
        refine me_lv [(0, .ref P.1), (1, .int r1), (2, .int (μ1.2.1 9 ((μ1.1 32)).toNatClampNeg))] (fl_c rfl (fl_c rfl (fl_c rfl fl_0))) ?_
        exact h
    have q38_3 : ((μ1.2.1 9 ((μ1.1 32)).toNatClampNeg) = 24) → ME X W true d 322 415 [(2, .int (μ1.2.1 9 ((μ1.1 32)).toNatClampNeg)), (1, .int r1), (0, .ref P.1)] [] P μ2 R T := fun c => by
        replace h := hD.2.2.2.1 c
        refine me_go (pc1 := 416) (lv1 := [(2, .int (μ1.2.1 9 ((μ1.1 32)).toNatClampNeg)), (1, .int r1), (0, .ref P.1)]) (st1 := [.ref P.1]) 1 rfl ?_
        refine me_getf (v := .ref (P.2.1 20)) rfl rfl rfl ?_
        refine me_go (pc1 := 422) (lv1 := [(2, .int (μ1.2.1 9 ((μ1.1 32)).toNatClampNeg)), (1, .int r1), (0, .ref P.1)]) (st1 := [.int 54, .int r1, .ref (P.2.1 20)]) 2 rfl ?_
        have hi := h.1
        replace h := h.2
        refine me_iast rfl (g := 20) rfl rfl hi ?_
        refine me_go (pc1 := 424) (lv1 := [(2, .int (μ1.2.1 9 ((μ1.1 32)).toNatClampNeg)), (1, .int r1), (0, .ref P.1)]) (st1 := [.ref P.1]) 1 rfl ?_
        refine me_getf (v := .ref (P.2.1 22)) rfl rfl rfl ?_
        refine me_go (pc1 := 429) (lv1 := [(2, .int (μ1.2.1 9 ((μ1.1 32)).toNatClampNeg)), (1, .int r1), (0, .ref P.1)]) (st1 := [.ref P.1, .int r1, .ref (P.2.1 22)]) 2 rfl ?_
        refine me_call rfl rfl rfl rfl (h.mono (fun r5 μ5 h => ?_) (fun _ h => h))
        have hi := h.1
        replace h := h.2
        refine me_iast rfl (g := 22) rfl rfl hi ?_
        refine me_go (pc1 := 436) (lv1 := [(2, .int (μ1.2.1 9 ((μ1.1 32)).toNatClampNeg)), (1, .int r1), (0, .ref P.1)]) (st1 := [.int 7, .ref P.1]) 2 rfl ?_
        refine me_call rfl rfl rfl rfl (h.mono (fun r6 μ6 h => ?_) (fun _ h => h))
        refine me_go (pc1 := 440) (lv1 := [(2, .int (μ1.2.1 9 ((μ1.1 32)).toNatClampNeg)), (1, .int r1), (0, .ref P.1)]) (st1 := [.ref P.1]) 1 rfl ?_
        refine me_getf (v := .ref (P.2.1 23)) rfl rfl rfl ?_
        refine me_go (pc1 := 445) (lv1 := [(2, .int (μ1.2.1 9 ((μ1.1 32)).toNatClampNeg)), (1, .int r1), (0, .ref P.1)]) (st1 := [.ref P.1, .int r1, .ref (P.2.1 23)]) 2 rfl ?_
        refine me_call rfl rfl rfl rfl (h.mono (fun r7 μ7 h => ?_) (fun _ h => h))
        have hi := h.1
        replace h := h.2
        refine me_iast rfl (g := 23) rfl rfl hi ?_
        refine me_go (pc1 := 452) (lv1 := [(2, .int (μ1.2.1 9 ((μ1.1 32)).toNatClampNeg)), (1, .int r1), (0, .ref P.1)]) (st1 := [.int 10, .ref P.1]) 2 rfl ?_
        refine me_call rfl rfl rfl rfl (h.mono (fun r8 μ8 h => ?_) (fun _ h => h))
        refine me_go (pc1 := 553) (lv1 := [(2, .int (μ1.2.1 9 ((μ1.1 32)).toNatClampNeg)), (1, .int r1), (0, .ref P.1)]) (st1 := []) 1 rfl ?_
        refine me_lv [(0, .ref P.1), (1, .int r1), (2, .int (μ1.2.1 9 ((μ1.1 32)).toNatClampNeg))] (fl_c rfl (fl_c rfl (fl_c rfl fl_0))) ?_
        exact h
    have q38_4 : ((μ1.2.1 9 ((μ1.1 32)).toNatClampNeg) = 25) → ME X W true d 322 299 [(2, .int (μ1.2.1 9 ((μ1.1 32)).toNatClampNeg)), (1, .int r1), (0, .ref P.1)] [] P μ2 R T := fun c => by
        replace h := hD.2.2.2.2.1 c
        refine me_go (pc1 := 300) (lv1 := [(2, .int (μ1.2.1 9 ((μ1.1 32)).toNatClampNeg)), (1, .int r1), (0, .ref P.1)]) (st1 := [.ref P.1]) 1 rfl ?_
        refine me_getf (v := .ref (P.2.1 20)) rfl rfl rfl ?_
        refine me_go (pc1 := 306) (lv1 := [(2, .int (μ1.2.1 9 ((μ1.1 32)).toNatClampNeg)), (1, .int r1), (0, .ref P.1)]) (st1 := [.int 47, .int r1, .ref (P.2.1 20)]) 2 rfl ?_
        have hi := h.1
        replace h := h.2
        refine me_iast rfl (g := 20) rfl rfl hi ?_
        refine me_go (pc1 := 308) (lv1 := [(2, .int (μ1.2.1 9 ((μ1.1 32)).toNatClampNeg)), (1, .int r1), (0, .ref P.1)]) (st1 := [.ref P.1]) 1 rfl ?_
        refine me_getf (v := .ref (P.2.1 23)) rfl rfl rfl ?_
        refine me_go (pc1 := 313) (lv1 := [(2, .int (μ1.2.1 9 ((μ1.1 32)).toNatClampNeg)), (1, .int r1), (0, .ref P.1)]) (st1 := [.ref P.1, .int r1, .ref (P.2.1 23)]) 2 rfl ?_
        refine me_call rfl rfl rfl rfl (h.mono (fun r9 μ9 h => ?_) (fun _ h => h))
        have hi := h.1
        replace h := h.2
        refine me_iast rfl (g := 23) rfl rfl hi ?_
        refine me_go (pc1 := 320) (lv1 := [(2, .int (μ1.2.1 9 ((μ1.1 32)).toNatClampNeg)), (1, .int r1), (0, .ref P.1)]) (st1 := [.int 10, .ref P.1]) 2 rfl ?_
        refine me_call rfl rfl rfl rfl (h.mono (fun r10 μ10 h => ?_) (fun _ h => h))
        refine me_go (pc1 := 553) (lv1 := [(2, .int (μ1.2.1 9 ((μ1.1 32)).toNatClampNeg)), (1, .int r1), (0, .ref P.1)]) (st1 := []) 1 rfl ?_
        refine me_lv [(0, .ref P.1), (1, .int r1), (2, .int (μ1.2.1 9 ((μ1.1 32)).toNatClampNeg))] (fl_c rfl (fl_c rfl (fl_c rfl fl_0))) ?_
        exact h
    have q38_5 : ((μ1.2.1 9 ((μ1.1 32)).toNatClampNeg) = 40) → ME X W true d 322 364 [(2, .int (μ1.2.1 9 ((μ1.1 32)).toNatClampNeg)), (1, .int r1), (0, .ref P.1)] [] P μ2 R T := fun c => by
        replace h := hD.2.2.2.2.2.1 c
        refine me_go (pc1 := 365) (lv1 := [(2, .int (μ1.2.1 9 ((μ1.1 32)).toNatClampNeg)), (1, .int r1), (0, .ref P.1)]) (st1 := [.ref P.1]) 1 rfl ?_
        refine me_getf (v := .ref (P.2.1 20)) rfl rfl rfl ?_
        refine me_go (pc1 := 371) (lv1 := [(2, .int (μ1.2.1 9 ((μ1.1 32)).toNatClampNeg)), (1, .int r1), (0, .ref P.1)]) (st1 := [.int 50, .int r1, .ref (P.2.1 20)]) 2 rfl ?_
        have hi := h.1
        replace h := h.2
        refine me_iast rfl (g := 20) rfl rfl hi ?_
        refine me_go (pc1 := 373) (lv1 := [(2, .int (μ1.2.1 9 ((μ1.1 32)).toNatClampNeg)), (1, .int r1), (0, .ref P.1)]) (st1 := [.ref P.1]) 1 rfl ?_
        refine me_getf (v := .ref (P.2.1 22)) rfl rfl rfl ?_
        refine me_go (pc1 := 378) (lv1 := [(2, .int (μ1.2.1 9 ((μ1.1 32)).toNatClampNeg)), (1, .int r1), (0, .ref P.1)]) (st1 := [.ref P.1, .int r1, .ref (P.2.1 22)]) 2 rfl ?_
        refine me_call rfl rfl rfl rfl (h.mono (fun r11 μ11 h => ?_) (fun _ h => h))
        have hi := h.1
        replace h := h.2
        refine me_iast rfl (g := 22) rfl rfl hi ?_
        refine me_go (pc1 := 385) (lv1 := [(2, .int (μ1.2.1 9 ((μ1.1 32)).toNatClampNeg)), (1, .int r1), (0, .ref P.1)]) (st1 := [.int 100, .ref P.1]) 2 rfl ?_
        refine me_call rfl rfl rfl rfl (h.mono (fun r12 μ12 h => ?_) (fun _ h => h))
        refine me_go (pc1 := 389) (lv1 := [(2, .int (μ1.2.1 9 ((μ1.1 32)).toNatClampNeg)), (1, .int r1), (0, .ref P.1)]) (st1 := [.ref P.1]) 1 rfl ?_
        refine me_getf (v := .ref (P.2.1 23)) rfl rfl rfl ?_
        refine me_go (pc1 := 394) (lv1 := [(2, .int (μ1.2.1 9 ((μ1.1 32)).toNatClampNeg)), (1, .int r1), (0, .ref P.1)]) (st1 := [.ref P.1, .int r1, .ref (P.2.1 23)]) 2 rfl ?_
        refine me_call rfl rfl rfl rfl (h.mono (fun r13 μ13 h => ?_) (fun _ h => h))
        have hi := h.1
        replace h := h.2
        refine me_iast rfl (g := 23) rfl rfl hi ?_
        refine me_go (pc1 := 401) (lv1 := [(2, .int (μ1.2.1 9 ((μ1.1 32)).toNatClampNeg)), (1, .int r1), (0, .ref P.1)]) (st1 := [.int 101, .ref P.1]) 2 rfl ?_
        refine me_call rfl rfl rfl rfl (h.mono (fun r14 μ14 h => ?_) (fun _ h => h))
        refine me_go (pc1 := 553) (lv1 := [(2, .int (μ1.2.1 9 ((μ1.1 32)).toNatClampNeg)), (1, .int r1), (0, .ref P.1)]) (st1 := []) 1 rfl ?_
        refine me_lv [(0, .ref P.1), (1, .int r1), (2, .int (μ1.2.1 9 ((μ1.1 32)).toNatClampNeg))] (fl_c rfl (fl_c rfl (fl_c rfl fl_0))) ?_
        exact h
    have q38_6 : ((μ1.2.1 9 ((μ1.1 32)).toNatClampNeg) = 44) → ME X W true d 322 334 [(2, .int (μ1.2.1 9 ((μ1.1 32)).toNatClampNeg)), (1, .int r1), (0, .ref P.1)] [] P μ2 R T := fun c => by
        replace h := hD.2.2.2.2.2.2.1 c
        refine me_go (pc1 := 335) (lv1 := [(2, .int (μ1.2.1 9 ((μ1.1 32)).toNatClampNeg)), (1, .int r1), (0, .ref P.1)]) (st1 := [.ref P.1]) 1 rfl ?_
        refine me_getf (v := .ref (P.2.1 20)) rfl rfl rfl ?_
        refine me_go (pc1 := 341) (lv1 := [(2, .int (μ1.2.1 9 ((μ1.1 32)).toNatClampNeg)), (1, .int r1), (0, .ref P.1)]) (st1 := [.int 49, .int r1, .ref (P.2.1 20)]) 2 rfl ?_
        have hi := h.1
        replace h := h.2
        refine me_iast rfl (g := 20) rfl rfl hi ?_
        refine me_go (pc1 := 345) (lv1 := [(2, .int (μ1.2.1 9 ((μ1.1 32)).toNatClampNeg)), (1, .int r1), (0, .ref P.1)]) (st1 := [.int 107, .ref P.1]) 2 rfl ?_
        refine me_callN rfl rfl rfl (h.mono (fun r15 μ15 h => ?_) (fun _ h => h))
        refine me_ifc rfl rfl (fun c => ?_) (fun c => ?_)
        · replace h := h.1 (ci_ne c)
          refine me_lv [(0, .ref P.1), (1, .int r1), (2, .int (μ1.2.1 9 ((μ1.1 32)).toNatClampNeg))] (fl_c rfl (fl_c rfl (fl_c rfl fl_0))) ?_
          exact h
        · replace h := h.2 (cn_ne c)
          refine me_go (pc1 := 352) (lv1 := [(2, .int (μ1.2.1 9 ((μ1.1 32)).toNatClampNeg)), (1, .int r1), (0, .ref P.1)]) (st1 := [.ref P.1]) 1 rfl ?_
          refine me_getf (v := .ref (P.2.1 22)) rfl rfl rfl ?_
          refine me_go (pc1 := 357) (lv1 := [(2, .int (μ1.2.1 9 ((μ1.1 32)).toNatClampNeg)), (1, .int r1), (0, .ref P.1)]) (st1 := [.ref P.1, .int r1, .ref (P.2.1 22)]) 2 rfl ?_
          refine me_call rfl rfl rfl rfl (h.mono (fun r16 μ16 h => ?_) (fun _ h => h))
          have hi := h.1
          replace h := h.2
          refine me_iast rfl (g := 22) rfl rfl hi ?_
          refine me_go (pc1 := 553) (lv1 := [(2, .int (μ1.2.1 9 ((μ1.1 32)).toNatClampNeg)), (1, .int r1), (0, .ref P.1)]) (st1 := []) 1 rfl ?_
          refine me_lv [(0, .ref P.1), (1, .int r1), (2, .int (μ1.2.1 9 ((μ1.1 32)).toNatClampNeg))] (fl_c rfl (fl_c rfl (fl_c rfl fl_0))) ?_
          exact h
    have q38_7 : ((μ1.2.1 9 ((μ1.1 32)).toNatClampNeg) = 52) → ME X W true d 322 407 [(2, .int (μ1.2.1 9 ((μ1.1 32)).toNatClampNeg)), (1, .int r1), (0, .ref P.1)] [] P μ2 R T := fun c => by
        replace h := hD.2.2.2.2.2.2.2.1 c
        refine me_go (pc1 := 409) (lv1 := [(2, .int (μ1.2.1 9 ((μ1.1 32)).toNatClampNeg)), (1, .int r1), (0, .ref P.1)]) (st1 := [.int r1, .ref P.1]) 2 rfl ?_
        refine me_call rfl rfl rfl rfl (h.mono (fun r17 μ17 h => ?_) (fun _ h => h))
        refine me_go (pc1 := 553) (lv1 := [(2, .int (μ1.2.1 9 ((μ1.1 32)).toNatClampNeg)), (1, .int r1), (0, .ref P.1)]) (st1 := []) 1 rfl ?_
        refine me_lv [(0, .ref P.1), (1, .int r1), (2, .int (μ1.2.1 9 ((μ1.1 32)).toNatClampNeg))] (fl_c rfl (fl_c rfl (fl_c rfl fl_0))) ?_
        exact h
    have q38_8 : ((μ1.2.1 9 ((μ1.1 32)).toNatClampNeg) = 54) → ME X W true d 322 495 [(2, .int (μ1.2.1 9 ((μ1.1 32)).toNatClampNeg)), (1, .int r1), (0, .ref P.1)] [] P μ2 R T := fun c => by
        replace h := hD.2.2.2.2.2.2.2.2.1 c
        refine me_go (pc1 := 497) (lv1 := [(2, .int (μ1.2.1 9 ((μ1.1 32)).toNatClampNeg)), (1, .int r1), (0, .ref P.1)]) (st1 := [.int r1, .ref P.1]) 2 rfl ?_
        refine me_call rfl rfl rfl rfl (h.mono (fun r18 μ18 h => ?_) (fun _ h => h))
        refine me_go (pc1 := 553) (lv1 := [(2, .int (μ1.2.1 9 ((μ1.1 32)).toNatClampNeg)), (1, .int r1), (0, .ref P.1)]) (st1 := []) 1 rfl ?_
        refine me_lv [(0, .ref P.1), (1, .int r1), (2, .int (μ1.2.1 9 ((μ1.1 32)).toNatClampNeg))] (fl_c rfl (fl_c rfl (fl_c rfl fl_0))) ?_
        exact h
    have q38_9 : ((μ1.2.1 9 ((μ1.1 32)).toNatClampNeg) = 56) → ME X W true d 322 458 [(2, .int (μ1.2.1 9 ((μ1.1 32)).toNatClampNeg)), (1, .int r1), (0, .ref P.1)] [] P μ2 R T := fun c => by
        replace h := hD.2.2.2.2.2.2.2.2.2.1 c
        refine me_go (pc1 := 459) (lv1 := [(2, .int (μ1.2.1 9 ((μ1.1 32)).toNatClampNeg)), (1, .int r1), (0, .ref P.1)]) (st1 := [.ref P.1]) 1 rfl ?_
        refine me_getf (v := .ref (P.2.1 20)) rfl rfl rfl ?_
        refine me_go (pc1 := 465) (lv1 := [(2, .int (μ1.2.1 9 ((μ1.1 32)).toNatClampNeg)), (1, .int r1), (0, .ref P.1)]) (st1 := [.int 55, .int r1, .ref (P.2.1 20)]) 2 rfl ?_
        have hi := h.1
        replace h := h.2
        refine me_iast rfl (g := 20) rfl rfl hi ?_
        refine me_go (pc1 := 467) (lv1 := [(2, .int (μ1.2.1 9 ((μ1.1 32)).toNatClampNeg)), (1, .int r1), (0, .ref P.1)]) (st1 := [.ref P.1]) 1 rfl ?_
        refine me_getf (v := .ref (P.2.1 22)) rfl rfl rfl ?_
        refine me_go (pc1 := 472) (lv1 := [(2, .int (μ1.2.1 9 ((μ1.1 32)).toNatClampNeg)), (1, .int r1), (0, .ref P.1)]) (st1 := [.ref P.1, .int r1, .ref (P.2.1 22)]) 2 rfl ?_
        refine me_call rfl rfl rfl rfl (h.mono (fun r19 μ19 h => ?_) (fun _ h => h))
        have hi := h.1
        replace h := h.2
        refine me_iast rfl (g := 22) rfl rfl hi ?_
        refine me_go (pc1 := 479) (lv1 := [(2, .int (μ1.2.1 9 ((μ1.1 32)).toNatClampNeg)), (1, .int r1), (0, .ref P.1)]) (st1 := [.int 106, .ref P.1]) 2 rfl ?_
        refine me_call rfl rfl rfl rfl (h.mono (fun r20 μ20 h => ?_) (fun _ h => h))
        refine me_go (pc1 := 483) (lv1 := [(2, .int (μ1.2.1 9 ((μ1.1 32)).toNatClampNeg)), (1, .int r1), (0, .ref P.1)]) (st1 := [.ref P.1]) 1 rfl ?_
        refine me_getf (v := .ref (P.2.1 23)) rfl rfl rfl ?_
        refine me_go (pc1 := 488) (lv1 := [(2, .int (μ1.2.1 9 ((μ1.1 32)).toNatClampNeg)), (1, .int r1), (0, .ref P.1)]) (st1 := [.ref P.1, .int r1, .ref (P.2.1 23)]) 2 rfl ?_
        refine me_call rfl rfl rfl rfl (h.mono (fun r21 μ21 h => ?_) (fun _ h => h))
        have hi := h.1
        replace h := h.2
        refine me_iast rfl (g := 23) rfl rfl hi ?_
        refine me_go (pc1 := 553) (lv1 := [(2, .int (μ1.2.1 9 ((μ1.1 32)).toNatClampNeg)), (1, .int r1), (0, .ref P.1)]) (st1 := []) 1 rfl ?_
        refine me_lv [(0, .ref P.1), (1, .int r1), (2, .int (μ1.2.1 9 ((μ1.1 32)).toNatClampNeg))] (fl_c rfl (fl_c rfl (fl_c rfl fl_0))) ?_
        exact h
    have q38_10 : ((μ1.2.1 9 ((μ1.1 32)).toNatClampNeg) = 57) → ME X W true d 322 256 [(2, .int (μ1.2.1 9 ((μ1.1 32)).toNatClampNeg)), (1, .int r1), (0, .ref P.1)] [] P μ2 R T := fun c => by
        replace h := hD.2.2.2.2.2.2.2.2.2.2.1 c
        refine me_go (pc1 := 257) (lv1 := [(2, .int (μ1.2.1 9 ((μ1.1 32)).toNatClampNeg)), (1, .int r1), (0, .ref P.1)]) (st1 := [.ref P.1]) 1 rfl ?_
        refine me_getf (v := .ref (P.2.1 20)) rfl rfl rfl ?_
        refine me_go (pc1 := 263) (lv1 := [(2, .int (μ1.2.1 9 ((μ1.1 32)).toNatClampNeg)), (1, .int r1), (0, .ref P.1)]) (st1 := [.int 46, .int r1, .ref (P.2.1 20)]) 2 rfl ?_
        have hi := h.1
        replace h := h.2
        refine me_iast rfl (g := 20) rfl rfl hi ?_
        refine me_go (pc1 := 265) (lv1 := [(2, .int (μ1.2.1 9 ((μ1.1 32)).toNatClampNeg)), (1, .int r1), (0, .ref P.1)]) (st1 := [.ref P.1]) 1 rfl ?_
        refine me_getf (v := .ref (P.2.1 22)) rfl rfl rfl ?_
        refine me_go (pc1 := 270) (lv1 := [(2, .int (μ1.2.1 9 ((μ1.1 32)).toNatClampNeg)), (1, .int r1), (0, .ref P.1)]) (st1 := [.ref P.1, .int r1, .ref (P.2.1 22)]) 2 rfl ?_
        refine me_call rfl rfl rfl rfl (h.mono (fun r22 μ22 h => ?_) (fun _ h => h))
        have hi := h.1
        replace h := h.2
        refine me_iast rfl (g := 22) rfl rfl hi ?_
        refine me_go (pc1 := 277) (lv1 := [(2, .int (μ1.2.1 9 ((μ1.1 32)).toNatClampNeg)), (1, .int r1), (0, .ref P.1)]) (st1 := [.int 7, .ref P.1]) 2 rfl ?_
        refine me_call rfl rfl rfl rfl (h.mono (fun r23 μ23 h => ?_) (fun _ h => h))
        refine me_go (pc1 := 281) (lv1 := [(2, .int (μ1.2.1 9 ((μ1.1 32)).toNatClampNeg)), (1, .int r1), (0, .ref P.1)]) (st1 := [.ref P.1]) 1 rfl ?_
        refine me_getf (v := .ref (P.2.1 23)) rfl rfl rfl ?_
        refine me_go (pc1 := 286) (lv1 := [(2, .int (μ1.2.1 9 ((μ1.1 32)).toNatClampNeg)), (1, .int r1), (0, .ref P.1)]) (st1 := [.ref P.1, .int r1, .ref (P.2.1 23)]) 2 rfl ?_
        refine me_call rfl rfl rfl rfl (h.mono (fun r24 μ24 h => ?_) (fun _ h => h))
        have hi := h.1
        replace h := h.2
        refine me_iast rfl (g := 23) rfl rfl hi ?_
        refine me_go (pc1 := 293) (lv1 := [(2, .int (μ1.2.1 9 ((μ1.1 32)).toNatClampNeg)), (1, .int r1), (0, .ref P.1)]) (st1 := [.int 10, .ref P.1]) 2 rfl ?_
        refine me_call rfl rfl rfl rfl (h.mono (fun r25 μ25 h => ?_) (fun _ h => h))
        refine me_go (pc1 := 553) (lv1 := [(2, .int (μ1.2.1 9 ((μ1.1 32)).toNatClampNeg)), (1, .int r1), (0, .ref P.1)]) (st1 := []) 1 rfl ?_
        refine me_lv [(0, .ref P.1), (1, .int r1), (2, .int (μ1.2.1 9 ((μ1.1 32)).toNatClampNeg))] (fl_c rfl (fl_c rfl (fl_c rfl fl_0))) ?_
        exact h
    by_cases c : (μ1.2.1 9 ((μ1.1 32)).toNatClampNeg) = 13
    · exact me_sw rfl c (t := 232) rfl (q38_0 (c))
    rename ¬ (μ1.2.1 9 ((μ1.1 32)).toNatClampNeg) = 13 => n0
    by_cases c : (μ1.2.1 9 ((μ1.1 32)).toNatClampNeg) = 16
    · exact me_sw rfl c (t := 326) rfl (q38_1 (c))
    rename ¬ (μ1.2.1 9 ((μ1.1 32)).toNatClampNeg) = 16 => n1
    by_cases c : (μ1.2.1 9 ((μ1.1 32)).toNatClampNeg) = 18
    · exact me_sw rfl c (t := 235) rfl (q38_2 (c))
    rename ¬ (μ1.2.1 9 ((μ1.1 32)).toNatClampNeg) = 18 => n2
    by_cases c : (μ1.2.1 9 ((μ1.1 32)).toNatClampNeg) = 24
    · exact me_sw rfl c (t := 415) rfl (q38_3 (c))
    rename ¬ (μ1.2.1 9 ((μ1.1 32)).toNatClampNeg) = 24 => n3
    by_cases c : (μ1.2.1 9 ((μ1.1 32)).toNatClampNeg) = 25
    · exact me_sw rfl c (t := 299) rfl (q38_4 (c))
    rename ¬ (μ1.2.1 9 ((μ1.1 32)).toNatClampNeg) = 25 => n4
    by_cases c : (μ1.2.1 9 ((μ1.1 32)).toNatClampNeg) = 40
    · exact me_sw rfl c (t := 364) rfl (q38_5 (c))
    rename ¬ (μ1.2.1 9 ((μ1.1 32)).toNatClampNeg) = 40 => n5
    by_cases c : (μ1.2.1 9 ((μ1.1 32)).toNatClampNeg) = 44
    · exact me_sw rfl c (t := 334) rfl (q38_6 (c))
    rename ¬ (μ1.2.1 9 ((μ1.1 32)).toNatClampNeg) = 44 => n6
    by_cases c : (μ1.2.1 9 ((μ1.1 32)).toNatClampNeg) = 52
    · exact me_sw rfl c (t := 407) rfl (q38_7 (c))
    rename ¬ (μ1.2.1 9 ((μ1.1 32)).toNatClampNeg) = 52 => n7
    by_cases c : (μ1.2.1 9 ((μ1.1 32)).toNatClampNeg) = 54
    · exact me_sw rfl c (t := 495) rfl (q38_8 (c))
    rename ¬ (μ1.2.1 9 ((μ1.1 32)).toNatClampNeg) = 54 => n8
    by_cases c : (μ1.2.1 9 ((μ1.1 32)).toNatClampNeg) = 56
    · exact me_sw rfl c (t := 458) rfl (q38_9 (c))
    rename ¬ (μ1.2.1 9 ((μ1.1 32)).toNatClampNeg) = 56 => n9
    by_cases c : (μ1.2.1 9 ((μ1.1 32)).toNatClampNeg) = 57
    · exact me_sw rfl c (t := 256) rfl (q38_10 (c))
    rename ¬ (μ1.2.1 9 ((μ1.1 32)).toNatClampNeg) = 57 => n10
    have hk : ∀ v ∈ [(13 : Int32), (16 : Int32), (18 : Int32), (24 : Int32), (25 : Int32), (40 : Int32), (44 : Int32), (52 : Int32), (54 : Int32), (56 : Int32), (57 : Int32)], ¬ (μ1.2.1 9 ((μ1.1 32)).toNatClampNeg) = v := fun v hv => by
      simp only [List.mem_cons, List.not_mem_nil, or_false] at hv
      rcases hv with rfl | rfl | rfl | rfl | rfl | rfl | rfl | rfl | rfl | rfl | rfl <;> assumption
    refine me_tsD (t := 503) rfl _ rfl rfl hk ?_
    replace h := hD.2.2.2.2.2.2.2.2.2.2.2 hk
    refine me_go (pc1 := 504) (lv1 := [(2, .int (μ1.2.1 9 ((μ1.1 32)).toNatClampNeg)), (1, .int r1), (0, .ref P.1)]) (st1 := [.ref P.1]) 1 rfl ?_
    refine me_getf (v := .ref (P.2.1 20)) rfl rfl rfl ?_
    refine me_go (pc1 := 511) (lv1 := [(2, .int (μ1.2.1 9 ((μ1.1 32)).toNatClampNeg)), (1, .int r1), (0, .ref P.1)]) (st1 := [.int 47, .int (μ1.2.1 9 ((μ1.1 32)).toNatClampNeg), .int r1, .ref (P.2.1 20)]) 3 rfl ?_
    refine me_icmp rfl rfl (fun c => ?_) (fun c => ?_)
    · replace h := h.1 (ci_ne c)
      refine me_go (pc1 := 521) (lv1 := [(2, .int (μ1.2.1 9 ((μ1.1 32)).toNatClampNeg)), (1, .int r1), (0, .ref P.1)]) (st1 := [.int 4, .int (μ1.2.1 9 ((μ1.1 32)).toNatClampNeg), .int r1, .ref (P.2.1 20)]) 2 rfl ?_
      refine me_icmp rfl rfl (fun c => ?_) (fun c => ?_)
      · replace h := h.1 (ci_ne c)
        refine me_go (pc1 := 532) (lv1 := [(2, .int (μ1.2.1 9 ((μ1.1 32)).toNatClampNeg)), (1, .int r1), (0, .ref P.1)]) (st1 := [.int 23, .int (μ1.2.1 9 ((μ1.1 32)).toNatClampNeg), .int r1, .ref (P.2.1 20)]) 2 rfl ?_
        refine me_icmp rfl rfl (fun c => ?_) (fun c => ?_)
        · replace h := h.1 (ci_ne c)
          refine me_go (pc1 := 542) (lv1 := [(2, .int (μ1.2.1 9 ((μ1.1 32)).toNatClampNeg)), (1, .int r1), (0, .ref P.1)]) (st1 := [.int 59, .int r1, .ref (P.2.1 20)]) 1 rfl ?_
          have hi := h.1
          replace h := h.2
          refine me_iast rfl (g := 20) rfl rfl hi ?_
          refine me_go (pc1 := 544) (lv1 := [(2, .int (μ1.2.1 9 ((μ1.1 32)).toNatClampNeg)), (1, .int r1), (0, .ref P.1)]) (st1 := [.ref P.1]) 1 rfl ?_
          refine me_getf (v := .ref (P.2.1 22)) rfl rfl rfl ?_
          refine me_go (pc1 := 549) (lv1 := [(2, .int (μ1.2.1 9 ((μ1.1 32)).toNatClampNeg)), (1, .int r1), (0, .ref P.1)]) (st1 := [.ref P.1, .int r1, .ref (P.2.1 22)]) 2 rfl ?_
          refine me_call rfl rfl rfl rfl (h.mono (fun r26 μ26 h => ?_) (fun _ h => h))
          have hi := h.1
          replace h := h.2
          refine me_iast rfl (g := 22) rfl rfl hi ?_
          refine me_lv [(0, .ref P.1), (1, .int r1), (2, .int (μ1.2.1 9 ((μ1.1 32)).toNatClampNeg))] (fl_c rfl (fl_c rfl (fl_c rfl fl_0))) ?_
          exact h
        · replace h := h.2 (cn_ne c)
          refine me_go (pc1 := 542) (lv1 := [(2, .int (μ1.2.1 9 ((μ1.1 32)).toNatClampNeg)), (1, .int r1), (0, .ref P.1)]) (st1 := [.int 58, .int r1, .ref (P.2.1 20)]) 2 rfl ?_
          have hi := h.1
          replace h := h.2
          refine me_iast rfl (g := 20) rfl rfl hi ?_
          refine me_go (pc1 := 544) (lv1 := [(2, .int (μ1.2.1 9 ((μ1.1 32)).toNatClampNeg)), (1, .int r1), (0, .ref P.1)]) (st1 := [.ref P.1]) 1 rfl ?_
          refine me_getf (v := .ref (P.2.1 22)) rfl rfl rfl ?_
          refine me_go (pc1 := 549) (lv1 := [(2, .int (μ1.2.1 9 ((μ1.1 32)).toNatClampNeg)), (1, .int r1), (0, .ref P.1)]) (st1 := [.ref P.1, .int r1, .ref (P.2.1 22)]) 2 rfl ?_
          refine me_call rfl rfl rfl rfl (h.mono (fun r27 μ27 h => ?_) (fun _ h => h))
          have hi := h.1
          replace h := h.2
          refine me_iast rfl (g := 22) rfl rfl hi ?_
          refine me_lv [(0, .ref P.1), (1, .int r1), (2, .int (μ1.2.1 9 ((μ1.1 32)).toNatClampNeg))] (fl_c rfl (fl_c rfl (fl_c rfl fl_0))) ?_
          exact h
      · replace h := h.2 (cn_ne c)
        refine me_go (pc1 := 542) (lv1 := [(2, .int (μ1.2.1 9 ((μ1.1 32)).toNatClampNeg)), (1, .int r1), (0, .ref P.1)]) (st1 := [.int 57, .int r1, .ref (P.2.1 20)]) 2 rfl ?_
        have hi := h.1
        replace h := h.2
        refine me_iast rfl (g := 20) rfl rfl hi ?_
        refine me_go (pc1 := 544) (lv1 := [(2, .int (μ1.2.1 9 ((μ1.1 32)).toNatClampNeg)), (1, .int r1), (0, .ref P.1)]) (st1 := [.ref P.1]) 1 rfl ?_
        refine me_getf (v := .ref (P.2.1 22)) rfl rfl rfl ?_
        refine me_go (pc1 := 549) (lv1 := [(2, .int (μ1.2.1 9 ((μ1.1 32)).toNatClampNeg)), (1, .int r1), (0, .ref P.1)]) (st1 := [.ref P.1, .int r1, .ref (P.2.1 22)]) 2 rfl ?_
        refine me_call rfl rfl rfl rfl (h.mono (fun r28 μ28 h => ?_) (fun _ h => h))
        have hi := h.1
        replace h := h.2
        refine me_iast rfl (g := 22) rfl rfl hi ?_
        refine me_lv [(0, .ref P.1), (1, .int r1), (2, .int (μ1.2.1 9 ((μ1.1 32)).toNatClampNeg))] (fl_c rfl (fl_c rfl (fl_c rfl fl_0))) ?_
        exact h
    · replace h := h.2 (cn_ne c)
      refine me_go (pc1 := 542) (lv1 := [(2, .int (μ1.2.1 9 ((μ1.1 32)).toNatClampNeg)), (1, .int r1), (0, .ref P.1)]) (st1 := [.int 56, .int r1, .ref (P.2.1 20)]) 2 rfl ?_
      have hi := h.1
      replace h := h.2
      refine me_iast rfl (g := 20) rfl rfl hi ?_
      refine me_go (pc1 := 544) (lv1 := [(2, .int (μ1.2.1 9 ((μ1.1 32)).toNatClampNeg)), (1, .int r1), (0, .ref P.1)]) (st1 := [.ref P.1]) 1 rfl ?_
      refine me_getf (v := .ref (P.2.1 22)) rfl rfl rfl ?_
      refine me_go (pc1 := 549) (lv1 := [(2, .int (μ1.2.1 9 ((μ1.1 32)).toNatClampNeg)), (1, .int r1), (0, .ref P.1)]) (st1 := [.ref P.1, .int r1, .ref (P.2.1 22)]) 2 rfl ?_
      refine me_call rfl rfl rfl rfl (h.mono (fun r29 μ29 h => ?_) (fun _ h => h))
      have hi := h.1
      replace h := h.2
      refine me_iast rfl (g := 22) rfl rfl hi ?_
      refine me_lv [(0, .ref P.1), (1, .int r1), (2, .int (μ1.2.1 9 ((μ1.1 32)).toNatClampNeg))] (fl_c rfl (fl_c rfl (fl_c rfl fl_0))) ?_
      exact h
  · replace h := h.2 (cn_ne c)
    refine me_go (pc1 := 28) (lv1 := [(2, .int (μ1.2.1 9 ((μ1.1 32)).toNatClampNeg)), (1, .int r1), (0, .ref P.1)]) (st1 := [.int r1, .ref P.1]) 2 rfl ?_
    refine me_call rfl rfl rfl rfl (h.mono (fun r30 μ30 h => ?_) (fun _ h => h))
    refine me_go (pc1 := 32) (lv1 := [(2, .int (μ1.2.1 9 ((μ1.1 32)).toNatClampNeg)), (1, .int r1), (0, .ref P.1)]) (st1 := [.int r1]) 1 rfl ?_
    exact me_ret rfl rfl rfl h
theorem v_statement_553 {X : ev_X} {W : Nat → Prop} {d : Nat} {P : MP} {μ : MS} {R : Int32 → MS → Prop} {T : MS → Prop} (x1 : Int32) (x2 : Int32) (h : R x1 μ) : ME X W true d 322 553 [(0, .ref P.1), (1, .int x1), (2, .int x2)] [] P μ R T := by
  refine me_go (pc1 := 554) (lv1 := [(0, .ref P.1), (1, .int x1), (2, .int x2)]) (st1 := [.int x1]) 1 rfl ?_
  exact me_ret rfl rfl rfl h
theorem v_arms_0 {X : ev_X} {W : Nat → Prop} {d : Nat} {P : MP} {μ : MS} {R : Int32 → MS → Prop} {T : MS → Prop}  (h : ME X W true d 323 9 [(0, .ref P.1), (1, .int (-1)), (2, .int (-1)), (3, .int 1), (4, .int 0)] [] P μ R T) : ME X W true d 323 0 [(0, .ref P.1)] [] P μ R T := by
  refine me_go (pc1 := 9) (lv1 := [(4, .int 0), (3, .int 1), (2, .int (-1)), (1, .int (-1)), (0, .ref P.1)]) (st1 := []) 8 rfl ?_
  refine me_lv [(0, .ref P.1), (1, .int (-1)), (2, .int (-1)), (3, .int 1), (4, .int 0)] (fl_c rfl (fl_c rfl (fl_c rfl (fl_c rfl (fl_c rfl fl_0))))) ?_
  exact h
theorem v_arms_9 {X : ev_X} {W : Nat → Prop} {d : Nat} {P : MP} {μ : MS} {R : Int32 → MS → Prop} {T : MS → Prop} (x1 : Int32) (x2 : Int32) (x3 : Int32) (x4 : Int32) (h : ((x3 = 0 → MC X W true d 297 [.ref P.1, .int 10] P μ (fun r1 μ1 => R x1 μ1) T) ∧ (¬ x3 = 0 → MC X W true d 292 [.ref P.1, .int 45, .int (-1), .int (-1)] P μ (fun r2 μ2 => ((¬ x4 = 0 → ME X W true d 323 45 [(0, .ref P.1), (1, .int x1), (2, .int x2), (3, .int x3), (4, .int x4), (5, .int r2)] [] P μ2 R T) ∧ (x4 = 0 → MC X W true d 332 [.ref P.1] P μ2 (fun r3 μ3 => (MI r2 (μ3.2.2 22) ∧ MC X W true d 297 [.ref P.1, .int 48] P (mA1 μ3 22 r2.toNatClampNeg r3) (fun r4 μ4 => ME X W true d 323 45 [(0, .ref P.1), (1, .int x1), (2, .int x2), (3, .int x3), (4, .int x4), (5, .int r2)] [] P μ4 R T) T)) T))) (fun _ => False)))) : ME X W true d 323 9 [(0, .ref P.1), (1, .int x1), (2, .int x2), (3, .int x3), (4, .int x4)] [] P μ R T := by
  refine me_go (pc1 := 10) (lv1 := [(0, .ref P.1), (1, .int x1), (2, .int x2), (3, .int x3), (4, .int x4)]) (st1 := [.int x3]) 1 rfl ?_
  refine me_ifc rfl rfl (fun c => ?_) (fun c => ?_)
  · replace h := h.1 (ci_eq c)
    refine me_go (pc1 := 128) (lv1 := [(0, .ref P.1), (1, .int x1), (2, .int x2), (3, .int x3), (4, .int x4)]) (st1 := [.int 10, .ref P.1]) 2 rfl ?_
    refine me_call rfl rfl rfl rfl (h.mono (fun r1 μ1 h => ?_) (fun _ h => h))
    refine me_go (pc1 := 132) (lv1 := [(0, .ref P.1), (1, .int x1), (2, .int x2), (3, .int x3), (4, .int x4)]) (st1 := [.int x1]) 1 rfl ?_
    exact me_ret rfl rfl rfl h
  · replace h := h.2 (cn_eq c)
    refine me_go (pc1 := 18) (lv1 := [(0, .ref P.1), (1, .int x1), (2, .int x2), (3, .int x3), (4, .int x4)]) (st1 := [.int (-1), .int (-1), .int 45, .ref P.1]) 4 rfl ?_
    refine me_callN rfl rfl rfl (h.mono (fun r2 μ2 h => ?_) (fun _ h => h))
    refine me_go (pc1 := 25) (lv1 := [(5, .int r2), (0, .ref P.1), (1, .int x1), (2, .int x2), (3, .int x3), (4, .int x4)]) (st1 := [.int x4]) 2 rfl ?_
    refine me_ifc rfl rfl (fun c => ?_) (fun c => ?_)
    · replace h := h.1 (ci_ne c)
      refine me_lv [(0, .ref P.1), (1, .int x1), (2, .int x2), (3, .int x3), (4, .int x4), (5, .int r2)] (fl_c rfl (fl_c rfl (fl_c rfl (fl_c rfl (fl_c rfl (fl_c rfl fl_0)))))) ?_
      exact h
    · replace h := h.2 (cn_ne c)
      refine me_go (pc1 := 29) (lv1 := [(5, .int r2), (0, .ref P.1), (1, .int x1), (2, .int x2), (3, .int x3), (4, .int x4)]) (st1 := [.ref P.1]) 1 rfl ?_
      refine me_getf (v := .ref (P.2.1 22)) rfl rfl rfl ?_
      refine me_go (pc1 := 35) (lv1 := [(5, .int r2), (0, .ref P.1), (1, .int x1), (2, .int x2), (3, .int x3), (4, .int x4)]) (st1 := [.ref P.1, .int r2, .ref (P.2.1 22)]) 2 rfl ?_
      refine me_call rfl rfl rfl rfl (h.mono (fun r3 μ3 h => ?_) (fun _ h => h))
      have hi := h.1
      replace h := h.2
      refine me_iast rfl (g := 22) rfl rfl hi ?_
      refine me_go (pc1 := 42) (lv1 := [(5, .int r2), (0, .ref P.1), (1, .int x1), (2, .int x2), (3, .int x3), (4, .int x4)]) (st1 := [.int 48, .ref P.1]) 2 rfl ?_
      refine me_call rfl rfl rfl rfl (h.mono (fun r4 μ4 h => ?_) (fun _ h => h))
      refine me_lv [(0, .ref P.1), (1, .int x1), (2, .int x2), (3, .int x3), (4, .int x4), (5, .int r2)] (fl_c rfl (fl_c rfl (fl_c rfl (fl_c rfl (fl_c rfl (fl_c rfl fl_0)))))) ?_
      exact h
theorem v_arms_45 {X : ev_X} {W : Nat → Prop} {d : Nat} {P : MP} {μ : MS} {R : Int32 → MS → Prop} {T : MS → Prop} (x1 : Int32) (x2 : Int32) (x3 : Int32) (x4 : Int32) (x5 : Int32) (h : MC X W true d 321 [.ref P.1] P μ (fun r1 μ1 => (MI x5 (μ1.2.2 23) ∧ (((0 : Int) ≤ x1.toInt → (MI x2 (μ1.2.2 27) ∧ ME X W true d 323 74 [(0, .ref P.1), (1, .int x1), (2, .int x2), (3, .int x3), (4, .int x4), (5, .int x5)] [] P (mA1 (mA1 μ1 23 x5.toNatClampNeg r1) 27 x2.toNatClampNeg x5) R T)) ∧ (x1.toInt < (0 : Int) → ME X W true d 323 74 [(0, .ref P.1), (1, .int x5), (2, .int x2), (3, .int x3), (4, .int x4), (5, .int x5)] [] P (mA1 μ1 23 x5.toNatClampNeg r1) R T)))) T) : ME X W true d 323 45 [(0, .ref P.1), (1, .int x1), (2, .int x2), (3, .int x3), (4, .int x4), (5, .int x5)] [] P μ R T := by
  refine me_go (pc1 := 46) (lv1 := [(0, .ref P.1), (1, .int x1), (2, .int x2), (3, .int x3), (4, .int x4), (5, .int x5)]) (st1 := [.ref P.1]) 1 rfl ?_
  refine me_getf (v := .ref (P.2.1 23)) rfl rfl rfl ?_
  refine me_go (pc1 := 52) (lv1 := [(0, .ref P.1), (1, .int x1), (2, .int x2), (3, .int x3), (4, .int x4), (5, .int x5)]) (st1 := [.ref P.1, .int x5, .ref (P.2.1 23)]) 2 rfl ?_
  refine me_call rfl rfl rfl rfl (h.mono (fun r1 μ1 h => ?_) (fun _ h => h))
  have hi := h.1
  replace h := h.2
  refine me_iast rfl (g := 23) rfl rfl hi ?_
  refine me_go (pc1 := 57) (lv1 := [(0, .ref P.1), (1, .int x1), (2, .int x2), (3, .int x3), (4, .int x4), (5, .int x5)]) (st1 := [.int x1]) 1 rfl ?_
  refine me_ifc rfl rfl (fun c => ?_) (fun c => ?_)
  · replace h := h.1 (ci_ge c)
    refine me_go (pc1 := 67) (lv1 := [(0, .ref P.1), (1, .int x1), (2, .int x2), (3, .int x3), (4, .int x4), (5, .int x5)]) (st1 := [.ref P.1]) 1 rfl ?_
    refine me_getf (v := .ref (P.2.1 27)) rfl rfl rfl ?_
    refine me_go (pc1 := 73) (lv1 := [(0, .ref P.1), (1, .int x1), (2, .int x2), (3, .int x3), (4, .int x4), (5, .int x5)]) (st1 := [.int x5, .int x2, .ref (P.2.1 27)]) 2 rfl ?_
    have hi := h.1
    replace h := h.2
    refine me_iast rfl (g := 27) rfl rfl hi ?_
    exact h
  · replace h := h.2 (cn_ge c)
    refine me_go (pc1 := 74) (lv1 := [(1, .int x5), (0, .ref P.1), (2, .int x2), (3, .int x3), (4, .int x4), (5, .int x5)]) (st1 := []) 3 rfl ?_
    refine me_lv [(0, .ref P.1), (1, .int x5), (2, .int x2), (3, .int x3), (4, .int x4), (5, .int x5)] (fl_c rfl (fl_c rfl (fl_c rfl (fl_c rfl (fl_c rfl (fl_c rfl fl_0)))))) ?_
    exact h
theorem v_arms_74 {X : ev_X} {W : Nat → Prop} {d : Nat} {P : MP} {μ : MS} {R : Int32 → MS → Prop} {T : MS → Prop} (x1 : Int32) (x2 : Int32) (x3 : Int32) (x4 : Int32) (x5 : Int32) (h : ((¬ x4 = 0 → ME X W true d 323 104 [(0, .ref P.1), (1, .int x1), (2, .int x5), (3, .int x3), (4, .int x4), (5, .int x5)] [] P μ R T) ∧ (x4 = 0 → MC X W true d 296 [.ref P.1, .int 9] P μ (fun r1 μ1 => ((¬ r1 = 0 → ME X W true d 323 100 [(0, .ref P.1), (1, .int x1), (2, .int x5), (3, .int x3), (4, .int x4), (5, .int x5)] [] P μ1 R T) ∧ (r1 = 0 → MC X W true d 296 [.ref P.1, .int 8] P μ1 (fun r2 μ2 => ((r2 = 0 → ME X W true d 323 104 [(0, .ref P.1), (1, .int x1), (2, .int x5), (3, .int x3), (4, .int x4), (5, .int x5)] [] P μ2 R T) ∧ (¬ r2 = 0 → ME X W true d 323 100 [(0, .ref P.1), (1, .int x1), (2, .int x5), (3, .int x3), (4, .int x4), (5, .int x5)] [] P μ2 R T))) (fun _ => False)))) (fun _ => False)))) : ME X W true d 323 74 [(0, .ref P.1), (1, .int x1), (2, .int x2), (3, .int x3), (4, .int x4), (5, .int x5)] [] P μ R T := by
  refine me_go (pc1 := 79) (lv1 := [(2, .int x5), (0, .ref P.1), (1, .int x1), (3, .int x3), (4, .int x4), (5, .int x5)]) (st1 := [.int x4]) 3 rfl ?_
  refine me_ifc rfl rfl (fun c => ?_) (fun c => ?_)
  · replace h := h.1 (ci_ne c)
    refine me_lv [(0, .ref P.1), (1, .int x1), (2, .int x5), (3, .int x3), (4, .int x4), (5, .int x5)] (fl_c rfl (fl_c rfl (fl_c rfl (fl_c rfl (fl_c rfl (fl_c rfl fl_0)))))) ?_
    exact h
  · replace h := h.2 (cn_ne c)
    refine me_go (pc1 := 85) (lv1 := [(2, .int x5), (0, .ref P.1), (1, .int x1), (3, .int x3), (4, .int x4), (5, .int x5)]) (st1 := [.int 9, .ref P.1]) 2 rfl ?_
    refine me_callN rfl rfl rfl (h.mono (fun r1 μ1 h => ?_) (fun _ h => h))
    refine me_ifc rfl rfl (fun c => ?_) (fun c => ?_)
    · replace h := h.1 (ci_ne c)
      refine me_lv [(0, .ref P.1), (1, .int x1), (2, .int x5), (3, .int x3), (4, .int x4), (5, .int x5)] (fl_c rfl (fl_c rfl (fl_c rfl (fl_c rfl (fl_c rfl (fl_c rfl fl_0)))))) ?_
      exact h
    · replace h := h.2 (cn_ne c)
      refine me_go (pc1 := 94) (lv1 := [(2, .int x5), (0, .ref P.1), (1, .int x1), (3, .int x3), (4, .int x4), (5, .int x5)]) (st1 := [.int 8, .ref P.1]) 2 rfl ?_
      refine me_callN rfl rfl rfl (h.mono (fun r2 μ2 h => ?_) (fun _ h => h))
      refine me_ifc rfl rfl (fun c => ?_) (fun c => ?_)
      · replace h := h.1 (ci_eq c)
        refine me_lv [(0, .ref P.1), (1, .int x1), (2, .int x5), (3, .int x3), (4, .int x4), (5, .int x5)] (fl_c rfl (fl_c rfl (fl_c rfl (fl_c rfl (fl_c rfl (fl_c rfl fl_0)))))) ?_
        exact h
      · replace h := h.2 (cn_eq c)
        refine me_lv [(0, .ref P.1), (1, .int x1), (2, .int x5), (3, .int x3), (4, .int x4), (5, .int x5)] (fl_c rfl (fl_c rfl (fl_c rfl (fl_c rfl (fl_c rfl (fl_c rfl fl_0)))))) ?_
        exact h
theorem v_arms_100 {X : ev_X} {W : Nat → Prop} {d : Nat} {P : MP} {μ : MS} {R : Int32 → MS → Prop} {T : MS → Prop} (x1 : Int32) (x2 : Int32) (x3 : Int32) (x4 : Int32) (x5 : Int32) (h : ME X W true d 323 106 [(0, .ref P.1), (1, .int x1), (2, .int x2), (3, .int 1), (4, .int x4), (5, .int x5)] [] P μ R T) : ME X W true d 323 100 [(0, .ref P.1), (1, .int x1), (2, .int x2), (3, .int x3), (4, .int x4), (5, .int x5)] [] P μ R T := by
  refine me_go (pc1 := 106) (lv1 := [(3, .int 1), (0, .ref P.1), (1, .int x1), (2, .int x2), (4, .int x4), (5, .int x5)]) (st1 := []) 3 rfl ?_
  refine me_lv [(0, .ref P.1), (1, .int x1), (2, .int x2), (3, .int 1), (4, .int x4), (5, .int x5)] (fl_c rfl (fl_c rfl (fl_c rfl (fl_c rfl (fl_c rfl (fl_c rfl fl_0)))))) ?_
  exact h
theorem v_arms_104 {X : ev_X} {W : Nat → Prop} {d : Nat} {P : MP} {μ : MS} {R : Int32 → MS → Prop} {T : MS → Prop} (x1 : Int32) (x2 : Int32) (x3 : Int32) (x4 : Int32) (x5 : Int32) (h : ME X W true d 323 106 [(0, .ref P.1), (1, .int x1), (2, .int x2), (3, .int 0), (4, .int x4), (5, .int x5)] [] P μ R T) : ME X W true d 323 104 [(0, .ref P.1), (1, .int x1), (2, .int x2), (3, .int x3), (4, .int x4), (5, .int x5)] [] P μ R T := by
  refine me_go (pc1 := 106) (lv1 := [(3, .int 0), (0, .ref P.1), (1, .int x1), (2, .int x2), (4, .int x4), (5, .int x5)]) (st1 := []) 2 rfl ?_
  refine me_lv [(0, .ref P.1), (1, .int x1), (2, .int x2), (3, .int 0), (4, .int x4), (5, .int x5)] (fl_c rfl (fl_c rfl (fl_c rfl (fl_c rfl (fl_c rfl (fl_c rfl fl_0)))))) ?_
  exact h
theorem v_arms_106 {X : ev_X} {W : Nat → Prop} {d : Nat} {P : MP} {μ : MS} {R : Int32 → MS → Prop} {T : MS → Prop} (x1 : Int32) (x2 : Int32) (x3 : Int32) (x4 : Int32) (x5 : Int32) (h : MC X W true d 296 [.ref P.1, .int 8] P μ (fun r1 μ1 => ((x3 = 0 → ME X W true d 323 122 [(0, .ref P.1), (1, .int x1), (2, .int x2), (3, .int x3), (4, .int r1), (5, .int x5)] [] P μ1 R T) ∧ (¬ x3 = 0 → MC X W true d 294 [.ref P.1] P μ1 (fun r2 μ2 => ME X W true d 323 122 [(0, .ref P.1), (1, .int x1), (2, .int x2), (3, .int x3), (4, .int r1), (5, .int x5)] [] P μ2 R T) T))) (fun _ => False)) : ME X W true d 323 106 [(0, .ref P.1), (1, .int x1), (2, .int x2), (3, .int x3), (4, .int x4), (5, .int x5)] [] P μ R T := by
  refine me_go (pc1 := 109) (lv1 := [(0, .ref P.1), (1, .int x1), (2, .int x2), (3, .int x3), (4, .int x4), (5, .int x5)]) (st1 := [.int 8, .ref P.1]) 2 rfl ?_
  refine me_callN rfl rfl rfl (h.mono (fun r1 μ1 h => ?_) (fun _ h => h))
  refine me_go (pc1 := 115) (lv1 := [(4, .int r1), (0, .ref P.1), (1, .int x1), (2, .int x2), (3, .int x3), (5, .int x5)]) (st1 := [.int x3]) 2 rfl ?_
  refine me_ifc rfl rfl (fun c => ?_) (fun c => ?_)
  · replace h := h.1 (ci_eq c)
    refine me_lv [(0, .ref P.1), (1, .int x1), (2, .int x2), (3, .int x3), (4, .int r1), (5, .int x5)] (fl_c rfl (fl_c rfl (fl_c rfl (fl_c rfl (fl_c rfl (fl_c rfl fl_0)))))) ?_
    exact h
  · replace h := h.2 (cn_eq c)
    refine me_go (pc1 := 119) (lv1 := [(4, .int r1), (0, .ref P.1), (1, .int x1), (2, .int x2), (3, .int x3), (5, .int x5)]) (st1 := [.ref P.1]) 1 rfl ?_
    refine me_call rfl rfl rfl rfl (h.mono (fun r2 μ2 h => ?_) (fun _ h => h))
    refine me_lv [(0, .ref P.1), (1, .int x1), (2, .int x2), (3, .int x3), (4, .int r1), (5, .int x5)] (fl_c rfl (fl_c rfl (fl_c rfl (fl_c rfl (fl_c rfl (fl_c rfl fl_0)))))) ?_
    exact h
theorem v_arms_122 {X : ev_X} {W : Nat → Prop} {d : Nat} {P : MP} {μ : MS} {R : Int32 → MS → Prop} {T : MS → Prop} (x1 : Int32) (x2 : Int32) (x3 : Int32) (x4 : Int32) (x5 : Int32) (h : ME X W true d 323 9 [(0, .ref P.1), (1, .int x1), (2, .int x2), (3, .int x3), (4, .int x4)] [] P μ R T) : ME X W true d 323 122 [(0, .ref P.1), (1, .int x1), (2, .int x2), (3, .int x3), (4, .int x4), (5, .int x5)] [] P μ R T := by
  refine me_go (pc1 := 9) (lv1 := [(0, .ref P.1), (1, .int x1), (2, .int x2), (3, .int x3), (4, .int x4), (5, .int x5)]) (st1 := []) 1 rfl ?_
  refine me_lv [(0, .ref P.1), (1, .int x1), (2, .int x2), (3, .int x3), (4, .int x4)] (fl_c rfl (fl_c rfl (fl_c rfl (fl_c rfl (fl_c rfl fl_0))))) ?_
  exact h
theorem v_forStatement_0 {X : ev_X} {W : Nat → Prop} {d : Nat} {P : MP} {μ : MS} {R : Int32 → MS → Prop} {T : MS → Prop} (x1 : Int32) (h : (MI x1 (μ.2.2 20) ∧ MC X W true d 292 [.ref P.1, .int 10, .int (-1), .int (-1)] P (mA1 μ 20 x1.toNatClampNeg 48) (fun r1 μ1 => (MI x1 (μ1.2.2 22) ∧ (MI x1 (μ1.2.2 22) ∧ MC X W true d 298 [.ref P.1] P (mA1 μ1 22 x1.toNatClampNeg r1) (fun r2 μ2 => (MI (upd (μ1.2.1 22) x1.toNatClampNeg r1 x1.toNatClampNeg) (μ2.2.2 22) ∧ MC X W true d 297 [.ref P.1, .int 111] P (mA1 μ2 22 (((upd (μ1.2.1 22) x1.toNatClampNeg r1 x1.toNatClampNeg)).toNatClampNeg) r2) (fun r3 μ3 => MC X W true d 332 [.ref P.1] P μ3 (fun r4 μ4 => (MI x1 (μ4.2.2 23) ∧ MC X W true d 297 [.ref P.1, .int 50] P (mA1 μ4 23 x1.toNatClampNeg r4) (fun r5 μ5 => MC X W true d 332 [.ref P.1] P μ5 (fun r6 μ6 => (MI x1 (μ6.2.2 24) ∧ MC X W true d 297 [.ref P.1, .int 7] P (mA1 μ6 24 x1.toNatClampNeg r6) (fun r7 μ7 => MC X W true d 321 [.ref P.1] P μ7 (fun r8 μ8 => (MI x1 (μ8.2.2 25) ∧ MC X W true d 297 [.ref P.1, .int 10] P (mA1 μ8 25 x1.toNatClampNeg r8) (fun r9 μ9 => R 0 μ9) T)) T) T)) T) T)) T) T)) T))) (fun _ => False))) : ME X W true d 324 0 [(0, .ref P.1), (1, .int x1)] [] P μ R T := by
  refine me_go (pc1 := 1) (lv1 := [(0, .ref P.1), (1, .int x1)]) (st1 := [.ref P.1]) 1 rfl ?_
  refine me_getf (v := .ref (P.2.1 20)) rfl rfl rfl ?_
  refine me_go (pc1 := 7) (lv1 := [(0, .ref P.1), (1, .int x1)]) (st1 := [.int 48, .int x1, .ref (P.2.1 20)]) 2 rfl ?_
  have hi := h.1
  replace h := h.2
  refine me_iast rfl (g := 20) rfl rfl hi ?_
  refine me_go (pc1 := 9) (lv1 := [(0, .ref P.1), (1, .int x1)]) (st1 := [.ref P.1]) 1 rfl ?_
  refine me_getf (v := .ref (P.2.1 22)) rfl rfl rfl ?_
  refine me_go (pc1 := 18) (lv1 := [(0, .ref P.1), (1, .int x1)]) (st1 := [.int (-1), .int (-1), .int 10, .ref P.1, .int x1, .ref (P.2.1 22)]) 5 rfl ?_
  refine me_callN rfl rfl rfl (h.mono (fun r1 μ1 h => ?_) (fun _ h => h))
  have hi := h.1
  replace h := h.2
  refine me_iast rfl (g := 22) rfl rfl hi ?_
  refine me_go (pc1 := 23) (lv1 := [(0, .ref P.1), (1, .int x1)]) (st1 := [.ref P.1]) 1 rfl ?_
  refine me_getf (v := .ref (P.2.1 22)) rfl rfl rfl ?_
  refine me_go (pc1 := 27) (lv1 := [(0, .ref P.1), (1, .int x1)]) (st1 := [.ref P.1, .ref (P.2.1 22)]) 1 rfl ?_
  refine me_getf (v := .ref (P.2.1 22)) rfl rfl rfl ?_
  refine me_go (pc1 := 31) (lv1 := [(0, .ref P.1), (1, .int x1)]) (st1 := [.int x1, .ref (P.2.1 22), .ref (P.2.1 22)]) 1 rfl ?_
  refine me_iald rfl (g := 22) rfl rfl h.1 ?_
  replace h := h.2
  refine me_go (pc1 := 33) (lv1 := [(0, .ref P.1), (1, .int x1)]) (st1 := [.ref P.1, .int (upd (μ1.2.1 22) x1.toNatClampNeg r1 x1.toNatClampNeg), .ref (P.2.1 22)]) 1 rfl ?_
  refine me_call rfl rfl rfl rfl (h.mono (fun r2 μ2 h => ?_) (fun _ h => h))
  have hi := h.1
  replace h := h.2
  refine me_iast rfl (g := 22) rfl rfl hi ?_
  refine me_go (pc1 := 40) (lv1 := [(0, .ref P.1), (1, .int x1)]) (st1 := [.int 111, .ref P.1]) 2 rfl ?_
  refine me_call rfl rfl rfl rfl (h.mono (fun r3 μ3 h => ?_) (fun _ h => h))
  refine me_go (pc1 := 44) (lv1 := [(0, .ref P.1), (1, .int x1)]) (st1 := [.ref P.1]) 1 rfl ?_
  refine me_getf (v := .ref (P.2.1 23)) rfl rfl rfl ?_
  refine me_go (pc1 := 49) (lv1 := [(0, .ref P.1), (1, .int x1)]) (st1 := [.ref P.1, .int x1, .ref (P.2.1 23)]) 2 rfl ?_
  refine me_call rfl rfl rfl rfl (h.mono (fun r4 μ4 h => ?_) (fun _ h => h))
  have hi := h.1
  replace h := h.2
  refine me_iast rfl (g := 23) rfl rfl hi ?_
  refine me_go (pc1 := 56) (lv1 := [(0, .ref P.1), (1, .int x1)]) (st1 := [.int 50, .ref P.1]) 2 rfl ?_
  refine me_call rfl rfl rfl rfl (h.mono (fun r5 μ5 h => ?_) (fun _ h => h))
  refine me_go (pc1 := 60) (lv1 := [(0, .ref P.1), (1, .int x1)]) (st1 := [.ref P.1]) 1 rfl ?_
  refine me_getf (v := .ref (P.2.1 24)) rfl rfl rfl ?_
  refine me_go (pc1 := 65) (lv1 := [(0, .ref P.1), (1, .int x1)]) (st1 := [.ref P.1, .int x1, .ref (P.2.1 24)]) 2 rfl ?_
  refine me_call rfl rfl rfl rfl (h.mono (fun r6 μ6 h => ?_) (fun _ h => h))
  have hi := h.1
  replace h := h.2
  refine me_iast rfl (g := 24) rfl rfl hi ?_
  refine me_go (pc1 := 72) (lv1 := [(0, .ref P.1), (1, .int x1)]) (st1 := [.int 7, .ref P.1]) 2 rfl ?_
  refine me_call rfl rfl rfl rfl (h.mono (fun r7 μ7 h => ?_) (fun _ h => h))
  refine me_go (pc1 := 76) (lv1 := [(0, .ref P.1), (1, .int x1)]) (st1 := [.ref P.1]) 1 rfl ?_
  refine me_getf (v := .ref (P.2.1 25)) rfl rfl rfl ?_
  refine me_go (pc1 := 81) (lv1 := [(0, .ref P.1), (1, .int x1)]) (st1 := [.ref P.1, .int x1, .ref (P.2.1 25)]) 2 rfl ?_
  refine me_call rfl rfl rfl rfl (h.mono (fun r8 μ8 h => ?_) (fun _ h => h))
  have hi := h.1
  replace h := h.2
  refine me_iast rfl (g := 25) rfl rfl hi ?_
  refine me_go (pc1 := 88) (lv1 := [(0, .ref P.1), (1, .int x1)]) (st1 := [.int 10, .ref P.1]) 2 rfl ?_
  refine me_call rfl rfl rfl rfl (h.mono (fun r9 μ9 h => ?_) (fun _ h => h))
  exact me_ret (v := none) (r := 0) rfl rfl rfl h
theorem v_tryStatement_0 {X : ev_X} {W : Nat → Prop} {d : Nat} {P : MP} {μ : MS} {R : Int32 → MS → Prop} {T : MS → Prop} (x1 : Int32) (h : MC X W true d 321 [.ref P.1] P μ (fun r1 μ1 => (MI x1 (μ1.2.2 22) ∧ MC X W true d 296 [.ref P.1, .int 15] P (mA1 μ1 22 x1.toNatClampNeg r1) (fun r2 μ2 => ((r2 = 0 → (MI x1 (μ2.2.2 20) ∧ MC X W true d 297 [.ref P.1, .int 11] P (mA1 μ2 20 x1.toNatClampNeg 51) (fun r3 μ3 => MC X W true d 328 [.ref P.1, .int 52] P μ3 (fun r4 μ4 => (MI x1 (μ4.2.2 23) ∧ MC X W true d 326 [.ref P.1, .int x1] P (mA1 μ4 23 x1.toNatClampNeg r4) (fun r5 μ5 => R 0 μ5) T)) T) T)) ∧ (¬ r2 = 0 → (MI x1 (μ2.2.2 20) ∧ MC X W true d 294 [.ref P.1] P (mA1 μ2 20 x1.toNatClampNeg 53) (fun r6 μ6 => MC X W true d 321 [.ref P.1] P μ6 (fun r7 μ7 => (MI x1 (μ7.2.2 23) ∧ MC X W true d 297 [.ref P.1, .int 10] P (mA1 μ7 23 x1.toNatClampNeg r7) (fun r8 μ8 => R 0 μ8) T)) T) T)))) (fun _ => False))) T) : ME X W true d 325 0 [(0, .ref P.1), (1, .int x1)] [] P μ R T := by
  refine me_go (pc1 := 1) (lv1 := [(0, .ref P.1), (1, .int x1)]) (st1 := [.ref P.1]) 1 rfl ?_
  refine me_getf (v := .ref (P.2.1 22)) rfl rfl rfl ?_
  refine me_go (pc1 := 6) (lv1 := [(0, .ref P.1), (1, .int x1)]) (st1 := [.ref P.1, .int x1, .ref (P.2.1 22)]) 2 rfl ?_
  refine me_call rfl rfl rfl rfl (h.mono (fun r1 μ1 h => ?_) (fun _ h => h))
  have hi := h.1
  replace h := h.2
  refine me_iast rfl (g := 22) rfl rfl hi ?_
  refine me_go (pc1 := 13) (lv1 := [(0, .ref P.1), (1, .int x1)]) (st1 := [.int 15, .ref P.1]) 2 rfl ?_
  refine me_callN rfl rfl rfl (h.mono (fun r2 μ2 h => ?_) (fun _ h => h))
  refine me_ifc rfl rfl (fun c => ?_) (fun c => ?_)
  · replace h := h.1 (ci_eq c)
    refine me_go (pc1 := 49) (lv1 := [(0, .ref P.1), (1, .int x1)]) (st1 := [.ref P.1]) 1 rfl ?_
    refine me_getf (v := .ref (P.2.1 20)) rfl rfl rfl ?_
    refine me_go (pc1 := 55) (lv1 := [(0, .ref P.1), (1, .int x1)]) (st1 := [.int 51, .int x1, .ref (P.2.1 20)]) 2 rfl ?_
    have hi := h.1
    replace h := h.2
    refine me_iast rfl (g := 20) rfl rfl hi ?_
    refine me_go (pc1 := 59) (lv1 := [(0, .ref P.1), (1, .int x1)]) (st1 := [.int 11, .ref P.1]) 2 rfl ?_
    refine me_call rfl rfl rfl rfl (h.mono (fun r3 μ3 h => ?_) (fun _ h => h))
    refine me_go (pc1 := 63) (lv1 := [(0, .ref P.1), (1, .int x1)]) (st1 := [.ref P.1]) 1 rfl ?_
    refine me_getf (v := .ref (P.2.1 23)) rfl rfl rfl ?_
    refine me_go (pc1 := 70) (lv1 := [(0, .ref P.1), (1, .int x1)]) (st1 := [.int 52, .ref P.1, .int x1, .ref (P.2.1 23)]) 3 rfl ?_
    refine me_call rfl rfl rfl rfl (h.mono (fun r4 μ4 h => ?_) (fun _ h => h))
    have hi := h.1
    replace h := h.2
    refine me_iast rfl (g := 23) rfl rfl hi ?_
    refine me_go (pc1 := 76) (lv1 := [(0, .ref P.1), (1, .int x1)]) (st1 := [.int x1, .ref P.1]) 2 rfl ?_
    refine me_call rfl rfl rfl rfl (h.mono (fun r5 μ5 h => ?_) (fun _ h => h))
    exact me_ret (v := none) (r := 0) rfl rfl rfl h
  · replace h := h.2 (cn_eq c)
    refine me_go (pc1 := 20) (lv1 := [(0, .ref P.1), (1, .int x1)]) (st1 := [.ref P.1]) 1 rfl ?_
    refine me_getf (v := .ref (P.2.1 20)) rfl rfl rfl ?_
    refine me_go (pc1 := 26) (lv1 := [(0, .ref P.1), (1, .int x1)]) (st1 := [.int 53, .int x1, .ref (P.2.1 20)]) 2 rfl ?_
    have hi := h.1
    replace h := h.2
    refine me_iast rfl (g := 20) rfl rfl hi ?_
    refine me_go (pc1 := 28) (lv1 := [(0, .ref P.1), (1, .int x1)]) (st1 := [.ref P.1]) 1 rfl ?_
    refine me_call rfl rfl rfl rfl (h.mono (fun r6 μ6 h => ?_) (fun _ h => h))
    refine me_go (pc1 := 32) (lv1 := [(0, .ref P.1), (1, .int x1)]) (st1 := [.ref P.1]) 1 rfl ?_
    refine me_getf (v := .ref (P.2.1 23)) rfl rfl rfl ?_
    refine me_go (pc1 := 37) (lv1 := [(0, .ref P.1), (1, .int x1)]) (st1 := [.ref P.1, .int x1, .ref (P.2.1 23)]) 2 rfl ?_
    refine me_call rfl rfl rfl rfl (h.mono (fun r7 μ7 h => ?_) (fun _ h => h))
    have hi := h.1
    replace h := h.2
    refine me_iast rfl (g := 23) rfl rfl hi ?_
    refine me_go (pc1 := 44) (lv1 := [(0, .ref P.1), (1, .int x1)]) (st1 := [.int 10, .ref P.1]) 2 rfl ?_
    refine me_call rfl rfl rfl rfl (h.mono (fun r8 μ8 h => ?_) (fun _ h => h))
    exact me_ret (v := none) (r := 0) rfl rfl rfl h
theorem v_otherwise_0 {X : ev_X} {W : Nat → Prop} {d : Nat} {P : MP} {μ : MS} {R : Int32 → MS → Prop} {T : MS → Prop} (x1 : Int32) (h : MC X W true d 296 [.ref P.1, .int 8] P μ (fun r1 μ1 => ((r1 = 0 → (MI x1 (μ1.2.2 25) ∧ MC X W true d 296 [.ref P.1, .int 8] P (mA1 μ1 25 x1.toNatClampNeg 0) (fun r2 μ2 => ((r2 = 0 → MC X W true d 297 [.ref P.1, .int 10] P μ2 (fun r3 μ3 => R 0 μ3) T) ∧ (¬ r2 = 0 → MC X W true d 294 [.ref P.1] P μ2 (fun r4 μ4 => MC X W true d 321 [.ref P.1] P μ4 (fun r5 μ5 => (MI x1 (μ5.2.2 24) ∧ MC X W true d 297 [.ref P.1, .int 10] P (mA1 μ5 24 x1.toNatClampNeg r5) (fun r6 μ6 => R 0 μ6) T)) T) T))) (fun _ => False))) ∧ (¬ r1 = 0 → (MI x1 (μ1.2.2 25) ∧ MC X W true d 296 [.ref P.1, .int 8] P (mA1 μ1 25 x1.toNatClampNeg 1) (fun r7 μ7 => ((r7 = 0 → MC X W true d 297 [.ref P.1, .int 10] P μ7 (fun r8 μ8 => R 0 μ8) T) ∧ (¬ r7 = 0 → MC X W true d 294 [.ref P.1] P μ7 (fun r9 μ9 => MC X W true d 321 [.ref P.1] P μ9 (fun r10 μ10 => (MI x1 (μ10.2.2 24) ∧ MC X W true d 297 [.ref P.1, .int 10] P (mA1 μ10 24 x1.toNatClampNeg r10) (fun r11 μ11 => R 0 μ11) T)) T) T))) (fun _ => False))))) (fun _ => False)) : ME X W true d 326 0 [(0, .ref P.1), (1, .int x1)] [] P μ R T := by
  refine me_go (pc1 := 1) (lv1 := [(0, .ref P.1), (1, .int x1)]) (st1 := [.ref P.1]) 1 rfl ?_
  refine me_getf (v := .ref (P.2.1 25)) rfl rfl rfl ?_
  refine me_go (pc1 := 8) (lv1 := [(0, .ref P.1), (1, .int x1)]) (st1 := [.int 8, .ref P.1, .int x1, .ref (P.2.1 25)]) 3 rfl ?_
  refine me_callN rfl rfl rfl (h.mono (fun r1 μ1 h => ?_) (fun _ h => h))
  refine me_ifc rfl rfl (fun c => ?_) (fun c => ?_)
  · replace h := h.1 (ci_eq c)
    refine me_go (pc1 := 19) (lv1 := [(0, .ref P.1), (1, .int x1)]) (st1 := [.int 0, .int x1, .ref (P.2.1 25)]) 1 rfl ?_
    have hi := h.1
    replace h := h.2
    refine me_iast rfl (g := 25) rfl rfl hi ?_
    refine me_go (pc1 := 23) (lv1 := [(0, .ref P.1), (1, .int x1)]) (st1 := [.int 8, .ref P.1]) 2 rfl ?_
    refine me_callN rfl rfl rfl (h.mono (fun r2 μ2 h => ?_) (fun _ h => h))
    refine me_ifc rfl rfl (fun c => ?_) (fun c => ?_)
    · replace h := h.1 (ci_eq c)
      refine me_go (pc1 := 46) (lv1 := [(0, .ref P.1), (1, .int x1)]) (st1 := [.int 10, .ref P.1]) 2 rfl ?_
      refine me_call rfl rfl rfl rfl (h.mono (fun r3 μ3 h => ?_) (fun _ h => h))
      exact me_ret (v := none) (r := 0) rfl rfl rfl h
    · replace h := h.2 (cn_eq c)
      refine me_go (pc1 := 30) (lv1 := [(0, .ref P.1), (1, .int x1)]) (st1 := [.ref P.1]) 1 rfl ?_
      refine me_call rfl rfl rfl rfl (h.mono (fun r4 μ4 h => ?_) (fun _ h => h))
      refine me_go (pc1 := 34) (lv1 := [(0, .ref P.1), (1, .int x1)]) (st1 := [.ref P.1]) 1 rfl ?_
      refine me_getf (v := .ref (P.2.1 24)) rfl rfl rfl ?_
      refine me_go (pc1 := 39) (lv1 := [(0, .ref P.1), (1, .int x1)]) (st1 := [.ref P.1, .int x1, .ref (P.2.1 24)]) 2 rfl ?_
      refine me_call rfl rfl rfl rfl (h.mono (fun r5 μ5 h => ?_) (fun _ h => h))
      have hi := h.1
      replace h := h.2
      refine me_iast rfl (g := 24) rfl rfl hi ?_
      refine me_go (pc1 := 46) (lv1 := [(0, .ref P.1), (1, .int x1)]) (st1 := [.int 10, .ref P.1]) 2 rfl ?_
      refine me_call rfl rfl rfl rfl (h.mono (fun r6 μ6 h => ?_) (fun _ h => h))
      exact me_ret (v := none) (r := 0) rfl rfl rfl h
  · replace h := h.2 (cn_eq c)
    refine me_go (pc1 := 19) (lv1 := [(0, .ref P.1), (1, .int x1)]) (st1 := [.int 1, .int x1, .ref (P.2.1 25)]) 2 rfl ?_
    have hi := h.1
    replace h := h.2
    refine me_iast rfl (g := 25) rfl rfl hi ?_
    refine me_go (pc1 := 23) (lv1 := [(0, .ref P.1), (1, .int x1)]) (st1 := [.int 8, .ref P.1]) 2 rfl ?_
    refine me_callN rfl rfl rfl (h.mono (fun r7 μ7 h => ?_) (fun _ h => h))
    refine me_ifc rfl rfl (fun c => ?_) (fun c => ?_)
    · replace h := h.1 (ci_eq c)
      refine me_go (pc1 := 46) (lv1 := [(0, .ref P.1), (1, .int x1)]) (st1 := [.int 10, .ref P.1]) 2 rfl ?_
      refine me_call rfl rfl rfl rfl (h.mono (fun r8 μ8 h => ?_) (fun _ h => h))
      exact me_ret (v := none) (r := 0) rfl rfl rfl h
    · replace h := h.2 (cn_eq c)
      refine me_go (pc1 := 30) (lv1 := [(0, .ref P.1), (1, .int x1)]) (st1 := [.ref P.1]) 1 rfl ?_
      refine me_call rfl rfl rfl rfl (h.mono (fun r9 μ9 h => ?_) (fun _ h => h))
      refine me_go (pc1 := 34) (lv1 := [(0, .ref P.1), (1, .int x1)]) (st1 := [.ref P.1]) 1 rfl ?_
      refine me_getf (v := .ref (P.2.1 24)) rfl rfl rfl ?_
      refine me_go (pc1 := 39) (lv1 := [(0, .ref P.1), (1, .int x1)]) (st1 := [.ref P.1, .int x1, .ref (P.2.1 24)]) 2 rfl ?_
      refine me_call rfl rfl rfl rfl (h.mono (fun r10 μ10 h => ?_) (fun _ h => h))
      have hi := h.1
      replace h := h.2
      refine me_iast rfl (g := 24) rfl rfl hi ?_
      refine me_go (pc1 := 46) (lv1 := [(0, .ref P.1), (1, .int x1)]) (st1 := [.int 10, .ref P.1]) 2 rfl ?_
      refine me_call rfl rfl rfl rfl (h.mono (fun r11 μ11 h => ?_) (fun _ h => h))
      exact me_ret (v := none) (r := 0) rfl rfl rfl h
theorem v_typecase_0 {X : ev_X} {W : Nat → Prop} {d : Nat} {P : MP} {μ : MS} {R : Int32 → MS → Prop} {T : MS → Prop} (x1 : Int32) (h : (MI x1 (μ.2.2 20) ∧ MC X W true d 332 [.ref P.1] P (mA1 μ 20 x1.toNatClampNeg 60) (fun r1 μ1 => (MI x1 (μ1.2.2 22) ∧ MC X W true d 297 [.ref P.1, .int 35] P (mA1 μ1 22 x1.toNatClampNeg r1) (fun r2 μ2 => MC X W true d 328 [.ref P.1, .int 61] P μ2 (fun r3 μ3 => (MI x1 (μ3.2.2 23) ∧ MC X W true d 326 [.ref P.1, .int x1] P (mA1 μ3 23 x1.toNatClampNeg r3) (fun r4 μ4 => R 0 μ4) T)) T) T)) T)) : ME X W true d 327 0 [(0, .ref P.1), (1, .int x1)] [] P μ R T := by
  refine me_go (pc1 := 1) (lv1 := [(0, .ref P.1), (1, .int x1)]) (st1 := [.ref P.1]) 1 rfl ?_
  refine me_getf (v := .ref (P.2.1 20)) rfl rfl rfl ?_
  refine me_go (pc1 := 7) (lv1 := [(0, .ref P.1), (1, .int x1)]) (st1 := [.int 60, .int x1, .ref (P.2.1 20)]) 2 rfl ?_
  have hi := h.1
  replace h := h.2
  refine me_iast rfl (g := 20) rfl rfl hi ?_
  refine me_go (pc1 := 9) (lv1 := [(0, .ref P.1), (1, .int x1)]) (st1 := [.ref P.1]) 1 rfl ?_
  refine me_getf (v := .ref (P.2.1 22)) rfl rfl rfl ?_
  refine me_go (pc1 := 14) (lv1 := [(0, .ref P.1), (1, .int x1)]) (st1 := [.ref P.1, .int x1, .ref (P.2.1 22)]) 2 rfl ?_
  refine me_call rfl rfl rfl rfl (h.mono (fun r1 μ1 h => ?_) (fun _ h => h))
  have hi := h.1
  replace h := h.2
  refine me_iast rfl (g := 22) rfl rfl hi ?_
  refine me_go (pc1 := 21) (lv1 := [(0, .ref P.1), (1, .int x1)]) (st1 := [.int 35, .ref P.1]) 2 rfl ?_
  refine me_call rfl rfl rfl rfl (h.mono (fun r2 μ2 h => ?_) (fun _ h => h))
  refine me_go (pc1 := 25) (lv1 := [(0, .ref P.1), (1, .int x1)]) (st1 := [.ref P.1]) 1 rfl ?_
  refine me_getf (v := .ref (P.2.1 23)) rfl rfl rfl ?_
  refine me_go (pc1 := 32) (lv1 := [(0, .ref P.1), (1, .int x1)]) (st1 := [.int 61, .ref P.1, .int x1, .ref (P.2.1 23)]) 3 rfl ?_
  refine me_call rfl rfl rfl rfl (h.mono (fun r3 μ3 h => ?_) (fun _ h => h))
  have hi := h.1
  replace h := h.2
  refine me_iast rfl (g := 23) rfl rfl hi ?_
  refine me_go (pc1 := 38) (lv1 := [(0, .ref P.1), (1, .int x1)]) (st1 := [.int x1, .ref P.1]) 2 rfl ?_
  refine me_call rfl rfl rfl rfl (h.mono (fun r4 μ4 h => ?_) (fun _ h => h))
  exact me_ret (v := none) (r := 0) rfl rfl rfl h
theorem v_cases_0 {X : ev_X} {W : Nat → Prop} {d : Nat} {P : MP} {μ : MS} {R : Int32 → MS → Prop} {T : MS → Prop} (x1 : Int32) (h : ME X W true d 328 4 [(0, .ref P.1), (1, .int x1), (2, .int (-1)), (3, .int (-1))] [] P μ R T) : ME X W true d 328 0 [(0, .ref P.1), (1, .int x1)] [] P μ R T := by
  refine me_go (pc1 := 4) (lv1 := [(3, .int (-1)), (2, .int (-1)), (0, .ref P.1), (1, .int x1)]) (st1 := []) 4 rfl ?_
  refine me_lv [(0, .ref P.1), (1, .int x1), (2, .int (-1)), (3, .int (-1))] (fl_c rfl (fl_c rfl (fl_c rfl (fl_c rfl fl_0)))) ?_
  exact h
theorem v_cases_4 {X : ev_X} {W : Nat → Prop} {d : Nat} {P : MP} {μ : MS} {R : Int32 → MS → Prop} {T : MS → Prop} (x1 : Int32) (x2 : Int32) (x3 : Int32) (h : MC X W true d 296 [.ref P.1, .int 122] P μ (fun r1 μ1 => ((r1 = 0 → R x2 μ1) ∧ (¬ r1 = 0 → MC X W true d 294 [.ref P.1] P μ1 (fun r2 μ2 => MC X W true d 292 [.ref P.1, .int x1, .int (-1), .int (-1)] P μ2 (fun r3 μ3 => ((¬ x1 = 52 → MC X W true d 312 [.ref P.1] P μ3 (fun r4 μ4 => (MI r3 (μ4.2.2 22) ∧ MC X W true d 299 [.ref P.1, .int 100] P (mA1 μ4 22 r3.toNatClampNeg r4) (fun r5 μ5 => MC X W true d 292 [.ref P.1, .int 10, .int (-1), .int (-1)] P μ5 (fun r6 μ6 => (MI r3 (μ6.2.2 23) ∧ (MI r3 (μ6.2.2 23) ∧ MC X W true d 298 [.ref P.1] P (mA1 μ6 23 r3.toNatClampNeg r6) (fun r7 μ7 => (MI (upd (μ6.2.1 23) r3.toNatClampNeg r6 r3.toNatClampNeg) (μ7.2.2 22) ∧ MC X W true d 300 [.ref P.1, .int 101] P (mA1 μ7 22 (((upd (μ6.2.1 23) r3.toNatClampNeg r6 r3.toNatClampNeg)).toNatClampNeg) r7) (fun r8 μ8 => MC X W true d 297 [.ref P.1, .int 124] P μ8 (fun r9 μ9 => MC X W true d 321 [.ref P.1] P μ9 (fun r10 μ10 => (MI r3 (μ10.2.2 24) ∧ (((0 : Int) ≤ x2.toInt → (MI x3 (μ10.2.2 27) ∧ ME X W true d 328 4 [(0, .ref P.1), (1, .int x1), (2, .int x2), (3, .int r3)] [] P (mA1 (mA1 μ10 24 r3.toNatClampNeg r10) 27 x3.toNatClampNeg r3) R T)) ∧ (x2.toInt < (0 : Int) → ME X W true d 328 4 [(0, .ref P.1), (1, .int x1), (2, .int r3), (3, .int r3)] [] P (mA1 μ10 24 r3.toNatClampNeg r10) R T)))) T) T) T)) T))) (fun _ => False)) T)) T) ∧ (x1 = 52 → MC X W true d 305 [.ref P.1] P μ3 (fun r11 μ11 => (MI r3 (μ11.2.2 22) ∧ MC X W true d 299 [.ref P.1, .int 100] P (mA1 μ11 22 r3.toNatClampNeg r11) (fun r12 μ12 => MC X W true d 292 [.ref P.1, .int 10, .int (-1), .int (-1)] P μ12 (fun r13 μ13 => (MI r3 (μ13.2.2 23) ∧ (MI r3 (μ13.2.2 23) ∧ MC X W true d 298 [.ref P.1] P (mA1 μ13 23 r3.toNatClampNeg r13) (fun r14 μ14 => (MI (upd (μ13.2.1 23) r3.toNatClampNeg r13 r3.toNatClampNeg) (μ14.2.2 22) ∧ MC X W true d 300 [.ref P.1, .int 101] P (mA1 μ14 22 (((upd (μ13.2.1 23) r3.toNatClampNeg r13 r3.toNatClampNeg)).toNatClampNeg) r14) (fun r15 μ15 => MC X W true d 297 [.ref P.1, .int 124] P μ15 (fun r16 μ16 => MC X W true d 321 [.ref P.1] P μ16 (fun r17 μ17 => (MI r3 (μ17.2.2 24) ∧ (((0 : Int) ≤ x2.toInt → (MI x3 (μ17.2.2 27) ∧ ME X W true d 328 4 [(0, .ref P.1), (1, .int x1), (2, .int x2), (3, .int r3)] [] P (mA1 (mA1 μ17 24 r3.toNatClampNeg r17) 27 x3.toNatClampNeg r3) R T)) ∧ (x2.toInt < (0 : Int) → ME X W true d 328 4 [(0, .ref P.1), (1, .int x1), (2, .int r3), (3, .int r3)] [] P (mA1 μ17 24 r3.toNatClampNeg r17) R T)))) T) T) T)) T))) (fun _ => False)) T)) T))) (fun _ => False)) T))) (fun _ => False)) : ME X W true d 328 4 [(0, .ref P.1), (1, .int x1), (2, .int x2), (3, .int x3)] [] P μ R T := by
  refine me_go (pc1 := 7) (lv1 := [(0, .ref P.1), (1, .int x1), (2, .int x2), (3, .int x3)]) (st1 := [.int 122, .ref P.1]) 2 rfl ?_
  refine me_callN rfl rfl rfl (h.mono (fun r1 μ1 h => ?_) (fun _ h => h))
  refine me_ifc rfl rfl (fun c => ?_) (fun c => ?_)
  · replace h := h.1 (ci_eq c)
    refine me_go (pc1 := 135) (lv1 := [(0, .ref P.1), (1, .int x1), (2, .int x2), (3, .int x3)]) (st1 := [.int x2]) 1 rfl ?_
    exact me_ret rfl rfl rfl h
  · replace h := h.2 (cn_eq c)
    refine me_go (pc1 := 14) (lv1 := [(0, .ref P.1), (1, .int x1), (2, .int x2), (3, .int x3)]) (st1 := [.ref P.1]) 1 rfl ?_
    refine me_call rfl rfl rfl rfl (h.mono (fun r2 μ2 h => ?_) (fun _ h => h))
    refine me_go (pc1 := 21) (lv1 := [(0, .ref P.1), (1, .int x1), (2, .int x2), (3, .int x3)]) (st1 := [.int (-1), .int (-1), .int x1, .ref P.1]) 4 rfl ?_
    refine me_callN rfl rfl rfl (h.mono (fun r3 μ3 h => ?_) (fun _ h => h))
    refine me_go (pc1 := 27) (lv1 := [(4, .int r3), (0, .ref P.1), (1, .int x1), (2, .int x2), (3, .int x3)]) (st1 := [.ref P.1]) 2 rfl ?_
    refine me_getf (v := .ref (P.2.1 22)) rfl rfl rfl ?_
    refine me_go (pc1 := 35) (lv1 := [(4, .int r3), (0, .ref P.1), (1, .int x1), (2, .int x2), (3, .int x3)]) (st1 := [.int 52, .int x1, .int r3, .ref (P.2.1 22)]) 3 rfl ?_
    refine me_icmp rfl rfl (fun c => ?_) (fun c => ?_)
    · replace h := h.1 (ci_ne c)
      refine me_go (pc1 := 46) (lv1 := [(4, .int r3), (0, .ref P.1), (1, .int x1), (2, .int x2), (3, .int x3)]) (st1 := [.ref P.1, .int r3, .ref (P.2.1 22)]) 1 rfl ?_
      refine me_call rfl rfl rfl rfl (h.mono (fun r4 μ4 h => ?_) (fun _ h => h))
      have hi := h.1
      replace h := h.2
      refine me_iast rfl (g := 22) rfl rfl hi ?_
      refine me_go (pc1 := 53) (lv1 := [(4, .int r3), (0, .ref P.1), (1, .int x1), (2, .int x2), (3, .int x3)]) (st1 := [.int 100, .ref P.1]) 2 rfl ?_
      refine me_call rfl rfl rfl rfl (h.mono (fun r5 μ5 h => ?_) (fun _ h => h))
      refine me_go (pc1 := 57) (lv1 := [(4, .int r3), (0, .ref P.1), (1, .int x1), (2, .int x2), (3, .int x3)]) (st1 := [.ref P.1]) 1 rfl ?_
      refine me_getf (v := .ref (P.2.1 23)) rfl rfl rfl ?_
      refine me_go (pc1 := 67) (lv1 := [(4, .int r3), (0, .ref P.1), (1, .int x1), (2, .int x2), (3, .int x3)]) (st1 := [.int (-1), .int (-1), .int 10, .ref P.1, .int r3, .ref (P.2.1 23)]) 5 rfl ?_
      refine me_callN rfl rfl rfl (h.mono (fun r6 μ6 h => ?_) (fun _ h => h))
      have hi := h.1
      replace h := h.2
      refine me_iast rfl (g := 23) rfl rfl hi ?_
      refine me_go (pc1 := 72) (lv1 := [(4, .int r3), (0, .ref P.1), (1, .int x1), (2, .int x2), (3, .int x3)]) (st1 := [.ref P.1]) 1 rfl ?_
      refine me_getf (v := .ref (P.2.1 22)) rfl rfl rfl ?_
      refine me_go (pc1 := 76) (lv1 := [(4, .int r3), (0, .ref P.1), (1, .int x1), (2, .int x2), (3, .int x3)]) (st1 := [.ref P.1, .ref (P.2.1 22)]) 1 rfl ?_
      refine me_getf (v := .ref (P.2.1 23)) rfl rfl rfl ?_
      refine me_go (pc1 := 81) (lv1 := [(4, .int r3), (0, .ref P.1), (1, .int x1), (2, .int x2), (3, .int x3)]) (st1 := [.int r3, .ref (P.2.1 23), .ref (P.2.1 22)]) 1 rfl ?_
      refine me_iald rfl (g := 23) rfl rfl h.1 ?_
      replace h := h.2
      refine me_go (pc1 := 83) (lv1 := [(4, .int r3), (0, .ref P.1), (1, .int x1), (2, .int x2), (3, .int x3)]) (st1 := [.ref P.1, .int (upd (μ6.2.1 23) r3.toNatClampNeg r6 r3.toNatClampNeg), .ref (P.2.1 22)]) 1 rfl ?_
      refine me_call rfl rfl rfl rfl (h.mono (fun r7 μ7 h => ?_) (fun _ h => h))
      have hi := h.1
      replace h := h.2
      refine me_iast rfl (g := 22) rfl rfl hi ?_
      refine me_go (pc1 := 90) (lv1 := [(4, .int r3), (0, .ref P.1), (1, .int x1), (2, .int x2), (3, .int x3)]) (st1 := [.int 101, .ref P.1]) 2 rfl ?_
      refine me_call rfl rfl rfl rfl (h.mono (fun r8 μ8 h => ?_) (fun _ h => h))
      refine me_go (pc1 := 96) (lv1 := [(4, .int r3), (0, .ref P.1), (1, .int x1), (2, .int x2), (3, .int x3)]) (st1 := [.int 124, .ref P.1]) 2 rfl ?_
      refine me_call rfl rfl rfl rfl (h.mono (fun r9 μ9 h => ?_) (fun _ h => h))
      refine me_go (pc1 := 100) (lv1 := [(4, .int r3), (0, .ref P.1), (1, .int x1), (2, .int x2), (3, .int x3)]) (st1 := [.ref P.1]) 1 rfl ?_
      refine me_getf (v := .ref (P.2.1 24)) rfl rfl rfl ?_
      refine me_go (pc1 := 106) (lv1 := [(4, .int r3), (0, .ref P.1), (1, .int x1), (2, .int x2), (3, .int x3)]) (st1 := [.ref P.1, .int r3, .ref (P.2.1 24)]) 2 rfl ?_
      refine me_call rfl rfl rfl rfl (h.mono (fun r10 μ10 h => ?_) (fun _ h => h))
      have hi := h.1
      replace h := h.2
      refine me_iast rfl (g := 24) rfl rfl hi ?_
      refine me_go (pc1 := 111) (lv1 := [(4, .int r3), (0, .ref P.1), (1, .int x1), (2, .int x2), (3, .int x3)]) (st1 := [.int x2]) 1 rfl ?_
      refine me_ifc rfl rfl (fun c => ?_) (fun c => ?_)
      · replace h := h.1 (ci_ge c)
        refine me_go (pc1 := 121) (lv1 := [(4, .int r3), (0, .ref P.1), (1, .int x1), (2, .int x2), (3, .int x3)]) (st1 := [.ref P.1]) 1 rfl ?_
        refine me_getf (v := .ref (P.2.1 27)) rfl rfl rfl ?_
        refine me_go (pc1 := 127) (lv1 := [(4, .int r3), (0, .ref P.1), (1, .int x1), (2, .int x2), (3, .int x3)]) (st1 := [.int r3, .int x3, .ref (P.2.1 27)]) 2 rfl ?_
        have hi := h.1
        replace h := h.2
        refine me_iast rfl (g := 27) rfl rfl hi ?_
        refine me_go (pc1 := 4) (lv1 := [(3, .int r3), (4, .int r3), (0, .ref P.1), (1, .int x1), (2, .int x2)]) (st1 := []) 3 rfl ?_
        refine me_lv [(0, .ref P.1), (1, .int x1), (2, .int x2), (3, .int r3)] (fl_c rfl (fl_c rfl (fl_c rfl (fl_c rfl fl_0)))) ?_
        exact h
      · replace h := h.2 (cn_ge c)
        refine me_go (pc1 := 4) (lv1 := [(3, .int r3), (2, .int r3), (4, .int r3), (0, .ref P.1), (1, .int x1)]) (st1 := []) 6 rfl ?_
        refine me_lv [(0, .ref P.1), (1, .int x1), (2, .int r3), (3, .int r3)] (fl_c rfl (fl_c rfl (fl_c rfl (fl_c rfl fl_0)))) ?_
        exact h
    · replace h := h.2 (cn_ne c)
      refine me_go (pc1 := 39) (lv1 := [(4, .int r3), (0, .ref P.1), (1, .int x1), (2, .int x2), (3, .int x3)]) (st1 := [.ref P.1, .int r3, .ref (P.2.1 22)]) 1 rfl ?_
      refine me_call rfl rfl rfl rfl (h.mono (fun r11 μ11 h => ?_) (fun _ h => h))
      refine me_go (pc1 := 49) (lv1 := [(4, .int r3), (0, .ref P.1), (1, .int x1), (2, .int x2), (3, .int x3)]) (st1 := [.int r11, .int r3, .ref (P.2.1 22)]) 1 rfl ?_
      have hi := h.1
      replace h := h.2
      refine me_iast rfl (g := 22) rfl rfl hi ?_
      refine me_go (pc1 := 53) (lv1 := [(4, .int r3), (0, .ref P.1), (1, .int x1), (2, .int x2), (3, .int x3)]) (st1 := [.int 100, .ref P.1]) 2 rfl ?_
      refine me_call rfl rfl rfl rfl (h.mono (fun r12 μ12 h => ?_) (fun _ h => h))
      refine me_go (pc1 := 57) (lv1 := [(4, .int r3), (0, .ref P.1), (1, .int x1), (2, .int x2), (3, .int x3)]) (st1 := [.ref P.1]) 1 rfl ?_
      refine me_getf (v := .ref (P.2.1 23)) rfl rfl rfl ?_
      refine me_go (pc1 := 67) (lv1 := [(4, .int r3), (0, .ref P.1), (1, .int x1), (2, .int x2), (3, .int x3)]) (st1 := [.int (-1), .int (-1), .int 10, .ref P.1, .int r3, .ref (P.2.1 23)]) 5 rfl ?_
      refine me_callN rfl rfl rfl (h.mono (fun r13 μ13 h => ?_) (fun _ h => h))
      have hi := h.1
      replace h := h.2
      refine me_iast rfl (g := 23) rfl rfl hi ?_
      refine me_go (pc1 := 72) (lv1 := [(4, .int r3), (0, .ref P.1), (1, .int x1), (2, .int x2), (3, .int x3)]) (st1 := [.ref P.1]) 1 rfl ?_
      refine me_getf (v := .ref (P.2.1 22)) rfl rfl rfl ?_
      refine me_go (pc1 := 76) (lv1 := [(4, .int r3), (0, .ref P.1), (1, .int x1), (2, .int x2), (3, .int x3)]) (st1 := [.ref P.1, .ref (P.2.1 22)]) 1 rfl ?_
      refine me_getf (v := .ref (P.2.1 23)) rfl rfl rfl ?_
      refine me_go (pc1 := 81) (lv1 := [(4, .int r3), (0, .ref P.1), (1, .int x1), (2, .int x2), (3, .int x3)]) (st1 := [.int r3, .ref (P.2.1 23), .ref (P.2.1 22)]) 1 rfl ?_
      refine me_iald rfl (g := 23) rfl rfl h.1 ?_
      replace h := h.2
      refine me_go (pc1 := 83) (lv1 := [(4, .int r3), (0, .ref P.1), (1, .int x1), (2, .int x2), (3, .int x3)]) (st1 := [.ref P.1, .int (upd (μ13.2.1 23) r3.toNatClampNeg r13 r3.toNatClampNeg), .ref (P.2.1 22)]) 1 rfl ?_
      refine me_call rfl rfl rfl rfl (h.mono (fun r14 μ14 h => ?_) (fun _ h => h))
      have hi := h.1
      replace h := h.2
      refine me_iast rfl (g := 22) rfl rfl hi ?_
      refine me_go (pc1 := 90) (lv1 := [(4, .int r3), (0, .ref P.1), (1, .int x1), (2, .int x2), (3, .int x3)]) (st1 := [.int 101, .ref P.1]) 2 rfl ?_
      refine me_call rfl rfl rfl rfl (h.mono (fun r15 μ15 h => ?_) (fun _ h => h))
      refine me_go (pc1 := 96) (lv1 := [(4, .int r3), (0, .ref P.1), (1, .int x1), (2, .int x2), (3, .int x3)]) (st1 := [.int 124, .ref P.1]) 2 rfl ?_
      refine me_call rfl rfl rfl rfl (h.mono (fun r16 μ16 h => ?_) (fun _ h => h))
      refine me_go (pc1 := 100) (lv1 := [(4, .int r3), (0, .ref P.1), (1, .int x1), (2, .int x2), (3, .int x3)]) (st1 := [.ref P.1]) 1 rfl ?_
      refine me_getf (v := .ref (P.2.1 24)) rfl rfl rfl ?_
      refine me_go (pc1 := 106) (lv1 := [(4, .int r3), (0, .ref P.1), (1, .int x1), (2, .int x2), (3, .int x3)]) (st1 := [.ref P.1, .int r3, .ref (P.2.1 24)]) 2 rfl ?_
      refine me_call rfl rfl rfl rfl (h.mono (fun r17 μ17 h => ?_) (fun _ h => h))
      have hi := h.1
      replace h := h.2
      refine me_iast rfl (g := 24) rfl rfl hi ?_
      refine me_go (pc1 := 111) (lv1 := [(4, .int r3), (0, .ref P.1), (1, .int x1), (2, .int x2), (3, .int x3)]) (st1 := [.int x2]) 1 rfl ?_
      refine me_ifc rfl rfl (fun c => ?_) (fun c => ?_)
      · replace h := h.1 (ci_ge c)
        refine me_go (pc1 := 121) (lv1 := [(4, .int r3), (0, .ref P.1), (1, .int x1), (2, .int x2), (3, .int x3)]) (st1 := [.ref P.1]) 1 rfl ?_
        refine me_getf (v := .ref (P.2.1 27)) rfl rfl rfl ?_
        refine me_go (pc1 := 127) (lv1 := [(4, .int r3), (0, .ref P.1), (1, .int x1), (2, .int x2), (3, .int x3)]) (st1 := [.int r3, .int x3, .ref (P.2.1 27)]) 2 rfl ?_
        have hi := h.1
        replace h := h.2
        refine me_iast rfl (g := 27) rfl rfl hi ?_
        refine me_go (pc1 := 4) (lv1 := [(3, .int r3), (4, .int r3), (0, .ref P.1), (1, .int x1), (2, .int x2)]) (st1 := []) 3 rfl ?_
        refine me_lv [(0, .ref P.1), (1, .int x1), (2, .int x2), (3, .int r3)] (fl_c rfl (fl_c rfl (fl_c rfl (fl_c rfl fl_0)))) ?_
        exact h
      · replace h := h.2 (cn_ge c)
        refine me_go (pc1 := 4) (lv1 := [(3, .int r3), (2, .int r3), (4, .int r3), (0, .ref P.1), (1, .int x1)]) (st1 := []) 6 rfl ?_
        refine me_lv [(0, .ref P.1), (1, .int x1), (2, .int r3), (3, .int r3)] (fl_c rfl (fl_c rfl (fl_c rfl (fl_c rfl fl_0)))) ?_
        exact h
theorem v_byPlace_0 {X : ev_X} {W : Nat → Prop} {d : Nat} {P : MP} {μ : MS} {R : Int32 → MS → Prop} {T : MS → Prop} (x1 : Int32) (h : MC X W true d 331 [.ref P.1] P μ (fun r1 μ1 => MC X W true d 296 [.ref P.1, .int 100] P μ1 (fun r2 μ2 => ((r2 = 0 → MC X W true d 297 [.ref P.1, .int 111] P μ2 (fun r3 μ3 => (MI x1 (μ3.2.2 22) ∧ MC X W true d 296 [.ref P.1, .int 17] P (mA1 μ3 22 x1.toNatClampNeg r1) (fun r4 μ4 => ((r4 = 0 → (MI x1 (μ4.2.2 20) ∧ MC X W true d 332 [.ref P.1] P (mA1 μ4 20 x1.toNatClampNeg 40) (fun r5 μ5 => (MI x1 (μ5.2.2 23) ∧ MC X W true d 296 [.ref P.1, .int 100] P (mA1 μ5 23 x1.toNatClampNeg r5) (fun r6 μ6 => ((r6 = 0 → R 0 μ6) ∧ (¬ r6 = 0 → (MI x1 (μ6.2.2 23) ∧ (MI (μ6.2.1 23 x1.toNatClampNeg) (μ6.2.2 20) ∧ ((¬ (μ6.2.1 20 ((μ6.2.1 23 x1.toNatClampNeg)).toNatClampNeg) = 70 → R 0 μ6) ∧ ((μ6.2.1 20 ((μ6.2.1 23 x1.toNatClampNeg)).toNatClampNeg) = 70 → (MI x1 (μ6.2.2 23) ∧ (MI (μ6.2.1 23 x1.toNatClampNeg) (μ6.2.2 25) ∧ ((¬ (μ6.2.1 25 ((μ6.2.1 23 x1.toNatClampNeg)).toNatClampNeg) = 0 → R 0 μ6) ∧ ((μ6.2.1 25 ((μ6.2.1 23 x1.toNatClampNeg)).toNatClampNeg) = 0 → (MI x1 (μ6.2.2 20) ∧ (MI x1 (μ6.2.2 23) ∧ MC X W true d 330 [.ref P.1, .int (μ6.2.1 23 x1.toNatClampNeg)] P (mA1 μ6 20 x1.toNatClampNeg 42) (fun r7 μ7 => (MI x1 (μ7.2.2 23) ∧ R 0 (mA1 μ7 23 x1.toNatClampNeg r7))) T))))))))))))) (fun _ => False))) T)) ∧ (¬ r4 = 0 → (MI x1 (μ4.2.2 20) ∧ MC X W true d 294 [.ref P.1] P (mA1 μ4 20 x1.toNatClampNeg 41) (fun r8 μ8 => MC X W true d 331 [.ref P.1] P μ8 (fun r9 μ9 => MC X W true d 296 [.ref P.1, .int 100] P μ9 (fun r10 μ10 => ((¬ r10 = 0 → MC X W true d 330 [.ref P.1, .int r9] P μ10 (fun r11 μ11 => (MI x1 (μ11.2.2 23) ∧ R 0 (mA1 μ11 23 x1.toNatClampNeg r11))) T) ∧ (r10 = 0 → MC X W true d 295 [.ref P.1] P μ10 (fun r12 μ12 => MC X W true d 330 [.ref P.1, .int r9] P μ12 (fun r13 μ13 => (MI x1 (μ13.2.2 23) ∧ R 0 (mA1 μ13 23 x1.toNatClampNeg r13))) T) T))) (fun _ => False)) T) T)))) (fun _ => False))) T) ∧ (¬ r2 = 0 → (MI x1 (μ2.2.2 20) ∧ MC X W true d 330 [.ref P.1, .int r1] P (mA1 μ2 20 x1.toNatClampNeg 42) (fun r14 μ14 => (MI x1 (μ14.2.2 23) ∧ R 0 (mA1 μ14 23 x1.toNatClampNeg r14))) T)))) (fun _ => False)) T) : ME X W true d 329 0 [(0, .ref P.1), (1, .int x1)] [] P μ R T := by
  refine me_go (pc1 := 1) (lv1 := [(0, .ref P.1), (1, .int x1)]) (st1 := [.ref P.1]) 1 rfl ?_
  refine me_call rfl rfl rfl rfl (h.mono (fun r1 μ1 h => ?_) (fun _ h => h))
  refine me_go (pc1 := 8) (lv1 := [(2, .int r1), (0, .ref P.1), (1, .int x1)]) (st1 := [.int 100, .ref P.1]) 3 rfl ?_
  refine me_callN rfl rfl rfl (h.mono (fun r2 μ2 h => ?_) (fun _ h => h))
  refine me_ifc rfl rfl (fun c => ?_) (fun c => ?_)
  · replace h := h.1 (ci_eq c)
    refine me_go (pc1 := 37) (lv1 := [(2, .int r1), (0, .ref P.1), (1, .int x1)]) (st1 := [.int 111, .ref P.1]) 2 rfl ?_
    refine me_call rfl rfl rfl rfl (h.mono (fun r3 μ3 h => ?_) (fun _ h => h))
    refine me_go (pc1 := 41) (lv1 := [(2, .int r1), (0, .ref P.1), (1, .int x1)]) (st1 := [.ref P.1]) 1 rfl ?_
    refine me_getf (v := .ref (P.2.1 22)) rfl rfl rfl ?_
    refine me_go (pc1 := 46) (lv1 := [(2, .int r1), (0, .ref P.1), (1, .int x1)]) (st1 := [.int r1, .int x1, .ref (P.2.1 22)]) 2 rfl ?_
    have hi := h.1
    replace h := h.2
    refine me_iast rfl (g := 22) rfl rfl hi ?_
    refine me_go (pc1 := 50) (lv1 := [(2, .int r1), (0, .ref P.1), (1, .int x1)]) (st1 := [.int 17, .ref P.1]) 2 rfl ?_
    refine me_callN rfl rfl rfl (h.mono (fun r4 μ4 h => ?_) (fun _ h => h))
    refine me_ifc rfl rfl (fun c => ?_) (fun c => ?_)
    · replace h := h.1 (ci_eq c)
      refine me_go (pc1 := 99) (lv1 := [(2, .int r1), (0, .ref P.1), (1, .int x1)]) (st1 := [.ref P.1]) 1 rfl ?_
      refine me_getf (v := .ref (P.2.1 20)) rfl rfl rfl ?_
      refine me_go (pc1 := 105) (lv1 := [(2, .int r1), (0, .ref P.1), (1, .int x1)]) (st1 := [.int 40, .int x1, .ref (P.2.1 20)]) 2 rfl ?_
      have hi := h.1
      replace h := h.2
      refine me_iast rfl (g := 20) rfl rfl hi ?_
      refine me_go (pc1 := 107) (lv1 := [(2, .int r1), (0, .ref P.1), (1, .int x1)]) (st1 := [.ref P.1]) 1 rfl ?_
      refine me_getf (v := .ref (P.2.1 23)) rfl rfl rfl ?_
      refine me_go (pc1 := 112) (lv1 := [(2, .int r1), (0, .ref P.1), (1, .int x1)]) (st1 := [.ref P.1, .int x1, .ref (P.2.1 23)]) 2 rfl ?_
      refine me_call rfl rfl rfl rfl (h.mono (fun r5 μ5 h => ?_) (fun _ h => h))
      have hi := h.1
      replace h := h.2
      refine me_iast rfl (g := 23) rfl rfl hi ?_
      refine me_go (pc1 := 119) (lv1 := [(2, .int r1), (0, .ref P.1), (1, .int x1)]) (st1 := [.int 100, .ref P.1]) 2 rfl ?_
      refine me_callN rfl rfl rfl (h.mono (fun r6 μ6 h => ?_) (fun _ h => h))
      refine me_ifc rfl rfl (fun c => ?_) (fun c => ?_)
      · replace h := h.1 (ci_eq c)
        exact me_ret (v := none) (r := 0) rfl rfl rfl h
      · replace h := h.2 (cn_eq c)
        refine me_go (pc1 := 126) (lv1 := [(2, .int r1), (0, .ref P.1), (1, .int x1)]) (st1 := [.ref P.1]) 1 rfl ?_
        refine me_getf (v := .ref (P.2.1 20)) rfl rfl rfl ?_
        refine me_go (pc1 := 130) (lv1 := [(2, .int r1), (0, .ref P.1), (1, .int x1)]) (st1 := [.ref P.1, .ref (P.2.1 20)]) 1 rfl ?_
        refine me_getf (v := .ref (P.2.1 23)) rfl rfl rfl ?_
        refine me_go (pc1 := 134) (lv1 := [(2, .int r1), (0, .ref P.1), (1, .int x1)]) (st1 := [.int x1, .ref (P.2.1 23), .ref (P.2.1 20)]) 1 rfl ?_
        refine me_iald rfl (g := 23) rfl rfl h.1 ?_
        replace h := h.2
        refine me_iald rfl (g := 20) rfl rfl h.1 ?_
        replace h := h.2
        refine me_go (pc1 := 138) (lv1 := [(2, .int r1), (0, .ref P.1), (1, .int x1)]) (st1 := [.int 70, .int (μ6.2.1 20 ((μ6.2.1 23 x1.toNatClampNeg)).toNatClampNeg)]) 1 rfl ?_
        refine me_icmp rfl rfl (fun c => ?_) (fun c => ?_)
        · replace h := h.1 (ci_ne c)
          exact me_ret (v := none) (r := 0) rfl rfl rfl h
        · replace h := h.2 (cn_ne c)
          refine me_go (pc1 := 142) (lv1 := [(2, .int r1), (0, .ref P.1), (1, .int x1)]) (st1 := [.ref P.1]) 1 rfl ?_
          refine me_getf (v := .ref (P.2.1 25)) rfl rfl rfl ?_
          refine me_go (pc1 := 146) (lv1 := [(2, .int r1), (0, .ref P.1), (1, .int x1)]) (st1 := [.ref P.1, .ref (P.2.1 25)]) 1 rfl ?_
          refine me_getf (v := .ref (P.2.1 23)) rfl rfl rfl ?_
          refine me_go (pc1 := 150) (lv1 := [(2, .int r1), (0, .ref P.1), (1, .int x1)]) (st1 := [.int x1, .ref (P.2.1 23), .ref (P.2.1 25)]) 1 rfl ?_
          refine me_iald rfl (g := 23) rfl rfl h.1 ?_
          replace h := h.2
          refine me_iald rfl (g := 25) rfl rfl h.1 ?_
          replace h := h.2
          refine me_ifc rfl rfl (fun c => ?_) (fun c => ?_)
          · replace h := h.1 (ci_ne c)
            exact me_ret (v := none) (r := 0) rfl rfl rfl h
          · replace h := h.2 (cn_ne c)
            refine me_go (pc1 := 156) (lv1 := [(2, .int r1), (0, .ref P.1), (1, .int x1)]) (st1 := [.ref P.1]) 1 rfl ?_
            refine me_getf (v := .ref (P.2.1 20)) rfl rfl rfl ?_
            refine me_go (pc1 := 162) (lv1 := [(2, .int r1), (0, .ref P.1), (1, .int x1)]) (st1 := [.int 42, .int x1, .ref (P.2.1 20)]) 2 rfl ?_
            have hi := h.1
            replace h := h.2
            refine me_iast rfl (g := 20) rfl rfl hi ?_
            refine me_go (pc1 := 164) (lv1 := [(2, .int r1), (0, .ref P.1), (1, .int x1)]) (st1 := [.ref P.1]) 1 rfl ?_
            refine me_getf (v := .ref (P.2.1 23)) rfl rfl rfl ?_
            refine me_go (pc1 := 170) (lv1 := [(2, .int r1), (0, .ref P.1), (1, .int x1)]) (st1 := [.ref P.1, .ref P.1, .int x1, .ref (P.2.1 23)]) 3 rfl ?_
            refine me_getf (v := .ref (P.2.1 23)) rfl rfl rfl ?_
            refine me_go (pc1 := 174) (lv1 := [(2, .int r1), (0, .ref P.1), (1, .int x1)]) (st1 := [.int x1, .ref (P.2.1 23), .ref P.1, .int x1, .ref (P.2.1 23)]) 1 rfl ?_
            refine me_iald rfl (g := 23) rfl rfl h.1 ?_
            replace h := h.2
            refine me_call rfl rfl rfl rfl (h.mono (fun r7 μ7 h => ?_) (fun _ h => h))
            have hi := h.1
            replace h := h.2
            refine me_iast rfl (g := 23) rfl rfl hi ?_
            exact me_ret (v := none) (r := 0) rfl rfl rfl h
    · replace h := h.2 (cn_eq c)
      refine me_go (pc1 := 57) (lv1 := [(2, .int r1), (0, .ref P.1), (1, .int x1)]) (st1 := [.ref P.1]) 1 rfl ?_
      refine me_getf (v := .ref (P.2.1 20)) rfl rfl rfl ?_
      refine me_go (pc1 := 63) (lv1 := [(2, .int r1), (0, .ref P.1), (1, .int x1)]) (st1 := [.int 41, .int x1, .ref (P.2.1 20)]) 2 rfl ?_
      have hi := h.1
      replace h := h.2
      refine me_iast rfl (g := 20) rfl rfl hi ?_
      refine me_go (pc1 := 65) (lv1 := [(2, .int r1), (0, .ref P.1), (1, .int x1)]) (st1 := [.ref P.1]) 1 rfl ?_
      refine me_call rfl rfl rfl rfl (h.mono (fun r8 μ8 h => ?_) (fun _ h => h))
      refine me_go (pc1 := 69) (lv1 := [(2, .int r1), (0, .ref P.1), (1, .int x1)]) (st1 := [.ref P.1]) 1 rfl ?_
      refine me_call rfl rfl rfl rfl (h.mono (fun r9 μ9 h => ?_) (fun _ h => h))
      refine me_go (pc1 := 76) (lv1 := [(3, .int r9), (2, .int r1), (0, .ref P.1), (1, .int x1)]) (st1 := [.int 100, .ref P.1]) 3 rfl ?_
      refine me_callN rfl rfl rfl (h.mono (fun r10 μ10 h => ?_) (fun _ h => h))
      refine me_ifc rfl rfl (fun c => ?_) (fun c => ?_)
      · replace h := h.1 (ci_ne c)
        refine me_go (pc1 := 87) (lv1 := [(3, .int r9), (2, .int r1), (0, .ref P.1), (1, .int x1)]) (st1 := [.ref P.1]) 1 rfl ?_
        refine me_getf (v := .ref (P.2.1 23)) rfl rfl rfl ?_
        refine me_go (pc1 := 93) (lv1 := [(3, .int r9), (2, .int r1), (0, .ref P.1), (1, .int x1)]) (st1 := [.int r9, .ref P.1, .int x1, .ref (P.2.1 23)]) 3 rfl ?_
        refine me_call rfl rfl rfl rfl (h.mono (fun r11 μ11 h => ?_) (fun _ h => h))
        have hi := h.1
        replace h := h.2
        refine me_iast rfl (g := 23) rfl rfl hi ?_
        exact me_ret (v := none) (r := 0) rfl rfl rfl h
      · replace h := h.2 (cn_ne c)
        refine me_go (pc1 := 83) (lv1 := [(3, .int r9), (2, .int r1), (0, .ref P.1), (1, .int x1)]) (st1 := [.ref P.1]) 1 rfl ?_
        refine me_call rfl rfl rfl rfl (h.mono (fun r12 μ12 h => ?_) (fun _ h => h))
        refine me_go (pc1 := 87) (lv1 := [(3, .int r9), (2, .int r1), (0, .ref P.1), (1, .int x1)]) (st1 := [.ref P.1]) 1 rfl ?_
        refine me_getf (v := .ref (P.2.1 23)) rfl rfl rfl ?_
        refine me_go (pc1 := 93) (lv1 := [(3, .int r9), (2, .int r1), (0, .ref P.1), (1, .int x1)]) (st1 := [.int r9, .ref P.1, .int x1, .ref (P.2.1 23)]) 3 rfl ?_
        refine me_call rfl rfl rfl rfl (h.mono (fun r13 μ13 h => ?_) (fun _ h => h))
        have hi := h.1
        replace h := h.2
        refine me_iast rfl (g := 23) rfl rfl hi ?_
        exact me_ret (v := none) (r := 0) rfl rfl rfl h
  · replace h := h.2 (cn_eq c)
    refine me_go (pc1 := 15) (lv1 := [(2, .int r1), (0, .ref P.1), (1, .int x1)]) (st1 := [.ref P.1]) 1 rfl ?_
    refine me_getf (v := .ref (P.2.1 20)) rfl rfl rfl ?_
    refine me_go (pc1 := 21) (lv1 := [(2, .int r1), (0, .ref P.1), (1, .int x1)]) (st1 := [.int 42, .int x1, .ref (P.2.1 20)]) 2 rfl ?_
    have hi := h.1
    replace h := h.2
    refine me_iast rfl (g := 20) rfl rfl hi ?_
    refine me_go (pc1 := 23) (lv1 := [(2, .int r1), (0, .ref P.1), (1, .int x1)]) (st1 := [.ref P.1]) 1 rfl ?_
    refine me_getf (v := .ref (P.2.1 23)) rfl rfl rfl ?_
    refine me_go (pc1 := 29) (lv1 := [(2, .int r1), (0, .ref P.1), (1, .int x1)]) (st1 := [.int r1, .ref P.1, .int x1, .ref (P.2.1 23)]) 3 rfl ?_
    refine me_call rfl rfl rfl rfl (h.mono (fun r14 μ14 h => ?_) (fun _ h => h))
    have hi := h.1
    replace h := h.2
    refine me_iast rfl (g := 23) rfl rfl hi ?_
    exact me_ret (v := none) (r := 0) rfl rfl rfl h
theorem v_call_0 {X : ev_X} {W : Nat → Prop} {d : Nat} {P : MP} {μ : MS} {R : Int32 → MS → Prop} {T : MS → Prop} (x1 : Int32) (h : MC X W true d 292 [.ref P.1, .int 74, .int x1, .int (-1)] P μ (fun r1 μ1 => MC X W true d 299 [.ref P.1, .int 100] P μ1 (fun r2 μ2 => MC X W true d 296 [.ref P.1, .int 101] P μ2 (fun r3 μ3 => ((¬ r3 = 0 → MC X W true d 300 [.ref P.1, .int 101] P μ3 (fun r4 μ4 => R r1 μ4) T) ∧ (r3 = 0 → MC X W true d 332 [.ref P.1] P μ3 (fun r5 μ5 => (MI r1 (μ5.2.2 23) ∧ ME X W true d 330 39 [(0, .ref P.1), (1, .int x1), (2, .int r1), (3, .int r5), (4, .int r5)] [] P (mA1 μ5 23 r1.toNatClampNeg r5) R T)) T))) (fun _ => False)) T) (fun _ => False)) : ME X W true d 330 0 [(0, .ref P.1), (1, .int x1)] [] P μ R T := by
  refine me_go (pc1 := 5) (lv1 := [(0, .ref P.1), (1, .int x1)]) (st1 := [.int (-1), .int x1, .int 74, .ref P.1]) 4 rfl ?_
  refine me_callN rfl rfl rfl (h.mono (fun r1 μ1 h => ?_) (fun _ h => h))
  refine me_go (pc1 := 12) (lv1 := [(2, .int r1), (0, .ref P.1), (1, .int x1)]) (st1 := [.int 100, .ref P.1]) 3 rfl ?_
  refine me_call rfl rfl rfl rfl (h.mono (fun r2 μ2 h => ?_) (fun _ h => h))
  refine me_go (pc1 := 18) (lv1 := [(2, .int r1), (0, .ref P.1), (1, .int x1)]) (st1 := [.int 101, .ref P.1]) 2 rfl ?_
  refine me_callN rfl rfl rfl (h.mono (fun r3 μ3 h => ?_) (fun _ h => h))
  refine me_ifc rfl rfl (fun c => ?_) (fun c => ?_)
  · replace h := h.1 (ci_ne c)
    refine me_go (pc1 := 74) (lv1 := [(2, .int r1), (0, .ref P.1), (1, .int x1)]) (st1 := [.int 101, .ref P.1]) 2 rfl ?_
    refine me_call rfl rfl rfl rfl (h.mono (fun r4 μ4 h => ?_) (fun _ h => h))
    refine me_go (pc1 := 78) (lv1 := [(2, .int r1), (0, .ref P.1), (1, .int x1)]) (st1 := [.int r1]) 1 rfl ?_
    exact me_ret rfl rfl rfl h
  · replace h := h.2 (cn_ne c)
    refine me_go (pc1 := 25) (lv1 := [(2, .int r1), (0, .ref P.1), (1, .int x1)]) (st1 := [.ref P.1]) 1 rfl ?_
    refine me_call rfl rfl rfl rfl (h.mono (fun r5 μ5 h => ?_) (fun _ h => h))
    refine me_go (pc1 := 30) (lv1 := [(3, .int r5), (2, .int r1), (0, .ref P.1), (1, .int x1)]) (st1 := [.ref P.1]) 2 rfl ?_
    refine me_getf (v := .ref (P.2.1 23)) rfl rfl rfl ?_
    refine me_go (pc1 := 35) (lv1 := [(3, .int r5), (2, .int r1), (0, .ref P.1), (1, .int x1)]) (st1 := [.int r5, .int r1, .ref (P.2.1 23)]) 2 rfl ?_
    have hi := h.1
    replace h := h.2
    refine me_iast rfl (g := 23) rfl rfl hi ?_
    refine me_go (pc1 := 39) (lv1 := [(4, .int r5), (3, .int r5), (2, .int r1), (0, .ref P.1), (1, .int x1)]) (st1 := []) 2 rfl ?_
    refine me_lv [(0, .ref P.1), (1, .int x1), (2, .int r1), (3, .int r5), (4, .int r5)] (fl_c rfl (fl_c rfl (fl_c rfl (fl_c rfl (fl_c rfl fl_0))))) ?_
    exact h
theorem v_call_39 {X : ev_X} {W : Nat → Prop} {d : Nat} {P : MP} {μ : MS} {R : Int32 → MS → Prop} {T : MS → Prop} (x1 : Int32) (x2 : Int32) (x3 : Int32) (x4 : Int32) (h : MC X W true d 296 [.ref P.1, .int 106] P μ (fun r1 μ1 => ((r1 = 0 → MC X W true d 300 [.ref P.1, .int 101] P μ1 (fun r2 μ2 => R x2 μ2) T) ∧ (¬ r1 = 0 → MC X W true d 294 [.ref P.1] P μ1 (fun r3 μ3 => MC X W true d 332 [.ref P.1] P μ3 (fun r4 μ4 => (MI x4 (μ4.2.2 27) ∧ ME X W true d 330 39 [(0, .ref P.1), (1, .int x1), (2, .int x2), (3, .int r4), (4, .int r4)] [] P (mA1 μ4 27 x4.toNatClampNeg r4) R T)) T) T))) (fun _ => False)) : ME X W true d 330 39 [(0, .ref P.1), (1, .int x1), (2, .int x2), (3, .int x3), (4, .int x4)] [] P μ R T := by
  refine me_go (pc1 := 42) (lv1 := [(0, .ref P.1), (1, .int x1), (2, .int x2), (3, .int x3), (4, .int x4)]) (st1 := [.int 106, .ref P.1]) 2 rfl ?_
  refine me_callN rfl rfl rfl (h.mono (fun r1 μ1 h => ?_) (fun _ h => h))
  refine me_ifc rfl rfl (fun c => ?_) (fun c => ?_)
  · replace h := h.1 (ci_eq c)
    refine me_go (pc1 := 74) (lv1 := [(0, .ref P.1), (1, .int x1), (2, .int x2), (3, .int x3), (4, .int x4)]) (st1 := [.int 101, .ref P.1]) 2 rfl ?_
    refine me_call rfl rfl rfl rfl (h.mono (fun r2 μ2 h => ?_) (fun _ h => h))
    refine me_go (pc1 := 78) (lv1 := [(0, .ref P.1), (1, .int x1), (2, .int x2), (3, .int x3), (4, .int x4)]) (st1 := [.int x2]) 1 rfl ?_
    exact me_ret rfl rfl rfl h
  · replace h := h.2 (cn_eq c)
    refine me_go (pc1 := 49) (lv1 := [(0, .ref P.1), (1, .int x1), (2, .int x2), (3, .int x3), (4, .int x4)]) (st1 := [.ref P.1]) 1 rfl ?_
    refine me_call rfl rfl rfl rfl (h.mono (fun r3 μ3 h => ?_) (fun _ h => h))
    refine me_go (pc1 := 53) (lv1 := [(0, .ref P.1), (1, .int x1), (2, .int x2), (3, .int x3), (4, .int x4)]) (st1 := [.ref P.1]) 1 rfl ?_
    refine me_call rfl rfl rfl rfl (h.mono (fun r4 μ4 h => ?_) (fun _ h => h))
    refine me_go (pc1 := 58) (lv1 := [(3, .int r4), (0, .ref P.1), (1, .int x1), (2, .int x2), (4, .int x4)]) (st1 := [.ref P.1]) 2 rfl ?_
    refine me_getf (v := .ref (P.2.1 27)) rfl rfl rfl ?_
    refine me_go (pc1 := 64) (lv1 := [(3, .int r4), (0, .ref P.1), (1, .int x1), (2, .int x2), (4, .int x4)]) (st1 := [.int r4, .int x4, .ref (P.2.1 27)]) 2 rfl ?_
    have hi := h.1
    replace h := h.2
    refine me_iast rfl (g := 27) rfl rfl hi ?_
    refine me_go (pc1 := 39) (lv1 := [(4, .int r4), (3, .int r4), (0, .ref P.1), (1, .int x1), (2, .int x2)]) (st1 := []) 3 rfl ?_
    refine me_lv [(0, .ref P.1), (1, .int x1), (2, .int x2), (3, .int r4), (4, .int r4)] (fl_c rfl (fl_c rfl (fl_c rfl (fl_c rfl (fl_c rfl fl_0))))) ?_
    exact h
theorem v_place_0 {X : ev_X} {W : Nat → Prop} {d : Nat} {P : MP} {μ : MS} {R : Int32 → MS → Prop} {T : MS → Prop}  (h : MC X W true d 292 [.ref P.1, .int 70, .int (-1), .int (-1)] P μ (fun r1 μ1 => (MI r1 (μ1.2.2 25) ∧ MC X W true d 298 [.ref P.1] P (mA1 μ1 25 r1.toNatClampNeg 0) (fun r2 μ2 => (MI r1 (μ2.2.2 22) ∧ MC X W true d 296 [.ref P.1, .int 109] P (mA1 μ2 22 r1.toNatClampNeg r2) (fun r3 μ3 => ((¬ r3 = 0 → ME X W true d 331 55 [(0, .ref P.1), (1, .int r1), (2, .int (-1))] [] P μ3 R T) ∧ (r3 = 0 → MC X W true d 296 [.ref P.1, .int 104] P μ3 (fun r4 μ4 => ((¬ r4 = 0 → ME X W true d 331 55 [(0, .ref P.1), (1, .int r1), (2, .int (-1))] [] P μ4 R T) ∧ (r4 = 0 → MC X W true d 296 [.ref P.1, .int 121] P μ4 (fun r5 μ5 => ((r5 = 0 → ME X W true d 331 61 [(0, .ref P.1), (1, .int r1), (2, .int (-1)), (3, .int 0)] [] P μ5 R T) ∧ (¬ r5 = 0 → ME X W true d 331 55 [(0, .ref P.1), (1, .int r1), (2, .int (-1))] [] P μ5 R T))) (fun _ => False)))) (fun _ => False)))) (fun _ => False))) T)) (fun _ => False)) : ME X W true d 331 0 [(0, .ref P.1)] [] P μ R T := by
  refine me_go (pc1 := 5) (lv1 := [(0, .ref P.1)]) (st1 := [.int (-1), .int (-1), .int 70, .ref P.1]) 4 rfl ?_
  refine me_callN rfl rfl rfl (h.mono (fun r1 μ1 h => ?_) (fun _ h => h))
  refine me_go (pc1 := 10) (lv1 := [(1, .int r1), (0, .ref P.1)]) (st1 := [.ref P.1]) 2 rfl ?_
  refine me_getf (v := .ref (P.2.1 25)) rfl rfl rfl ?_
  refine me_go (pc1 := 15) (lv1 := [(1, .int r1), (0, .ref P.1)]) (st1 := [.int 0, .int r1, .ref (P.2.1 25)]) 2 rfl ?_
  have hi := h.1
  replace h := h.2
  refine me_iast rfl (g := 25) rfl rfl hi ?_
  refine me_go (pc1 := 17) (lv1 := [(1, .int r1), (0, .ref P.1)]) (st1 := [.ref P.1]) 1 rfl ?_
  refine me_getf (v := .ref (P.2.1 22)) rfl rfl rfl ?_
  refine me_go (pc1 := 22) (lv1 := [(1, .int r1), (0, .ref P.1)]) (st1 := [.ref P.1, .int r1, .ref (P.2.1 22)]) 2 rfl ?_
  refine me_call rfl rfl rfl rfl (h.mono (fun r2 μ2 h => ?_) (fun _ h => h))
  have hi := h.1
  replace h := h.2
  refine me_iast rfl (g := 22) rfl rfl hi ?_
  refine me_go (pc1 := 31) (lv1 := [(2, .int (-1)), (1, .int r1), (0, .ref P.1)]) (st1 := [.int 109, .ref P.1]) 4 rfl ?_
  refine me_callN rfl rfl rfl (h.mono (fun r3 μ3 h => ?_) (fun _ h => h))
  refine me_ifc rfl rfl (fun c => ?_) (fun c => ?_)
  · replace h := h.1 (ci_ne c)
    refine me_lv [(0, .ref P.1), (1, .int r1), (2, .int (-1))] (fl_c rfl (fl_c rfl (fl_c rfl fl_0))) ?_
    exact h
  · replace h := h.2 (cn_ne c)
    refine me_go (pc1 := 40) (lv1 := [(2, .int (-1)), (1, .int r1), (0, .ref P.1)]) (st1 := [.int 104, .ref P.1]) 2 rfl ?_
    refine me_callN rfl rfl rfl (h.mono (fun r4 μ4 h => ?_) (fun _ h => h))
    refine me_ifc rfl rfl (fun c => ?_) (fun c => ?_)
    · replace h := h.1 (ci_ne c)
      refine me_lv [(0, .ref P.1), (1, .int r1), (2, .int (-1))] (fl_c rfl (fl_c rfl (fl_c rfl fl_0))) ?_
      exact h
    · replace h := h.2 (cn_ne c)
      refine me_go (pc1 := 49) (lv1 := [(2, .int (-1)), (1, .int r1), (0, .ref P.1)]) (st1 := [.int 121, .ref P.1]) 2 rfl ?_
      refine me_callN rfl rfl rfl (h.mono (fun r5 μ5 h => ?_) (fun _ h => h))
      refine me_ifc rfl rfl (fun c => ?_) (fun c => ?_)
      · replace h := h.1 (ci_eq c)
        refine me_go (pc1 := 61) (lv1 := [(3, .int 0), (2, .int (-1)), (1, .int r1), (0, .ref P.1)]) (st1 := []) 2 rfl ?_
        refine me_lv [(0, .ref P.1), (1, .int r1), (2, .int (-1)), (3, .int 0)] (fl_c rfl (fl_c rfl (fl_c rfl (fl_c rfl fl_0)))) ?_
        exact h
      · replace h := h.2 (cn_eq c)
        refine me_lv [(0, .ref P.1), (1, .int r1), (2, .int (-1))] (fl_c rfl (fl_c rfl (fl_c rfl fl_0))) ?_
        exact h
theorem v_place_55 {X : ev_X} {W : Nat → Prop} {d : Nat} {P : MP} {μ : MS} {R : Int32 → MS → Prop} {T : MS → Prop} (x1 : Int32) (x2 : Int32) (h : ME X W true d 331 61 [(0, .ref P.1), (1, .int x1), (2, .int x2), (3, .int 1)] [] P μ R T) : ME X W true d 331 55 [(0, .ref P.1), (1, .int x1), (2, .int x2)] [] P μ R T := by
  refine me_go (pc1 := 61) (lv1 := [(3, .int 1), (0, .ref P.1), (1, .int x1), (2, .int x2)]) (st1 := []) 3 rfl ?_
  refine me_lv [(0, .ref P.1), (1, .int x1), (2, .int x2), (3, .int 1)] (fl_c rfl (fl_c rfl (fl_c rfl (fl_c rfl fl_0)))) ?_
  exact h
theorem v_place_61 {X : ev_X} {W : Nat → Prop} {d : Nat} {P : MP} {μ : MS} {R : Int32 → MS → Prop} {T : MS → Prop} (x1 : Int32) (x2 : Int32) (x3 : Int32) (h : ((x3 = 0 → R x1 μ) ∧ (¬ x3 = 0 → MC X W true d 296 [.ref P.1, .int 109] P μ (fun r1 μ1 => ((r1 = 0 → MC X W true d 296 [.ref P.1, .int 104] P μ1 (fun r2 μ2 => ((r2 = 0 → MC X W true d 292 [.ref P.1, .int 73, .int (-1), .int (-1)] P μ2 (fun r3 μ3 => MC X W true d 296 [.ref P.1, .int 109] P μ3 (fun r4 μ4 => ((r4 = 0 → MC X W true d 296 [.ref P.1, .int 104] P μ4 (fun r5 μ5 => ((r5 = 0 → MC X W true d 294 [.ref P.1] P μ5 (fun r6 μ6 => ME X W true d 331 169 [(0, .ref P.1), (1, .int x1), (2, .int x2), (3, .int x3), (4, .int r3)] [] P μ6 R T) T) ∧ (¬ r5 = 0 → MC X W true d 299 [.ref P.1, .int 104] P μ5 (fun r7 μ7 => MC X W true d 332 [.ref P.1] P μ7 (fun r8 μ8 => (MI r3 (μ8.2.2 22) ∧ MC X W true d 300 [.ref P.1, .int 105] P (mA1 μ8 22 r3.toNatClampNeg r8) (fun r9 μ9 => ME X W true d 331 169 [(0, .ref P.1), (1, .int x1), (2, .int x2), (3, .int x3), (4, .int r3)] [] P μ9 R T) T)) T) T))) (fun _ => False)) ∧ (¬ r4 = 0 → MC X W true d 294 [.ref P.1] P μ4 (fun r10 μ10 => MC X W true d 298 [.ref P.1] P μ10 (fun r11 μ11 => (MI r3 (μ11.2.2 22) ∧ ME X W true d 331 169 [(0, .ref P.1), (1, .int x1), (2, .int x2), (3, .int x3), (4, .int r3)] [] P (mA1 μ11 22 r3.toNatClampNeg r11) R T)) T) T))) (fun _ => False)) (fun _ => False)) ∧ (¬ r2 = 0 → MC X W true d 292 [.ref P.1, .int 72, .int (-1), .int (-1)] P μ2 (fun r12 μ12 => MC X W true d 296 [.ref P.1, .int 109] P μ12 (fun r13 μ13 => ((r13 = 0 → MC X W true d 296 [.ref P.1, .int 104] P μ13 (fun r14 μ14 => ((r14 = 0 → MC X W true d 294 [.ref P.1] P μ14 (fun r15 μ15 => ME X W true d 331 169 [(0, .ref P.1), (1, .int x1), (2, .int x2), (3, .int x3), (4, .int r12)] [] P μ15 R T) T) ∧ (¬ r14 = 0 → MC X W true d 299 [.ref P.1, .int 104] P μ14 (fun r16 μ16 => MC X W true d 332 [.ref P.1] P μ16 (fun r17 μ17 => (MI r12 (μ17.2.2 22) ∧ MC X W true d 300 [.ref P.1, .int 105] P (mA1 μ17 22 r12.toNatClampNeg r17) (fun r18 μ18 => ME X W true d 331 169 [(0, .ref P.1), (1, .int x1), (2, .int x2), (3, .int x3), (4, .int r12)] [] P μ18 R T) T)) T) T))) (fun _ => False)) ∧ (¬ r13 = 0 → MC X W true d 294 [.ref P.1] P μ13 (fun r19 μ19 => MC X W true d 298 [.ref P.1] P μ19 (fun r20 μ20 => (MI r12 (μ20.2.2 22) ∧ ME X W true d 331 169 [(0, .ref P.1), (1, .int x1), (2, .int x2), (3, .int x3), (4, .int r12)] [] P (mA1 μ20 22 r12.toNatClampNeg r20) R T)) T) T))) (fun _ => False)) (fun _ => False)))) (fun _ => False)) ∧ (¬ r1 = 0 → MC X W true d 292 [.ref P.1, .int 71, .int (-1), .int (-1)] P μ1 (fun r21 μ21 => MC X W true d 296 [.ref P.1, .int 109] P μ21 (fun r22 μ22 => ((r22 = 0 → MC X W true d 296 [.ref P.1, .int 104] P μ22 (fun r23 μ23 => ((r23 = 0 → MC X W true d 294 [.ref P.1] P μ23 (fun r24 μ24 => ME X W true d 331 169 [(0, .ref P.1), (1, .int x1), (2, .int x2), (3, .int x3), (4, .int r21)] [] P μ24 R T) T) ∧ (¬ r23 = 0 → MC X W true d 299 [.ref P.1, .int 104] P μ23 (fun r25 μ25 => MC X W true d 332 [.ref P.1] P μ25 (fun r26 μ26 => (MI r21 (μ26.2.2 22) ∧ MC X W true d 300 [.ref P.1, .int 105] P (mA1 μ26 22 r21.toNatClampNeg r26) (fun r27 μ27 => ME X W true d 331 169 [(0, .ref P.1), (1, .int x1), (2, .int x2), (3, .int x3), (4, .int r21)] [] P μ27 R T) T)) T) T))) (fun _ => False)) ∧ (¬ r22 = 0 → MC X W true d 294 [.ref P.1] P μ22 (fun r28 μ28 => MC X W true d 298 [.ref P.1] P μ28 (fun r29 μ29 => (MI r21 (μ29.2.2 22) ∧ ME X W true d 331 169 [(0, .ref P.1), (1, .int x1), (2, .int x2), (3, .int x3), (4, .int r21)] [] P (mA1 μ29 22 r21.toNatClampNeg r29) R T)) T) T))) (fun _ => False)) (fun _ => False)))) (fun _ => False)))) : ME X W true d 331 61 [(0, .ref P.1), (1, .int x1), (2, .int x2), (3, .int x3)] [] P μ R T := by
  refine me_go (pc1 := 62) (lv1 := [(0, .ref P.1), (1, .int x1), (2, .int x2), (3, .int x3)]) (st1 := [.int x3]) 1 rfl ?_
  refine me_ifc rfl rfl (fun c => ?_) (fun c => ?_)
  · replace h := h.1 (ci_eq c)
    refine me_go (pc1 := 232) (lv1 := [(0, .ref P.1), (1, .int x1), (2, .int x2), (3, .int x3)]) (st1 := [.int x1]) 1 rfl ?_
    exact me_ret rfl rfl rfl h
  · replace h := h.2 (cn_eq c)
    refine me_go (pc1 := 69) (lv1 := [(0, .ref P.1), (1, .int x1), (2, .int x2), (3, .int x3)]) (st1 := [.int 109, .ref P.1, .ref P.1]) 3 rfl ?_
    refine me_callN rfl rfl rfl (h.mono (fun r1 μ1 h => ?_) (fun _ h => h))
    refine me_ifc rfl rfl (fun c => ?_) (fun c => ?_)
    · replace h := h.1 (ci_eq c)
      refine me_go (pc1 := 83) (lv1 := [(0, .ref P.1), (1, .int x1), (2, .int x2), (3, .int x3)]) (st1 := [.int 104, .ref P.1, .ref P.1]) 2 rfl ?_
      refine me_callN rfl rfl rfl (h.mono (fun r2 μ2 h => ?_) (fun _ h => h))
      refine me_ifc rfl rfl (fun c => ?_) (fun c => ?_)
      · replace h := h.1 (ci_eq c)
        refine me_go (pc1 := 98) (lv1 := [(0, .ref P.1), (1, .int x1), (2, .int x2), (3, .int x3)]) (st1 := [.int (-1), .int (-1), .int 73, .ref P.1]) 3 rfl ?_
        refine me_callN rfl rfl rfl (h.mono (fun r3 μ3 h => ?_) (fun _ h => h))
        refine me_go (pc1 := 106) (lv1 := [(4, .int r3), (0, .ref P.1), (1, .int x1), (2, .int x2), (3, .int x3)]) (st1 := [.int 109, .ref P.1]) 3 rfl ?_
        refine me_callN rfl rfl rfl (h.mono (fun r4 μ4 h => ?_) (fun _ h => h))
        refine me_ifc rfl rfl (fun c => ?_) (fun c => ?_)
        · replace h := h.1 (ci_eq c)
          refine me_go (pc1 := 133) (lv1 := [(4, .int r3), (0, .ref P.1), (1, .int x1), (2, .int x2), (3, .int x3)]) (st1 := [.int 104, .ref P.1]) 2 rfl ?_
          refine me_callN rfl rfl rfl (h.mono (fun r5 μ5 h => ?_) (fun _ h => h))
          refine me_ifc rfl rfl (fun c => ?_) (fun c => ?_)
          · replace h := h.1 (ci_eq c)
            refine me_go (pc1 := 166) (lv1 := [(4, .int r3), (0, .ref P.1), (1, .int x1), (2, .int x2), (3, .int x3)]) (st1 := [.ref P.1]) 1 rfl ?_
            refine me_call rfl rfl rfl rfl (h.mono (fun r6 μ6 h => ?_) (fun _ h => h))
            refine me_lv [(0, .ref P.1), (1, .int x1), (2, .int x2), (3, .int x3), (4, .int r3)] (fl_c rfl (fl_c rfl (fl_c rfl (fl_c rfl (fl_c rfl fl_0))))) ?_
            exact h
          · replace h := h.2 (cn_eq c)
            refine me_go (pc1 := 142) (lv1 := [(4, .int r3), (0, .ref P.1), (1, .int x1), (2, .int x2), (3, .int x3)]) (st1 := [.int 104, .ref P.1]) 2 rfl ?_
            refine me_call rfl rfl rfl rfl (h.mono (fun r7 μ7 h => ?_) (fun _ h => h))
            refine me_go (pc1 := 146) (lv1 := [(4, .int r3), (0, .ref P.1), (1, .int x1), (2, .int x2), (3, .int x3)]) (st1 := [.ref P.1]) 1 rfl ?_
            refine me_getf (v := .ref (P.2.1 22)) rfl rfl rfl ?_
            refine me_go (pc1 := 152) (lv1 := [(4, .int r3), (0, .ref P.1), (1, .int x1), (2, .int x2), (3, .int x3)]) (st1 := [.ref P.1, .int r3, .ref (P.2.1 22)]) 2 rfl ?_
            refine me_call rfl rfl rfl rfl (h.mono (fun r8 μ8 h => ?_) (fun _ h => h))
            have hi := h.1
            replace h := h.2
            refine me_iast rfl (g := 22) rfl rfl hi ?_
            refine me_go (pc1 := 159) (lv1 := [(4, .int r3), (0, .ref P.1), (1, .int x1), (2, .int x2), (3, .int x3)]) (st1 := [.int 105, .ref P.1]) 2 rfl ?_
            refine me_call rfl rfl rfl rfl (h.mono (fun r9 μ9 h => ?_) (fun _ h => h))
            refine me_go (pc1 := 169) (lv1 := [(4, .int r3), (0, .ref P.1), (1, .int x1), (2, .int x2), (3, .int x3)]) (st1 := []) 1 rfl ?_
            refine me_lv [(0, .ref P.1), (1, .int x1), (2, .int x2), (3, .int x3), (4, .int r3)] (fl_c rfl (fl_c rfl (fl_c rfl (fl_c rfl (fl_c rfl fl_0))))) ?_
            exact h
        · replace h := h.2 (cn_eq c)
          refine me_go (pc1 := 113) (lv1 := [(4, .int r3), (0, .ref P.1), (1, .int x1), (2, .int x2), (3, .int x3)]) (st1 := [.ref P.1]) 1 rfl ?_
          refine me_call rfl rfl rfl rfl (h.mono (fun r10 μ10 h => ?_) (fun _ h => h))
          refine me_go (pc1 := 117) (lv1 := [(4, .int r3), (0, .ref P.1), (1, .int x1), (2, .int x2), (3, .int x3)]) (st1 := [.ref P.1]) 1 rfl ?_
          refine me_getf (v := .ref (P.2.1 22)) rfl rfl rfl ?_
          refine me_go (pc1 := 123) (lv1 := [(4, .int r3), (0, .ref P.1), (1, .int x1), (2, .int x2), (3, .int x3)]) (st1 := [.ref P.1, .int r3, .ref (P.2.1 22)]) 2 rfl ?_
          refine me_call rfl rfl rfl rfl (h.mono (fun r11 μ11 h => ?_) (fun _ h => h))
          have hi := h.1
          replace h := h.2
          refine me_iast rfl (g := 22) rfl rfl hi ?_
          refine me_go (pc1 := 169) (lv1 := [(4, .int r3), (0, .ref P.1), (1, .int x1), (2, .int x2), (3, .int x3)]) (st1 := []) 1 rfl ?_
          refine me_lv [(0, .ref P.1), (1, .int x1), (2, .int x2), (3, .int x3), (4, .int r3)] (fl_c rfl (fl_c rfl (fl_c rfl (fl_c rfl (fl_c rfl fl_0))))) ?_
          exact h
      · replace h := h.2 (cn_eq c)
        refine me_go (pc1 := 98) (lv1 := [(0, .ref P.1), (1, .int x1), (2, .int x2), (3, .int x3)]) (st1 := [.int (-1), .int (-1), .int 72, .ref P.1]) 4 rfl ?_
        refine me_callN rfl rfl rfl (h.mono (fun r12 μ12 h => ?_) (fun _ h => h))
        refine me_go (pc1 := 106) (lv1 := [(4, .int r12), (0, .ref P.1), (1, .int x1), (2, .int x2), (3, .int x3)]) (st1 := [.int 109, .ref P.1]) 3 rfl ?_
        refine me_callN rfl rfl rfl (h.mono (fun r13 μ13 h => ?_) (fun _ h => h))
        refine me_ifc rfl rfl (fun c => ?_) (fun c => ?_)
        · replace h := h.1 (ci_eq c)
          refine me_go (pc1 := 133) (lv1 := [(4, .int r12), (0, .ref P.1), (1, .int x1), (2, .int x2), (3, .int x3)]) (st1 := [.int 104, .ref P.1]) 2 rfl ?_
          refine me_callN rfl rfl rfl (h.mono (fun r14 μ14 h => ?_) (fun _ h => h))
          refine me_ifc rfl rfl (fun c => ?_) (fun c => ?_)
          · replace h := h.1 (ci_eq c)
            refine me_go (pc1 := 166) (lv1 := [(4, .int r12), (0, .ref P.1), (1, .int x1), (2, .int x2), (3, .int x3)]) (st1 := [.ref P.1]) 1 rfl ?_
            refine me_call rfl rfl rfl rfl (h.mono (fun r15 μ15 h => ?_) (fun _ h => h))
            refine me_lv [(0, .ref P.1), (1, .int x1), (2, .int x2), (3, .int x3), (4, .int r12)] (fl_c rfl (fl_c rfl (fl_c rfl (fl_c rfl (fl_c rfl fl_0))))) ?_
            exact h
          · replace h := h.2 (cn_eq c)
            refine me_go (pc1 := 142) (lv1 := [(4, .int r12), (0, .ref P.1), (1, .int x1), (2, .int x2), (3, .int x3)]) (st1 := [.int 104, .ref P.1]) 2 rfl ?_
            refine me_call rfl rfl rfl rfl (h.mono (fun r16 μ16 h => ?_) (fun _ h => h))
            refine me_go (pc1 := 146) (lv1 := [(4, .int r12), (0, .ref P.1), (1, .int x1), (2, .int x2), (3, .int x3)]) (st1 := [.ref P.1]) 1 rfl ?_
            refine me_getf (v := .ref (P.2.1 22)) rfl rfl rfl ?_
            refine me_go (pc1 := 152) (lv1 := [(4, .int r12), (0, .ref P.1), (1, .int x1), (2, .int x2), (3, .int x3)]) (st1 := [.ref P.1, .int r12, .ref (P.2.1 22)]) 2 rfl ?_
            refine me_call rfl rfl rfl rfl (h.mono (fun r17 μ17 h => ?_) (fun _ h => h))
            have hi := h.1
            replace h := h.2
            refine me_iast rfl (g := 22) rfl rfl hi ?_
            refine me_go (pc1 := 159) (lv1 := [(4, .int r12), (0, .ref P.1), (1, .int x1), (2, .int x2), (3, .int x3)]) (st1 := [.int 105, .ref P.1]) 2 rfl ?_
            refine me_call rfl rfl rfl rfl (h.mono (fun r18 μ18 h => ?_) (fun _ h => h))
            refine me_go (pc1 := 169) (lv1 := [(4, .int r12), (0, .ref P.1), (1, .int x1), (2, .int x2), (3, .int x3)]) (st1 := []) 1 rfl ?_
            refine me_lv [(0, .ref P.1), (1, .int x1), (2, .int x2), (3, .int x3), (4, .int r12)] (fl_c rfl (fl_c rfl (fl_c rfl (fl_c rfl (fl_c rfl fl_0))))) ?_
            exact h
        · replace h := h.2 (cn_eq c)
          refine me_go (pc1 := 113) (lv1 := [(4, .int r12), (0, .ref P.1), (1, .int x1), (2, .int x2), (3, .int x3)]) (st1 := [.ref P.1]) 1 rfl ?_
          refine me_call rfl rfl rfl rfl (h.mono (fun r19 μ19 h => ?_) (fun _ h => h))
          refine me_go (pc1 := 117) (lv1 := [(4, .int r12), (0, .ref P.1), (1, .int x1), (2, .int x2), (3, .int x3)]) (st1 := [.ref P.1]) 1 rfl ?_
          refine me_getf (v := .ref (P.2.1 22)) rfl rfl rfl ?_
          refine me_go (pc1 := 123) (lv1 := [(4, .int r12), (0, .ref P.1), (1, .int x1), (2, .int x2), (3, .int x3)]) (st1 := [.ref P.1, .int r12, .ref (P.2.1 22)]) 2 rfl ?_
          refine me_call rfl rfl rfl rfl (h.mono (fun r20 μ20 h => ?_) (fun _ h => h))
          have hi := h.1
          replace h := h.2
          refine me_iast rfl (g := 22) rfl rfl hi ?_
          refine me_go (pc1 := 169) (lv1 := [(4, .int r12), (0, .ref P.1), (1, .int x1), (2, .int x2), (3, .int x3)]) (st1 := []) 1 rfl ?_
          refine me_lv [(0, .ref P.1), (1, .int x1), (2, .int x2), (3, .int x3), (4, .int r12)] (fl_c rfl (fl_c rfl (fl_c rfl (fl_c rfl (fl_c rfl fl_0))))) ?_
          exact h
    · replace h := h.2 (cn_eq c)
      refine me_go (pc1 := 98) (lv1 := [(0, .ref P.1), (1, .int x1), (2, .int x2), (3, .int x3)]) (st1 := [.int (-1), .int (-1), .int 71, .ref P.1]) 4 rfl ?_
      refine me_callN rfl rfl rfl (h.mono (fun r21 μ21 h => ?_) (fun _ h => h))
      refine me_go (pc1 := 106) (lv1 := [(4, .int r21), (0, .ref P.1), (1, .int x1), (2, .int x2), (3, .int x3)]) (st1 := [.int 109, .ref P.1]) 3 rfl ?_
      refine me_callN rfl rfl rfl (h.mono (fun r22 μ22 h => ?_) (fun _ h => h))
      refine me_ifc rfl rfl (fun c => ?_) (fun c => ?_)
      · replace h := h.1 (ci_eq c)
        refine me_go (pc1 := 133) (lv1 := [(4, .int r21), (0, .ref P.1), (1, .int x1), (2, .int x2), (3, .int x3)]) (st1 := [.int 104, .ref P.1]) 2 rfl ?_
        refine me_callN rfl rfl rfl (h.mono (fun r23 μ23 h => ?_) (fun _ h => h))
        refine me_ifc rfl rfl (fun c => ?_) (fun c => ?_)
        · replace h := h.1 (ci_eq c)
          refine me_go (pc1 := 166) (lv1 := [(4, .int r21), (0, .ref P.1), (1, .int x1), (2, .int x2), (3, .int x3)]) (st1 := [.ref P.1]) 1 rfl ?_
          refine me_call rfl rfl rfl rfl (h.mono (fun r24 μ24 h => ?_) (fun _ h => h))
          refine me_lv [(0, .ref P.1), (1, .int x1), (2, .int x2), (3, .int x3), (4, .int r21)] (fl_c rfl (fl_c rfl (fl_c rfl (fl_c rfl (fl_c rfl fl_0))))) ?_
          exact h
        · replace h := h.2 (cn_eq c)
          refine me_go (pc1 := 142) (lv1 := [(4, .int r21), (0, .ref P.1), (1, .int x1), (2, .int x2), (3, .int x3)]) (st1 := [.int 104, .ref P.1]) 2 rfl ?_
          refine me_call rfl rfl rfl rfl (h.mono (fun r25 μ25 h => ?_) (fun _ h => h))
          refine me_go (pc1 := 146) (lv1 := [(4, .int r21), (0, .ref P.1), (1, .int x1), (2, .int x2), (3, .int x3)]) (st1 := [.ref P.1]) 1 rfl ?_
          refine me_getf (v := .ref (P.2.1 22)) rfl rfl rfl ?_
          refine me_go (pc1 := 152) (lv1 := [(4, .int r21), (0, .ref P.1), (1, .int x1), (2, .int x2), (3, .int x3)]) (st1 := [.ref P.1, .int r21, .ref (P.2.1 22)]) 2 rfl ?_
          refine me_call rfl rfl rfl rfl (h.mono (fun r26 μ26 h => ?_) (fun _ h => h))
          have hi := h.1
          replace h := h.2
          refine me_iast rfl (g := 22) rfl rfl hi ?_
          refine me_go (pc1 := 159) (lv1 := [(4, .int r21), (0, .ref P.1), (1, .int x1), (2, .int x2), (3, .int x3)]) (st1 := [.int 105, .ref P.1]) 2 rfl ?_
          refine me_call rfl rfl rfl rfl (h.mono (fun r27 μ27 h => ?_) (fun _ h => h))
          refine me_go (pc1 := 169) (lv1 := [(4, .int r21), (0, .ref P.1), (1, .int x1), (2, .int x2), (3, .int x3)]) (st1 := []) 1 rfl ?_
          refine me_lv [(0, .ref P.1), (1, .int x1), (2, .int x2), (3, .int x3), (4, .int r21)] (fl_c rfl (fl_c rfl (fl_c rfl (fl_c rfl (fl_c rfl fl_0))))) ?_
          exact h
      · replace h := h.2 (cn_eq c)
        refine me_go (pc1 := 113) (lv1 := [(4, .int r21), (0, .ref P.1), (1, .int x1), (2, .int x2), (3, .int x3)]) (st1 := [.ref P.1]) 1 rfl ?_
        refine me_call rfl rfl rfl rfl (h.mono (fun r28 μ28 h => ?_) (fun _ h => h))
        refine me_go (pc1 := 117) (lv1 := [(4, .int r21), (0, .ref P.1), (1, .int x1), (2, .int x2), (3, .int x3)]) (st1 := [.ref P.1]) 1 rfl ?_
        refine me_getf (v := .ref (P.2.1 22)) rfl rfl rfl ?_
        refine me_go (pc1 := 123) (lv1 := [(4, .int r21), (0, .ref P.1), (1, .int x1), (2, .int x2), (3, .int x3)]) (st1 := [.ref P.1, .int r21, .ref (P.2.1 22)]) 2 rfl ?_
        refine me_call rfl rfl rfl rfl (h.mono (fun r29 μ29 h => ?_) (fun _ h => h))
        have hi := h.1
        replace h := h.2
        refine me_iast rfl (g := 22) rfl rfl hi ?_
        refine me_go (pc1 := 169) (lv1 := [(4, .int r21), (0, .ref P.1), (1, .int x1), (2, .int x2), (3, .int x3)]) (st1 := []) 1 rfl ?_
        refine me_lv [(0, .ref P.1), (1, .int x1), (2, .int x2), (3, .int x3), (4, .int r21)] (fl_c rfl (fl_c rfl (fl_c rfl (fl_c rfl (fl_c rfl fl_0))))) ?_
        exact h
theorem v_place_169 {X : ev_X} {W : Nat → Prop} {d : Nat} {P : MP} {μ : MS} {R : Int32 → MS → Prop} {T : MS → Prop} (x1 : Int32) (x2 : Int32) (x3 : Int32) (x4 : Int32) (h : (((0 : Int) ≤ x2.toInt → (MI x2 (μ.2.2 27) ∧ ME X W true d 331 192 [(0, .ref P.1), (1, .int x1), (2, .int x2), (3, .int x3), (4, .int x4)] [] P (mA1 μ 27 x2.toNatClampNeg x4) R T)) ∧ (x2.toInt < (0 : Int) → (MI x1 (μ.2.2 23) ∧ ME X W true d 331 192 [(0, .ref P.1), (1, .int x1), (2, .int x2), (3, .int x3), (4, .int x4)] [] P (mA1 μ 23 x1.toNatClampNeg x4) R T)))) : ME X W true d 331 169 [(0, .ref P.1), (1, .int x1), (2, .int x2), (3, .int x3), (4, .int x4)] [] P μ R T := by
  refine me_go (pc1 := 170) (lv1 := [(0, .ref P.1), (1, .int x1), (2, .int x2), (3, .int x3), (4, .int x4)]) (st1 := [.int x2]) 1 rfl ?_
  refine me_ifc rfl rfl (fun c => ?_) (fun c => ?_)
  · replace h := h.1 (ci_ge c)
    refine me_go (pc1 := 185) (lv1 := [(0, .ref P.1), (1, .int x1), (2, .int x2), (3, .int x3), (4, .int x4)]) (st1 := [.ref P.1]) 1 rfl ?_
    refine me_getf (v := .ref (P.2.1 27)) rfl rfl rfl ?_
    refine me_go (pc1 := 191) (lv1 := [(0, .ref P.1), (1, .int x1), (2, .int x2), (3, .int x3), (4, .int x4)]) (st1 := [.int x4, .int x2, .ref (P.2.1 27)]) 2 rfl ?_
    have hi := h.1
    replace h := h.2
    refine me_iast rfl (g := 27) rfl rfl hi ?_
    exact h
  · replace h := h.2 (cn_ge c)
    refine me_go (pc1 := 174) (lv1 := [(0, .ref P.1), (1, .int x1), (2, .int x2), (3, .int x3), (4, .int x4)]) (st1 := [.ref P.1]) 1 rfl ?_
    refine me_getf (v := .ref (P.2.1 23)) rfl rfl rfl ?_
    refine me_go (pc1 := 180) (lv1 := [(0, .ref P.1), (1, .int x1), (2, .int x2), (3, .int x3), (4, .int x4)]) (st1 := [.int x4, .int x1, .ref (P.2.1 23)]) 2 rfl ?_
    have hi := h.1
    replace h := h.2
    refine me_iast rfl (g := 23) rfl rfl hi ?_
    refine me_go (pc1 := 192) (lv1 := [(0, .ref P.1), (1, .int x1), (2, .int x2), (3, .int x3), (4, .int x4)]) (st1 := []) 1 rfl ?_
    exact h
theorem v_place_192 {X : ev_X} {W : Nat → Prop} {d : Nat} {P : MP} {μ : MS} {R : Int32 → MS → Prop} {T : MS → Prop} (x1 : Int32) (x2 : Int32) (x3 : Int32) (x4 : Int32) (h : MC X W true d 296 [.ref P.1, .int 109] P μ (fun r1 μ1 => ((¬ r1 = 0 → ME X W true d 331 222 [(0, .ref P.1), (1, .int x1), (2, .int x4), (3, .int x3), (4, .int x4)] [] P μ1 R T) ∧ (r1 = 0 → MC X W true d 296 [.ref P.1, .int 104] P μ1 (fun r2 μ2 => ((¬ r2 = 0 → ME X W true d 331 222 [(0, .ref P.1), (1, .int x1), (2, .int x4), (3, .int x3), (4, .int x4)] [] P μ2 R T) ∧ (r2 = 0 → MC X W true d 296 [.ref P.1, .int 121] P μ2 (fun r3 μ3 => ((r3 = 0 → ME X W true d 331 228 [(0, .ref P.1), (1, .int x1), (2, .int x4), (3, .int 0), (4, .int x4)] [] P μ3 R T) ∧ (¬ r3 = 0 → ME X W true d 331 222 [(0, .ref P.1), (1, .int x1), (2, .int x4), (3, .int x3), (4, .int x4)] [] P μ3 R T))) (fun _ => False)))) (fun _ => False)))) (fun _ => False)) : ME X W true d 331 192 [(0, .ref P.1), (1, .int x1), (2, .int x2), (3, .int x3), (4, .int x4)] [] P μ R T := by
  refine me_go (pc1 := 198) (lv1 := [(2, .int x4), (0, .ref P.1), (1, .int x1), (3, .int x3), (4, .int x4)]) (st1 := [.int 109, .ref P.1]) 4 rfl ?_
  refine me_callN rfl rfl rfl (h.mono (fun r1 μ1 h => ?_) (fun _ h => h))
  refine me_ifc rfl rfl (fun c => ?_) (fun c => ?_)
  · replace h := h.1 (ci_ne c)
    refine me_lv [(0, .ref P.1), (1, .int x1), (2, .int x4), (3, .int x3), (4, .int x4)] (fl_c rfl (fl_c rfl (fl_c rfl (fl_c rfl (fl_c rfl fl_0))))) ?_
    exact h
  · replace h := h.2 (cn_ne c)
    refine me_go (pc1 := 207) (lv1 := [(2, .int x4), (0, .ref P.1), (1, .int x1), (3, .int x3), (4, .int x4)]) (st1 := [.int 104, .ref P.1]) 2 rfl ?_
    refine me_callN rfl rfl rfl (h.mono (fun r2 μ2 h => ?_) (fun _ h => h))
    refine me_ifc rfl rfl (fun c => ?_) (fun c => ?_)
    · replace h := h.1 (ci_ne c)
      refine me_lv [(0, .ref P.1), (1, .int x1), (2, .int x4), (3, .int x3), (4, .int x4)] (fl_c rfl (fl_c rfl (fl_c rfl (fl_c rfl (fl_c rfl fl_0))))) ?_
      exact h
    · replace h := h.2 (cn_ne c)
      refine me_go (pc1 := 216) (lv1 := [(2, .int x4), (0, .ref P.1), (1, .int x1), (3, .int x3), (4, .int x4)]) (st1 := [.int 121, .ref P.1]) 2 rfl ?_
      refine me_callN rfl rfl rfl (h.mono (fun r3 μ3 h => ?_) (fun _ h => h))
      refine me_ifc rfl rfl (fun c => ?_) (fun c => ?_)
      · replace h := h.1 (ci_eq c)
        refine me_go (pc1 := 228) (lv1 := [(3, .int 0), (2, .int x4), (0, .ref P.1), (1, .int x1), (4, .int x4)]) (st1 := []) 2 rfl ?_
        refine me_lv [(0, .ref P.1), (1, .int x1), (2, .int x4), (3, .int 0), (4, .int x4)] (fl_c rfl (fl_c rfl (fl_c rfl (fl_c rfl (fl_c rfl fl_0))))) ?_
        exact h
      · replace h := h.2 (cn_eq c)
        refine me_lv [(0, .ref P.1), (1, .int x1), (2, .int x4), (3, .int x3), (4, .int x4)] (fl_c rfl (fl_c rfl (fl_c rfl (fl_c rfl (fl_c rfl fl_0))))) ?_
        exact h
theorem v_place_222 {X : ev_X} {W : Nat → Prop} {d : Nat} {P : MP} {μ : MS} {R : Int32 → MS → Prop} {T : MS → Prop} (x1 : Int32) (x2 : Int32) (x3 : Int32) (x4 : Int32) (h : ME X W true d 331 228 [(0, .ref P.1), (1, .int x1), (2, .int x2), (3, .int 1), (4, .int x4)] [] P μ R T) : ME X W true d 331 222 [(0, .ref P.1), (1, .int x1), (2, .int x2), (3, .int x3), (4, .int x4)] [] P μ R T := by
  refine me_go (pc1 := 228) (lv1 := [(3, .int 1), (0, .ref P.1), (1, .int x1), (2, .int x2), (4, .int x4)]) (st1 := []) 3 rfl ?_
  refine me_lv [(0, .ref P.1), (1, .int x1), (2, .int x2), (3, .int 1), (4, .int x4)] (fl_c rfl (fl_c rfl (fl_c rfl (fl_c rfl (fl_c rfl fl_0))))) ?_
  exact h
theorem v_place_228 {X : ev_X} {W : Nat → Prop} {d : Nat} {P : MP} {μ : MS} {R : Int32 → MS → Prop} {T : MS → Prop} (x1 : Int32) (x2 : Int32) (x3 : Int32) (x4 : Int32) (h : ME X W true d 331 61 [(0, .ref P.1), (1, .int x1), (2, .int x2), (3, .int x3)] [] P μ R T) : ME X W true d 331 228 [(0, .ref P.1), (1, .int x1), (2, .int x2), (3, .int x3), (4, .int x4)] [] P μ R T := by
  refine me_go (pc1 := 61) (lv1 := [(0, .ref P.1), (1, .int x1), (2, .int x2), (3, .int x3), (4, .int x4)]) (st1 := []) 1 rfl ?_
  refine me_lv [(0, .ref P.1), (1, .int x1), (2, .int x2), (3, .int x3)] (fl_c rfl (fl_c rfl (fl_c rfl (fl_c rfl fl_0)))) ?_
  exact h
theorem v_expression_0 {X : ev_X} {W : Nat → Prop} {d : Nat} {P : MP} {μ : MS} {R : Int32 → MS → Prop} {T : MS → Prop}  (h : MC X W true d 335 [.ref P.1, .int 0] P μ (fun r1 μ1 => R r1 μ1) T) : ME X W true d 332 0 [(0, .ref P.1)] [] P μ R T := by
  refine me_go (pc1 := 2) (lv1 := [(0, .ref P.1)]) (st1 := [.int 0, .ref P.1]) 2 rfl ?_
  refine me_call rfl rfl rfl rfl (h.mono (fun r1 μ1 h => ?_) (fun _ h => h))
  exact me_ret rfl rfl rfl h
theorem v_joins_0 {X : ev_X} {W : Nat → Prop} {d : Nat} {P : MP} {μ : MS} {R : Int32 → MS → Prop} {T : MS → Prop} (x1 : Int32) (h : ((¬ x1 = 0 → ((¬ x1 = 1 → ((¬ x1 = 2 → MC X W true d 296 [.ref P.1, .int 120] P μ (fun r1 μ1 => ((¬ r1 = 0 → R 1 μ1) ∧ (r1 = 0 → MC X W true d 296 [.ref P.1, .int 6] P μ1 (fun r2 μ2 => ((¬ r2 = 0 → R 1 μ2) ∧ (r2 = 0 → MC X W true d 296 [.ref P.1, .int 27] P μ2 (fun r3 μ3 => ((r3 = 0 → R 0 μ3) ∧ (¬ r3 = 0 → R 1 μ3))) (fun _ => False)))) (fun _ => False)))) (fun _ => False)) ∧ (x1 = 2 → MC X W true d 296 [.ref P.1, .int 118] P μ (fun r4 μ4 => ((¬ r4 = 0 → R 1 μ4) ∧ (r4 = 0 → MC X W true d 296 [.ref P.1, .int 119] P μ4 (fun r5 μ5 => ((r5 = 0 → R 0 μ5) ∧ (¬ r5 = 0 → R 1 μ5))) (fun _ => False)))) (fun _ => False)))) ∧ (x1 = 1 → MC X W true d 296 [.ref P.1, .int 0] P μ (fun r6 μ6 => (((r6) = 0 ∨ (r6) = 1) ∧ R r6 μ6)) (fun _ => False)))) ∧ (x1 = 0 → MC X W true d 296 [.ref P.1, .int 36] P μ (fun r7 μ7 => (((r7) = 0 ∨ (r7) = 1) ∧ R r7 μ7)) (fun _ => False)))) : ME X W true d 333 0 [(0, .ref P.1), (1, .int x1)] [] P μ R T := by
  refine me_go (pc1 := 1) (lv1 := [(0, .ref P.1), (1, .int x1)]) (st1 := [.int x1]) 1 rfl ?_
  refine me_ifc rfl rfl (fun c => ?_) (fun c => ?_)
  · replace h := h.1 (ci_ne c)
    refine me_go (pc1 := 13) (lv1 := [(0, .ref P.1), (1, .int x1)]) (st1 := [.int 1, .int x1]) 2 rfl ?_
    refine me_icmp rfl rfl (fun c => ?_) (fun c => ?_)
    · replace h := h.1 (ci_ne c)
      refine me_go (pc1 := 24) (lv1 := [(0, .ref P.1), (1, .int x1)]) (st1 := [.int 2, .int x1]) 2 rfl ?_
      refine me_icmp rfl rfl (fun c => ?_) (fun c => ?_)
      · replace h := h.1 (ci_ne c)
        refine me_go (pc1 := 54) (lv1 := [(0, .ref P.1), (1, .int x1)]) (st1 := [.int 120, .ref P.1]) 2 rfl ?_
        refine me_callN rfl rfl rfl (h.mono (fun r1 μ1 h => ?_) (fun _ h => h))
        refine me_ifc rfl rfl (fun c => ?_) (fun c => ?_)
        · replace h := h.1 (ci_ne c)
          refine me_go (pc1 := 83) (lv1 := [(0, .ref P.1), (1, .int x1)]) (st1 := [.int 1]) 2 rfl ?_
          exact me_retB rfl rfl (by decide) h
        · replace h := h.2 (cn_ne c)
          refine me_go (pc1 := 63) (lv1 := [(0, .ref P.1), (1, .int x1)]) (st1 := [.int 6, .ref P.1]) 2 rfl ?_
          refine me_callN rfl rfl rfl (h.mono (fun r2 μ2 h => ?_) (fun _ h => h))
          refine me_ifc rfl rfl (fun c => ?_) (fun c => ?_)
          · replace h := h.1 (ci_ne c)
            refine me_go (pc1 := 83) (lv1 := [(0, .ref P.1), (1, .int x1)]) (st1 := [.int 1]) 2 rfl ?_
            exact me_retB rfl rfl (by decide) h
          · replace h := h.2 (cn_ne c)
            refine me_go (pc1 := 72) (lv1 := [(0, .ref P.1), (1, .int x1)]) (st1 := [.int 27, .ref P.1]) 2 rfl ?_
            refine me_callN rfl rfl rfl (h.mono (fun r3 μ3 h => ?_) (fun _ h => h))
            refine me_ifc rfl rfl (fun c => ?_) (fun c => ?_)
            · replace h := h.1 (ci_eq c)
              refine me_go (pc1 := 83) (lv1 := [(0, .ref P.1), (1, .int x1)]) (st1 := [.int 0]) 1 rfl ?_
              exact me_retB rfl rfl (by decide) h
            · replace h := h.2 (cn_eq c)
              refine me_go (pc1 := 83) (lv1 := [(0, .ref P.1), (1, .int x1)]) (st1 := [.int 1]) 2 rfl ?_
              exact me_retB rfl rfl (by decide) h
      · replace h := h.2 (cn_ne c)
        refine me_go (pc1 := 30) (lv1 := [(0, .ref P.1), (1, .int x1)]) (st1 := [.int 118, .ref P.1]) 2 rfl ?_
        refine me_callN rfl rfl rfl (h.mono (fun r4 μ4 h => ?_) (fun _ h => h))
        refine me_ifc rfl rfl (fun c => ?_) (fun c => ?_)
        · replace h := h.1 (ci_ne c)
          refine me_go (pc1 := 50) (lv1 := [(0, .ref P.1), (1, .int x1)]) (st1 := [.int 1]) 2 rfl ?_
          exact me_retB rfl rfl (by decide) h
        · replace h := h.2 (cn_ne c)
          refine me_go (pc1 := 39) (lv1 := [(0, .ref P.1), (1, .int x1)]) (st1 := [.int 119, .ref P.1]) 2 rfl ?_
          refine me_callN rfl rfl rfl (h.mono (fun r5 μ5 h => ?_) (fun _ h => h))
          refine me_ifc rfl rfl (fun c => ?_) (fun c => ?_)
          · replace h := h.1 (ci_eq c)
            refine me_go (pc1 := 50) (lv1 := [(0, .ref P.1), (1, .int x1)]) (st1 := [.int 0]) 1 rfl ?_
            exact me_retB rfl rfl (by decide) h
          · replace h := h.2 (cn_eq c)
            refine me_go (pc1 := 50) (lv1 := [(0, .ref P.1), (1, .int x1)]) (st1 := [.int 1]) 2 rfl ?_
            exact me_retB rfl rfl (by decide) h
    · replace h := h.2 (cn_ne c)
      refine me_go (pc1 := 18) (lv1 := [(0, .ref P.1), (1, .int x1)]) (st1 := [.int 0, .ref P.1]) 2 rfl ?_
      refine me_callN rfl rfl rfl (h.mono (fun r6 μ6 h => ?_) (fun _ h => h))
      exact me_retB rfl rfl h.1 h.2
  · replace h := h.2 (cn_ne c)
    refine me_go (pc1 := 7) (lv1 := [(0, .ref P.1), (1, .int x1)]) (st1 := [.int 36, .ref P.1]) 2 rfl ?_
    refine me_callN rfl rfl rfl (h.mono (fun r7 μ7 h => ?_) (fun _ h => h))
    exact me_retB rfl rfl h.1 h.2
theorem v_operand_0 {X : ev_X} {W : Nat → Prop} {d : Nat} {P : MP} {μ : MS} {R : Int32 → MS → Prop} {T : MS → Prop} (x1 : Int32) (h : ((¬ x1 = 0 → ((¬ x1 = 1 → ((¬ x1 = 2 → MC X W true d 338 [.ref P.1] P μ (fun r1 μ1 => R r1 μ1) T) ∧ (x1 = 2 → MC X W true d 335 [.ref P.1, .int 3] P μ (fun r2 μ2 => R r2 μ2) T))) ∧ (x1 = 1 → MC X W true d 336 [.ref P.1] P μ (fun r3 μ3 => R r3 μ3) T))) ∧ (x1 = 0 → MC X W true d 335 [.ref P.1, .int 1] P μ (fun r4 μ4 => R r4 μ4) T))) : ME X W true d 334 0 [(0, .ref P.1), (1, .int x1)] [] P μ R T := by
  refine me_go (pc1 := 1) (lv1 := [(0, .ref P.1), (1, .int x1)]) (st1 := [.int x1]) 1 rfl ?_
  refine me_ifc rfl rfl (fun c => ?_) (fun c => ?_)
  · replace h := h.1 (ci_ne c)
    refine me_go (pc1 := 14) (lv1 := [(0, .ref P.1), (1, .int x1)]) (st1 := [.int 1, .int x1]) 2 rfl ?_
    refine me_icmp rfl rfl (fun c => ?_) (fun c => ?_)
    · replace h := h.1 (ci_ne c)
      refine me_go (pc1 := 26) (lv1 := [(0, .ref P.1), (1, .int x1)]) (st1 := [.int 2, .int x1]) 2 rfl ?_
      refine me_icmp rfl rfl (fun c => ?_) (fun c => ?_)
      · replace h := h.1 (ci_ne c)
        refine me_go (pc1 := 38) (lv1 := [(0, .ref P.1), (1, .int x1)]) (st1 := [.ref P.1]) 1 rfl ?_
        refine me_call rfl rfl rfl rfl (h.mono (fun r1 μ1 h => ?_) (fun _ h => h))
        exact me_ret rfl rfl rfl h
      · replace h := h.2 (cn_ne c)
        refine me_go (pc1 := 31) (lv1 := [(0, .ref P.1), (1, .int x1)]) (st1 := [.int 3, .ref P.1]) 2 rfl ?_
        refine me_call rfl rfl rfl rfl (h.mono (fun r2 μ2 h => ?_) (fun _ h => h))
        refine me_go (pc1 := 41) (lv1 := [(0, .ref P.1), (1, .int x1)]) (st1 := [.int r2]) 1 rfl ?_
        exact me_ret rfl rfl rfl h
    · replace h := h.2 (cn_ne c)
      refine me_go (pc1 := 18) (lv1 := [(0, .ref P.1), (1, .int x1)]) (st1 := [.ref P.1]) 1 rfl ?_
      refine me_call rfl rfl rfl rfl (h.mono (fun r3 μ3 h => ?_) (fun _ h => h))
      refine me_go (pc1 := 41) (lv1 := [(0, .ref P.1), (1, .int x1)]) (st1 := [.int r3]) 1 rfl ?_
      exact me_ret rfl rfl rfl h
  · replace h := h.2 (cn_ne c)
    refine me_go (pc1 := 6) (lv1 := [(0, .ref P.1), (1, .int x1)]) (st1 := [.int 1, .ref P.1]) 2 rfl ?_
    refine me_call rfl rfl rfl rfl (h.mono (fun r4 μ4 h => ?_) (fun _ h => h))
    refine me_go (pc1 := 41) (lv1 := [(0, .ref P.1), (1, .int x1)]) (st1 := [.int r4]) 1 rfl ?_
    exact me_ret rfl rfl rfl h
theorem v_chain_0 {X : ev_X} {W : Nat → Prop} {d : Nat} {P : MP} {μ : MS} {R : Int32 → MS → Prop} {T : MS → Prop} (x1 : Int32) (h : MC X W true d 334 [.ref P.1, .int x1] P μ (fun r1 μ1 => MC X W true d 333 [.ref P.1, .int x1] P μ1 (fun r2 μ2 => ((¬ r2 = 0 → MC X W true d 292 [.ref P.1, .int 82, .int r1, .int (-1)] P μ2 (fun r3 μ3 => ME X W true d 335 28 [(0, .ref P.1), (1, .int x1), (2, .int r1), (3, .int r3), (4, .int (-1))] [] P μ3 R T) (fun _ => False)) ∧ (r2 = 0 → R r1 μ2))) (fun _ => False)) T) : ME X W true d 335 0 [(0, .ref P.1), (1, .int x1)] [] P μ R T := by
  refine me_go (pc1 := 2) (lv1 := [(0, .ref P.1), (1, .int x1)]) (st1 := [.int x1, .ref P.1]) 2 rfl ?_
  refine me_call rfl rfl rfl rfl (h.mono (fun r1 μ1 h => ?_) (fun _ h => h))
  refine me_go (pc1 := 8) (lv1 := [(2, .int r1), (0, .ref P.1), (1, .int x1)]) (st1 := [.int x1, .ref P.1]) 3 rfl ?_
  refine me_callN rfl rfl rfl (h.mono (fun r2 μ2 h => ?_) (fun _ h => h))
  refine me_ifc rfl rfl (fun c => ?_) (fun c => ?_)
  · replace h := h.1 (ci_ne c)
    refine me_go (pc1 := 21) (lv1 := [(2, .int r1), (0, .ref P.1), (1, .int x1)]) (st1 := [.int (-1), .int r1, .int 82, .ref P.1]) 4 rfl ?_
    refine me_callN rfl rfl rfl (h.mono (fun r3 μ3 h => ?_) (fun _ h => h))
    refine me_go (pc1 := 28) (lv1 := [(4, .int (-1)), (3, .int r3), (2, .int r1), (0, .ref P.1), (1, .int x1)]) (st1 := []) 3 rfl ?_
    refine me_lv [(0, .ref P.1), (1, .int x1), (2, .int r1), (3, .int r3), (4, .int (-1))] (fl_c rfl (fl_c rfl (fl_c rfl (fl_c rfl (fl_c rfl fl_0))))) ?_
    exact h
  · replace h := h.2 (cn_ne c)
    refine me_go (pc1 := 15) (lv1 := [(2, .int r1), (0, .ref P.1), (1, .int x1)]) (st1 := [.int r1]) 1 rfl ?_
    exact me_ret rfl rfl rfl h
theorem v_chain_28 {X : ev_X} {W : Nat → Prop} {d : Nat} {P : MP} {μ : MS} {R : Int32 → MS → Prop} {T : MS → Prop} (x1 : Int32) (x2 : Int32) (x3 : Int32) (x4 : Int32) (h : MC X W true d 333 [.ref P.1, .int x1] P μ (fun r1 μ1 => ((r1 = 0 → R x3 μ1) ∧ (¬ r1 = 0 → (MI (μ1.1 32) (μ1.2.2 9) ∧ MC X W true d 292 [.ref P.1, .int 83, .int (μ1.2.1 9 ((μ1.1 32)).toNatClampNeg), .int (-1)] P μ1 (fun r2 μ2 => MC X W true d 294 [.ref P.1] P μ2 (fun r3 μ3 => MC X W true d 334 [.ref P.1, .int x1] P μ3 (fun r4 μ4 => (MI r2 (μ4.2.2 23) ∧ (((0 : Int) ≤ x4.toInt → (MI x4 (μ4.2.2 27) ∧ ME X W true d 335 28 [(0, .ref P.1), (1, .int x1), (2, .int x2), (3, .int x3), (4, .int r2)] [] P (mA1 (mA1 μ4 23 r2.toNatClampNeg r4) 27 x4.toNatClampNeg r2) R T)) ∧ (x4.toInt < (0 : Int) → (MI x3 (μ4.2.2 23) ∧ ME X W true d 335 28 [(0, .ref P.1), (1, .int x1), (2, .int x2), (3, .int x3), (4, .int r2)] [] P (mA1 (mA1 μ4 23 r2.toNatClampNeg r4) 23 x3.toNatClampNeg r2) R T))))) T) T) (fun _ => False))))) (fun _ => False)) : ME X W true d 335 28 [(0, .ref P.1), (1, .int x1), (2, .int x2), (3, .int x3), (4, .int x4)] [] P μ R T := by
  refine me_go (pc1 := 30) (lv1 := [(0, .ref P.1), (1, .int x1), (2, .int x2), (3, .int x3), (4, .int x4)]) (st1 := [.int x1, .ref P.1]) 2 rfl ?_
  refine me_callN rfl rfl rfl (h.mono (fun r1 μ1 h => ?_) (fun _ h => h))
  refine me_ifc rfl rfl (fun c => ?_) (fun c => ?_)
  · replace h := h.1 (ci_eq c)
    refine me_go (pc1 := 103) (lv1 := [(0, .ref P.1), (1, .int x1), (2, .int x2), (3, .int x3), (4, .int x4)]) (st1 := [.int x3]) 1 rfl ?_
    exact me_ret rfl rfl rfl h
  · replace h := h.2 (cn_eq c)
    refine me_go (pc1 := 40) (lv1 := [(0, .ref P.1), (1, .int x1), (2, .int x2), (3, .int x3), (4, .int x4)]) (st1 := [.ref P.1, .int 83, .ref P.1]) 3 rfl ?_
    refine me_getf (v := .ref (P.2.1 9)) rfl rfl rfl ?_
    refine me_go (pc1 := 44) (lv1 := [(0, .ref P.1), (1, .int x1), (2, .int x2), (3, .int x3), (4, .int x4)]) (st1 := [.ref P.1, .ref (P.2.1 9), .int 83, .ref P.1]) 1 rfl ?_
    refine me_getf (v := .int (μ1.1 32)) rfl rfl rfl ?_
    refine me_iald rfl (g := 9) rfl rfl h.1 ?_
    replace h := h.2
    refine me_go (pc1 := 49) (lv1 := [(0, .ref P.1), (1, .int x1), (2, .int x2), (3, .int x3), (4, .int x4)]) (st1 := [.int (-1), .int (μ1.2.1 9 ((μ1.1 32)).toNatClampNeg), .int 83, .ref P.1]) 1 rfl ?_
    refine me_callN rfl rfl rfl (h.mono (fun r2 μ2 h => ?_) (fun _ h => h))
    refine me_go (pc1 := 55) (lv1 := [(5, .int r2), (0, .ref P.1), (1, .int x1), (2, .int x2), (3, .int x3), (4, .int x4)]) (st1 := [.ref P.1]) 2 rfl ?_
    refine me_call rfl rfl rfl rfl (h.mono (fun r3 μ3 h => ?_) (fun _ h => h))
    refine me_go (pc1 := 59) (lv1 := [(5, .int r2), (0, .ref P.1), (1, .int x1), (2, .int x2), (3, .int x3), (4, .int x4)]) (st1 := [.ref P.1]) 1 rfl ?_
    refine me_getf (v := .ref (P.2.1 23)) rfl rfl rfl ?_
    refine me_go (pc1 := 66) (lv1 := [(5, .int r2), (0, .ref P.1), (1, .int x1), (2, .int x2), (3, .int x3), (4, .int x4)]) (st1 := [.int x1, .ref P.1, .int r2, .ref (P.2.1 23)]) 3 rfl ?_
    refine me_call rfl rfl rfl rfl (h.mono (fun r4 μ4 h => ?_) (fun _ h => h))
    have hi := h.1
    replace h := h.2
    refine me_iast rfl (g := 23) rfl rfl hi ?_
    refine me_go (pc1 := 72) (lv1 := [(5, .int r2), (0, .ref P.1), (1, .int x1), (2, .int x2), (3, .int x3), (4, .int x4)]) (st1 := [.int x4]) 1 rfl ?_
    refine me_ifc rfl rfl (fun c => ?_) (fun c => ?_)
    · replace h := h.1 (ci_ge c)
      refine me_go (pc1 := 87) (lv1 := [(5, .int r2), (0, .ref P.1), (1, .int x1), (2, .int x2), (3, .int x3), (4, .int x4)]) (st1 := [.ref P.1]) 1 rfl ?_
      refine me_getf (v := .ref (P.2.1 27)) rfl rfl rfl ?_
      refine me_go (pc1 := 94) (lv1 := [(5, .int r2), (0, .ref P.1), (1, .int x1), (2, .int x2), (3, .int x3), (4, .int x4)]) (st1 := [.int r2, .int x4, .ref (P.2.1 27)]) 2 rfl ?_
      have hi := h.1
      replace h := h.2
      refine me_iast rfl (g := 27) rfl rfl hi ?_
      refine me_go (pc1 := 28) (lv1 := [(4, .int r2), (5, .int r2), (0, .ref P.1), (1, .int x1), (2, .int x2), (3, .int x3)]) (st1 := []) 3 rfl ?_
      refine me_lv [(0, .ref P.1), (1, .int x1), (2, .int x2), (3, .int x3), (4, .int r2)] (fl_c rfl (fl_c rfl (fl_c rfl (fl_c rfl (fl_c rfl fl_0))))) ?_
      exact h
    · replace h := h.2 (cn_ge c)
      refine me_go (pc1 := 76) (lv1 := [(5, .int r2), (0, .ref P.1), (1, .int x1), (2, .int x2), (3, .int x3), (4, .int x4)]) (st1 := [.ref P.1]) 1 rfl ?_
      refine me_getf (v := .ref (P.2.1 23)) rfl rfl rfl ?_
      refine me_go (pc1 := 82) (lv1 := [(5, .int r2), (0, .ref P.1), (1, .int x1), (2, .int x2), (3, .int x3), (4, .int x4)]) (st1 := [.int r2, .int x3, .ref (P.2.1 23)]) 2 rfl ?_
      have hi := h.1
      replace h := h.2
      refine me_iast rfl (g := 23) rfl rfl hi ?_
      refine me_go (pc1 := 28) (lv1 := [(4, .int r2), (5, .int r2), (0, .ref P.1), (1, .int x1), (2, .int x2), (3, .int x3)]) (st1 := []) 4 rfl ?_
      refine me_lv [(0, .ref P.1), (1, .int x1), (2, .int x2), (3, .int x3), (4, .int r2)] (fl_c rfl (fl_c rfl (fl_c rfl (fl_c rfl (fl_c rfl fl_0))))) ?_
      exact h
theorem v_not_0 {X : ev_X} {W : Nat → Prop} {d : Nat} {P : MP} {μ : MS} {R : Int32 → MS → Prop} {T : MS → Prop}  (h : MC X W true d 296 [.ref P.1, .int 33] P μ (fun r1 μ1 => ((¬ r1 = 0 → ((¬ (μ1.1 38) = 20 → MC X W true d 292 [.ref P.1, .int 85, .int (-1), .int (-1)] P μ1 (fun r2 μ2 => MC X W true d 294 [.ref P.1] P (mS1 μ2 38 ((μ2.1 38) + 1)) (fun r3 μ3 => MC X W true d 336 [.ref P.1] P μ3 (fun r4 μ4 => (MI r2 (μ4.2.2 22) ∧ R r2 (mS1 (mA1 μ4 22 r2.toNatClampNeg r4) 38 ((μ4.1 38) - 1)))) T) T) (fun _ => False)) ∧ ((μ1.1 38) = 20 → MC X W true d 291 [.ref P.1] P μ1 (fun r5 μ5 => MC X W true d 289 [.ref P.1, .int 3, .int r5] P μ5 (fun r6 μ6 => MC X W true d 292 [.ref P.1, .int 85, .int (-1), .int (-1)] P μ6 (fun r7 μ7 => MC X W true d 294 [.ref P.1] P (mS1 μ7 38 ((μ7.1 38) + 1)) (fun r8 μ8 => MC X W true d 336 [.ref P.1] P μ8 (fun r9 μ9 => (MI r7 (μ9.2.2 22) ∧ R r7 (mS1 (mA1 μ9 22 r7.toNatClampNeg r9) 38 ((μ9.1 38) - 1)))) T) T) (fun _ => False)) T) (fun _ => False)))) ∧ (r1 = 0 → MC X W true d 337 [.ref P.1] P μ1 (fun r10 μ10 => R r10 μ10) T))) (fun _ => False)) : ME X W true d 336 0 [(0, .ref P.1)] [] P μ R T := by
  refine me_go (pc1 := 3) (lv1 := [(0, .ref P.1)]) (st1 := [.int 33, .ref P.1]) 2 rfl ?_
  refine me_callN rfl rfl rfl (h.mono (fun r1 μ1 h => ?_) (fun _ h => h))
  refine me_ifc rfl rfl (fun c => ?_) (fun c => ?_)
  · replace h := h.1 (ci_ne c)
    refine me_go (pc1 := 15) (lv1 := [(0, .ref P.1)]) (st1 := [.ref P.1]) 1 rfl ?_
    refine me_getf (v := .int (μ1.1 38)) rfl rfl rfl ?_
    refine me_go (pc1 := 20) (lv1 := [(0, .ref P.1)]) (st1 := [.int 20, .int (μ1.1 38)]) 1 rfl ?_
    refine me_icmp rfl rfl (fun c => ?_) (fun c => ?_)
    · replace h := h.1 (ci_ne c)
      refine me_go (pc1 := 37) (lv1 := [(0, .ref P.1)]) (st1 := [.int (-1), .int (-1), .int 85, .ref P.1]) 4 rfl ?_
      refine me_callN rfl rfl rfl (h.mono (fun r2 μ2 h => ?_) (fun _ h => h))
      refine me_go (pc1 := 43) (lv1 := [(1, .int r2), (0, .ref P.1)]) (st1 := [.ref P.1, .ref P.1]) 3 rfl ?_
      refine me_getf (v := .int (μ2.1 38)) rfl rfl rfl ?_
      refine me_go (pc1 := 48) (lv1 := [(1, .int r2), (0, .ref P.1)]) (st1 := [.int ((μ2.1 38) + 1), .ref P.1]) 2 rfl ?_
      refine me_put rfl rfl rfl ?_
      refine me_go (pc1 := 52) (lv1 := [(1, .int r2), (0, .ref P.1)]) (st1 := [.ref P.1]) 1 rfl ?_
      refine me_call rfl rfl rfl rfl (h.mono (fun r3 μ3 h => ?_) (fun _ h => h))
      refine me_go (pc1 := 56) (lv1 := [(1, .int r2), (0, .ref P.1)]) (st1 := [.ref P.1]) 1 rfl ?_
      refine me_getf (v := .ref (P.2.1 22)) rfl rfl rfl ?_
      refine me_go (pc1 := 61) (lv1 := [(1, .int r2), (0, .ref P.1)]) (st1 := [.ref P.1, .int r2, .ref (P.2.1 22)]) 2 rfl ?_
      refine me_call rfl rfl rfl rfl (h.mono (fun r4 μ4 h => ?_) (fun _ h => h))
      have hi := h.1
      replace h := h.2
      refine me_iast rfl (g := 22) rfl rfl hi ?_
      refine me_go (pc1 := 67) (lv1 := [(1, .int r2), (0, .ref P.1)]) (st1 := [.ref P.1, .ref P.1]) 2 rfl ?_
      refine me_getf (v := .int (μ4.1 38)) rfl rfl rfl ?_
      refine me_go (pc1 := 72) (lv1 := [(1, .int r2), (0, .ref P.1)]) (st1 := [.int ((μ4.1 38) - 1), .ref P.1]) 2 rfl ?_
      refine me_put rfl rfl rfl ?_
      refine me_go (pc1 := 76) (lv1 := [(1, .int r2), (0, .ref P.1)]) (st1 := [.int r2]) 1 rfl ?_
      exact me_ret rfl rfl rfl h
    · replace h := h.2 (cn_ne c)
      refine me_go (pc1 := 26) (lv1 := [(0, .ref P.1)]) (st1 := [.ref P.1, .int 3, .ref P.1]) 3 rfl ?_
      refine me_callN rfl rfl rfl (h.mono (fun r5 μ5 h => ?_) (fun _ h => h))
      refine me_call rfl rfl rfl rfl (h.mono (fun r6 μ6 h => ?_) (fun _ h => h))
      refine me_go (pc1 := 37) (lv1 := [(0, .ref P.1)]) (st1 := [.int (-1), .int (-1), .int 85, .ref P.1]) 4 rfl ?_
      refine me_callN rfl rfl rfl (h.mono (fun r7 μ7 h => ?_) (fun _ h => h))
      refine me_go (pc1 := 43) (lv1 := [(1, .int r7), (0, .ref P.1)]) (st1 := [.ref P.1, .ref P.1]) 3 rfl ?_
      refine me_getf (v := .int (μ7.1 38)) rfl rfl rfl ?_
      refine me_go (pc1 := 48) (lv1 := [(1, .int r7), (0, .ref P.1)]) (st1 := [.int ((μ7.1 38) + 1), .ref P.1]) 2 rfl ?_
      refine me_put rfl rfl rfl ?_
      refine me_go (pc1 := 52) (lv1 := [(1, .int r7), (0, .ref P.1)]) (st1 := [.ref P.1]) 1 rfl ?_
      refine me_call rfl rfl rfl rfl (h.mono (fun r8 μ8 h => ?_) (fun _ h => h))
      refine me_go (pc1 := 56) (lv1 := [(1, .int r7), (0, .ref P.1)]) (st1 := [.ref P.1]) 1 rfl ?_
      refine me_getf (v := .ref (P.2.1 22)) rfl rfl rfl ?_
      refine me_go (pc1 := 61) (lv1 := [(1, .int r7), (0, .ref P.1)]) (st1 := [.ref P.1, .int r7, .ref (P.2.1 22)]) 2 rfl ?_
      refine me_call rfl rfl rfl rfl (h.mono (fun r9 μ9 h => ?_) (fun _ h => h))
      have hi := h.1
      replace h := h.2
      refine me_iast rfl (g := 22) rfl rfl hi ?_
      refine me_go (pc1 := 67) (lv1 := [(1, .int r7), (0, .ref P.1)]) (st1 := [.ref P.1, .ref P.1]) 2 rfl ?_
      refine me_getf (v := .int (μ9.1 38)) rfl rfl rfl ?_
      refine me_go (pc1 := 72) (lv1 := [(1, .int r7), (0, .ref P.1)]) (st1 := [.int ((μ9.1 38) - 1), .ref P.1]) 2 rfl ?_
      refine me_put rfl rfl rfl ?_
      refine me_go (pc1 := 76) (lv1 := [(1, .int r7), (0, .ref P.1)]) (st1 := [.int r7]) 1 rfl ?_
      exact me_ret rfl rfl rfl h
  · replace h := h.2 (cn_ne c)
    refine me_go (pc1 := 10) (lv1 := [(0, .ref P.1)]) (st1 := [.ref P.1]) 1 rfl ?_
    refine me_call rfl rfl rfl rfl (h.mono (fun r10 μ10 h => ?_) (fun _ h => h))
    exact me_ret rfl rfl rfl h
theorem v_relation_0 {X : ev_X} {W : Nat → Prop} {d : Nat} {P : MP} {μ : MS} {R : Int32 → MS → Prop} {T : MS → Prop}  (h : MC X W true d 335 [.ref P.1, .int 2] P μ (fun r1 μ1 => (MI (μ1.1 32) (μ1.2.2 9) ∧ MC X W true d 272 [.int (μ1.2.1 9 ((μ1.1 32)).toNatClampNeg), .int 112, .int 117] P μ1 (fun r2 μ2 => ((¬ r2 = 0 → MC X W true d 292 [.ref P.1, .int 84, .int r1, .int (-1)] P μ2 (fun r3 μ3 => (MI (μ3.1 32) (μ3.2.2 9) ∧ (MI r3 (μ3.2.2 24) ∧ MC X W true d 294 [.ref P.1] P (mA1 μ3 24 r3.toNatClampNeg (μ3.2.1 9 ((μ3.1 32)).toNatClampNeg)) (fun r4 μ4 => MC X W true d 335 [.ref P.1, .int 2] P μ4 (fun r5 μ5 => (MI r3 (μ5.2.2 23) ∧ R r3 (mA1 μ5 23 r3.toNatClampNeg r5))) T) T))) (fun _ => False)) ∧ (r2 = 0 → R r1 μ2))) (fun _ => False))) T) : ME X W true d 337 0 [(0, .ref P.1)] [] P μ R T := by
  refine me_go (pc1 := 2) (lv1 := [(0, .ref P.1)]) (st1 := [.int 2, .ref P.1]) 2 rfl ?_
  refine me_call rfl rfl rfl rfl (h.mono (fun r1 μ1 h => ?_) (fun _ h => h))
  refine me_go (pc1 := 7) (lv1 := [(1, .int r1), (0, .ref P.1)]) (st1 := [.ref P.1]) 2 rfl ?_
  refine me_getf (v := .ref (P.2.1 9)) rfl rfl rfl ?_
  refine me_go (pc1 := 11) (lv1 := [(1, .int r1), (0, .ref P.1)]) (st1 := [.ref P.1, .ref (P.2.1 9)]) 1 rfl ?_
  refine me_getf (v := .int (μ1.1 32)) rfl rfl rfl ?_
  refine me_iald rfl (g := 9) rfl rfl h.1 ?_
  replace h := h.2
  refine me_go (pc1 := 19) (lv1 := [(1, .int r1), (0, .ref P.1)]) (st1 := [.int 117, .int 112, .int (μ1.2.1 9 ((μ1.1 32)).toNatClampNeg)]) 2 rfl ?_
  refine me_cst rfl rfl rfl rfl (h.mono (fun r2 μ2 h => ?_) (fun _ h => h))
  refine me_ifc rfl rfl (fun c => ?_) (fun c => ?_)
  · replace h := h.1 (ci_ne c)
    refine me_go (pc1 := 32) (lv1 := [(1, .int r1), (0, .ref P.1)]) (st1 := [.int (-1), .int r1, .int 84, .ref P.1]) 4 rfl ?_
    refine me_callN rfl rfl rfl (h.mono (fun r3 μ3 h => ?_) (fun _ h => h))
    refine me_go (pc1 := 37) (lv1 := [(2, .int r3), (1, .int r1), (0, .ref P.1)]) (st1 := [.ref P.1]) 2 rfl ?_
    refine me_getf (v := .ref (P.2.1 24)) rfl rfl rfl ?_
    refine me_go (pc1 := 42) (lv1 := [(2, .int r3), (1, .int r1), (0, .ref P.1)]) (st1 := [.ref P.1, .int r3, .ref (P.2.1 24)]) 2 rfl ?_
    refine me_getf (v := .ref (P.2.1 9)) rfl rfl rfl ?_
    refine me_go (pc1 := 46) (lv1 := [(2, .int r3), (1, .int r1), (0, .ref P.1)]) (st1 := [.ref P.1, .ref (P.2.1 9), .int r3, .ref (P.2.1 24)]) 1 rfl ?_
    refine me_getf (v := .int (μ3.1 32)) rfl rfl rfl ?_
    refine me_iald rfl (g := 9) rfl rfl h.1 ?_
    replace h := h.2
    have hi := h.1
    replace h := h.2
    refine me_iast rfl (g := 24) rfl rfl hi ?_
    refine me_go (pc1 := 52) (lv1 := [(2, .int r3), (1, .int r1), (0, .ref P.1)]) (st1 := [.ref P.1]) 1 rfl ?_
    refine me_call rfl rfl rfl rfl (h.mono (fun r4 μ4 h => ?_) (fun _ h => h))
    refine me_go (pc1 := 56) (lv1 := [(2, .int r3), (1, .int r1), (0, .ref P.1)]) (st1 := [.ref P.1]) 1 rfl ?_
    refine me_getf (v := .ref (P.2.1 23)) rfl rfl rfl ?_
    refine me_go (pc1 := 62) (lv1 := [(2, .int r3), (1, .int r1), (0, .ref P.1)]) (st1 := [.int 2, .ref P.1, .int r3, .ref (P.2.1 23)]) 3 rfl ?_
    refine me_call rfl rfl rfl rfl (h.mono (fun r5 μ5 h => ?_) (fun _ h => h))
    have hi := h.1
    replace h := h.2
    refine me_iast rfl (g := 23) rfl rfl hi ?_
    refine me_go (pc1 := 67) (lv1 := [(2, .int r3), (1, .int r1), (0, .ref P.1)]) (st1 := [.int r3]) 1 rfl ?_
    exact me_ret rfl rfl rfl h
  · replace h := h.2 (cn_ne c)
    refine me_go (pc1 := 26) (lv1 := [(1, .int r1), (0, .ref P.1)]) (st1 := [.int r1]) 1 rfl ?_
    exact me_ret rfl rfl rfl h
theorem v_minus_0 {X : ev_X} {W : Nat → Prop} {d : Nat} {P : MP} {μ : MS} {R : Int32 → MS → Prop} {T : MS → Prop}  (h : MC X W true d 296 [.ref P.1, .int 119] P μ (fun r1 μ1 => ((¬ r1 = 0 → MC X W true d 292 [.ref P.1, .int 86, .int (-1), .int (-1)] P μ1 (fun r2 μ2 => MC X W true d 294 [.ref P.1] P μ2 (fun r3 μ3 => MC X W true d 339 [.ref P.1] P μ3 (fun r4 μ4 => (MI r2 (μ4.2.2 22) ∧ R r2 (mA1 μ4 22 r2.toNatClampNeg r4))) T) T) (fun _ => False)) ∧ (r1 = 0 → MC X W true d 339 [.ref P.1] P μ1 (fun r5 μ5 => R r5 μ5) T))) (fun _ => False)) : ME X W true d 338 0 [(0, .ref P.1)] [] P μ R T := by
  refine me_go (pc1 := 3) (lv1 := [(0, .ref P.1)]) (st1 := [.int 119, .ref P.1]) 2 rfl ?_
  refine me_callN rfl rfl rfl (h.mono (fun r1 μ1 h => ?_) (fun _ h => h))
  refine me_ifc rfl rfl (fun c => ?_) (fun c => ?_)
  · replace h := h.1 (ci_ne c)
    refine me_go (pc1 := 19) (lv1 := [(0, .ref P.1)]) (st1 := [.int (-1), .int (-1), .int 86, .ref P.1]) 4 rfl ?_
    refine me_callN rfl rfl rfl (h.mono (fun r2 μ2 h => ?_) (fun _ h => h))
    refine me_go (pc1 := 24) (lv1 := [(1, .int r2), (0, .ref P.1)]) (st1 := [.ref P.1]) 2 rfl ?_
    refine me_call rfl rfl rfl rfl (h.mono (fun r3 μ3 h => ?_) (fun _ h => h))
    refine me_go (pc1 := 28) (lv1 := [(1, .int r2), (0, .ref P.1)]) (st1 := [.ref P.1]) 1 rfl ?_
    refine me_getf (v := .ref (P.2.1 22)) rfl rfl rfl ?_
    refine me_go (pc1 := 33) (lv1 := [(1, .int r2), (0, .ref P.1)]) (st1 := [.ref P.1, .int r2, .ref (P.2.1 22)]) 2 rfl ?_
    refine me_call rfl rfl rfl rfl (h.mono (fun r4 μ4 h => ?_) (fun _ h => h))
    have hi := h.1
    replace h := h.2
    refine me_iast rfl (g := 22) rfl rfl hi ?_
    refine me_go (pc1 := 38) (lv1 := [(1, .int r2), (0, .ref P.1)]) (st1 := [.int r2]) 1 rfl ?_
    exact me_ret rfl rfl rfl h
  · replace h := h.2 (cn_ne c)
    refine me_go (pc1 := 10) (lv1 := [(0, .ref P.1)]) (st1 := [.ref P.1]) 1 rfl ?_
    refine me_call rfl rfl rfl rfl (h.mono (fun r5 μ5 h => ?_) (fun _ h => h))
    exact me_ret rfl rfl rfl h
theorem v_simple_0 {X : ev_X} {W : Nat → Prop} {d : Nat} {P : MP} {μ : MS} {R : Int32 → MS → Prop} {T : MS → Prop}  (h : MC X W true d 292 [.ref P.1, .int 75, .int (-1), .int (-1)] P μ (fun r1 μ1 => (MI (μ1.1 32) (μ1.2.2 9) ∧ ((((μ1.2.1 9 ((μ1.1 32)).toNatClampNeg) = 14 ∨ (μ1.2.1 9 ((μ1.1 32)).toNatClampNeg) = 32 ∨ (μ1.2.1 9 ((μ1.1 32)).toNatClampNeg) = 51) → MC X W true d 296 [.ref P.1, .int 51] P μ1 (fun r2 μ2 => ((r2 = 0 → MC X W true d 296 [.ref P.1, .int 14] P μ2 (fun r3 μ3 => ((r3 = 0 → (MI r1 (μ3.2.2 20) ∧ MC X W true d 294 [.ref P.1] P (mA1 μ3 20 r1.toNatClampNeg 78) (fun r4 μ4 => R r1 μ4) T)) ∧ (¬ r3 = 0 → (MI r1 (μ3.2.2 20) ∧ MC X W true d 294 [.ref P.1] P (mA1 μ3 20 r1.toNatClampNeg 77) (fun r5 μ5 => R r1 μ5) T)))) (fun _ => False)) ∧ (¬ r2 = 0 → (MI r1 (μ2.2.2 20) ∧ MC X W true d 294 [.ref P.1] P (mA1 μ2 20 r1.toNatClampNeg 76) (fun r6 μ6 => R r1 μ6) T)))) (fun _ => False)) ∧ (((μ1.2.1 9 ((μ1.1 32)).toNatClampNeg) = 22 ∨ (μ1.2.1 9 ((μ1.1 32)).toNatClampNeg) = 30) → MC X W true d 296 [.ref P.1, .int 22] P μ1 (fun r7 μ7 => ((r7 = 0 → (MI r1 (μ7.2.2 20) ∧ MC X W true d 294 [.ref P.1] P (mA1 μ7 20 r1.toNatClampNeg 81) (fun r8 μ8 => MC X W true d 299 [.ref P.1, .int 100] P μ8 (fun r9 μ9 => MC X W true d 332 [.ref P.1] P μ9 (fun r10 μ10 => (MI r1 (μ10.2.2 22) ∧ MC X W true d 297 [.ref P.1, .int 106] P (mA1 μ10 22 r1.toNatClampNeg r10) (fun r11 μ11 => MC X W true d 312 [.ref P.1] P μ11 (fun r12 μ12 => (MI r1 (μ12.2.2 23) ∧ MC X W true d 300 [.ref P.1, .int 101] P (mA1 μ12 23 r1.toNatClampNeg r12) (fun r13 μ13 => R r1 μ13) T)) T) T)) T) T) T)) ∧ (¬ r7 = 0 → (MI r1 (μ7.2.2 20) ∧ MC X W true d 294 [.ref P.1] P (mA1 μ7 20 r1.toNatClampNeg 80) (fun r14 μ14 => MC X W true d 299 [.ref P.1, .int 100] P μ14 (fun r15 μ15 => MC X W true d 332 [.ref P.1] P μ15 (fun r16 μ16 => (MI r1 (μ16.2.2 22) ∧ MC X W true d 297 [.ref P.1, .int 106] P (mA1 μ16 22 r1.toNatClampNeg r16) (fun r17 μ17 => MC X W true d 312 [.ref P.1] P μ17 (fun r18 μ18 => (MI r1 (μ18.2.2 23) ∧ MC X W true d 300 [.ref P.1, .int 101] P (mA1 μ18 23 r1.toNatClampNeg r18) (fun r19 μ19 => R r1 μ19) T)) T) T)) T) T) T)))) (fun _ => False)) ∧ (((μ1.2.1 9 ((μ1.1 32)).toNatClampNeg) = 31) → (MI r1 (μ1.2.2 20) ∧ MC X W true d 294 [.ref P.1] P (mA1 μ1 20 r1.toNatClampNeg 79) (fun r20 μ20 => MC X W true d 299 [.ref P.1, .int 100] P μ20 (fun r21 μ21 => MC X W true d 312 [.ref P.1] P μ21 (fun r22 μ22 => (MI r1 (μ22.2.2 22) ∧ MC X W true d 300 [.ref P.1, .int 101] P (mA1 μ22 22 r1.toNatClampNeg r22) (fun r23 μ23 => R r1 μ23) T)) T) T) T)) ∧ (((μ1.2.1 9 ((μ1.1 32)).toNatClampNeg) = 100) → MC X W true d 299 [.ref P.1, .int 100] P μ1 (fun r24 μ24 => MC X W true d 332 [.ref P.1] P μ24 (fun r25 μ25 => MC X W true d 300 [.ref P.1, .int 101] P μ25 (fun r26 μ26 => (MI r25 (μ26.2.2 20) ∧ ((¬ (μ26.2.1 20 r25.toNatClampNeg) = 70 → (MI r25 (μ26.2.2 25) ∧ (MI r25 (μ26.2.2 25) ∧ R r25 (mA1 μ26 25 r25.toNatClampNeg (μ26.2.1 25 r25.toNatClampNeg))))) ∧ ((μ26.2.1 20 r25.toNatClampNeg) = 70 → (MI r25 (μ26.2.2 25) ∧ R r25 (mA1 μ26 25 r25.toNatClampNeg 1)))))) T) T) T) ∧ (((μ1.2.1 9 ((μ1.1 32)).toNatClampNeg) = 200) → MC X W true d 331 [.ref P.1] P μ1 (fun r27 μ27 => R r27 μ27) T) ∧ (((μ1.2.1 9 ((μ1.1 32)).toNatClampNeg) = 201) → (MI (μ1.1 32) (μ1.2.2 10) ∧ (MI r1 (μ1.2.2 22) ∧ MC X W true d 294 [.ref P.1] P (mA1 μ1 22 r1.toNatClampNeg (μ1.2.1 10 ((μ1.1 32)).toNatClampNeg)) (fun r28 μ28 => R r1 μ28) T))) ∧ ((∀ v ∈ [(14 : Int32), (22 : Int32), (30 : Int32), (31 : Int32), (32 : Int32), (51 : Int32), (100 : Int32), (200 : Int32), (201 : Int32)], ¬ (μ1.2.1 9 ((μ1.1 32)).toNatClampNeg) = v) → MC X W true d 295 [.ref P.1] P μ1 (fun r29 μ29 => R r1 μ29) T)))) (fun _ => False)) : ME X W true d 339 0 [(0, .ref P.1)] [] P μ R T := by
  refine me_go (pc1 := 5) (lv1 := [(0, .ref P.1)]) (st1 := [.int (-1), .int (-1), .int 75, .ref P.1]) 4 rfl ?_
  refine me_callN rfl rfl rfl (h.mono (fun r1 μ1 h => ?_) (fun _ h => h))
  refine me_go (pc1 := 10) (lv1 := [(1, .int r1), (0, .ref P.1)]) (st1 := [.ref P.1]) 2 rfl ?_
  refine me_getf (v := .ref (P.2.1 9)) rfl rfl rfl ?_
  refine me_go (pc1 := 14) (lv1 := [(1, .int r1), (0, .ref P.1)]) (st1 := [.ref P.1, .ref (P.2.1 9)]) 1 rfl ?_
  refine me_getf (v := .int (μ1.1 32)) rfl rfl rfl ?_
  refine me_iald rfl (g := 9) rfl rfl h.1 ?_
  replace h := h.2
  have hD := h
  have q18_0 : ((μ1.2.1 9 ((μ1.1 32)).toNatClampNeg) = 14 ∨ (μ1.2.1 9 ((μ1.1 32)).toNatClampNeg) = 32 ∨ (μ1.2.1 9 ((μ1.1 32)).toNatClampNeg) = 51) → ME X W true d 339 121 [(1, .int r1), (0, .ref P.1)] [] P μ1 R T := fun c => by
      replace h := hD.1 c
      refine me_go (pc1 := 122) (lv1 := [(1, .int r1), (0, .ref P.1)]) (st1 := [.ref P.1]) 1 rfl ?_
      refine me_getf (v := .ref (P.2.1 20)) rfl rfl rfl ?_
      refine me_go (pc1 := 129) (lv1 := [(1, .int r1), (0, .ref P.1)]) (st1 := [.int 51, .ref P.1, .int r1, .ref (P.2.1 20)]) 3 rfl ?_
      refine me_callN rfl rfl rfl (h.mono (fun r2 μ2 h => ?_) (fun _ h => h))
      refine me_ifc rfl rfl (fun c => ?_) (fun c => ?_)
      · replace h := h.1 (ci_eq c)
        refine me_go (pc1 := 143) (lv1 := [(1, .int r1), (0, .ref P.1)]) (st1 := [.int 14, .ref P.1, .int r1, .ref (P.2.1 20)]) 2 rfl ?_
        refine me_callN rfl rfl rfl (h.mono (fun r3 μ3 h => ?_) (fun _ h => h))
        refine me_ifc rfl rfl (fun c => ?_) (fun c => ?_)
        · replace h := h.1 (ci_eq c)
          refine me_go (pc1 := 156) (lv1 := [(1, .int r1), (0, .ref P.1)]) (st1 := [.int 78, .int r1, .ref (P.2.1 20)]) 1 rfl ?_
          have hi := h.1
          replace h := h.2
          refine me_iast rfl (g := 20) rfl rfl hi ?_
          refine me_go (pc1 := 158) (lv1 := [(1, .int r1), (0, .ref P.1)]) (st1 := [.ref P.1]) 1 rfl ?_
          refine me_call rfl rfl rfl rfl (h.mono (fun r4 μ4 h => ?_) (fun _ h => h))
          refine me_go (pc1 := 162) (lv1 := [(1, .int r1), (0, .ref P.1)]) (st1 := [.int r1]) 1 rfl ?_
          exact me_ret rfl rfl rfl h
        · replace h := h.2 (cn_eq c)
          refine me_go (pc1 := 156) (lv1 := [(1, .int r1), (0, .ref P.1)]) (st1 := [.int 77, .int r1, .ref (P.2.1 20)]) 2 rfl ?_
          have hi := h.1
          replace h := h.2
          refine me_iast rfl (g := 20) rfl rfl hi ?_
          refine me_go (pc1 := 158) (lv1 := [(1, .int r1), (0, .ref P.1)]) (st1 := [.ref P.1]) 1 rfl ?_
          refine me_call rfl rfl rfl rfl (h.mono (fun r5 μ5 h => ?_) (fun _ h => h))
          refine me_go (pc1 := 162) (lv1 := [(1, .int r1), (0, .ref P.1)]) (st1 := [.int r1]) 1 rfl ?_
          exact me_ret rfl rfl rfl h
      · replace h := h.2 (cn_eq c)
        refine me_go (pc1 := 156) (lv1 := [(1, .int r1), (0, .ref P.1)]) (st1 := [.int 76, .int r1, .ref (P.2.1 20)]) 2 rfl ?_
        have hi := h.1
        replace h := h.2
        refine me_iast rfl (g := 20) rfl rfl hi ?_
        refine me_go (pc1 := 158) (lv1 := [(1, .int r1), (0, .ref P.1)]) (st1 := [.ref P.1]) 1 rfl ?_
        refine me_call rfl rfl rfl rfl (h.mono (fun r6 μ6 h => ?_) (fun _ h => h))
        refine me_go (pc1 := 162) (lv1 := [(1, .int r1), (0, .ref P.1)]) (st1 := [.int r1]) 1 rfl ?_
        exact me_ret rfl rfl rfl h
  have q18_1 : ((μ1.2.1 9 ((μ1.1 32)).toNatClampNeg) = 22 ∨ (μ1.2.1 9 ((μ1.1 32)).toNatClampNeg) = 30) → ME X W true d 339 245 [(1, .int r1), (0, .ref P.1)] [] P μ1 R T := fun c => by
      replace h := hD.2.1 c
      refine me_go (pc1 := 246) (lv1 := [(1, .int r1), (0, .ref P.1)]) (st1 := [.ref P.1]) 1 rfl ?_
      refine me_getf (v := .ref (P.2.1 20)) rfl rfl rfl ?_
      refine me_go (pc1 := 253) (lv1 := [(1, .int r1), (0, .ref P.1)]) (st1 := [.int 22, .ref P.1, .int r1, .ref (P.2.1 20)]) 3 rfl ?_
      refine me_callN rfl rfl rfl (h.mono (fun r7 μ7 h => ?_) (fun _ h => h))
      refine me_ifc rfl rfl (fun c => ?_) (fun c => ?_)
      · replace h := h.1 (ci_eq c)
        refine me_go (pc1 := 266) (lv1 := [(1, .int r1), (0, .ref P.1)]) (st1 := [.int 81, .int r1, .ref (P.2.1 20)]) 1 rfl ?_
        have hi := h.1
        replace h := h.2
        refine me_iast rfl (g := 20) rfl rfl hi ?_
        refine me_go (pc1 := 268) (lv1 := [(1, .int r1), (0, .ref P.1)]) (st1 := [.ref P.1]) 1 rfl ?_
        refine me_call rfl rfl rfl rfl (h.mono (fun r8 μ8 h => ?_) (fun _ h => h))
        refine me_go (pc1 := 274) (lv1 := [(1, .int r1), (0, .ref P.1)]) (st1 := [.int 100, .ref P.1]) 2 rfl ?_
        refine me_call rfl rfl rfl rfl (h.mono (fun r9 μ9 h => ?_) (fun _ h => h))
        refine me_go (pc1 := 278) (lv1 := [(1, .int r1), (0, .ref P.1)]) (st1 := [.ref P.1]) 1 rfl ?_
        refine me_getf (v := .ref (P.2.1 22)) rfl rfl rfl ?_
        refine me_go (pc1 := 283) (lv1 := [(1, .int r1), (0, .ref P.1)]) (st1 := [.ref P.1, .int r1, .ref (P.2.1 22)]) 2 rfl ?_
        refine me_call rfl rfl rfl rfl (h.mono (fun r10 μ10 h => ?_) (fun _ h => h))
        have hi := h.1
        replace h := h.2
        refine me_iast rfl (g := 22) rfl rfl hi ?_
        refine me_go (pc1 := 290) (lv1 := [(1, .int r1), (0, .ref P.1)]) (st1 := [.int 106, .ref P.1]) 2 rfl ?_
        refine me_call rfl rfl rfl rfl (h.mono (fun r11 μ11 h => ?_) (fun _ h => h))
        refine me_go (pc1 := 294) (lv1 := [(1, .int r1), (0, .ref P.1)]) (st1 := [.ref P.1]) 1 rfl ?_
        refine me_getf (v := .ref (P.2.1 23)) rfl rfl rfl ?_
        refine me_go (pc1 := 299) (lv1 := [(1, .int r1), (0, .ref P.1)]) (st1 := [.ref P.1, .int r1, .ref (P.2.1 23)]) 2 rfl ?_
        refine me_call rfl rfl rfl rfl (h.mono (fun r12 μ12 h => ?_) (fun _ h => h))
        have hi := h.1
        replace h := h.2
        refine me_iast rfl (g := 23) rfl rfl hi ?_
        refine me_go (pc1 := 306) (lv1 := [(1, .int r1), (0, .ref P.1)]) (st1 := [.int 101, .ref P.1]) 2 rfl ?_
        refine me_call rfl rfl rfl rfl (h.mono (fun r13 μ13 h => ?_) (fun _ h => h))
        refine me_go (pc1 := 310) (lv1 := [(1, .int r1), (0, .ref P.1)]) (st1 := [.int r1]) 1 rfl ?_
        exact me_ret rfl rfl rfl h
      · replace h := h.2 (cn_eq c)
        refine me_go (pc1 := 266) (lv1 := [(1, .int r1), (0, .ref P.1)]) (st1 := [.int 80, .int r1, .ref (P.2.1 20)]) 2 rfl ?_
        have hi := h.1
        replace h := h.2
        refine me_iast rfl (g := 20) rfl rfl hi ?_
        refine me_go (pc1 := 268) (lv1 := [(1, .int r1), (0, .ref P.1)]) (st1 := [.ref P.1]) 1 rfl ?_
        refine me_call rfl rfl rfl rfl (h.mono (fun r14 μ14 h => ?_) (fun _ h => h))
        refine me_go (pc1 := 274) (lv1 := [(1, .int r1), (0, .ref P.1)]) (st1 := [.int 100, .ref P.1]) 2 rfl ?_
        refine me_call rfl rfl rfl rfl (h.mono (fun r15 μ15 h => ?_) (fun _ h => h))
        refine me_go (pc1 := 278) (lv1 := [(1, .int r1), (0, .ref P.1)]) (st1 := [.ref P.1]) 1 rfl ?_
        refine me_getf (v := .ref (P.2.1 22)) rfl rfl rfl ?_
        refine me_go (pc1 := 283) (lv1 := [(1, .int r1), (0, .ref P.1)]) (st1 := [.ref P.1, .int r1, .ref (P.2.1 22)]) 2 rfl ?_
        refine me_call rfl rfl rfl rfl (h.mono (fun r16 μ16 h => ?_) (fun _ h => h))
        have hi := h.1
        replace h := h.2
        refine me_iast rfl (g := 22) rfl rfl hi ?_
        refine me_go (pc1 := 290) (lv1 := [(1, .int r1), (0, .ref P.1)]) (st1 := [.int 106, .ref P.1]) 2 rfl ?_
        refine me_call rfl rfl rfl rfl (h.mono (fun r17 μ17 h => ?_) (fun _ h => h))
        refine me_go (pc1 := 294) (lv1 := [(1, .int r1), (0, .ref P.1)]) (st1 := [.ref P.1]) 1 rfl ?_
        refine me_getf (v := .ref (P.2.1 23)) rfl rfl rfl ?_
        refine me_go (pc1 := 299) (lv1 := [(1, .int r1), (0, .ref P.1)]) (st1 := [.ref P.1, .int r1, .ref (P.2.1 23)]) 2 rfl ?_
        refine me_call rfl rfl rfl rfl (h.mono (fun r18 μ18 h => ?_) (fun _ h => h))
        have hi := h.1
        replace h := h.2
        refine me_iast rfl (g := 23) rfl rfl hi ?_
        refine me_go (pc1 := 306) (lv1 := [(1, .int r1), (0, .ref P.1)]) (st1 := [.int 101, .ref P.1]) 2 rfl ?_
        refine me_call rfl rfl rfl rfl (h.mono (fun r19 μ19 h => ?_) (fun _ h => h))
        refine me_go (pc1 := 310) (lv1 := [(1, .int r1), (0, .ref P.1)]) (st1 := [.int r1]) 1 rfl ?_
        exact me_ret rfl rfl rfl h
  have q18_2 : ((μ1.2.1 9 ((μ1.1 32)).toNatClampNeg) = 31) → ME X W true d 339 209 [(1, .int r1), (0, .ref P.1)] [] P μ1 R T := fun c => by
      replace h := hD.2.2.1 c
      refine me_go (pc1 := 210) (lv1 := [(1, .int r1), (0, .ref P.1)]) (st1 := [.ref P.1]) 1 rfl ?_
      refine me_getf (v := .ref (P.2.1 20)) rfl rfl rfl ?_
      refine me_go (pc1 := 216) (lv1 := [(1, .int r1), (0, .ref P.1)]) (st1 := [.int 79, .int r1, .ref (P.2.1 20)]) 2 rfl ?_
      have hi := h.1
      replace h := h.2
      refine me_iast rfl (g := 20) rfl rfl hi ?_
      refine me_go (pc1 := 218) (lv1 := [(1, .int r1), (0, .ref P.1)]) (st1 := [.ref P.1]) 1 rfl ?_
      refine me_call rfl rfl rfl rfl (h.mono (fun r20 μ20 h => ?_) (fun _ h => h))
      refine me_go (pc1 := 224) (lv1 := [(1, .int r1), (0, .ref P.1)]) (st1 := [.int 100, .ref P.1]) 2 rfl ?_
      refine me_call rfl rfl rfl rfl (h.mono (fun r21 μ21 h => ?_) (fun _ h => h))
      refine me_go (pc1 := 228) (lv1 := [(1, .int r1), (0, .ref P.1)]) (st1 := [.ref P.1]) 1 rfl ?_
      refine me_getf (v := .ref (P.2.1 22)) rfl rfl rfl ?_
      refine me_go (pc1 := 233) (lv1 := [(1, .int r1), (0, .ref P.1)]) (st1 := [.ref P.1, .int r1, .ref (P.2.1 22)]) 2 rfl ?_
      refine me_call rfl rfl rfl rfl (h.mono (fun r22 μ22 h => ?_) (fun _ h => h))
      have hi := h.1
      replace h := h.2
      refine me_iast rfl (g := 22) rfl rfl hi ?_
      refine me_go (pc1 := 240) (lv1 := [(1, .int r1), (0, .ref P.1)]) (st1 := [.int 101, .ref P.1]) 2 rfl ?_
      refine me_call rfl rfl rfl rfl (h.mono (fun r23 μ23 h => ?_) (fun _ h => h))
      refine me_go (pc1 := 244) (lv1 := [(1, .int r1), (0, .ref P.1)]) (st1 := [.int r1]) 1 rfl ?_
      exact me_ret rfl rfl rfl h
  have q18_3 : ((μ1.2.1 9 ((μ1.1 32)).toNatClampNeg) = 100) → ME X W true d 339 163 [(1, .int r1), (0, .ref P.1)] [] P μ1 R T := fun c => by
      replace h := hD.2.2.2.1 c
      refine me_go (pc1 := 166) (lv1 := [(1, .int r1), (0, .ref P.1)]) (st1 := [.int 100, .ref P.1]) 2 rfl ?_
      refine me_call rfl rfl rfl rfl (h.mono (fun r24 μ24 h => ?_) (fun _ h => h))
      refine me_go (pc1 := 170) (lv1 := [(1, .int r1), (0, .ref P.1)]) (st1 := [.ref P.1]) 1 rfl ?_
      refine me_call rfl rfl rfl rfl (h.mono (fun r25 μ25 h => ?_) (fun _ h => h))
      refine me_go (pc1 := 177) (lv1 := [(2, .int r25), (1, .int r1), (0, .ref P.1)]) (st1 := [.int 101, .ref P.1]) 3 rfl ?_
      refine me_call rfl rfl rfl rfl (h.mono (fun r26 μ26 h => ?_) (fun _ h => h))
      refine me_go (pc1 := 181) (lv1 := [(2, .int r25), (1, .int r1), (0, .ref P.1)]) (st1 := [.ref P.1]) 1 rfl ?_
      refine me_getf (v := .ref (P.2.1 25)) rfl rfl rfl ?_
      refine me_go (pc1 := 186) (lv1 := [(2, .int r25), (1, .int r1), (0, .ref P.1)]) (st1 := [.ref P.1, .int r25, .ref (P.2.1 25)]) 2 rfl ?_
      refine me_getf (v := .ref (P.2.1 20)) rfl rfl rfl ?_
      refine me_go (pc1 := 190) (lv1 := [(2, .int r25), (1, .int r1), (0, .ref P.1)]) (st1 := [.int r25, .ref (P.2.1 20), .int r25, .ref (P.2.1 25)]) 1 rfl ?_
      refine me_iald rfl (g := 20) rfl rfl h.1 ?_
      replace h := h.2
      refine me_go (pc1 := 193) (lv1 := [(2, .int r25), (1, .int r1), (0, .ref P.1)]) (st1 := [.int 70, .int (μ26.2.1 20 r25.toNatClampNeg), .int r25, .ref (P.2.1 25)]) 1 rfl ?_
      refine me_icmp rfl rfl (fun c => ?_) (fun c => ?_)
      · replace h := h.1 (ci_ne c)
        refine me_go (pc1 := 201) (lv1 := [(2, .int r25), (1, .int r1), (0, .ref P.1)]) (st1 := [.ref P.1, .int r25, .ref (P.2.1 25)]) 1 rfl ?_
        refine me_getf (v := .ref (P.2.1 25)) rfl rfl rfl ?_
        refine me_go (pc1 := 205) (lv1 := [(2, .int r25), (1, .int r1), (0, .ref P.1)]) (st1 := [.int r25, .ref (P.2.1 25), .int r25, .ref (P.2.1 25)]) 1 rfl ?_
        refine me_iald rfl (g := 25) rfl rfl h.1 ?_
        replace h := h.2
        have hi := h.1
        replace h := h.2
        refine me_iast rfl (g := 25) rfl rfl hi ?_
        refine me_go (pc1 := 208) (lv1 := [(2, .int r25), (1, .int r1), (0, .ref P.1)]) (st1 := [.int r25]) 1 rfl ?_
        exact me_ret rfl rfl rfl h
      · replace h := h.2 (cn_ne c)
        refine me_go (pc1 := 206) (lv1 := [(2, .int r25), (1, .int r1), (0, .ref P.1)]) (st1 := [.int 1, .int r25, .ref (P.2.1 25)]) 2 rfl ?_
        have hi := h.1
        replace h := h.2
        refine me_iast rfl (g := 25) rfl rfl hi ?_
        refine me_go (pc1 := 208) (lv1 := [(2, .int r25), (1, .int r1), (0, .ref P.1)]) (st1 := [.int r25]) 1 rfl ?_
        exact me_ret rfl rfl rfl h
  have q18_4 : ((μ1.2.1 9 ((μ1.1 32)).toNatClampNeg) = 200) → ME X W true d 339 311 [(1, .int r1), (0, .ref P.1)] [] P μ1 R T := fun c => by
      replace h := hD.2.2.2.2.1 c
      refine me_go (pc1 := 312) (lv1 := [(1, .int r1), (0, .ref P.1)]) (st1 := [.ref P.1]) 1 rfl ?_
      refine me_call rfl rfl rfl rfl (h.mono (fun r27 μ27 h => ?_) (fun _ h => h))
      exact me_ret rfl rfl rfl h
  have q18_5 : ((μ1.2.1 9 ((μ1.1 32)).toNatClampNeg) = 201) → ME X W true d 339 100 [(1, .int r1), (0, .ref P.1)] [] P μ1 R T := fun c => by
      replace h := hD.2.2.2.2.2.1 c
      refine me_go (pc1 := 101) (lv1 := [(1, .int r1), (0, .ref P.1)]) (st1 := [.ref P.1]) 1 rfl ?_
      refine me_getf (v := .ref (P.2.1 22)) rfl rfl rfl ?_
      refine me_go (pc1 := 106) (lv1 := [(1, .int r1), (0, .ref P.1)]) (st1 := [.ref P.1, .int r1, .ref (P.2.1 22)]) 2 rfl ?_
      refine me_getf (v := .ref (P.2.1 10)) rfl rfl rfl ?_
      refine me_go (pc1 := 110) (lv1 := [(1, .int r1), (0, .ref P.1)]) (st1 := [.ref P.1, .ref (P.2.1 10), .int r1, .ref (P.2.1 22)]) 1 rfl ?_
      refine me_getf (v := .int (μ1.1 32)) rfl rfl rfl ?_
      refine me_iald rfl (g := 10) rfl rfl h.1 ?_
      replace h := h.2
      have hi := h.1
      replace h := h.2
      refine me_iast rfl (g := 22) rfl rfl hi ?_
      refine me_go (pc1 := 116) (lv1 := [(1, .int r1), (0, .ref P.1)]) (st1 := [.ref P.1]) 1 rfl ?_
      refine me_call rfl rfl rfl rfl (h.mono (fun r28 μ28 h => ?_) (fun _ h => h))
      refine me_go (pc1 := 120) (lv1 := [(1, .int r1), (0, .ref P.1)]) (st1 := [.int r1]) 1 rfl ?_
      exact me_ret rfl rfl rfl h
  by_cases c : (μ1.2.1 9 ((μ1.1 32)).toNatClampNeg) = 14
  · exact me_sw rfl c (t := 121) rfl (q18_0 (Or.inl c))
  rename ¬ (μ1.2.1 9 ((μ1.1 32)).toNatClampNeg) = 14 => n0
  by_cases c : (μ1.2.1 9 ((μ1.1 32)).toNatClampNeg) = 32
  · exact me_sw rfl c (t := 121) rfl (q18_0 (Or.inr (Or.inl c)))
  rename ¬ (μ1.2.1 9 ((μ1.1 32)).toNatClampNeg) = 32 => n4
  by_cases c : (μ1.2.1 9 ((μ1.1 32)).toNatClampNeg) = 51
  · exact me_sw rfl c (t := 121) rfl (q18_0 (Or.inr (Or.inr (c))))
  rename ¬ (μ1.2.1 9 ((μ1.1 32)).toNatClampNeg) = 51 => n5
  by_cases c : (μ1.2.1 9 ((μ1.1 32)).toNatClampNeg) = 22
  · exact me_sw rfl c (t := 245) rfl (q18_1 (Or.inl c))
  rename ¬ (μ1.2.1 9 ((μ1.1 32)).toNatClampNeg) = 22 => n1
  by_cases c : (μ1.2.1 9 ((μ1.1 32)).toNatClampNeg) = 30
  · exact me_sw rfl c (t := 245) rfl (q18_1 (Or.inr (c)))
  rename ¬ (μ1.2.1 9 ((μ1.1 32)).toNatClampNeg) = 30 => n2
  by_cases c : (μ1.2.1 9 ((μ1.1 32)).toNatClampNeg) = 31
  · exact me_sw rfl c (t := 209) rfl (q18_2 (c))
  rename ¬ (μ1.2.1 9 ((μ1.1 32)).toNatClampNeg) = 31 => n3
  by_cases c : (μ1.2.1 9 ((μ1.1 32)).toNatClampNeg) = 100
  · exact me_sw rfl c (t := 163) rfl (q18_3 (c))
  rename ¬ (μ1.2.1 9 ((μ1.1 32)).toNatClampNeg) = 100 => n6
  by_cases c : (μ1.2.1 9 ((μ1.1 32)).toNatClampNeg) = 200
  · exact me_sw rfl c (t := 311) rfl (q18_4 (c))
  rename ¬ (μ1.2.1 9 ((μ1.1 32)).toNatClampNeg) = 200 => n7
  by_cases c : (μ1.2.1 9 ((μ1.1 32)).toNatClampNeg) = 201
  · exact me_sw rfl c (t := 100) rfl (q18_5 (c))
  rename ¬ (μ1.2.1 9 ((μ1.1 32)).toNatClampNeg) = 201 => n8
  have hk : ∀ v ∈ [(14 : Int32), (22 : Int32), (30 : Int32), (31 : Int32), (32 : Int32), (51 : Int32), (100 : Int32), (200 : Int32), (201 : Int32)], ¬ (μ1.2.1 9 ((μ1.1 32)).toNatClampNeg) = v := fun v hv => by
    simp only [List.mem_cons, List.not_mem_nil, or_false] at hv
    rcases hv with rfl | rfl | rfl | rfl | rfl | rfl | rfl | rfl | rfl <;> assumption
  refine me_lsD (t := 316) rfl _ rfl rfl hk ?_
  replace h := hD.2.2.2.2.2.2 hk
  refine me_go (pc1 := 317) (lv1 := [(1, .int r1), (0, .ref P.1)]) (st1 := [.ref P.1]) 1 rfl ?_
  refine me_call rfl rfl rfl rfl (h.mono (fun r29 μ29 h => ?_) (fun _ h => h))
  refine me_go (pc1 := 321) (lv1 := [(1, .int r1), (0, .ref P.1)]) (st1 := [.int r1]) 1 rfl ?_
  exact me_ret rfl rfl rfl h
