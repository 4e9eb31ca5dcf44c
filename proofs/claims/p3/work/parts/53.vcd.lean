theorem v_declaration__0 {X : ev_X} {W : Nat → Prop} {d : Nat} {P : MP} {μ : MS} {R : Int32 → MS → Prop} {T : MS → Prop} (x1 : Int32) (h : (MI x1 (μ.2.2 22) ∧ (MI (μ.2.1 22 x1.toNatClampNeg) (μ.2.2 28) ∧ (MI (μ.2.1 28 ((μ.2.1 22 x1.toNatClampNeg)).toNatClampNeg) (μ.2.2 46) ∧ R (μ.2.1 46 ((μ.2.1 28 ((μ.2.1 22 x1.toNatClampNeg)).toNatClampNeg)).toNatClampNeg) μ)))) : ME X W true d 364 0 [(0, .ref P.1), (1, .int x1)] [] P μ R T := by
  refine me_go (pc1 := 1) (lv1 := [(0, .ref P.1), (1, .int x1)]) (st1 := [.ref P.1]) 1 rfl ?_
  refine me_getf (v := .ref (P.2.1 46)) rfl rfl rfl ?_
  refine me_go (pc1 := 5) (lv1 := [(0, .ref P.1), (1, .int x1)]) (st1 := [.ref P.1, .ref (P.2.1 46)]) 1 rfl ?_
  refine me_getf (v := .ref (P.2.1 28)) rfl rfl rfl ?_
  refine me_go (pc1 := 9) (lv1 := [(0, .ref P.1), (1, .int x1)]) (st1 := [.ref P.1, .ref (P.2.1 28), .ref (P.2.1 46)]) 1 rfl ?_
  refine me_getf (v := .ref (P.2.1 22)) rfl rfl rfl ?_
  refine me_go (pc1 := 13) (lv1 := [(0, .ref P.1), (1, .int x1)]) (st1 := [.int x1, .ref (P.2.1 22), .ref (P.2.1 28), .ref (P.2.1 46)]) 1 rfl ?_
  refine me_iald rfl (g := 22) rfl rfl h.1 ?_
  replace h := h.2
  refine me_iald rfl (g := 28) rfl rfl h.1 ?_
  replace h := h.2
  refine me_iald rfl (g := 46) rfl rfl h.1 ?_
  replace h := h.2
  exact me_ret rfl rfl rfl h
theorem v_real_0 {X : ev_X} {W : Nat → Prop} {d : Nat} {P : MP} {μ : MS} {R : Int32 → MS → Prop} {T : MS → Prop} (x1 : Int32) (h : ME X W true d 365 4 [(0, .ref P.1), (1, .int x1), (2, .int x1), (3, .int 0)] [] P μ R T) : ME X W true d 365 0 [(0, .ref P.1), (1, .int x1)] [] P μ R T := by
  refine me_go (pc1 := 4) (lv1 := [(3, .int 0), (2, .int x1), (0, .ref P.1), (1, .int x1)]) (st1 := []) 4 rfl ?_
  refine me_lv [(0, .ref P.1), (1, .int x1), (2, .int x1), (3, .int 0)] (fl_c rfl (fl_c rfl (fl_c rfl (fl_c rfl fl_0)))) ?_
  exact h
theorem v_real_4 {X : ev_X} {W : Nat → Prop} {d : Nat} {P : MP} {μ : MS} {R : Int32 → MS → Prop} {T : MS → Prop} (x1 : Int32) (x2 : Int32) (x3 : Int32) (h : (MI x2 (μ.2.2 20) ∧ ((¬ (μ.2.1 20 x2.toNatClampNeg) = 20 → R x2 μ) ∧ ((μ.2.1 20 x2.toNatClampNeg) = 20 → MC X W true d 364 [.ref P.1, .int x2] P μ (fun r1 μ1 => (MI r1 (μ1.2.2 20) ∧ ((¬ (μ1.2.1 20 r1.toNatClampNeg) = 4 → ((x3.toInt ≤ (μ1.1 60).toInt → (MI r1 (μ1.2.2 23) ∧ ME X W true d 365 4 [(0, .ref P.1), (1, .int x1), (2, .int (μ1.2.1 23 r1.toNatClampNeg)), (3, .int (x3 + 1))] [] P μ1 R T)) ∧ ((μ1.1 60).toInt < x3.toInt → MC X W true d 366 [.ref P.1, .int r1] P μ1 (fun r2 μ2 => R r2 μ2) (fun _ => False)))) ∧ ((μ1.2.1 20 r1.toNatClampNeg) = 4 → R r1 μ1)))) (fun _ => False))))) : ME X W true d 365 4 [(0, .ref P.1), (1, .int x1), (2, .int x2), (3, .int x3)] [] P μ R T := by
  refine me_go (pc1 := 5) (lv1 := [(0, .ref P.1), (1, .int x1), (2, .int x2), (3, .int x3)]) (st1 := [.ref P.1]) 1 rfl ?_
  refine me_getf (v := .ref (P.2.1 20)) rfl rfl rfl ?_
  refine me_go (pc1 := 9) (lv1 := [(0, .ref P.1), (1, .int x1), (2, .int x2), (3, .int x3)]) (st1 := [.int x2, .ref (P.2.1 20)]) 1 rfl ?_
  refine me_iald rfl (g := 20) rfl rfl h.1 ?_
  replace h := h.2
  refine me_go (pc1 := 12) (lv1 := [(0, .ref P.1), (1, .int x1), (2, .int x2), (3, .int x3)]) (st1 := [.int 20, .int (μ.2.1 20 x2.toNatClampNeg)]) 1 rfl ?_
  refine me_icmp rfl rfl (fun c => ?_) (fun c => ?_)
  · replace h := h.1 (ci_ne c)
    refine me_go (pc1 := 66) (lv1 := [(0, .ref P.1), (1, .int x1), (2, .int x2), (3, .int x3)]) (st1 := [.int x2]) 1 rfl ?_
    exact me_ret rfl rfl rfl h
  · replace h := h.2 (cn_ne c)
    refine me_go (pc1 := 17) (lv1 := [(0, .ref P.1), (1, .int x1), (2, .int x2), (3, .int x3)]) (st1 := [.int x2, .ref P.1]) 2 rfl ?_
    refine me_callN rfl rfl rfl (h.mono (fun r1 μ1 h => ?_) (fun _ h => h))
    refine me_go (pc1 := 23) (lv1 := [(4, .int r1), (0, .ref P.1), (1, .int x1), (2, .int x2), (3, .int x3)]) (st1 := [.ref P.1]) 2 rfl ?_
    refine me_getf (v := .ref (P.2.1 20)) rfl rfl rfl ?_
    refine me_go (pc1 := 28) (lv1 := [(4, .int r1), (0, .ref P.1), (1, .int x1), (2, .int x2), (3, .int x3)]) (st1 := [.int r1, .ref (P.2.1 20)]) 1 rfl ?_
    refine me_iald rfl (g := 20) rfl rfl h.1 ?_
    replace h := h.2
    refine me_go (pc1 := 30) (lv1 := [(4, .int r1), (0, .ref P.1), (1, .int x1), (2, .int x2), (3, .int x3)]) (st1 := [.int 4, .int (μ1.2.1 20 r1.toNatClampNeg)]) 1 rfl ?_
    refine me_icmp rfl rfl (fun c => ?_) (fun c => ?_)
    · replace h := h.1 (ci_ne c)
      refine me_go (pc1 := 38) (lv1 := [(4, .int r1), (0, .ref P.1), (1, .int x1), (2, .int x2), (3, .int x3)]) (st1 := [.ref P.1, .int x3]) 2 rfl ?_
      refine me_getf (v := .int (μ1.1 60)) rfl rfl rfl ?_
      refine me_icmp rfl rfl (fun c => ?_) (fun c => ?_)
      · replace h := h.1 (ci_le c)
        refine me_go (pc1 := 52) (lv1 := [(4, .int r1), (0, .ref P.1), (1, .int x1), (2, .int x2), (3, .int x3)]) (st1 := [.ref P.1]) 1 rfl ?_
        refine me_getf (v := .ref (P.2.1 23)) rfl rfl rfl ?_
        refine me_go (pc1 := 57) (lv1 := [(4, .int r1), (0, .ref P.1), (1, .int x1), (2, .int x2), (3, .int x3)]) (st1 := [.int r1, .ref (P.2.1 23)]) 1 rfl ?_
        refine me_iald rfl (g := 23) rfl rfl h.1 ?_
        replace h := h.2
        refine me_go (pc1 := 4) (lv1 := [(3, .int (x3 + 1)), (2, .int (μ1.2.1 23 r1.toNatClampNeg)), (4, .int r1), (0, .ref P.1), (1, .int x1)]) (st1 := []) 3 rfl ?_
        refine me_lv [(0, .ref P.1), (1, .int x1), (2, .int (μ1.2.1 23 r1.toNatClampNeg)), (3, .int (x3 + 1))] (fl_c rfl (fl_c rfl (fl_c rfl (fl_c rfl fl_0)))) ?_
        exact h
      · replace h := h.2 (cn_le c)
        refine me_go (pc1 := 47) (lv1 := [(4, .int r1), (0, .ref P.1), (1, .int x1), (2, .int x2), (3, .int x3)]) (st1 := [.int r1, .ref P.1]) 2 rfl ?_
        refine me_callN rfl rfl rfl (h.mono (fun r2 μ2 h => ?_) (fun _ h => h))
        exact me_ret rfl rfl rfl h
    · replace h := h.2 (cn_ne c)
      refine me_go (pc1 := 35) (lv1 := [(4, .int r1), (0, .ref P.1), (1, .int x1), (2, .int x2), (3, .int x3)]) (st1 := [.int r1]) 1 rfl ?_
      exact me_ret rfl rfl rfl h
theorem v_firstOfRing_0 {X : ev_X} {W : Nat → Prop} {d : Nat} {P : MP} {μ : MS} {R : Int32 → MS → Prop} {T : MS → Prop} (x1 : Int32) (h : (MI x1 (μ.2.2 23) ∧ MC X W true d 364 [.ref P.1, .int (μ.2.1 23 x1.toNatClampNeg)] P μ (fun r1 μ1 => ME X W true d 366 13 [(0, .ref P.1), (1, .int x1), (2, .int x1), (3, .int r1)] [] P μ1 R T) (fun _ => False))) : ME X W true d 366 0 [(0, .ref P.1), (1, .int x1)] [] P μ R T := by
  refine me_go (pc1 := 4) (lv1 := [(2, .int x1), (0, .ref P.1), (1, .int x1)]) (st1 := [.ref P.1, .ref P.1]) 4 rfl ?_
  refine me_getf (v := .ref (P.2.1 23)) rfl rfl rfl ?_
  refine me_go (pc1 := 8) (lv1 := [(2, .int x1), (0, .ref P.1), (1, .int x1)]) (st1 := [.int x1, .ref (P.2.1 23), .ref P.1]) 1 rfl ?_
  refine me_iald rfl (g := 23) rfl rfl h.1 ?_
  replace h := h.2
  refine me_callN rfl rfl rfl (h.mono (fun r1 μ1 h => ?_) (fun _ h => h))
  refine me_go (pc1 := 13) (lv1 := [(3, .int r1), (2, .int x1), (0, .ref P.1), (1, .int x1)]) (st1 := []) 1 rfl ?_
  refine me_lv [(0, .ref P.1), (1, .int x1), (2, .int x1), (3, .int r1)] (fl_c rfl (fl_c rfl (fl_c rfl (fl_c rfl fl_0)))) ?_
  exact h
theorem v_firstOfRing_13 {X : ev_X} {W : Nat → Prop} {d : Nat} {P : MP} {μ : MS} {R : Int32 → MS → Prop} {T : MS → Prop} (x1 : Int32) (x2 : Int32) (x3 : Int32) (h : ((x3 = x1 → R x2 μ) ∧ (¬ x3 = x1 → (MI x3 (μ.2.2 23) ∧ MC X W true d 364 [.ref P.1, .int (μ.2.1 23 x3.toNatClampNeg)] P μ (fun r1 μ1 => ME X W true d 366 13 [(0, .ref P.1), (1, .int x1), (2, .int (if (x3 : Int32) < x2 then x3 else x2)), (3, .int r1)] [] P μ1 R T) (fun _ => False))))) : ME X W true d 366 13 [(0, .ref P.1), (1, .int x1), (2, .int x2), (3, .int x3)] [] P μ R T := by
  refine me_go (pc1 := 15) (lv1 := [(0, .ref P.1), (1, .int x1), (2, .int x2), (3, .int x3)]) (st1 := [.int x1, .int x3]) 2 rfl ?_
  refine me_icmp rfl rfl (fun c => ?_) (fun c => ?_)
  · replace h := h.1 (ci_eq c)
    refine me_go (pc1 := 39) (lv1 := [(0, .ref P.1), (1, .int x1), (2, .int x2), (3, .int x3)]) (st1 := [.int x2]) 1 rfl ?_
    exact me_ret rfl rfl rfl h
  · replace h := h.2 (cn_eq c)
    refine me_go (pc1 := 20) (lv1 := [(0, .ref P.1), (1, .int x1), (2, .int x2), (3, .int x3)]) (st1 := [.int x3, .int x2]) 2 rfl ?_
    refine me_xm (st1 := [.int (if (x3 : Int32) < x2 then x3 else x2)]) rfl rfl ?_
    refine me_go (pc1 := 26) (lv1 := [(2, .int (if (x3 : Int32) < x2 then x3 else x2)), (0, .ref P.1), (1, .int x1), (3, .int x3)]) (st1 := [.ref P.1, .ref P.1]) 3 rfl ?_
    refine me_getf (v := .ref (P.2.1 23)) rfl rfl rfl ?_
    refine me_go (pc1 := 30) (lv1 := [(2, .int (if (x3 : Int32) < x2 then x3 else x2)), (0, .ref P.1), (1, .int x1), (3, .int x3)]) (st1 := [.int x3, .ref (P.2.1 23), .ref P.1]) 1 rfl ?_
    refine me_iald rfl (g := 23) rfl rfl h.1 ?_
    replace h := h.2
    refine me_callN rfl rfl rfl (h.mono (fun r1 μ1 h => ?_) (fun _ h => h))
    refine me_go (pc1 := 13) (lv1 := [(3, .int r1), (2, .int (if (x3 : Int32) < x2 then x3 else x2)), (0, .ref P.1), (1, .int x1)]) (st1 := []) 2 rfl ?_
    refine me_lv [(0, .ref P.1), (1, .int x1), (2, .int (if (x3 : Int32) < x2 then x3 else x2)), (3, .int r1)] (fl_c rfl (fl_c rfl (fl_c rfl (fl_c rfl fl_0)))) ?_
    exact h
theorem v_isObject_0 {X : ev_X} {W : Nat → Prop} {d : Nat} {P : MP} {μ : MS} {R : Int32 → MS → Prop} {T : MS → Prop} (x1 : Int32) (h : (MI x1 (μ.2.2 20) ∧ (((μ.2.1 20 x1.toNatClampNeg) = 26 → R 1 μ) ∧ (¬ (μ.2.1 20 x1.toNatClampNeg) = 26 → (MI x1 (μ.2.2 20) ∧ (((μ.2.1 20 x1.toNatClampNeg) = 32 → R 1 μ) ∧ (¬ (μ.2.1 20 x1.toNatClampNeg) = 32 → (MI x1 (μ.2.2 20) ∧ ((¬ (μ.2.1 20 x1.toNatClampNeg) = 4 → R 0 μ) ∧ ((μ.2.1 20 x1.toNatClampNeg) = 4 → R 1 μ)))))))))) : ME X W true d 367 0 [(0, .ref P.1), (1, .int x1)] [] P μ R T := by
  refine me_go (pc1 := 1) (lv1 := [(0, .ref P.1), (1, .int x1)]) (st1 := [.ref P.1]) 1 rfl ?_
  refine me_getf (v := .ref (P.2.1 20)) rfl rfl rfl ?_
  refine me_go (pc1 := 5) (lv1 := [(0, .ref P.1), (1, .int x1)]) (st1 := [.int x1, .ref (P.2.1 20)]) 1 rfl ?_
  refine me_iald rfl (g := 20) rfl rfl h.1 ?_
  replace h := h.2
  refine me_go (pc1 := 8) (lv1 := [(0, .ref P.1), (1, .int x1)]) (st1 := [.int 26, .int (μ.2.1 20 x1.toNatClampNeg)]) 1 rfl ?_
  refine me_icmp rfl rfl (fun c => ?_) (fun c => ?_)
  · replace h := h.1 (ci_eq c)
    refine me_go (pc1 := 37) (lv1 := [(0, .ref P.1), (1, .int x1)]) (st1 := [.int 1]) 2 rfl ?_
    exact me_retB rfl rfl (by decide) h
  · replace h := h.2 (cn_eq c)
    refine me_go (pc1 := 12) (lv1 := [(0, .ref P.1), (1, .int x1)]) (st1 := [.ref P.1]) 1 rfl ?_
    refine me_getf (v := .ref (P.2.1 20)) rfl rfl rfl ?_
    refine me_go (pc1 := 16) (lv1 := [(0, .ref P.1), (1, .int x1)]) (st1 := [.int x1, .ref (P.2.1 20)]) 1 rfl ?_
    refine me_iald rfl (g := 20) rfl rfl h.1 ?_
    replace h := h.2
    refine me_go (pc1 := 19) (lv1 := [(0, .ref P.1), (1, .int x1)]) (st1 := [.int 32, .int (μ.2.1 20 x1.toNatClampNeg)]) 1 rfl ?_
    refine me_icmp rfl rfl (fun c => ?_) (fun c => ?_)
    · replace h := h.1 (ci_eq c)
      refine me_go (pc1 := 37) (lv1 := [(0, .ref P.1), (1, .int x1)]) (st1 := [.int 1]) 2 rfl ?_
      exact me_retB rfl rfl (by decide) h
    · replace h := h.2 (cn_eq c)
      refine me_go (pc1 := 23) (lv1 := [(0, .ref P.1), (1, .int x1)]) (st1 := [.ref P.1]) 1 rfl ?_
      refine me_getf (v := .ref (P.2.1 20)) rfl rfl rfl ?_
      refine me_go (pc1 := 27) (lv1 := [(0, .ref P.1), (1, .int x1)]) (st1 := [.int x1, .ref (P.2.1 20)]) 1 rfl ?_
      refine me_iald rfl (g := 20) rfl rfl h.1 ?_
      replace h := h.2
      refine me_go (pc1 := 29) (lv1 := [(0, .ref P.1), (1, .int x1)]) (st1 := [.int 4, .int (μ.2.1 20 x1.toNatClampNeg)]) 1 rfl ?_
      refine me_icmp rfl rfl (fun c => ?_) (fun c => ?_)
      · replace h := h.1 (ci_ne c)
        refine me_go (pc1 := 37) (lv1 := [(0, .ref P.1), (1, .int x1)]) (st1 := [.int 0]) 1 rfl ?_
        exact me_retB rfl rfl (by decide) h
      · replace h := h.2 (cn_ne c)
        refine me_go (pc1 := 37) (lv1 := [(0, .ref P.1), (1, .int x1)]) (st1 := [.int 1]) 2 rfl ?_
        exact me_retB rfl rfl (by decide) h
theorem v_isReference_0 {X : ev_X} {W : Nat → Prop} {d : Nat} {P : MP} {μ : MS} {R : Int32 → MS → Prop} {T : MS → Prop} (x1 : Int32) (h : MC X W true d 367 [.ref P.1, .int x1] P μ (fun r1 μ1 => ((¬ r1 = 0 → R 1 μ1) ∧ (r1 = 0 → (MI x1 (μ1.2.2 20) ∧ (((μ1.2.1 20 x1.toNatClampNeg) = 30 → R 1 μ1) ∧ (¬ (μ1.2.1 20 x1.toNatClampNeg) = 30 → (MI x1 (μ1.2.2 20) ∧ (((μ1.2.1 20 x1.toNatClampNeg) = 31 → R 1 μ1) ∧ (¬ (μ1.2.1 20 x1.toNatClampNeg) = 31 → (MI x1 (μ1.2.2 20) ∧ (((μ1.2.1 20 x1.toNatClampNeg) = 23 → R 1 μ1) ∧ (¬ (μ1.2.1 20 x1.toNatClampNeg) = 23 → (MI x1 (μ1.2.2 20) ∧ (((μ1.2.1 20 x1.toNatClampNeg) = 24 → R 1 μ1) ∧ (¬ (μ1.2.1 20 x1.toNatClampNeg) = 24 → (MI x1 (μ1.2.2 20) ∧ ((¬ (μ1.2.1 20 x1.toNatClampNeg) = 25 → R 0 μ1) ∧ ((μ1.2.1 20 x1.toNatClampNeg) = 25 → R 1 μ1)))))))))))))))))) (fun _ => False)) : ME X W true d 368 0 [(0, .ref P.1), (1, .int x1)] [] P μ R T := by
  refine me_go (pc1 := 2) (lv1 := [(0, .ref P.1), (1, .int x1)]) (st1 := [.int x1, .ref P.1]) 2 rfl ?_
  refine me_callN rfl rfl rfl (h.mono (fun r1 μ1 h => ?_) (fun _ h => h))
  refine me_ifc rfl rfl (fun c => ?_) (fun c => ?_)
  · replace h := h.1 (ci_ne c)
    refine me_go (pc1 := 68) (lv1 := [(0, .ref P.1), (1, .int x1)]) (st1 := [.int 1]) 2 rfl ?_
    exact me_retB rfl rfl (by decide) h
  · replace h := h.2 (cn_ne c)
    refine me_go (pc1 := 9) (lv1 := [(0, .ref P.1), (1, .int x1)]) (st1 := [.ref P.1]) 1 rfl ?_
    refine me_getf (v := .ref (P.2.1 20)) rfl rfl rfl ?_
    refine me_go (pc1 := 13) (lv1 := [(0, .ref P.1), (1, .int x1)]) (st1 := [.int x1, .ref (P.2.1 20)]) 1 rfl ?_
    refine me_iald rfl (g := 20) rfl rfl h.1 ?_
    replace h := h.2
    refine me_go (pc1 := 16) (lv1 := [(0, .ref P.1), (1, .int x1)]) (st1 := [.int 30, .int (μ1.2.1 20 x1.toNatClampNeg)]) 1 rfl ?_
    refine me_icmp rfl rfl (fun c => ?_) (fun c => ?_)
    · replace h := h.1 (ci_eq c)
      refine me_go (pc1 := 68) (lv1 := [(0, .ref P.1), (1, .int x1)]) (st1 := [.int 1]) 2 rfl ?_
      exact me_retB rfl rfl (by decide) h
    · replace h := h.2 (cn_eq c)
      refine me_go (pc1 := 20) (lv1 := [(0, .ref P.1), (1, .int x1)]) (st1 := [.ref P.1]) 1 rfl ?_
      refine me_getf (v := .ref (P.2.1 20)) rfl rfl rfl ?_
      refine me_go (pc1 := 24) (lv1 := [(0, .ref P.1), (1, .int x1)]) (st1 := [.int x1, .ref (P.2.1 20)]) 1 rfl ?_
      refine me_iald rfl (g := 20) rfl rfl h.1 ?_
      replace h := h.2
      refine me_go (pc1 := 27) (lv1 := [(0, .ref P.1), (1, .int x1)]) (st1 := [.int 31, .int (μ1.2.1 20 x1.toNatClampNeg)]) 1 rfl ?_
      refine me_icmp rfl rfl (fun c => ?_) (fun c => ?_)
      · replace h := h.1 (ci_eq c)
        refine me_go (pc1 := 68) (lv1 := [(0, .ref P.1), (1, .int x1)]) (st1 := [.int 1]) 2 rfl ?_
        exact me_retB rfl rfl (by decide) h
      · replace h := h.2 (cn_eq c)
        refine me_go (pc1 := 31) (lv1 := [(0, .ref P.1), (1, .int x1)]) (st1 := [.ref P.1]) 1 rfl ?_
        refine me_getf (v := .ref (P.2.1 20)) rfl rfl rfl ?_
        refine me_go (pc1 := 35) (lv1 := [(0, .ref P.1), (1, .int x1)]) (st1 := [.int x1, .ref (P.2.1 20)]) 1 rfl ?_
        refine me_iald rfl (g := 20) rfl rfl h.1 ?_
        replace h := h.2
        refine me_go (pc1 := 38) (lv1 := [(0, .ref P.1), (1, .int x1)]) (st1 := [.int 23, .int (μ1.2.1 20 x1.toNatClampNeg)]) 1 rfl ?_
        refine me_icmp rfl rfl (fun c => ?_) (fun c => ?_)
        · replace h := h.1 (ci_eq c)
          refine me_go (pc1 := 68) (lv1 := [(0, .ref P.1), (1, .int x1)]) (st1 := [.int 1]) 2 rfl ?_
          exact me_retB rfl rfl (by decide) h
        · replace h := h.2 (cn_eq c)
          refine me_go (pc1 := 42) (lv1 := [(0, .ref P.1), (1, .int x1)]) (st1 := [.ref P.1]) 1 rfl ?_
          refine me_getf (v := .ref (P.2.1 20)) rfl rfl rfl ?_
          refine me_go (pc1 := 46) (lv1 := [(0, .ref P.1), (1, .int x1)]) (st1 := [.int x1, .ref (P.2.1 20)]) 1 rfl ?_
          refine me_iald rfl (g := 20) rfl rfl h.1 ?_
          replace h := h.2
          refine me_go (pc1 := 49) (lv1 := [(0, .ref P.1), (1, .int x1)]) (st1 := [.int 24, .int (μ1.2.1 20 x1.toNatClampNeg)]) 1 rfl ?_
          refine me_icmp rfl rfl (fun c => ?_) (fun c => ?_)
          · replace h := h.1 (ci_eq c)
            refine me_go (pc1 := 68) (lv1 := [(0, .ref P.1), (1, .int x1)]) (st1 := [.int 1]) 2 rfl ?_
            exact me_retB rfl rfl (by decide) h
          · replace h := h.2 (cn_eq c)
            refine me_go (pc1 := 53) (lv1 := [(0, .ref P.1), (1, .int x1)]) (st1 := [.ref P.1]) 1 rfl ?_
            refine me_getf (v := .ref (P.2.1 20)) rfl rfl rfl ?_
            refine me_go (pc1 := 57) (lv1 := [(0, .ref P.1), (1, .int x1)]) (st1 := [.int x1, .ref (P.2.1 20)]) 1 rfl ?_
            refine me_iald rfl (g := 20) rfl rfl h.1 ?_
            replace h := h.2
            refine me_go (pc1 := 60) (lv1 := [(0, .ref P.1), (1, .int x1)]) (st1 := [.int 25, .int (μ1.2.1 20 x1.toNatClampNeg)]) 1 rfl ?_
            refine me_icmp rfl rfl (fun c => ?_) (fun c => ?_)
            · replace h := h.1 (ci_ne c)
              refine me_go (pc1 := 68) (lv1 := [(0, .ref P.1), (1, .int x1)]) (st1 := [.int 0]) 1 rfl ?_
              exact me_retB rfl rfl (by decide) h
            · replace h := h.2 (cn_ne c)
              refine me_go (pc1 := 68) (lv1 := [(0, .ref P.1), (1, .int x1)]) (st1 := [.int 1]) 2 rfl ?_
              exact me_retB rfl rfl (by decide) h
theorem v_classOf_0 {X : ev_X} {W : Nat → Prop} {d : Nat} {P : MP} {μ : MS} {R : Int32 → MS → Prop} {T : MS → Prop} (x1 : Int32) (h : ME X W true d 369 2 [(0, .ref P.1), (1, .int x1), (2, .int x1)] [] P μ R T) : ME X W true d 369 0 [(0, .ref P.1), (1, .int x1)] [] P μ R T := by
  refine me_go (pc1 := 2) (lv1 := [(2, .int x1), (0, .ref P.1), (1, .int x1)]) (st1 := []) 2 rfl ?_
  refine me_lv [(0, .ref P.1), (1, .int x1), (2, .int x1)] (fl_c rfl (fl_c rfl (fl_c rfl fl_0))) ?_
  exact h
theorem v_classOf_2 {X : ev_X} {W : Nat → Prop} {d : Nat} {P : MP} {μ : MS} {R : Int32 → MS → Prop} {T : MS → Prop} (x1 : Int32) (x2 : Int32) (h : (MI x2 (μ.2.2 66) ∧ (((μ.2.1 66 x2.toNatClampNeg).toInt < (0 : Int) → R x2 μ) ∧ ((0 : Int) ≤ (μ.2.1 66 x2.toNatClampNeg).toInt → (MI x2 (μ.2.2 66) ∧ ME X W true d 369 2 [(0, .ref P.1), (1, .int x1), (2, .int (μ.2.1 66 x2.toNatClampNeg))] [] P μ R T))))) : ME X W true d 369 2 [(0, .ref P.1), (1, .int x1), (2, .int x2)] [] P μ R T := by
  refine me_go (pc1 := 3) (lv1 := [(0, .ref P.1), (1, .int x1), (2, .int x2)]) (st1 := [.ref P.1]) 1 rfl ?_
  refine me_getf (v := .ref (P.2.1 66)) rfl rfl rfl ?_
  refine me_go (pc1 := 7) (lv1 := [(0, .ref P.1), (1, .int x1), (2, .int x2)]) (st1 := [.int x2, .ref (P.2.1 66)]) 1 rfl ?_
  refine me_iald rfl (g := 66) rfl rfl h.1 ?_
  replace h := h.2
  refine me_ifc rfl rfl (fun c => ?_) (fun c => ?_)
  · replace h := h.1 (ci_lt c)
    refine me_go (pc1 := 22) (lv1 := [(0, .ref P.1), (1, .int x1), (2, .int x2)]) (st1 := [.int x2]) 1 rfl ?_
    exact me_ret rfl rfl rfl h
  · replace h := h.2 (cn_lt c)
    refine me_go (pc1 := 12) (lv1 := [(0, .ref P.1), (1, .int x1), (2, .int x2)]) (st1 := [.ref P.1]) 1 rfl ?_
    refine me_getf (v := .ref (P.2.1 66)) rfl rfl rfl ?_
    refine me_go (pc1 := 16) (lv1 := [(0, .ref P.1), (1, .int x1), (2, .int x2)]) (st1 := [.int x2, .ref (P.2.1 66)]) 1 rfl ?_
    refine me_iald rfl (g := 66) rfl rfl h.1 ?_
    replace h := h.2
    refine me_go (pc1 := 2) (lv1 := [(2, .int (μ.2.1 66 x2.toNatClampNeg)), (0, .ref P.1), (1, .int x1)]) (st1 := []) 2 rfl ?_
    refine me_lv [(0, .ref P.1), (1, .int x1), (2, .int (μ.2.1 66 x2.toNatClampNeg))] (fl_c rfl (fl_c rfl (fl_c rfl fl_0))) ?_
    exact h
theorem v_pair_0 {X : ev_X} {W : Nat → Prop} {d : Nat} {P : MP} {μ : MS} {R : Int32 → MS → Prop} {T : MS → Prop} (x1 : Int32) (x2 : Int32) (h : (MI (μ.1 69) (μ.2.2 70) ∧ (MI (μ.1 69) (μ.2.2 71) ∧ R 0 (mS1 (mA1 (mA1 μ 70 (((μ.1 69)).toNatClampNeg) x1) 71 (((μ.1 69)).toNatClampNeg) x2) 69 ((μ.1 69) + 1))))) : ME X W true d 370 0 [(0, .ref P.1), (1, .int x1), (2, .int x2)] [] P μ R T := by
  refine me_go (pc1 := 1) (lv1 := [(0, .ref P.1), (1, .int x1), (2, .int x2)]) (st1 := [.ref P.1]) 1 rfl ?_
  refine me_getf (v := .ref (P.2.1 70)) rfl rfl rfl ?_
  refine me_go (pc1 := 5) (lv1 := [(0, .ref P.1), (1, .int x1), (2, .int x2)]) (st1 := [.ref P.1, .ref (P.2.1 70)]) 1 rfl ?_
  refine me_getf (v := .int (μ.1 69)) rfl rfl rfl ?_
  refine me_go (pc1 := 9) (lv1 := [(0, .ref P.1), (1, .int x1), (2, .int x2)]) (st1 := [.int x1, .int (μ.1 69), .ref (P.2.1 70)]) 1 rfl ?_
  have hi := h.1
  replace h := h.2
  refine me_iast rfl (g := 70) rfl rfl hi ?_
  refine me_go (pc1 := 11) (lv1 := [(0, .ref P.1), (1, .int x1), (2, .int x2)]) (st1 := [.ref P.1]) 1 rfl ?_
  refine me_getf (v := .ref (P.2.1 71)) rfl rfl rfl ?_
  refine me_go (pc1 := 15) (lv1 := [(0, .ref P.1), (1, .int x1), (2, .int x2)]) (st1 := [.ref P.1, .ref (P.2.1 71)]) 1 rfl ?_
  refine me_getf (v := .int (μ.1 69)) rfl rfl rfl ?_
  refine me_go (pc1 := 19) (lv1 := [(0, .ref P.1), (1, .int x1), (2, .int x2)]) (st1 := [.int x2, .int (μ.1 69), .ref (P.2.1 71)]) 1 rfl ?_
  have hi := h.1
  replace h := h.2
  refine me_iast rfl (g := 71) rfl rfl hi ?_
  refine me_go (pc1 := 22) (lv1 := [(0, .ref P.1), (1, .int x1), (2, .int x2)]) (st1 := [.ref P.1, .ref P.1]) 2 rfl ?_
  refine me_getf (v := .int (μ.1 69)) rfl rfl rfl ?_
  refine me_go (pc1 := 27) (lv1 := [(0, .ref P.1), (1, .int x1), (2, .int x2)]) (st1 := [.int ((μ.1 69) + 1), .ref P.1]) 2 rfl ?_
  refine me_put rfl rfl rfl ?_
  exact me_ret (v := none) (r := 0) rfl rfl rfl h
theorem v_areAlike_0 {X : ev_X} {W : Nat → Prop} {d : Nat} {P : MP} {μ : MS} {R : Int32 → MS → Prop} {T : MS → Prop} (x1 : Int32) (x2 : Int32) (h : MC X W true d 370 [.ref P.1, .int x1, .int x2] P (mS1 μ 69 0) (fun r1 μ1 => MC X W true d 372 [.ref P.1] P μ1 (fun r2 μ2 => ((r2 = 0 → ME X W true d 371 25 [(0, .ref P.1), (1, .int x1), (2, .int x2), (3, .int (μ.1 67))] [] P μ2 R T) ∧ (¬ r2 = 0 → R 1 μ2))) (fun _ => False)) (fun _ => False)) : ME X W true d 371 0 [(0, .ref P.1), (1, .int x1), (2, .int x2)] [] P μ R T := by
  refine me_go (pc1 := 1) (lv1 := [(0, .ref P.1), (1, .int x1), (2, .int x2)]) (st1 := [.ref P.1]) 1 rfl ?_
  refine me_getf (v := .int (μ.1 67)) rfl rfl rfl ?_
  refine me_go (pc1 := 7) (lv1 := [(3, .int (μ.1 67)), (0, .ref P.1), (1, .int x1), (2, .int x2)]) (st1 := [.int 0, .ref P.1]) 3 rfl ?_
  refine me_put rfl rfl rfl ?_
  refine me_go (pc1 := 13) (lv1 := [(3, .int (μ.1 67)), (0, .ref P.1), (1, .int x1), (2, .int x2)]) (st1 := [.int x2, .int x1, .ref P.1]) 3 rfl ?_
  refine me_callN rfl rfl rfl (h.mono (fun r1 μ1 h => ?_) (fun _ h => h))
  refine me_go (pc1 := 17) (lv1 := [(3, .int (μ.1 67)), (0, .ref P.1), (1, .int x1), (2, .int x2)]) (st1 := [.ref P.1]) 1 rfl ?_
  refine me_callN rfl rfl rfl (h.mono (fun r2 μ2 h => ?_) (fun _ h => h))
  refine me_ifc rfl rfl (fun c => ?_) (fun c => ?_)
  · replace h := h.1 (ci_eq c)
    refine me_lv [(0, .ref P.1), (1, .int x1), (2, .int x2), (3, .int (μ.1 67))] (fl_c rfl (fl_c rfl (fl_c rfl (fl_c rfl fl_0)))) ?_
    exact h
  · replace h := h.2 (cn_eq c)
    refine me_go (pc1 := 24) (lv1 := [(3, .int (μ.1 67)), (0, .ref P.1), (1, .int x1), (2, .int x2)]) (st1 := [.int 1]) 1 rfl ?_
    exact me_retB rfl rfl (by decide) h
theorem v_areAlike_25 {X : ev_X} {W : Nat → Prop} {d : Nat} {P : MP} {μ : MS} {R : Int32 → MS → Prop} {T : MS → Prop} (x1 : Int32) (x2 : Int32) (x3 : Int32) (h : (((μ.1 67).toInt ≤ x3.toInt → R 0 μ) ∧ (x3.toInt < (μ.1 67).toInt → (MI ((μ.1 67) - 1) (μ.2.2 68) ∧ (MI (μ.2.1 68 (((μ.1 67) - 1)).toNatClampNeg) (μ.2.2 66) ∧ ME X W true d 371 25 [(0, .ref P.1), (1, .int x1), (2, .int x2), (3, .int x3)] [] P (mA1 (mS1 μ 67 ((μ.1 67) - 1)) 66 (((μ.2.1 68 (((μ.1 67) - 1)).toNatClampNeg)).toNatClampNeg) (-1)) R T))))) : ME X W true d 371 25 [(0, .ref P.1), (1, .int x1), (2, .int x2), (3, .int x3)] [] P μ R T := by
  refine me_go (pc1 := 26) (lv1 := [(0, .ref P.1), (1, .int x1), (2, .int x2), (3, .int x3)]) (st1 := [.ref P.1]) 1 rfl ?_
  refine me_getf (v := .int (μ.1 67)) rfl rfl rfl ?_
  refine me_go (pc1 := 30) (lv1 := [(0, .ref P.1), (1, .int x1), (2, .int x2), (3, .int x3)]) (st1 := [.int x3, .int (μ.1 67)]) 1 rfl ?_
  refine me_icmp rfl rfl (fun c => ?_) (fun c => ?_)
  · replace h := h.1 (ci_le c)
    refine me_go (pc1 := 62) (lv1 := [(0, .ref P.1), (1, .int x1), (2, .int x2), (3, .int x3)]) (st1 := [.int 0]) 1 rfl ?_
    exact me_retB rfl rfl (by decide) h
  · replace h := h.2 (cn_le c)
    refine me_go (pc1 := 35) (lv1 := [(0, .ref P.1), (1, .int x1), (2, .int x2), (3, .int x3)]) (st1 := [.ref P.1, .ref P.1]) 2 rfl ?_
    refine me_getf (v := .int (μ.1 67)) rfl rfl rfl ?_
    refine me_go (pc1 := 40) (lv1 := [(0, .ref P.1), (1, .int x1), (2, .int x2), (3, .int x3)]) (st1 := [.int ((μ.1 67) - 1), .ref P.1]) 2 rfl ?_
    refine me_put rfl rfl rfl ?_
    refine me_go (pc1 := 44) (lv1 := [(0, .ref P.1), (1, .int x1), (2, .int x2), (3, .int x3)]) (st1 := [.ref P.1]) 1 rfl ?_
    refine me_getf (v := .ref (P.2.1 66)) rfl rfl rfl ?_
    refine me_go (pc1 := 48) (lv1 := [(0, .ref P.1), (1, .int x1), (2, .int x2), (3, .int x3)]) (st1 := [.ref P.1, .ref (P.2.1 66)]) 1 rfl ?_
    refine me_getf (v := .ref (P.2.1 68)) rfl rfl rfl ?_
    refine me_go (pc1 := 52) (lv1 := [(0, .ref P.1), (1, .int x1), (2, .int x2), (3, .int x3)]) (st1 := [.ref P.1, .ref (P.2.1 68), .ref (P.2.1 66)]) 1 rfl ?_
    refine me_getf (v := .int ((μ.1 67) - 1)) rfl rfl rfl ?_
    refine me_iald rfl (g := 68) rfl rfl h.1 ?_
    replace h := h.2
    refine me_go (pc1 := 57) (lv1 := [(0, .ref P.1), (1, .int x1), (2, .int x2), (3, .int x3)]) (st1 := [.int (-1), .int (μ.2.1 68 (((μ.1 67) - 1)).toNatClampNeg), .ref (P.2.1 66)]) 1 rfl ?_
    have hi := h.1
    replace h := h.2
    refine me_iast rfl (g := 66) rfl rfl hi ?_
    refine me_go (pc1 := 25) (lv1 := [(0, .ref P.1), (1, .int x1), (2, .int x2), (3, .int x3)]) (st1 := []) 1 rfl ?_
    exact h
theorem v_joins__0 {X : ev_X} {W : Nat → Prop} {d : Nat} {P : MP} {μ : MS} {R : Int32 → MS → Prop} {T : MS → Prop}  (h : (((μ.1 69).toInt ≤ (0 : Int) → R 1 μ) ∧ ((0 : Int) < (μ.1 69).toInt → (MI ((μ.1 69) - 1) (μ.2.2 70) ∧ MC X W true d 365 [.ref P.1, .int (μ.2.1 70 (((μ.1 69) - 1)).toNatClampNeg)] P (mS1 μ 69 ((μ.1 69) - 1)) (fun r1 μ1 => MC X W true d 369 [.ref P.1, .int r1] P μ1 (fun r2 μ2 => (MI (μ2.1 69) (μ2.2.2 71) ∧ MC X W true d 365 [.ref P.1, .int (μ2.2.1 71 ((μ2.1 69)).toNatClampNeg)] P μ2 (fun r3 μ3 => MC X W true d 369 [.ref P.1, .int r3] P μ3 (fun r4 μ4 => ((¬ r2 = r4 → (MI r2 (μ4.2.2 20) ∧ (MI r4 (μ4.2.2 20) ∧ ((¬ (μ4.2.1 20 r2.toNatClampNeg) = (μ4.2.1 20 r4.toNatClampNeg) → R 0 μ4) ∧ ((μ4.2.1 20 r2.toNatClampNeg) = (μ4.2.1 20 r4.toNatClampNeg) → (MI r2 (μ4.2.2 20) ∧ (((μ4.2.1 20 r2.toNatClampNeg) = 4 → R 0 μ4) ∧ (¬ (μ4.2.1 20 r2.toNatClampNeg) = 4 → (MI r2 (μ4.2.2 20) ∧ ((¬ (μ4.2.1 20 r2.toNatClampNeg) = 3 → (MI r4 (μ4.2.2 66) ∧ (MI (μ4.1 67) (μ4.2.2 68) ∧ MC X W true d 373 [.ref P.1, .int r2, .int r4] P (mS1 (mA1 (mA1 μ4 66 r4.toNatClampNeg r2) 68 (((μ4.1 67)).toNatClampNeg) r4) 67 ((μ4.1 67) + 1)) (fun r5 μ5 => ((¬ r5 = 0 → ME X W true d 372 0 [(0, .ref P.1)] [] P μ5 R T) ∧ (r5 = 0 → R 0 μ5))) (fun _ => False)))) ∧ ((μ4.2.1 20 r2.toNatClampNeg) = 3 → R 0 μ4))))))))))) ∧ (r2 = r4 → ME X W true d 372 0 [(0, .ref P.1)] [] P μ4 R T))) (fun _ => False)) (fun _ => False))) (fun _ => False)) (fun _ => False))))) : ME X W true d 372 0 [(0, .ref P.1)] [] P μ R T := by
  refine me_go (pc1 := 1) (lv1 := [(0, .ref P.1)]) (st1 := [.ref P.1]) 1 rfl ?_
  refine me_getf (v := .int (μ.1 69)) rfl rfl rfl ?_
  refine me_ifc rfl rfl (fun c => ?_) (fun c => ?_)
  · replace h := h.1 (ci_le c)
    refine me_go (pc1 := 140) (lv1 := [(0, .ref P.1)]) (st1 := [.int 1]) 1 rfl ?_
    exact me_retB rfl rfl (by decide) h
  · replace h := h.2 (cn_le c)
    refine me_go (pc1 := 9) (lv1 := [(0, .ref P.1)]) (st1 := [.ref P.1, .ref P.1]) 2 rfl ?_
    refine me_getf (v := .int (μ.1 69)) rfl rfl rfl ?_
    refine me_go (pc1 := 14) (lv1 := [(0, .ref P.1)]) (st1 := [.int ((μ.1 69) - 1), .ref P.1]) 2 rfl ?_
    refine me_put rfl rfl rfl ?_
    refine me_go (pc1 := 20) (lv1 := [(0, .ref P.1)]) (st1 := [.ref P.1, .ref P.1, .ref P.1]) 3 rfl ?_
    refine me_getf (v := .ref (P.2.1 70)) rfl rfl rfl ?_
    refine me_go (pc1 := 24) (lv1 := [(0, .ref P.1)]) (st1 := [.ref P.1, .ref (P.2.1 70), .ref P.1, .ref P.1]) 1 rfl ?_
    refine me_getf (v := .int ((μ.1 69) - 1)) rfl rfl rfl ?_
    refine me_iald rfl (g := 70) rfl rfl h.1 ?_
    replace h := h.2
    refine me_callN rfl rfl rfl (h.mono (fun r1 μ1 h => ?_) (fun _ h => h))
    refine me_callN rfl rfl rfl (h.mono (fun r2 μ2 h => ?_) (fun _ h => h))
    refine me_go (pc1 := 38) (lv1 := [(1, .int r2), (0, .ref P.1)]) (st1 := [.ref P.1, .ref P.1, .ref P.1]) 4 rfl ?_
    refine me_getf (v := .ref (P.2.1 71)) rfl rfl rfl ?_
    refine me_go (pc1 := 42) (lv1 := [(1, .int r2), (0, .ref P.1)]) (st1 := [.ref P.1, .ref (P.2.1 71), .ref P.1, .ref P.1]) 1 rfl ?_
    refine me_getf (v := .int (μ2.1 69)) rfl rfl rfl ?_
    refine me_iald rfl (g := 71) rfl rfl h.1 ?_
    replace h := h.2
    refine me_callN rfl rfl rfl (h.mono (fun r3 μ3 h => ?_) (fun _ h => h))
    refine me_callN rfl rfl rfl (h.mono (fun r4 μ4 h => ?_) (fun _ h => h))
    refine me_go (pc1 := 55) (lv1 := [(2, .int r4), (1, .int r2), (0, .ref P.1)]) (st1 := [.int r4, .int r2]) 3 rfl ?_
    refine me_icmp rfl rfl (fun c => ?_) (fun c => ?_)
    · replace h := h.1 (ci_ne c)
      refine me_go (pc1 := 62) (lv1 := [(2, .int r4), (1, .int r2), (0, .ref P.1)]) (st1 := [.ref P.1]) 1 rfl ?_
      refine me_getf (v := .ref (P.2.1 20)) rfl rfl rfl ?_
      refine me_go (pc1 := 66) (lv1 := [(2, .int r4), (1, .int r2), (0, .ref P.1)]) (st1 := [.int r2, .ref (P.2.1 20)]) 1 rfl ?_
      refine me_iald rfl (g := 20) rfl rfl h.1 ?_
      replace h := h.2
      refine me_go (pc1 := 68) (lv1 := [(2, .int r4), (1, .int r2), (0, .ref P.1)]) (st1 := [.ref P.1, .int (μ4.2.1 20 r2.toNatClampNeg)]) 1 rfl ?_
      refine me_getf (v := .ref (P.2.1 20)) rfl rfl rfl ?_
      refine me_go (pc1 := 72) (lv1 := [(2, .int r4), (1, .int r2), (0, .ref P.1)]) (st1 := [.int r4, .ref (P.2.1 20), .int (μ4.2.1 20 r2.toNatClampNeg)]) 1 rfl ?_
      refine me_iald rfl (g := 20) rfl rfl h.1 ?_
      replace h := h.2
      refine me_icmp rfl rfl (fun c => ?_) (fun c => ?_)
      · replace h := h.1 (ci_ne c)
        refine me_go (pc1 := 97) (lv1 := [(2, .int r4), (1, .int r2), (0, .ref P.1)]) (st1 := [.int 0]) 1 rfl ?_
        exact me_retB rfl rfl (by decide) h
      · replace h := h.2 (cn_ne c)
        refine me_go (pc1 := 77) (lv1 := [(2, .int r4), (1, .int r2), (0, .ref P.1)]) (st1 := [.ref P.1]) 1 rfl ?_
        refine me_getf (v := .ref (P.2.1 20)) rfl rfl rfl ?_
        refine me_go (pc1 := 81) (lv1 := [(2, .int r4), (1, .int r2), (0, .ref P.1)]) (st1 := [.int r2, .ref (P.2.1 20)]) 1 rfl ?_
        refine me_iald rfl (g := 20) rfl rfl h.1 ?_
        replace h := h.2
        refine me_go (pc1 := 83) (lv1 := [(2, .int r4), (1, .int r2), (0, .ref P.1)]) (st1 := [.int 4, .int (μ4.2.1 20 r2.toNatClampNeg)]) 1 rfl ?_
        refine me_icmp rfl rfl (fun c => ?_) (fun c => ?_)
        · replace h := h.1 (ci_eq c)
          refine me_go (pc1 := 97) (lv1 := [(2, .int r4), (1, .int r2), (0, .ref P.1)]) (st1 := [.int 0]) 1 rfl ?_
          exact me_retB rfl rfl (by decide) h
        · replace h := h.2 (cn_eq c)
          refine me_go (pc1 := 87) (lv1 := [(2, .int r4), (1, .int r2), (0, .ref P.1)]) (st1 := [.ref P.1]) 1 rfl ?_
          refine me_getf (v := .ref (P.2.1 20)) rfl rfl rfl ?_
          refine me_go (pc1 := 91) (lv1 := [(2, .int r4), (1, .int r2), (0, .ref P.1)]) (st1 := [.int r2, .ref (P.2.1 20)]) 1 rfl ?_
          refine me_iald rfl (g := 20) rfl rfl h.1 ?_
          replace h := h.2
          refine me_go (pc1 := 93) (lv1 := [(2, .int r4), (1, .int r2), (0, .ref P.1)]) (st1 := [.int 3, .int (μ4.2.1 20 r2.toNatClampNeg)]) 1 rfl ?_
          refine me_icmp rfl rfl (fun c => ?_) (fun c => ?_)
          · replace h := h.1 (ci_ne c)
            refine me_go (pc1 := 99) (lv1 := [(2, .int r4), (1, .int r2), (0, .ref P.1)]) (st1 := [.ref P.1]) 1 rfl ?_
            refine me_getf (v := .ref (P.2.1 66)) rfl rfl rfl ?_
            refine me_go (pc1 := 104) (lv1 := [(2, .int r4), (1, .int r2), (0, .ref P.1)]) (st1 := [.int r2, .int r4, .ref (P.2.1 66)]) 2 rfl ?_
            have hi := h.1
            replace h := h.2
            refine me_iast rfl (g := 66) rfl rfl hi ?_
            refine me_go (pc1 := 106) (lv1 := [(2, .int r4), (1, .int r2), (0, .ref P.1)]) (st1 := [.ref P.1]) 1 rfl ?_
            refine me_getf (v := .ref (P.2.1 68)) rfl rfl rfl ?_
            refine me_go (pc1 := 110) (lv1 := [(2, .int r4), (1, .int r2), (0, .ref P.1)]) (st1 := [.ref P.1, .ref (P.2.1 68)]) 1 rfl ?_
            refine me_getf (v := .int (μ4.1 67)) rfl rfl rfl ?_
            refine me_go (pc1 := 114) (lv1 := [(2, .int r4), (1, .int r2), (0, .ref P.1)]) (st1 := [.int r4, .int (μ4.1 67), .ref (P.2.1 68)]) 1 rfl ?_
            have hi := h.1
            replace h := h.2
            refine me_iast rfl (g := 68) rfl rfl hi ?_
            refine me_go (pc1 := 117) (lv1 := [(2, .int r4), (1, .int r2), (0, .ref P.1)]) (st1 := [.ref P.1, .ref P.1]) 2 rfl ?_
            refine me_getf (v := .int (μ4.1 67)) rfl rfl rfl ?_
            refine me_go (pc1 := 122) (lv1 := [(2, .int r4), (1, .int r2), (0, .ref P.1)]) (st1 := [.int ((μ4.1 67) + 1), .ref P.1]) 2 rfl ?_
            refine me_put rfl rfl rfl ?_
            refine me_go (pc1 := 128) (lv1 := [(2, .int r4), (1, .int r2), (0, .ref P.1)]) (st1 := [.int r4, .int r2, .ref P.1]) 3 rfl ?_
            refine me_callN rfl rfl rfl (h.mono (fun r5 μ5 h => ?_) (fun _ h => h))
            refine me_ifc rfl rfl (fun c => ?_) (fun c => ?_)
            · replace h := h.1 (ci_ne c)
              refine me_go (pc1 := 0) (lv1 := [(2, .int r4), (1, .int r2), (0, .ref P.1)]) (st1 := []) 1 rfl ?_
              refine me_lv [(0, .ref P.1)] (fl_c rfl fl_0) ?_
              exact h
            · replace h := h.2 (cn_ne c)
              refine me_go (pc1 := 135) (lv1 := [(2, .int r4), (1, .int r2), (0, .ref P.1)]) (st1 := [.int 0]) 1 rfl ?_
              exact me_retB rfl rfl (by decide) h
          · replace h := h.2 (cn_ne c)
            refine me_go (pc1 := 97) (lv1 := [(2, .int r4), (1, .int r2), (0, .ref P.1)]) (st1 := [.int 0]) 1 rfl ?_
            exact me_retB rfl rfl (by decide) h
    · replace h := h.2 (cn_ne c)
      refine me_go (pc1 := 0) (lv1 := [(2, .int r4), (1, .int r2), (0, .ref P.1)]) (st1 := []) 1 rfl ?_
      refine me_lv [(0, .ref P.1)] (fl_c rfl fl_0) ?_
      exact h
theorem v_partsPair_0 {X : ev_X} {W : Nat → Prop} {d : Nat} {P : MP} {μ : MS} {R : Int32 → MS → Prop} {T : MS → Prop} (x1 : Int32) (x2 : Int32) (h : (MI x1 (μ.2.2 20) ∧ ((((μ.2.1 20 x1.toNatClampNeg) = 27) → (MI x1 (μ.2.2 22) ∧ (MI x2 (μ.2.2 22) ∧ ((¬ (μ.2.1 22 x1.toNatClampNeg) = (μ.2.1 22 x2.toNatClampNeg) → ME X W true d 373 78 [(0, .ref P.1), (1, .int x1), (2, .int x2)] [] P μ R T) ∧ ((μ.2.1 22 x1.toNatClampNeg) = (μ.2.1 22 x2.toNatClampNeg) → (MI x1 (μ.2.2 23) ∧ (MI x2 (μ.2.2 23) ∧ ((¬ (μ.2.1 23 x1.toNatClampNeg) = (μ.2.1 23 x2.toNatClampNeg) → ME X W true d 373 78 [(0, .ref P.1), (1, .int x1), (2, .int x2)] [] P μ R T) ∧ ((μ.2.1 23 x1.toNatClampNeg) = (μ.2.1 23 x2.toNatClampNeg) → R 1 μ))))))))) ∧ (((μ.2.1 20 x1.toNatClampNeg) = 28) → (MI x1 (μ.2.2 24) ∧ (MI x2 (μ.2.2 24) ∧ MC X W true d 370 [.ref P.1, .int (μ.2.1 24 x1.toNatClampNeg), .int (μ.2.1 24 x2.toNatClampNeg)] P μ (fun r1 μ1 => (MI x1 (μ1.2.2 22) ∧ (MI x2 (μ1.2.2 22) ∧ ((¬ (μ1.2.1 22 x1.toNatClampNeg) = (μ1.2.1 22 x2.toNatClampNeg) → ME X W true d 373 130 [(0, .ref P.1), (1, .int x1), (2, .int x2)] [] P μ1 R T) ∧ ((μ1.2.1 22 x1.toNatClampNeg) = (μ1.2.1 22 x2.toNatClampNeg) → (MI x1 (μ1.2.2 23) ∧ (MI x2 (μ1.2.2 23) ∧ ((¬ (μ1.2.1 23 x1.toNatClampNeg) = (μ1.2.1 23 x2.toNatClampNeg) → ME X W true d 373 130 [(0, .ref P.1), (1, .int x1), (2, .int x2)] [] P μ1 R T) ∧ ((μ1.2.1 23 x1.toNatClampNeg) = (μ1.2.1 23 x2.toNatClampNeg) → R 1 μ1))))))))) (fun _ => False)))) ∧ (((μ.2.1 20 x1.toNatClampNeg) = 29) → (MI x1 (μ.2.2 22) ∧ (MI x2 (μ.2.2 22) ∧ MC X W true d 375 [.ref P.1, .int (μ.2.1 22 x1.toNatClampNeg), .int (μ.2.1 22 x2.toNatClampNeg)] P μ (fun r2 μ2 => (((r2) = 0 ∨ (r2) = 1) ∧ R r2 μ2)) (fun _ => False)))) ∧ (((μ.2.1 20 x1.toNatClampNeg) = 30) → (MI x1 (μ.2.2 22) ∧ (MI x2 (μ.2.2 22) ∧ MC X W true d 370 [.ref P.1, .int (μ.2.1 22 x1.toNatClampNeg), .int (μ.2.1 22 x2.toNatClampNeg)] P μ (fun r3 μ3 => R 1 μ3) (fun _ => False)))) ∧ (((μ.2.1 20 x1.toNatClampNeg) = 31) → (MI x1 (μ.2.2 22) ∧ (MI x2 (μ.2.2 22) ∧ (MI x1 (μ.2.2 22) ∧ (MI (μ.2.1 22 x1.toNatClampNeg) (μ.2.2 22) ∧ (MI x2 (μ.2.2 22) ∧ (MI (μ.2.1 22 x2.toNatClampNeg) (μ.2.2 22) ∧ MC X W true d 379 [.ref P.1, .int (μ.2.1 22 x1.toNatClampNeg), .int (μ.2.1 22 x2.toNatClampNeg), .int (μ.2.1 22 ((μ.2.1 22 x1.toNatClampNeg)).toNatClampNeg), .int (μ.2.1 22 ((μ.2.1 22 x2.toNatClampNeg)).toNatClampNeg)] P μ (fun r4 μ4 => ((r4 = 0 → ME X W true d 373 231 [(0, .ref P.1), (1, .int x1), (2, .int x2)] [] P μ4 R T) ∧ (¬ r4 = 0 → (MI x1 (μ4.2.2 22) ∧ (MI x2 (μ4.2.2 22) ∧ MC X W true d 382 [.ref P.1, .int (μ4.2.1 22 x1.toNatClampNeg), .int (μ4.2.1 22 x2.toNatClampNeg)] P μ4 (fun r5 μ5 => ((r5 = 0 → ME X W true d 373 231 [(0, .ref P.1), (1, .int x1), (2, .int x2)] [] P μ5 R T) ∧ (¬ r5 = 0 → R 1 μ5))) (fun _ => False)))))) (fun _ => False)))))))) ∧ (((μ.2.1 20 x1.toNatClampNeg) = 32) → MC X W true d 374 [.ref P.1, .int x1] P μ (fun r6 μ6 => MC X W true d 374 [.ref P.1, .int x2] P μ6 (fun r7 μ7 => MC X W true d 370 [.ref P.1, .int r6, .int r7] P μ7 (fun r8 μ8 => (MI x1 (μ8.2.2 23) ∧ (MI x2 (μ8.2.2 23) ∧ MC X W true d 375 [.ref P.1, .int (μ8.2.1 23 x1.toNatClampNeg), .int (μ8.2.1 23 x2.toNatClampNeg)] P μ8 (fun r9 μ9 => ((r9 = 0 → ME X W true d 373 327 [(0, .ref P.1), (1, .int x1), (2, .int x2)] [] P μ9 R T) ∧ (¬ r9 = 0 → (MI x1 (μ9.2.2 24) ∧ (MI x2 (μ9.2.2 24) ∧ MC X W true d 377 [.ref P.1, .int (μ9.2.1 24 x1.toNatClampNeg), .int (μ9.2.1 24 x2.toNatClampNeg)] P μ9 (fun r10 μ10 => ((r10 = 0 → ME X W true d 373 327 [(0, .ref P.1), (1, .int x1), (2, .int x2)] [] P μ10 R T) ∧ (¬ r10 = 0 → (MI x1 (μ10.2.2 25) ∧ (MI x2 (μ10.2.2 25) ∧ MC X W true d 378 [.ref P.1, .int (μ10.2.1 25 x1.toNatClampNeg), .int (μ10.2.1 25 x2.toNatClampNeg)] P μ10 (fun r11 μ11 => ((r11 = 0 → ME X W true d 373 327 [(0, .ref P.1), (1, .int x1), (2, .int x2)] [] P μ11 R T) ∧ (¬ r11 = 0 → (MI x2 (μ11.2.2 25) ∧ (MI x1 (μ11.2.2 25) ∧ MC X W true d 378 [.ref P.1, .int (μ11.2.1 25 x2.toNatClampNeg), .int (μ11.2.1 25 x1.toNatClampNeg)] P μ11 (fun r12 μ12 => ((r12 = 0 → ME X W true d 373 327 [(0, .ref P.1), (1, .int x1), (2, .int x2)] [] P μ12 R T) ∧ (¬ r12 = 0 → R 1 μ12))) (fun _ => False)))))) (fun _ => False)))))) (fun _ => False)))))) (fun _ => False)))) (fun _ => False)) (fun _ => False)) (fun _ => False)) ∧ ((∀ v ∈ [(27 : Int32), (28 : Int32), (29 : Int32), (30 : Int32), (31 : Int32), (32 : Int32)], ¬ (μ.2.1 20 x1.toNatClampNeg) = v) → R 1 μ)))) : ME X W true d 373 0 [(0, .ref P.1), (1, .int x1), (2, .int x2)] [] P μ R T := by
  refine me_go (pc1 := 1) (lv1 := [(0, .ref P.1), (1, .int x1), (2, .int x2)]) (st1 := [.ref P.1]) 1 rfl ?_
  refine me_getf (v := .ref (P.2.1 20)) rfl rfl rfl ?_
  refine me_go (pc1 := 5) (lv1 := [(0, .ref P.1), (1, .int x1), (2, .int x2)]) (st1 := [.int x1, .ref (P.2.1 20)]) 1 rfl ?_
  refine me_iald rfl (g := 20) rfl rfl h.1 ?_
  replace h := h.2
  have hD := h
  have q6_0 : ((μ.2.1 20 x1.toNatClampNeg) = 27) → ME X W true d 373 44 [(0, .ref P.1), (1, .int x1), (2, .int x2)] [] P μ R T := fun c => by
      replace h := hD.1 c
      refine me_go (pc1 := 45) (lv1 := [(0, .ref P.1), (1, .int x1), (2, .int x2)]) (st1 := [.ref P.1]) 1 rfl ?_
      refine me_getf (v := .ref (P.2.1 22)) rfl rfl rfl ?_
      refine me_go (pc1 := 49) (lv1 := [(0, .ref P.1), (1, .int x1), (2, .int x2)]) (st1 := [.int x1, .ref (P.2.1 22)]) 1 rfl ?_
      refine me_iald rfl (g := 22) rfl rfl h.1 ?_
      replace h := h.2
      refine me_go (pc1 := 51) (lv1 := [(0, .ref P.1), (1, .int x1), (2, .int x2)]) (st1 := [.ref P.1, .int (μ.2.1 22 x1.toNatClampNeg)]) 1 rfl ?_
      refine me_getf (v := .ref (P.2.1 22)) rfl rfl rfl ?_
      refine me_go (pc1 := 55) (lv1 := [(0, .ref P.1), (1, .int x1), (2, .int x2)]) (st1 := [.int x2, .ref (P.2.1 22), .int (μ.2.1 22 x1.toNatClampNeg)]) 1 rfl ?_
      refine me_iald rfl (g := 22) rfl rfl h.1 ?_
      replace h := h.2
      refine me_icmp rfl rfl (fun c => ?_) (fun c => ?_)
      · replace h := h.1 (ci_ne c)
        exact h
      · replace h := h.2 (cn_ne c)
        refine me_go (pc1 := 60) (lv1 := [(0, .ref P.1), (1, .int x1), (2, .int x2)]) (st1 := [.ref P.1]) 1 rfl ?_
        refine me_getf (v := .ref (P.2.1 23)) rfl rfl rfl ?_
        refine me_go (pc1 := 64) (lv1 := [(0, .ref P.1), (1, .int x1), (2, .int x2)]) (st1 := [.int x1, .ref (P.2.1 23)]) 1 rfl ?_
        refine me_iald rfl (g := 23) rfl rfl h.1 ?_
        replace h := h.2
        refine me_go (pc1 := 66) (lv1 := [(0, .ref P.1), (1, .int x1), (2, .int x2)]) (st1 := [.ref P.1, .int (μ.2.1 23 x1.toNatClampNeg)]) 1 rfl ?_
        refine me_getf (v := .ref (P.2.1 23)) rfl rfl rfl ?_
        refine me_go (pc1 := 70) (lv1 := [(0, .ref P.1), (1, .int x1), (2, .int x2)]) (st1 := [.int x2, .ref (P.2.1 23), .int (μ.2.1 23 x1.toNatClampNeg)]) 1 rfl ?_
        refine me_iald rfl (g := 23) rfl rfl h.1 ?_
        replace h := h.2
        refine me_icmp rfl rfl (fun c => ?_) (fun c => ?_)
        · replace h := h.1 (ci_ne c)
          exact h
        · replace h := h.2 (cn_ne c)
          refine me_go (pc1 := 79) (lv1 := [(0, .ref P.1), (1, .int x1), (2, .int x2)]) (st1 := [.int 1]) 2 rfl ?_
          exact me_retB rfl rfl (by decide) h
  have q6_1 : ((μ.2.1 20 x1.toNatClampNeg) = 28) → ME X W true d 373 80 [(0, .ref P.1), (1, .int x1), (2, .int x2)] [] P μ R T := fun c => by
      replace h := hD.2.1 c
      refine me_go (pc1 := 82) (lv1 := [(0, .ref P.1), (1, .int x1), (2, .int x2)]) (st1 := [.ref P.1, .ref P.1]) 2 rfl ?_
      refine me_getf (v := .ref (P.2.1 24)) rfl rfl rfl ?_
      refine me_go (pc1 := 86) (lv1 := [(0, .ref P.1), (1, .int x1), (2, .int x2)]) (st1 := [.int x1, .ref (P.2.1 24), .ref P.1]) 1 rfl ?_
      refine me_iald rfl (g := 24) rfl rfl h.1 ?_
      replace h := h.2
      refine me_go (pc1 := 88) (lv1 := [(0, .ref P.1), (1, .int x1), (2, .int x2)]) (st1 := [.ref P.1, .int (μ.2.1 24 x1.toNatClampNeg), .ref P.1]) 1 rfl ?_
      refine me_getf (v := .ref (P.2.1 24)) rfl rfl rfl ?_
      refine me_go (pc1 := 92) (lv1 := [(0, .ref P.1), (1, .int x1), (2, .int x2)]) (st1 := [.int x2, .ref (P.2.1 24), .int (μ.2.1 24 x1.toNatClampNeg), .ref P.1]) 1 rfl ?_
      refine me_iald rfl (g := 24) rfl rfl h.1 ?_
      replace h := h.2
      refine me_callN rfl rfl rfl (h.mono (fun r1 μ1 h => ?_) (fun _ h => h))
      refine me_go (pc1 := 97) (lv1 := [(0, .ref P.1), (1, .int x1), (2, .int x2)]) (st1 := [.ref P.1]) 1 rfl ?_
      refine me_getf (v := .ref (P.2.1 22)) rfl rfl rfl ?_
      refine me_go (pc1 := 101) (lv1 := [(0, .ref P.1), (1, .int x1), (2, .int x2)]) (st1 := [.int x1, .ref (P.2.1 22)]) 1 rfl ?_
      refine me_iald rfl (g := 22) rfl rfl h.1 ?_
      replace h := h.2
      refine me_go (pc1 := 103) (lv1 := [(0, .ref P.1), (1, .int x1), (2, .int x2)]) (st1 := [.ref P.1, .int (μ1.2.1 22 x1.toNatClampNeg)]) 1 rfl ?_
      refine me_getf (v := .ref (P.2.1 22)) rfl rfl rfl ?_
      refine me_go (pc1 := 107) (lv1 := [(0, .ref P.1), (1, .int x1), (2, .int x2)]) (st1 := [.int x2, .ref (P.2.1 22), .int (μ1.2.1 22 x1.toNatClampNeg)]) 1 rfl ?_
      refine me_iald rfl (g := 22) rfl rfl h.1 ?_
      replace h := h.2
      refine me_icmp rfl rfl (fun c => ?_) (fun c => ?_)
      · replace h := h.1 (ci_ne c)
        exact h
      · replace h := h.2 (cn_ne c)
        refine me_go (pc1 := 112) (lv1 := [(0, .ref P.1), (1, .int x1), (2, .int x2)]) (st1 := [.ref P.1]) 1 rfl ?_
        refine me_getf (v := .ref (P.2.1 23)) rfl rfl rfl ?_
        refine me_go (pc1 := 116) (lv1 := [(0, .ref P.1), (1, .int x1), (2, .int x2)]) (st1 := [.int x1, .ref (P.2.1 23)]) 1 rfl ?_
        refine me_iald rfl (g := 23) rfl rfl h.1 ?_
        replace h := h.2
        refine me_go (pc1 := 118) (lv1 := [(0, .ref P.1), (1, .int x1), (2, .int x2)]) (st1 := [.ref P.1, .int (μ1.2.1 23 x1.toNatClampNeg)]) 1 rfl ?_
        refine me_getf (v := .ref (P.2.1 23)) rfl rfl rfl ?_
        refine me_go (pc1 := 122) (lv1 := [(0, .ref P.1), (1, .int x1), (2, .int x2)]) (st1 := [.int x2, .ref (P.2.1 23), .int (μ1.2.1 23 x1.toNatClampNeg)]) 1 rfl ?_
        refine me_iald rfl (g := 23) rfl rfl h.1 ?_
        replace h := h.2
        refine me_icmp rfl rfl (fun c => ?_) (fun c => ?_)
        · replace h := h.1 (ci_ne c)
          exact h
        · replace h := h.2 (cn_ne c)
          refine me_go (pc1 := 131) (lv1 := [(0, .ref P.1), (1, .int x1), (2, .int x2)]) (st1 := [.int 1]) 2 rfl ?_
          exact me_retB rfl rfl (by decide) h
  have q6_2 : ((μ.2.1 20 x1.toNatClampNeg) = 29) → ME X W true d 373 132 [(0, .ref P.1), (1, .int x1), (2, .int x2)] [] P μ R T := fun c => by
      replace h := hD.2.2.1 c
      refine me_go (pc1 := 134) (lv1 := [(0, .ref P.1), (1, .int x1), (2, .int x2)]) (st1 := [.ref P.1, .ref P.1]) 2 rfl ?_
      refine me_getf (v := .ref (P.2.1 22)) rfl rfl rfl ?_
      refine me_go (pc1 := 138) (lv1 := [(0, .ref P.1), (1, .int x1), (2, .int x2)]) (st1 := [.int x1, .ref (P.2.1 22), .ref P.1]) 1 rfl ?_
      refine me_iald rfl (g := 22) rfl rfl h.1 ?_
      replace h := h.2
      refine me_go (pc1 := 140) (lv1 := [(0, .ref P.1), (1, .int x1), (2, .int x2)]) (st1 := [.ref P.1, .int (μ.2.1 22 x1.toNatClampNeg), .ref P.1]) 1 rfl ?_
      refine me_getf (v := .ref (P.2.1 22)) rfl rfl rfl ?_
      refine me_go (pc1 := 144) (lv1 := [(0, .ref P.1), (1, .int x1), (2, .int x2)]) (st1 := [.int x2, .ref (P.2.1 22), .int (μ.2.1 22 x1.toNatClampNeg), .ref P.1]) 1 rfl ?_
      refine me_iald rfl (g := 22) rfl rfl h.1 ?_
      replace h := h.2
      refine me_callN rfl rfl rfl (h.mono (fun r2 μ2 h => ?_) (fun _ h => h))
      exact me_retB rfl rfl h.1 h.2
  have q6_3 : ((μ.2.1 20 x1.toNatClampNeg) = 30) → ME X W true d 373 149 [(0, .ref P.1), (1, .int x1), (2, .int x2)] [] P μ R T := fun c => by
      replace h := hD.2.2.2.1 c
      refine me_go (pc1 := 151) (lv1 := [(0, .ref P.1), (1, .int x1), (2, .int x2)]) (st1 := [.ref P.1, .ref P.1]) 2 rfl ?_
      refine me_getf (v := .ref (P.2.1 22)) rfl rfl rfl ?_
      refine me_go (pc1 := 155) (lv1 := [(0, .ref P.1), (1, .int x1), (2, .int x2)]) (st1 := [.int x1, .ref (P.2.1 22), .ref P.1]) 1 rfl ?_
      refine me_iald rfl (g := 22) rfl rfl h.1 ?_
      replace h := h.2
      refine me_go (pc1 := 157) (lv1 := [(0, .ref P.1), (1, .int x1), (2, .int x2)]) (st1 := [.ref P.1, .int (μ.2.1 22 x1.toNatClampNeg), .ref P.1]) 1 rfl ?_
      refine me_getf (v := .ref (P.2.1 22)) rfl rfl rfl ?_
      refine me_go (pc1 := 161) (lv1 := [(0, .ref P.1), (1, .int x1), (2, .int x2)]) (st1 := [.int x2, .ref (P.2.1 22), .int (μ.2.1 22 x1.toNatClampNeg), .ref P.1]) 1 rfl ?_
      refine me_iald rfl (g := 22) rfl rfl h.1 ?_
      replace h := h.2
      refine me_callN rfl rfl rfl (h.mono (fun r3 μ3 h => ?_) (fun _ h => h))
      refine me_go (pc1 := 166) (lv1 := [(0, .ref P.1), (1, .int x1), (2, .int x2)]) (st1 := [.int 1]) 1 rfl ?_
      exact me_retB rfl rfl (by decide) h
  have q6_4 : ((μ.2.1 20 x1.toNatClampNeg) = 31) → ME X W true d 373 167 [(0, .ref P.1), (1, .int x1), (2, .int x2)] [] P μ R T := fun c => by
      replace h := hD.2.2.2.2.1 c
      refine me_go (pc1 := 169) (lv1 := [(0, .ref P.1), (1, .int x1), (2, .int x2)]) (st1 := [.ref P.1, .ref P.1]) 2 rfl ?_
      refine me_getf (v := .ref (P.2.1 22)) rfl rfl rfl ?_
      refine me_go (pc1 := 173) (lv1 := [(0, .ref P.1), (1, .int x1), (2, .int x2)]) (st1 := [.int x1, .ref (P.2.1 22), .ref P.1]) 1 rfl ?_
      refine me_iald rfl (g := 22) rfl rfl h.1 ?_
      replace h := h.2
      refine me_go (pc1 := 175) (lv1 := [(0, .ref P.1), (1, .int x1), (2, .int x2)]) (st1 := [.ref P.1, .int (μ.2.1 22 x1.toNatClampNeg), .ref P.1]) 1 rfl ?_
      refine me_getf (v := .ref (P.2.1 22)) rfl rfl rfl ?_
      refine me_go (pc1 := 179) (lv1 := [(0, .ref P.1), (1, .int x1), (2, .int x2)]) (st1 := [.int x2, .ref (P.2.1 22), .int (μ.2.1 22 x1.toNatClampNeg), .ref P.1]) 1 rfl ?_
      refine me_iald rfl (g := 22) rfl rfl h.1 ?_
      replace h := h.2
      refine me_go (pc1 := 181) (lv1 := [(0, .ref P.1), (1, .int x1), (2, .int x2)]) (st1 := [.ref P.1, .int (μ.2.1 22 x2.toNatClampNeg), .int (μ.2.1 22 x1.toNatClampNeg), .ref P.1]) 1 rfl ?_
      refine me_getf (v := .ref (P.2.1 22)) rfl rfl rfl ?_
      refine me_go (pc1 := 185) (lv1 := [(0, .ref P.1), (1, .int x1), (2, .int x2)]) (st1 := [.ref P.1, .ref (P.2.1 22), .int (μ.2.1 22 x2.toNatClampNeg), .int (μ.2.1 22 x1.toNatClampNeg), .ref P.1]) 1 rfl ?_
      refine me_getf (v := .ref (P.2.1 22)) rfl rfl rfl ?_
      refine me_go (pc1 := 189) (lv1 := [(0, .ref P.1), (1, .int x1), (2, .int x2)]) (st1 := [.int x1, .ref (P.2.1 22), .ref (P.2.1 22), .int (μ.2.1 22 x2.toNatClampNeg), .int (μ.2.1 22 x1.toNatClampNeg), .ref P.1]) 1 rfl ?_
      refine me_iald rfl (g := 22) rfl rfl h.1 ?_
      replace h := h.2
      refine me_iald rfl (g := 22) rfl rfl h.1 ?_
      replace h := h.2
      refine me_go (pc1 := 192) (lv1 := [(0, .ref P.1), (1, .int x1), (2, .int x2)]) (st1 := [.ref P.1, .int (μ.2.1 22 ((μ.2.1 22 x1.toNatClampNeg)).toNatClampNeg), .int (μ.2.1 22 x2.toNatClampNeg), .int (μ.2.1 22 x1.toNatClampNeg), .ref P.1]) 1 rfl ?_
      refine me_getf (v := .ref (P.2.1 22)) rfl rfl rfl ?_
      refine me_go (pc1 := 196) (lv1 := [(0, .ref P.1), (1, .int x1), (2, .int x2)]) (st1 := [.ref P.1, .ref (P.2.1 22), .int (μ.2.1 22 ((μ.2.1 22 x1.toNatClampNeg)).toNatClampNeg), .int (μ.2.1 22 x2.toNatClampNeg), .int (μ.2.1 22 x1.toNatClampNeg), .ref P.1]) 1 rfl ?_
      refine me_getf (v := .ref (P.2.1 22)) rfl rfl rfl ?_
      refine me_go (pc1 := 200) (lv1 := [(0, .ref P.1), (1, .int x1), (2, .int x2)]) (st1 := [.int x2, .ref (P.2.1 22), .ref (P.2.1 22), .int (μ.2.1 22 ((μ.2.1 22 x1.toNatClampNeg)).toNatClampNeg), .int (μ.2.1 22 x2.toNatClampNeg), .int (μ.2.1 22 x1.toNatClampNeg), .ref P.1]) 1 rfl ?_
      refine me_iald rfl (g := 22) rfl rfl h.1 ?_
      replace h := h.2
      refine me_iald rfl (g := 22) rfl rfl h.1 ?_
      replace h := h.2
      refine me_callN rfl rfl rfl (h.mono (fun r4 μ4 h => ?_) (fun _ h => h))
      refine me_ifc rfl rfl (fun c => ?_) (fun c => ?_)
      · replace h := h.1 (ci_eq c)
        exact h
      · replace h := h.2 (cn_eq c)
        refine me_go (pc1 := 210) (lv1 := [(0, .ref P.1), (1, .int x1), (2, .int x2)]) (st1 := [.ref P.1, .ref P.1]) 2 rfl ?_
        refine me_getf (v := .ref (P.2.1 22)) rfl rfl rfl ?_
        refine me_go (pc1 := 214) (lv1 := [(0, .ref P.1), (1, .int x1), (2, .int x2)]) (st1 := [.int x1, .ref (P.2.1 22), .ref P.1]) 1 rfl ?_
        refine me_iald rfl (g := 22) rfl rfl h.1 ?_
        replace h := h.2
        refine me_go (pc1 := 216) (lv1 := [(0, .ref P.1), (1, .int x1), (2, .int x2)]) (st1 := [.ref P.1, .int (μ4.2.1 22 x1.toNatClampNeg), .ref P.1]) 1 rfl ?_
        refine me_getf (v := .ref (P.2.1 22)) rfl rfl rfl ?_
        refine me_go (pc1 := 220) (lv1 := [(0, .ref P.1), (1, .int x1), (2, .int x2)]) (st1 := [.int x2, .ref (P.2.1 22), .int (μ4.2.1 22 x1.toNatClampNeg), .ref P.1]) 1 rfl ?_
        refine me_iald rfl (g := 22) rfl rfl h.1 ?_
        replace h := h.2
        refine me_callN rfl rfl rfl (h.mono (fun r5 μ5 h => ?_) (fun _ h => h))
        refine me_ifc rfl rfl (fun c => ?_) (fun c => ?_)
        · replace h := h.1 (ci_eq c)
          exact h
        · replace h := h.2 (cn_eq c)
          refine me_go (pc1 := 232) (lv1 := [(0, .ref P.1), (1, .int x1), (2, .int x2)]) (st1 := [.int 1]) 2 rfl ?_
          exact me_retB rfl rfl (by decide) h
  have q6_5 : ((μ.2.1 20 x1.toNatClampNeg) = 32) → ME X W true d 373 233 [(0, .ref P.1), (1, .int x1), (2, .int x2)] [] P μ R T := fun c => by
      replace h := hD.2.2.2.2.2.1 c
      refine me_go (pc1 := 236) (lv1 := [(0, .ref P.1), (1, .int x1), (2, .int x2)]) (st1 := [.int x1, .ref P.1, .ref P.1]) 3 rfl ?_
      refine me_callN rfl rfl rfl (h.mono (fun r6 μ6 h => ?_) (fun _ h => h))
      refine me_go (pc1 := 241) (lv1 := [(0, .ref P.1), (1, .int x1), (2, .int x2)]) (st1 := [.int x2, .ref P.1, .int r6, .ref P.1]) 2 rfl ?_
      refine me_callN rfl rfl rfl (h.mono (fun r7 μ7 h => ?_) (fun _ h => h))
      refine me_callN rfl rfl rfl (h.mono (fun r8 μ8 h => ?_) (fun _ h => h))
      refine me_go (pc1 := 249) (lv1 := [(0, .ref P.1), (1, .int x1), (2, .int x2)]) (st1 := [.ref P.1, .ref P.1]) 2 rfl ?_
      refine me_getf (v := .ref (P.2.1 23)) rfl rfl rfl ?_
      refine me_go (pc1 := 253) (lv1 := [(0, .ref P.1), (1, .int x1), (2, .int x2)]) (st1 := [.int x1, .ref (P.2.1 23), .ref P.1]) 1 rfl ?_
      refine me_iald rfl (g := 23) rfl rfl h.1 ?_
      replace h := h.2
      refine me_go (pc1 := 255) (lv1 := [(0, .ref P.1), (1, .int x1), (2, .int x2)]) (st1 := [.ref P.1, .int (μ8.2.1 23 x1.toNatClampNeg), .ref P.1]) 1 rfl ?_
      refine me_getf (v := .ref (P.2.1 23)) rfl rfl rfl ?_
      refine me_go (pc1 := 259) (lv1 := [(0, .ref P.1), (1, .int x1), (2, .int x2)]) (st1 := [.int x2, .ref (P.2.1 23), .int (μ8.2.1 23 x1.toNatClampNeg), .ref P.1]) 1 rfl ?_
      refine me_iald rfl (g := 23) rfl rfl h.1 ?_
      replace h := h.2
      refine me_callN rfl rfl rfl (h.mono (fun r9 μ9 h => ?_) (fun _ h => h))
      refine me_ifc rfl rfl (fun c => ?_) (fun c => ?_)
      · replace h := h.1 (ci_eq c)
        exact h
      · replace h := h.2 (cn_eq c)
        refine me_go (pc1 := 268) (lv1 := [(0, .ref P.1), (1, .int x1), (2, .int x2)]) (st1 := [.ref P.1, .ref P.1]) 2 rfl ?_
        refine me_getf (v := .ref (P.2.1 24)) rfl rfl rfl ?_
        refine me_go (pc1 := 272) (lv1 := [(0, .ref P.1), (1, .int x1), (2, .int x2)]) (st1 := [.int x1, .ref (P.2.1 24), .ref P.1]) 1 rfl ?_
        refine me_iald rfl (g := 24) rfl rfl h.1 ?_
        replace h := h.2
        refine me_go (pc1 := 274) (lv1 := [(0, .ref P.1), (1, .int x1), (2, .int x2)]) (st1 := [.ref P.1, .int (μ9.2.1 24 x1.toNatClampNeg), .ref P.1]) 1 rfl ?_
        refine me_getf (v := .ref (P.2.1 24)) rfl rfl rfl ?_
        refine me_go (pc1 := 278) (lv1 := [(0, .ref P.1), (1, .int x1), (2, .int x2)]) (st1 := [.int x2, .ref (P.2.1 24), .int (μ9.2.1 24 x1.toNatClampNeg), .ref P.1]) 1 rfl ?_
        refine me_iald rfl (g := 24) rfl rfl h.1 ?_
        replace h := h.2
        refine me_callN rfl rfl rfl (h.mono (fun r10 μ10 h => ?_) (fun _ h => h))
        refine me_ifc rfl rfl (fun c => ?_) (fun c => ?_)
        · replace h := h.1 (ci_eq c)
          exact h
        · replace h := h.2 (cn_eq c)
          refine me_go (pc1 := 287) (lv1 := [(0, .ref P.1), (1, .int x1), (2, .int x2)]) (st1 := [.ref P.1, .ref P.1]) 2 rfl ?_
          refine me_getf (v := .ref (P.2.1 25)) rfl rfl rfl ?_
          refine me_go (pc1 := 291) (lv1 := [(0, .ref P.1), (1, .int x1), (2, .int x2)]) (st1 := [.int x1, .ref (P.2.1 25), .ref P.1]) 1 rfl ?_
          refine me_iald rfl (g := 25) rfl rfl h.1 ?_
          replace h := h.2
          refine me_go (pc1 := 293) (lv1 := [(0, .ref P.1), (1, .int x1), (2, .int x2)]) (st1 := [.ref P.1, .int (μ10.2.1 25 x1.toNatClampNeg), .ref P.1]) 1 rfl ?_
          refine me_getf (v := .ref (P.2.1 25)) rfl rfl rfl ?_
          refine me_go (pc1 := 297) (lv1 := [(0, .ref P.1), (1, .int x1), (2, .int x2)]) (st1 := [.int x2, .ref (P.2.1 25), .int (μ10.2.1 25 x1.toNatClampNeg), .ref P.1]) 1 rfl ?_
          refine me_iald rfl (g := 25) rfl rfl h.1 ?_
          replace h := h.2
          refine me_callN rfl rfl rfl (h.mono (fun r11 μ11 h => ?_) (fun _ h => h))
          refine me_ifc rfl rfl (fun c => ?_) (fun c => ?_)
          · replace h := h.1 (ci_eq c)
            exact h
          · replace h := h.2 (cn_eq c)
            refine me_go (pc1 := 306) (lv1 := [(0, .ref P.1), (1, .int x1), (2, .int x2)]) (st1 := [.ref P.1, .ref P.1]) 2 rfl ?_
            refine me_getf (v := .ref (P.2.1 25)) rfl rfl rfl ?_
            refine me_go (pc1 := 310) (lv1 := [(0, .ref P.1), (1, .int x1), (2, .int x2)]) (st1 := [.int x2, .ref (P.2.1 25), .ref P.1]) 1 rfl ?_
            refine me_iald rfl (g := 25) rfl rfl h.1 ?_
            replace h := h.2
            refine me_go (pc1 := 312) (lv1 := [(0, .ref P.1), (1, .int x1), (2, .int x2)]) (st1 := [.ref P.1, .int (μ11.2.1 25 x2.toNatClampNeg), .ref P.1]) 1 rfl ?_
            refine me_getf (v := .ref (P.2.1 25)) rfl rfl rfl ?_
            refine me_go (pc1 := 316) (lv1 := [(0, .ref P.1), (1, .int x1), (2, .int x2)]) (st1 := [.int x1, .ref (P.2.1 25), .int (μ11.2.1 25 x2.toNatClampNeg), .ref P.1]) 1 rfl ?_
            refine me_iald rfl (g := 25) rfl rfl h.1 ?_
            replace h := h.2
            refine me_callN rfl rfl rfl (h.mono (fun r12 μ12 h => ?_) (fun _ h => h))
            refine me_ifc rfl rfl (fun c => ?_) (fun c => ?_)
            · replace h := h.1 (ci_eq c)
              exact h
            · replace h := h.2 (cn_eq c)
              refine me_go (pc1 := 328) (lv1 := [(0, .ref P.1), (1, .int x1), (2, .int x2)]) (st1 := [.int 1]) 2 rfl ?_
              exact me_retB rfl rfl (by decide) h
  by_cases c : (μ.2.1 20 x1.toNatClampNeg) = 27
  · exact me_sw rfl c (t := 44) rfl (q6_0 (c))
  rename ¬ (μ.2.1 20 x1.toNatClampNeg) = 27 => n0
  by_cases c : (μ.2.1 20 x1.toNatClampNeg) = 28
  · exact me_sw rfl c (t := 80) rfl (q6_1 (c))
  rename ¬ (μ.2.1 20 x1.toNatClampNeg) = 28 => n1
  by_cases c : (μ.2.1 20 x1.toNatClampNeg) = 29
  · exact me_sw rfl c (t := 132) rfl (q6_2 (c))
  rename ¬ (μ.2.1 20 x1.toNatClampNeg) = 29 => n2
  by_cases c : (μ.2.1 20 x1.toNatClampNeg) = 30
  · exact me_sw rfl c (t := 149) rfl (q6_3 (c))
  rename ¬ (μ.2.1 20 x1.toNatClampNeg) = 30 => n3
  by_cases c : (μ.2.1 20 x1.toNatClampNeg) = 31
  · exact me_sw rfl c (t := 167) rfl (q6_4 (c))
  rename ¬ (μ.2.1 20 x1.toNatClampNeg) = 31 => n4
  by_cases c : (μ.2.1 20 x1.toNatClampNeg) = 32
  · exact me_sw rfl c (t := 233) rfl (q6_5 (c))
  rename ¬ (μ.2.1 20 x1.toNatClampNeg) = 32 => n5
  have hk : ∀ v ∈ [(27 : Int32), (28 : Int32), (29 : Int32), (30 : Int32), (31 : Int32), (32 : Int32)], ¬ (μ.2.1 20 x1.toNatClampNeg) = v := fun v hv => by
    simp only [List.mem_cons, List.not_mem_nil, or_false] at hv
    rcases hv with rfl | rfl | rfl | rfl | rfl | rfl <;> assumption
  refine me_tsD (t := 329) rfl _ rfl rfl hk ?_
  replace h := hD.2.2.2.2.2.2 hk
  refine me_go (pc1 := 330) (lv1 := [(0, .ref P.1), (1, .int x1), (2, .int x2)]) (st1 := [.int 1]) 1 rfl ?_
  exact me_retB rfl rfl (by decide) h
theorem v_partsPair_78 {X : ev_X} {W : Nat → Prop} {d : Nat} {P : MP} {μ : MS} {R : Int32 → MS → Prop} {T : MS → Prop} (x1 : Int32) (x2 : Int32) (h : R 0 μ) : ME X W true d 373 78 [(0, .ref P.1), (1, .int x1), (2, .int x2)] [] P μ R T := by
  refine me_go (pc1 := 79) (lv1 := [(0, .ref P.1), (1, .int x1), (2, .int x2)]) (st1 := [.int 0]) 1 rfl ?_
  exact me_retB rfl rfl (by decide) h
theorem v_partsPair_130 {X : ev_X} {W : Nat → Prop} {d : Nat} {P : MP} {μ : MS} {R : Int32 → MS → Prop} {T : MS → Prop} (x1 : Int32) (x2 : Int32) (h : R 0 μ) : ME X W true d 373 130 [(0, .ref P.1), (1, .int x1), (2, .int x2)] [] P μ R T := by
  refine me_go (pc1 := 131) (lv1 := [(0, .ref P.1), (1, .int x1), (2, .int x2)]) (st1 := [.int 0]) 1 rfl ?_
  exact me_retB rfl rfl (by decide) h
theorem v_partsPair_231 {X : ev_X} {W : Nat → Prop} {d : Nat} {P : MP} {μ : MS} {R : Int32 → MS → Prop} {T : MS → Prop} (x1 : Int32) (x2 : Int32) (h : R 0 μ) : ME X W true d 373 231 [(0, .ref P.1), (1, .int x1), (2, .int x2)] [] P μ R T := by
  refine me_go (pc1 := 232) (lv1 := [(0, .ref P.1), (1, .int x1), (2, .int x2)]) (st1 := [.int 0]) 1 rfl ?_
  exact me_retB rfl rfl (by decide) h
theorem v_partsPair_327 {X : ev_X} {W : Nat → Prop} {d : Nat} {P : MP} {μ : MS} {R : Int32 → MS → Prop} {T : MS → Prop} (x1 : Int32) (x2 : Int32) (h : R 0 μ) : ME X W true d 373 327 [(0, .ref P.1), (1, .int x1), (2, .int x2)] [] P μ R T := by
  refine me_go (pc1 := 328) (lv1 := [(0, .ref P.1), (1, .int x1), (2, .int x2)]) (st1 := [.int 0]) 1 rfl ?_
  exact me_retB rfl rfl (by decide) h
theorem v_superOf_0 {X : ev_X} {W : Nat → Prop} {d : Nat} {P : MP} {μ : MS} {R : Int32 → MS → Prop} {T : MS → Prop} (x1 : Int32) (h : (MI x1 (μ.2.2 22) ∧ (((0 : Int) ≤ (μ.2.1 22 x1.toNatClampNeg).toInt → (MI x1 (μ.2.2 22) ∧ R (μ.2.1 22 x1.toNatClampNeg) μ)) ∧ ((μ.2.1 22 x1.toNatClampNeg).toInt < (0 : Int) → R (μ.1 65) μ)))) : ME X W true d 374 0 [(0, .ref P.1), (1, .int x1)] [] P μ R T := by
  refine me_go (pc1 := 1) (lv1 := [(0, .ref P.1), (1, .int x1)]) (st1 := [.ref P.1]) 1 rfl ?_
  refine me_getf (v := .ref (P.2.1 22)) rfl rfl rfl ?_
  refine me_go (pc1 := 5) (lv1 := [(0, .ref P.1), (1, .int x1)]) (st1 := [.int x1, .ref (P.2.1 22)]) 1 rfl ?_
  refine me_iald rfl (g := 22) rfl rfl h.1 ?_
  replace h := h.2
  refine me_ifc rfl rfl (fun c => ?_) (fun c => ?_)
  · replace h := h.1 (ci_ge c)
    refine me_go (pc1 := 17) (lv1 := [(0, .ref P.1), (1, .int x1)]) (st1 := [.ref P.1]) 1 rfl ?_
    refine me_getf (v := .ref (P.2.1 22)) rfl rfl rfl ?_
    refine me_go (pc1 := 21) (lv1 := [(0, .ref P.1), (1, .int x1)]) (st1 := [.int x1, .ref (P.2.1 22)]) 1 rfl ?_
    refine me_iald rfl (g := 22) rfl rfl h.1 ?_
    replace h := h.2
    exact me_ret rfl rfl rfl h
  · replace h := h.2 (cn_ge c)
    refine me_go (pc1 := 10) (lv1 := [(0, .ref P.1), (1, .int x1)]) (st1 := [.ref P.1]) 1 rfl ?_
    refine me_getf (v := .int (μ.1 65)) rfl rfl rfl ?_
    refine me_go (pc1 := 22) (lv1 := [(0, .ref P.1), (1, .int x1)]) (st1 := [.int (μ.1 65)]) 1 rfl ?_
    exact me_ret rfl rfl rfl h
theorem v_fieldsPair_0 {X : ev_X} {W : Nat → Prop} {d : Nat} {P : MP} {μ : MS} {R : Int32 → MS → Prop} {T : MS → Prop} (x1 : Int32) (x2 : Int32) (h : ME X W true d 375 5 [(0, .ref P.1), (1, .int x1), (2, .int x2), (3, .int x1), (4, .int x2)] [] P μ R T) : ME X W true d 375 0 [(0, .ref P.1), (1, .int x1), (2, .int x2)] [] P μ R T := by
  refine me_go (pc1 := 5) (lv1 := [(4, .int x2), (3, .int x1), (0, .ref P.1), (1, .int x1), (2, .int x2)]) (st1 := []) 4 rfl ?_
  refine me_lv [(0, .ref P.1), (1, .int x1), (2, .int x2), (3, .int x1), (4, .int x2)] (fl_c rfl (fl_c rfl (fl_c rfl (fl_c rfl (fl_c rfl fl_0))))) ?_
  exact h
theorem v_fieldsPair_5 {X : ev_X} {W : Nat → Prop} {d : Nat} {P : MP} {μ : MS} {R : Int32 → MS → Prop} {T : MS → Prop} (x1 : Int32) (x2 : Int32) (x3 : Int32) (x4 : Int32) (h : ((x3.toInt < (0 : Int) → ((¬ x3 = x4 → R 0 μ) ∧ (x3 = x4 → R 1 μ))) ∧ ((0 : Int) ≤ x3.toInt → ((x4.toInt < (0 : Int) → ((¬ x3 = x4 → R 0 μ) ∧ (x3 = x4 → R 1 μ))) ∧ ((0 : Int) ≤ x4.toInt → (MI x3 (μ.2.2 22) ∧ (MI x4 (μ.2.2 22) ∧ (((μ.2.1 22 x3.toNatClampNeg) = (μ.2.1 22 x4.toNatClampNeg) → (MI x3 (μ.2.2 23) ∧ (MI x4 (μ.2.2 23) ∧ MC X W true d 370 [.ref P.1, .int (μ.2.1 23 x3.toNatClampNeg), .int (μ.2.1 23 x4.toNatClampNeg)] P μ (fun r1 μ1 => (MI x3 (μ1.2.2 27) ∧ (MI x4 (μ1.2.2 27) ∧ ME X W true d 375 5 [(0, .ref P.1), (1, .int x1), (2, .int x2), (3, .int (μ1.2.1 27 x3.toNatClampNeg)), (4, .int (μ1.2.1 27 x4.toNatClampNeg))] [] P μ1 R T))) (fun _ => False)))) ∧ (¬ (μ.2.1 22 x3.toNatClampNeg) = (μ.2.1 22 x4.toNatClampNeg) → R 0 μ))))))))) : ME X W true d 375 5 [(0, .ref P.1), (1, .int x1), (2, .int x2), (3, .int x3), (4, .int x4)] [] P μ R T := by
  refine me_go (pc1 := 6) (lv1 := [(0, .ref P.1), (1, .int x1), (2, .int x2), (3, .int x3), (4, .int x4)]) (st1 := [.int x3]) 1 rfl ?_
  refine me_ifc rfl rfl (fun c => ?_) (fun c => ?_)
  · replace h := h.1 (ci_lt c)
    refine me_go (pc1 := 71) (lv1 := [(0, .ref P.1), (1, .int x1), (2, .int x2), (3, .int x3), (4, .int x4)]) (st1 := [.int x4, .int x3]) 2 rfl ?_
    refine me_icmp rfl rfl (fun c => ?_) (fun c => ?_)
    · replace h := h.1 (ci_ne c)
      refine me_go (pc1 := 79) (lv1 := [(0, .ref P.1), (1, .int x1), (2, .int x2), (3, .int x3), (4, .int x4)]) (st1 := [.int 0]) 1 rfl ?_
      exact me_retB rfl rfl (by decide) h
    · replace h := h.2 (cn_ne c)
      refine me_go (pc1 := 79) (lv1 := [(0, .ref P.1), (1, .int x1), (2, .int x2), (3, .int x3), (4, .int x4)]) (st1 := [.int 1]) 2 rfl ?_
      exact me_retB rfl rfl (by decide) h
  · replace h := h.2 (cn_lt c)
    refine me_go (pc1 := 11) (lv1 := [(0, .ref P.1), (1, .int x1), (2, .int x2), (3, .int x3), (4, .int x4)]) (st1 := [.int x4]) 1 rfl ?_
    refine me_ifc rfl rfl (fun c => ?_) (fun c => ?_)
    · replace h := h.1 (ci_lt c)
      refine me_go (pc1 := 71) (lv1 := [(0, .ref P.1), (1, .int x1), (2, .int x2), (3, .int x3), (4, .int x4)]) (st1 := [.int x4, .int x3]) 2 rfl ?_
      refine me_icmp rfl rfl (fun c => ?_) (fun c => ?_)
      · replace h := h.1 (ci_ne c)
        refine me_go (pc1 := 79) (lv1 := [(0, .ref P.1), (1, .int x1), (2, .int x2), (3, .int x3), (4, .int x4)]) (st1 := [.int 0]) 1 rfl ?_
        exact me_retB rfl rfl (by decide) h
      · replace h := h.2 (cn_ne c)
        refine me_go (pc1 := 79) (lv1 := [(0, .ref P.1), (1, .int x1), (2, .int x2), (3, .int x3), (4, .int x4)]) (st1 := [.int 1]) 2 rfl ?_
        exact me_retB rfl rfl (by decide) h
    · replace h := h.2 (cn_lt c)
      refine me_go (pc1 := 15) (lv1 := [(0, .ref P.1), (1, .int x1), (2, .int x2), (3, .int x3), (4, .int x4)]) (st1 := [.ref P.1]) 1 rfl ?_
      refine me_getf (v := .ref (P.2.1 22)) rfl rfl rfl ?_
      refine me_go (pc1 := 19) (lv1 := [(0, .ref P.1), (1, .int x1), (2, .int x2), (3, .int x3), (4, .int x4)]) (st1 := [.int x3, .ref (P.2.1 22)]) 1 rfl ?_
      refine me_iald rfl (g := 22) rfl rfl h.1 ?_
      replace h := h.2
      refine me_go (pc1 := 21) (lv1 := [(0, .ref P.1), (1, .int x1), (2, .int x2), (3, .int x3), (4, .int x4)]) (st1 := [.ref P.1, .int (μ.2.1 22 x3.toNatClampNeg)]) 1 rfl ?_
      refine me_getf (v := .ref (P.2.1 22)) rfl rfl rfl ?_
      refine me_go (pc1 := 26) (lv1 := [(0, .ref P.1), (1, .int x1), (2, .int x2), (3, .int x3), (4, .int x4)]) (st1 := [.int x4, .ref (P.2.1 22), .int (μ.2.1 22 x3.toNatClampNeg)]) 1 rfl ?_
      refine me_iald rfl (g := 22) rfl rfl h.1 ?_
      replace h := h.2
      refine me_icmp rfl rfl (fun c => ?_) (fun c => ?_)
      · replace h := h.1 (ci_eq c)
        refine me_go (pc1 := 34) (lv1 := [(0, .ref P.1), (1, .int x1), (2, .int x2), (3, .int x3), (4, .int x4)]) (st1 := [.ref P.1, .ref P.1]) 2 rfl ?_
        refine me_getf (v := .ref (P.2.1 23)) rfl rfl rfl ?_
        refine me_go (pc1 := 38) (lv1 := [(0, .ref P.1), (1, .int x1), (2, .int x2), (3, .int x3), (4, .int x4)]) (st1 := [.int x3, .ref (P.2.1 23), .ref P.1]) 1 rfl ?_
        refine me_iald rfl (g := 23) rfl rfl h.1 ?_
        replace h := h.2
        refine me_go (pc1 := 40) (lv1 := [(0, .ref P.1), (1, .int x1), (2, .int x2), (3, .int x3), (4, .int x4)]) (st1 := [.ref P.1, .int (μ.2.1 23 x3.toNatClampNeg), .ref P.1]) 1 rfl ?_
        refine me_getf (v := .ref (P.2.1 23)) rfl rfl rfl ?_
        refine me_go (pc1 := 45) (lv1 := [(0, .ref P.1), (1, .int x1), (2, .int x2), (3, .int x3), (4, .int x4)]) (st1 := [.int x4, .ref (P.2.1 23), .int (μ.2.1 23 x3.toNatClampNeg), .ref P.1]) 1 rfl ?_
        refine me_iald rfl (g := 23) rfl rfl h.1 ?_
        replace h := h.2
        refine me_callN rfl rfl rfl (h.mono (fun r1 μ1 h => ?_) (fun _ h => h))
        refine me_go (pc1 := 50) (lv1 := [(0, .ref P.1), (1, .int x1), (2, .int x2), (3, .int x3), (4, .int x4)]) (st1 := [.ref P.1]) 1 rfl ?_
        refine me_getf (v := .ref (P.2.1 27)) rfl rfl rfl ?_
        refine me_go (pc1 := 54) (lv1 := [(0, .ref P.1), (1, .int x1), (2, .int x2), (3, .int x3), (4, .int x4)]) (st1 := [.int x3, .ref (P.2.1 27)]) 1 rfl ?_
        refine me_iald rfl (g := 27) rfl rfl h.1 ?_
        replace h := h.2
        refine me_go (pc1 := 57) (lv1 := [(3, .int (μ1.2.1 27 x3.toNatClampNeg)), (0, .ref P.1), (1, .int x1), (2, .int x2), (4, .int x4)]) (st1 := [.ref P.1]) 2 rfl ?_
        refine me_getf (v := .ref (P.2.1 27)) rfl rfl rfl ?_
        refine me_go (pc1 := 62) (lv1 := [(3, .int (μ1.2.1 27 x3.toNatClampNeg)), (0, .ref P.1), (1, .int x1), (2, .int x2), (4, .int x4)]) (st1 := [.int x4, .ref (P.2.1 27)]) 1 rfl ?_
        refine me_iald rfl (g := 27) rfl rfl h.1 ?_
        replace h := h.2
        refine me_go (pc1 := 5) (lv1 := [(4, .int (μ1.2.1 27 x4.toNatClampNeg)), (3, .int (μ1.2.1 27 x3.toNatClampNeg)), (0, .ref P.1), (1, .int x1), (2, .int x2)]) (st1 := []) 2 rfl ?_
        refine me_lv [(0, .ref P.1), (1, .int x1), (2, .int x2), (3, .int (μ1.2.1 27 x3.toNatClampNeg)), (4, .int (μ1.2.1 27 x4.toNatClampNeg))] (fl_c rfl (fl_c rfl (fl_c rfl (fl_c rfl (fl_c rfl fl_0))))) ?_
        exact h
      · replace h := h.2 (cn_eq c)
        refine me_go (pc1 := 31) (lv1 := [(0, .ref P.1), (1, .int x1), (2, .int x2), (3, .int x3), (4, .int x4)]) (st1 := [.int 0]) 1 rfl ?_
        exact me_retB rfl rfl (by decide) h
theorem v_numberOf_0 {X : ev_X} {W : Nat → Prop} {d : Nat} {P : MP} {μ : MS} {R : Int32 → MS → Prop} {T : MS → Prop} (x1 : Int32) (h : (((0 : Int) ≤ x1.toInt → (MI x1 (μ.2.2 28) ∧ (MI (μ.2.1 28 x1.toNatClampNeg) (μ.2.2 47) ∧ R (μ.2.1 47 ((μ.2.1 28 x1.toNatClampNeg)).toNatClampNeg) μ))) ∧ (x1.toInt < (0 : Int) → R 0 μ))) : ME X W true d 376 0 [(0, .ref P.1), (1, .int x1)] [] P μ R T := by
  refine me_go (pc1 := 1) (lv1 := [(0, .ref P.1), (1, .int x1)]) (st1 := [.int x1]) 1 rfl ?_
  refine me_ifc rfl rfl (fun c => ?_) (fun c => ?_)
  · replace h := h.1 (ci_ge c)
    refine me_go (pc1 := 9) (lv1 := [(0, .ref P.1), (1, .int x1)]) (st1 := [.ref P.1]) 1 rfl ?_
    refine me_getf (v := .ref (P.2.1 47)) rfl rfl rfl ?_
    refine me_go (pc1 := 13) (lv1 := [(0, .ref P.1), (1, .int x1)]) (st1 := [.ref P.1, .ref (P.2.1 47)]) 1 rfl ?_
    refine me_getf (v := .ref (P.2.1 28)) rfl rfl rfl ?_
    refine me_go (pc1 := 17) (lv1 := [(0, .ref P.1), (1, .int x1)]) (st1 := [.int x1, .ref (P.2.1 28), .ref (P.2.1 47)]) 1 rfl ?_
    refine me_iald rfl (g := 28) rfl rfl h.1 ?_
    replace h := h.2
    refine me_iald rfl (g := 47) rfl rfl h.1 ?_
    replace h := h.2
    exact me_ret rfl rfl rfl h
  · replace h := h.2 (cn_ge c)
    refine me_go (pc1 := 19) (lv1 := [(0, .ref P.1), (1, .int x1)]) (st1 := [.int 0]) 2 rfl ?_
    exact me_ret rfl rfl rfl h
theorem v_methodsPair_0 {X : ev_X} {W : Nat → Prop} {d : Nat} {P : MP} {μ : MS} {R : Int32 → MS → Prop} {T : MS → Prop} (x1 : Int32) (x2 : Int32) (h : ME X W true d 377 5 [(0, .ref P.1), (1, .int x1), (2, .int x2), (3, .int x1), (4, .int x2)] [] P μ R T) : ME X W true d 377 0 [(0, .ref P.1), (1, .int x1), (2, .int x2)] [] P μ R T := by
  refine me_go (pc1 := 5) (lv1 := [(4, .int x2), (3, .int x1), (0, .ref P.1), (1, .int x1), (2, .int x2)]) (st1 := []) 4 rfl ?_
  refine me_lv [(0, .ref P.1), (1, .int x1), (2, .int x2), (3, .int x1), (4, .int x2)] (fl_c rfl (fl_c rfl (fl_c rfl (fl_c rfl (fl_c rfl fl_0))))) ?_
  exact h
theorem v_methodsPair_5 {X : ev_X} {W : Nat → Prop} {d : Nat} {P : MP} {μ : MS} {R : Int32 → MS → Prop} {T : MS → Prop} (x1 : Int32) (x2 : Int32) (x3 : Int32) (x4 : Int32) (h : ((x3.toInt < (0 : Int) → ((¬ x3 = x4 → R 0 μ) ∧ (x3 = x4 → R 1 μ))) ∧ ((0 : Int) ≤ x3.toInt → ((x4.toInt < (0 : Int) → ((¬ x3 = x4 → R 0 μ) ∧ (x3 = x4 → R 1 μ))) ∧ ((0 : Int) ≤ x4.toInt → (MI x3 (μ.2.2 22) ∧ (MI x4 (μ.2.2 22) ∧ ((¬ (μ.2.1 22 x3.toNatClampNeg) = (μ.2.1 22 x4.toNatClampNeg) → R 0 μ) ∧ ((μ.2.1 22 x3.toNatClampNeg) = (μ.2.1 22 x4.toNatClampNeg) → (MI x3 (μ.2.2 24) ∧ MC X W true d 376 [.ref P.1, .int (μ.2.1 24 x3.toNatClampNeg)] P μ (fun r1 μ1 => (MI x4 (μ1.2.2 24) ∧ MC X W true d 376 [.ref P.1, .int (μ1.2.1 24 x4.toNatClampNeg)] P μ1 (fun r2 μ2 => ((r1 = r2 → (MI x3 (μ2.2.2 23) ∧ (MI x4 (μ2.2.2 23) ∧ (MI x3 (μ2.2.2 23) ∧ (MI (μ2.2.1 23 x3.toNatClampNeg) (μ2.2.2 22) ∧ (MI x4 (μ2.2.2 23) ∧ (MI (μ2.2.1 23 x4.toNatClampNeg) (μ2.2.2 22) ∧ MC X W true d 379 [.ref P.1, .int (μ2.2.1 23 x3.toNatClampNeg), .int (μ2.2.1 23 x4.toNatClampNeg), .int (μ2.2.1 22 ((μ2.2.1 23 x3.toNatClampNeg)).toNatClampNeg), .int (μ2.2.1 22 ((μ2.2.1 23 x4.toNatClampNeg)).toNatClampNeg)] P μ2 (fun r3 μ3 => ((r3 = 0 → R 0 μ3) ∧ (¬ r3 = 0 → (MI x3 (μ3.2.2 23) ∧ (MI x4 (μ3.2.2 23) ∧ MC X W true d 382 [.ref P.1, .int (μ3.2.1 23 x3.toNatClampNeg), .int (μ3.2.1 23 x4.toNatClampNeg)] P μ3 (fun r4 μ4 => ((¬ r4 = 0 → (MI x3 (μ4.2.2 27) ∧ (MI x4 (μ4.2.2 27) ∧ ME X W true d 377 5 [(0, .ref P.1), (1, .int x1), (2, .int x2), (3, .int (μ4.2.1 27 x3.toNatClampNeg)), (4, .int (μ4.2.1 27 x4.toNatClampNeg))] [] P μ4 R T))) ∧ (r4 = 0 → R 0 μ4))) (fun _ => False)))))) (fun _ => False)))))))) ∧ (¬ r1 = r2 → R 0 μ2))) (fun _ => False))) (fun _ => False))))))))))) : ME X W true d 377 5 [(0, .ref P.1), (1, .int x1), (2, .int x2), (3, .int x3), (4, .int x4)] [] P μ R T := by
  refine me_go (pc1 := 6) (lv1 := [(0, .ref P.1), (1, .int x1), (2, .int x2), (3, .int x3), (4, .int x4)]) (st1 := [.int x3]) 1 rfl ?_
  refine me_ifc rfl rfl (fun c => ?_) (fun c => ?_)
  · replace h := h.1 (ci_lt c)
    refine me_go (pc1 := 143) (lv1 := [(0, .ref P.1), (1, .int x1), (2, .int x2), (3, .int x3), (4, .int x4)]) (st1 := [.int x4, .int x3]) 2 rfl ?_
    refine me_icmp rfl rfl (fun c => ?_) (fun c => ?_)
    · replace h := h.1 (ci_ne c)
      refine me_go (pc1 := 151) (lv1 := [(0, .ref P.1), (1, .int x1), (2, .int x2), (3, .int x3), (4, .int x4)]) (st1 := [.int 0]) 1 rfl ?_
      exact me_retB rfl rfl (by decide) h
    · replace h := h.2 (cn_ne c)
      refine me_go (pc1 := 151) (lv1 := [(0, .ref P.1), (1, .int x1), (2, .int x2), (3, .int x3), (4, .int x4)]) (st1 := [.int 1]) 2 rfl ?_
      exact me_retB rfl rfl (by decide) h
  · replace h := h.2 (cn_lt c)
    refine me_go (pc1 := 11) (lv1 := [(0, .ref P.1), (1, .int x1), (2, .int x2), (3, .int x3), (4, .int x4)]) (st1 := [.int x4]) 1 rfl ?_
    refine me_ifc rfl rfl (fun c => ?_) (fun c => ?_)
    · replace h := h.1 (ci_lt c)
      refine me_go (pc1 := 143) (lv1 := [(0, .ref P.1), (1, .int x1), (2, .int x2), (3, .int x3), (4, .int x4)]) (st1 := [.int x4, .int x3]) 2 rfl ?_
      refine me_icmp rfl rfl (fun c => ?_) (fun c => ?_)
      · replace h := h.1 (ci_ne c)
        refine me_go (pc1 := 151) (lv1 := [(0, .ref P.1), (1, .int x1), (2, .int x2), (3, .int x3), (4, .int x4)]) (st1 := [.int 0]) 1 rfl ?_
        exact me_retB rfl rfl (by decide) h
      · replace h := h.2 (cn_ne c)
        refine me_go (pc1 := 151) (lv1 := [(0, .ref P.1), (1, .int x1), (2, .int x2), (3, .int x3), (4, .int x4)]) (st1 := [.int 1]) 2 rfl ?_
        exact me_retB rfl rfl (by decide) h
    · replace h := h.2 (cn_lt c)
      refine me_go (pc1 := 15) (lv1 := [(0, .ref P.1), (1, .int x1), (2, .int x2), (3, .int x3), (4, .int x4)]) (st1 := [.ref P.1]) 1 rfl ?_
      refine me_getf (v := .ref (P.2.1 22)) rfl rfl rfl ?_
      refine me_go (pc1 := 19) (lv1 := [(0, .ref P.1), (1, .int x1), (2, .int x2), (3, .int x3), (4, .int x4)]) (st1 := [.int x3, .ref (P.2.1 22)]) 1 rfl ?_
      refine me_iald rfl (g := 22) rfl rfl h.1 ?_
      replace h := h.2
      refine me_go (pc1 := 21) (lv1 := [(0, .ref P.1), (1, .int x1), (2, .int x2), (3, .int x3), (4, .int x4)]) (st1 := [.ref P.1, .int (μ.2.1 22 x3.toNatClampNeg)]) 1 rfl ?_
      refine me_getf (v := .ref (P.2.1 22)) rfl rfl rfl ?_
      refine me_go (pc1 := 26) (lv1 := [(0, .ref P.1), (1, .int x1), (2, .int x2), (3, .int x3), (4, .int x4)]) (st1 := [.int x4, .ref (P.2.1 22), .int (μ.2.1 22 x3.toNatClampNeg)]) 1 rfl ?_
      refine me_iald rfl (g := 22) rfl rfl h.1 ?_
      replace h := h.2
      refine me_icmp rfl rfl (fun c => ?_) (fun c => ?_)
      · replace h := h.1 (ci_ne c)
        refine me_go (pc1 := 55) (lv1 := [(0, .ref P.1), (1, .int x1), (2, .int x2), (3, .int x3), (4, .int x4)]) (st1 := [.int 0]) 1 rfl ?_
        exact me_retB rfl rfl (by decide) h
      · replace h := h.2 (cn_ne c)
        refine me_go (pc1 := 32) (lv1 := [(0, .ref P.1), (1, .int x1), (2, .int x2), (3, .int x3), (4, .int x4)]) (st1 := [.ref P.1, .ref P.1]) 2 rfl ?_
        refine me_getf (v := .ref (P.2.1 24)) rfl rfl rfl ?_
        refine me_go (pc1 := 36) (lv1 := [(0, .ref P.1), (1, .int x1), (2, .int x2), (3, .int x3), (4, .int x4)]) (st1 := [.int x3, .ref (P.2.1 24), .ref P.1]) 1 rfl ?_
        refine me_iald rfl (g := 24) rfl rfl h.1 ?_
        replace h := h.2
        refine me_callN rfl rfl rfl (h.mono (fun r1 μ1 h => ?_) (fun _ h => h))
        refine me_go (pc1 := 42) (lv1 := [(0, .ref P.1), (1, .int x1), (2, .int x2), (3, .int x3), (4, .int x4)]) (st1 := [.ref P.1, .ref P.1, .int r1]) 2 rfl ?_
        refine me_getf (v := .ref (P.2.1 24)) rfl rfl rfl ?_
        refine me_go (pc1 := 47) (lv1 := [(0, .ref P.1), (1, .int x1), (2, .int x2), (3, .int x3), (4, .int x4)]) (st1 := [.int x4, .ref (P.2.1 24), .ref P.1, .int r1]) 1 rfl ?_
        refine me_iald rfl (g := 24) rfl rfl h.1 ?_
        replace h := h.2
        refine me_callN rfl rfl rfl (h.mono (fun r2 μ2 h => ?_) (fun _ h => h))
        refine me_icmp rfl rfl (fun c => ?_) (fun c => ?_)
        · replace h := h.1 (ci_eq c)
          refine me_go (pc1 := 58) (lv1 := [(0, .ref P.1), (1, .int x1), (2, .int x2), (3, .int x3), (4, .int x4)]) (st1 := [.ref P.1, .ref P.1]) 2 rfl ?_
          refine me_getf (v := .ref (P.2.1 23)) rfl rfl rfl ?_
          refine me_go (pc1 := 62) (lv1 := [(0, .ref P.1), (1, .int x1), (2, .int x2), (3, .int x3), (4, .int x4)]) (st1 := [.int x3, .ref (P.2.1 23), .ref P.1]) 1 rfl ?_
          refine me_iald rfl (g := 23) rfl rfl h.1 ?_
          replace h := h.2
          refine me_go (pc1 := 64) (lv1 := [(0, .ref P.1), (1, .int x1), (2, .int x2), (3, .int x3), (4, .int x4)]) (st1 := [.ref P.1, .int (μ2.2.1 23 x3.toNatClampNeg), .ref P.1]) 1 rfl ?_
          refine me_getf (v := .ref (P.2.1 23)) rfl rfl rfl ?_
          refine me_go (pc1 := 69) (lv1 := [(0, .ref P.1), (1, .int x1), (2, .int x2), (3, .int x3), (4, .int x4)]) (st1 := [.int x4, .ref (P.2.1 23), .int (μ2.2.1 23 x3.toNatClampNeg), .ref P.1]) 1 rfl ?_
          refine me_iald rfl (g := 23) rfl rfl h.1 ?_
          replace h := h.2
          refine me_go (pc1 := 71) (lv1 := [(0, .ref P.1), (1, .int x1), (2, .int x2), (3, .int x3), (4, .int x4)]) (st1 := [.ref P.1, .int (μ2.2.1 23 x4.toNatClampNeg), .int (μ2.2.1 23 x3.toNatClampNeg), .ref P.1]) 1 rfl ?_
          refine me_getf (v := .ref (P.2.1 22)) rfl rfl rfl ?_
          refine me_go (pc1 := 75) (lv1 := [(0, .ref P.1), (1, .int x1), (2, .int x2), (3, .int x3), (4, .int x4)]) (st1 := [.ref P.1, .ref (P.2.1 22), .int (μ2.2.1 23 x4.toNatClampNeg), .int (μ2.2.1 23 x3.toNatClampNeg), .ref P.1]) 1 rfl ?_
          refine me_getf (v := .ref (P.2.1 23)) rfl rfl rfl ?_
          refine me_go (pc1 := 79) (lv1 := [(0, .ref P.1), (1, .int x1), (2, .int x2), (3, .int x3), (4, .int x4)]) (st1 := [.int x3, .ref (P.2.1 23), .ref (P.2.1 22), .int (μ2.2.1 23 x4.toNatClampNeg), .int (μ2.2.1 23 x3.toNatClampNeg), .ref P.1]) 1 rfl ?_
          refine me_iald rfl (g := 23) rfl rfl h.1 ?_
          replace h := h.2
          refine me_iald rfl (g := 22) rfl rfl h.1 ?_
          replace h := h.2
          refine me_go (pc1 := 82) (lv1 := [(0, .ref P.1), (1, .int x1), (2, .int x2), (3, .int x3), (4, .int x4)]) (st1 := [.ref P.1, .int (μ2.2.1 22 ((μ2.2.1 23 x3.toNatClampNeg)).toNatClampNeg), .int (μ2.2.1 23 x4.toNatClampNeg), .int (μ2.2.1 23 x3.toNatClampNeg), .ref P.1]) 1 rfl ?_
          refine me_getf (v := .ref (P.2.1 22)) rfl rfl rfl ?_
          refine me_go (pc1 := 86) (lv1 := [(0, .ref P.1), (1, .int x1), (2, .int x2), (3, .int x3), (4, .int x4)]) (st1 := [.ref P.1, .ref (P.2.1 22), .int (μ2.2.1 22 ((μ2.2.1 23 x3.toNatClampNeg)).toNatClampNeg), .int (μ2.2.1 23 x4.toNatClampNeg), .int (μ2.2.1 23 x3.toNatClampNeg), .ref P.1]) 1 rfl ?_
          refine me_getf (v := .ref (P.2.1 23)) rfl rfl rfl ?_
          refine me_go (pc1 := 91) (lv1 := [(0, .ref P.1), (1, .int x1), (2, .int x2), (3, .int x3), (4, .int x4)]) (st1 := [.int x4, .ref (P.2.1 23), .ref (P.2.1 22), .int (μ2.2.1 22 ((μ2.2.1 23 x3.toNatClampNeg)).toNatClampNeg), .int (μ2.2.1 23 x4.toNatClampNeg), .int (μ2.2.1 23 x3.toNatClampNeg), .ref P.1]) 1 rfl ?_
          refine me_iald rfl (g := 23) rfl rfl h.1 ?_
          replace h := h.2
          refine me_iald rfl (g := 22) rfl rfl h.1 ?_
          replace h := h.2
          refine me_callN rfl rfl rfl (h.mono (fun r3 μ3 h => ?_) (fun _ h => h))
          refine me_ifc rfl rfl (fun c => ?_) (fun c => ?_)
          · replace h := h.1 (ci_eq c)
            refine me_go (pc1 := 120) (lv1 := [(0, .ref P.1), (1, .int x1), (2, .int x2), (3, .int x3), (4, .int x4)]) (st1 := [.int 0]) 1 rfl ?_
            exact me_retB rfl rfl (by decide) h
          · replace h := h.2 (cn_eq c)
            refine me_go (pc1 := 101) (lv1 := [(0, .ref P.1), (1, .int x1), (2, .int x2), (3, .int x3), (4, .int x4)]) (st1 := [.ref P.1, .ref P.1]) 2 rfl ?_
            refine me_getf (v := .ref (P.2.1 23)) rfl rfl rfl ?_
            refine me_go (pc1 := 105) (lv1 := [(0, .ref P.1), (1, .int x1), (2, .int x2), (3, .int x3), (4, .int x4)]) (st1 := [.int x3, .ref (P.2.1 23), .ref P.1]) 1 rfl ?_
            refine me_iald rfl (g := 23) rfl rfl h.1 ?_
            replace h := h.2
            refine me_go (pc1 := 107) (lv1 := [(0, .ref P.1), (1, .int x1), (2, .int x2), (3, .int x3), (4, .int x4)]) (st1 := [.ref P.1, .int (μ3.2.1 23 x3.toNatClampNeg), .ref P.1]) 1 rfl ?_
            refine me_getf (v := .ref (P.2.1 23)) rfl rfl rfl ?_
            refine me_go (pc1 := 112) (lv1 := [(0, .ref P.1), (1, .int x1), (2, .int x2), (3, .int x3), (4, .int x4)]) (st1 := [.int x4, .ref (P.2.1 23), .int (μ3.2.1 23 x3.toNatClampNeg), .ref P.1]) 1 rfl ?_
            refine me_iald rfl (g := 23) rfl rfl h.1 ?_
            replace h := h.2
            refine me_callN rfl rfl rfl (h.mono (fun r4 μ4 h => ?_) (fun _ h => h))
            refine me_ifc rfl rfl (fun c => ?_) (fun c => ?_)
            · replace h := h.1 (ci_ne c)
              refine me_go (pc1 := 122) (lv1 := [(0, .ref P.1), (1, .int x1), (2, .int x2), (3, .int x3), (4, .int x4)]) (st1 := [.ref P.1]) 1 rfl ?_
              refine me_getf (v := .ref (P.2.1 27)) rfl rfl rfl ?_
              refine me_go (pc1 := 126) (lv1 := [(0, .ref P.1), (1, .int x1), (2, .int x2), (3, .int x3), (4, .int x4)]) (st1 := [.int x3, .ref (P.2.1 27)]) 1 rfl ?_
              refine me_iald rfl (g := 27) rfl rfl h.1 ?_
              replace h := h.2
              refine me_go (pc1 := 129) (lv1 := [(3, .int (μ4.2.1 27 x3.toNatClampNeg)), (0, .ref P.1), (1, .int x1), (2, .int x2), (4, .int x4)]) (st1 := [.ref P.1]) 2 rfl ?_
              refine me_getf (v := .ref (P.2.1 27)) rfl rfl rfl ?_
              refine me_go (pc1 := 134) (lv1 := [(3, .int (μ4.2.1 27 x3.toNatClampNeg)), (0, .ref P.1), (1, .int x1), (2, .int x2), (4, .int x4)]) (st1 := [.int x4, .ref (P.2.1 27)]) 1 rfl ?_
              refine me_iald rfl (g := 27) rfl rfl h.1 ?_
              replace h := h.2
              refine me_go (pc1 := 5) (lv1 := [(4, .int (μ4.2.1 27 x4.toNatClampNeg)), (3, .int (μ4.2.1 27 x3.toNatClampNeg)), (0, .ref P.1), (1, .int x1), (2, .int x2)]) (st1 := []) 2 rfl ?_
              refine me_lv [(0, .ref P.1), (1, .int x1), (2, .int x2), (3, .int (μ4.2.1 27 x3.toNatClampNeg)), (4, .int (μ4.2.1 27 x4.toNatClampNeg))] (fl_c rfl (fl_c rfl (fl_c rfl (fl_c rfl (fl_c rfl fl_0))))) ?_
              exact h
            · replace h := h.2 (cn_ne c)
              refine me_go (pc1 := 120) (lv1 := [(0, .ref P.1), (1, .int x1), (2, .int x2), (3, .int x3), (4, .int x4)]) (st1 := [.int 0]) 1 rfl ?_
              exact me_retB rfl rfl (by decide) h
        · replace h := h.2 (cn_eq c)
          refine me_go (pc1 := 55) (lv1 := [(0, .ref P.1), (1, .int x1), (2, .int x2), (3, .int x3), (4, .int x4)]) (st1 := [.int 0]) 1 rfl ?_
          exact me_retB rfl rfl (by decide) h
theorem v_within__0 {X : ev_X} {W : Nat → Prop} {d : Nat} {P : MP} {μ : MS} {R : Int32 → MS → Prop} {T : MS → Prop} (x1 : Int32) (x2 : Int32) (h : ME X W true d 378 2 [(0, .ref P.1), (1, .int x1), (2, .int x2), (3, .int x1)] [] P μ R T) : ME X W true d 378 0 [(0, .ref P.1), (1, .int x1), (2, .int x2)] [] P μ R T := by
  refine me_go (pc1 := 2) (lv1 := [(3, .int x1), (0, .ref P.1), (1, .int x1), (2, .int x2)]) (st1 := []) 2 rfl ?_
  refine me_lv [(0, .ref P.1), (1, .int x1), (2, .int x2), (3, .int x1)] (fl_c rfl (fl_c rfl (fl_c rfl (fl_c rfl fl_0)))) ?_
  exact h
theorem v_within__2 {X : ev_X} {W : Nat → Prop} {d : Nat} {P : MP} {μ : MS} {R : Int32 → MS → Prop} {T : MS → Prop} (x1 : Int32) (x2 : Int32) (x3 : Int32) (h : ((x3.toInt < (0 : Int) → R 1 μ) ∧ ((0 : Int) ≤ x3.toInt → ME X W true d 378 12 [(0, .ref P.1), (1, .int x1), (2, .int x2), (3, .int x3), (4, .int 0), (5, .int x2)] [] P μ R T))) : ME X W true d 378 2 [(0, .ref P.1), (1, .int x1), (2, .int x2), (3, .int x3)] [] P μ R T := by
  refine me_go (pc1 := 3) (lv1 := [(0, .ref P.1), (1, .int x1), (2, .int x2), (3, .int x3)]) (st1 := [.int x3]) 1 rfl ?_
  refine me_ifc rfl rfl (fun c => ?_) (fun c => ?_)
  · replace h := h.1 (ci_lt c)
    refine me_go (pc1 := 99) (lv1 := [(0, .ref P.1), (1, .int x1), (2, .int x2), (3, .int x3)]) (st1 := [.int 1]) 1 rfl ?_
    exact me_retB rfl rfl (by decide) h
  · replace h := h.2 (cn_lt c)
    refine me_go (pc1 := 12) (lv1 := [(5, .int x2), (4, .int 0), (0, .ref P.1), (1, .int x1), (2, .int x2), (3, .int x3)]) (st1 := []) 4 rfl ?_
    refine me_lv [(0, .ref P.1), (1, .int x1), (2, .int x2), (3, .int x3), (4, .int 0), (5, .int x2)] (fl_c rfl (fl_c rfl (fl_c rfl (fl_c rfl (fl_c rfl (fl_c rfl fl_0)))))) ?_
    exact h
theorem v_within__12 {X : ev_X} {W : Nat → Prop} {d : Nat} {P : MP} {μ : MS} {R : Int32 → MS → Prop} {T : MS → Prop} (x1 : Int32) (x2 : Int32) (x3 : Int32) (x4 : Int32) (x5 : Int32) (h : ((x5.toInt < (0 : Int) → ((¬ x4 = 0 → (MI x3 (μ.2.2 27) ∧ ME X W true d 378 2 [(0, .ref P.1), (1, .int x1), (2, .int x2), (3, .int (μ.2.1 27 x3.toNatClampNeg))] [] P μ R T)) ∧ (x4 = 0 → R 0 μ))) ∧ ((0 : Int) ≤ x5.toInt → ((¬ x4 = 0 → (MI x5 (μ.2.2 27) ∧ ME X W true d 378 12 [(0, .ref P.1), (1, .int x1), (2, .int x2), (3, .int x3), (4, .int 1), (5, .int (μ.2.1 27 x5.toNatClampNeg))] [] P μ R T)) ∧ (x4 = 0 → (MI x3 (μ.2.2 22) ∧ (MI x5 (μ.2.2 22) ∧ ((¬ (μ.2.1 22 x3.toNatClampNeg) = (μ.2.1 22 x5.toNatClampNeg) → (MI x5 (μ.2.2 27) ∧ ME X W true d 378 12 [(0, .ref P.1), (1, .int x1), (2, .int x2), (3, .int x3), (4, .int 0), (5, .int (μ.2.1 27 x5.toNatClampNeg))] [] P μ R T)) ∧ ((μ.2.1 22 x3.toNatClampNeg) = (μ.2.1 22 x5.toNatClampNeg) → (MI x3 (μ.2.2 24) ∧ MC X W true d 376 [.ref P.1, .int (μ.2.1 24 x3.toNatClampNeg)] P μ (fun r1 μ1 => (MI x5 (μ1.2.2 24) ∧ MC X W true d 376 [.ref P.1, .int (μ1.2.1 24 x5.toNatClampNeg)] P μ1 (fun r2 μ2 => ((¬ r1 = r2 → (MI x5 (μ2.2.2 27) ∧ ME X W true d 378 12 [(0, .ref P.1), (1, .int x1), (2, .int x2), (3, .int x3), (4, .int 0), (5, .int (μ2.2.1 27 x5.toNatClampNeg))] [] P μ2 R T)) ∧ (r1 = r2 → (MI x5 (μ2.2.2 27) ∧ ME X W true d 378 12 [(0, .ref P.1), (1, .int x1), (2, .int x2), (3, .int x3), (4, .int 1), (5, .int (μ2.2.1 27 x5.toNatClampNeg))] [] P μ2 R T)))) (fun _ => False))) (fun _ => False))))))))))) : ME X W true d 378 12 [(0, .ref P.1), (1, .int x1), (2, .int x2), (3, .int x3), (4, .int x4), (5, .int x5)] [] P μ R T := by
  refine me_go (pc1 := 14) (lv1 := [(0, .ref P.1), (1, .int x1), (2, .int x2), (3, .int x3), (4, .int x4), (5, .int x5)]) (st1 := [.int x5]) 1 rfl ?_
  refine me_ifc rfl rfl (fun c => ?_) (fun c => ?_)
  · replace h := h.1 (ci_lt c)
    refine me_go (pc1 := 83) (lv1 := [(0, .ref P.1), (1, .int x1), (2, .int x2), (3, .int x3), (4, .int x4), (5, .int x5)]) (st1 := [.int x4]) 1 rfl ?_
    refine me_ifc rfl rfl (fun c => ?_) (fun c => ?_)
    · replace h := h.1 (ci_ne c)
      refine me_go (pc1 := 89) (lv1 := [(0, .ref P.1), (1, .int x1), (2, .int x2), (3, .int x3), (4, .int x4), (5, .int x5)]) (st1 := [.ref P.1]) 1 rfl ?_
      refine me_getf (v := .ref (P.2.1 27)) rfl rfl rfl ?_
      refine me_go (pc1 := 93) (lv1 := [(0, .ref P.1), (1, .int x1), (2, .int x2), (3, .int x3), (4, .int x4), (5, .int x5)]) (st1 := [.int x3, .ref (P.2.1 27)]) 1 rfl ?_
      refine me_iald rfl (g := 27) rfl rfl h.1 ?_
      replace h := h.2
      refine me_go (pc1 := 2) (lv1 := [(3, .int (μ.2.1 27 x3.toNatClampNeg)), (0, .ref P.1), (1, .int x1), (2, .int x2), (4, .int x4), (5, .int x5)]) (st1 := []) 2 rfl ?_
      refine me_lv [(0, .ref P.1), (1, .int x1), (2, .int x2), (3, .int (μ.2.1 27 x3.toNatClampNeg))] (fl_c rfl (fl_c rfl (fl_c rfl (fl_c rfl fl_0)))) ?_
      exact h
    · replace h := h.2 (cn_ne c)
      refine me_go (pc1 := 87) (lv1 := [(0, .ref P.1), (1, .int x1), (2, .int x2), (3, .int x3), (4, .int x4), (5, .int x5)]) (st1 := [.int 0]) 1 rfl ?_
      exact me_retB rfl rfl (by decide) h
  · replace h := h.2 (cn_lt c)
    refine me_go (pc1 := 19) (lv1 := [(0, .ref P.1), (1, .int x1), (2, .int x2), (3, .int x3), (4, .int x4), (5, .int x5)]) (st1 := [.int x4]) 1 rfl ?_
    refine me_ifc rfl rfl (fun c => ?_) (fun c => ?_)
    · replace h := h.1 (ci_ne c)
      refine me_go (pc1 := 70) (lv1 := [(4, .int 1), (0, .ref P.1), (1, .int x1), (2, .int x2), (3, .int x3), (5, .int x5)]) (st1 := [.ref P.1]) 4 rfl ?_
      refine me_getf (v := .ref (P.2.1 27)) rfl rfl rfl ?_
      refine me_go (pc1 := 75) (lv1 := [(4, .int 1), (0, .ref P.1), (1, .int x1), (2, .int x2), (3, .int x3), (5, .int x5)]) (st1 := [.int x5, .ref (P.2.1 27)]) 1 rfl ?_
      refine me_iald rfl (g := 27) rfl rfl h.1 ?_
      replace h := h.2
      refine me_go (pc1 := 12) (lv1 := [(5, .int (μ.2.1 27 x5.toNatClampNeg)), (4, .int 1), (0, .ref P.1), (1, .int x1), (2, .int x2), (3, .int x3)]) (st1 := []) 2 rfl ?_
      refine me_lv [(0, .ref P.1), (1, .int x1), (2, .int x2), (3, .int x3), (4, .int 1), (5, .int (μ.2.1 27 x5.toNatClampNeg))] (fl_c rfl (fl_c rfl (fl_c rfl (fl_c rfl (fl_c rfl (fl_c rfl fl_0)))))) ?_
      exact h
    · replace h := h.2 (cn_ne c)
      refine me_go (pc1 := 23) (lv1 := [(0, .ref P.1), (1, .int x1), (2, .int x2), (3, .int x3), (4, .int x4), (5, .int x5)]) (st1 := [.ref P.1]) 1 rfl ?_
      refine me_getf (v := .ref (P.2.1 22)) rfl rfl rfl ?_
      refine me_go (pc1 := 27) (lv1 := [(0, .ref P.1), (1, .int x1), (2, .int x2), (3, .int x3), (4, .int x4), (5, .int x5)]) (st1 := [.int x3, .ref (P.2.1 22)]) 1 rfl ?_
      refine me_iald rfl (g := 22) rfl rfl h.1 ?_
      replace h := h.2
      refine me_go (pc1 := 29) (lv1 := [(0, .ref P.1), (1, .int x1), (2, .int x2), (3, .int x3), (4, .int x4), (5, .int x5)]) (st1 := [.ref P.1, .int (μ.2.1 22 x3.toNatClampNeg)]) 1 rfl ?_
      refine me_getf (v := .ref (P.2.1 22)) rfl rfl rfl ?_
      refine me_go (pc1 := 34) (lv1 := [(0, .ref P.1), (1, .int x1), (2, .int x2), (3, .int x3), (4, .int x4), (5, .int x5)]) (st1 := [.int x5, .ref (P.2.1 22), .int (μ.2.1 22 x3.toNatClampNeg)]) 1 rfl ?_
      refine me_iald rfl (g := 22) rfl rfl h.1 ?_
      replace h := h.2
      refine me_icmp rfl rfl (fun c => ?_) (fun c => ?_)
      · replace h := h.1 (ci_ne c)
        refine me_go (pc1 := 70) (lv1 := [(4, .int 0), (0, .ref P.1), (1, .int x1), (2, .int x2), (3, .int x3), (5, .int x5)]) (st1 := [.ref P.1]) 3 rfl ?_
        refine me_getf (v := .ref (P.2.1 27)) rfl rfl rfl ?_
        refine me_go (pc1 := 75) (lv1 := [(4, .int 0), (0, .ref P.1), (1, .int x1), (2, .int x2), (3, .int x3), (5, .int x5)]) (st1 := [.int x5, .ref (P.2.1 27)]) 1 rfl ?_
        refine me_iald rfl (g := 27) rfl rfl h.1 ?_
        replace h := h.2
        refine me_go (pc1 := 12) (lv1 := [(5, .int (μ.2.1 27 x5.toNatClampNeg)), (4, .int 0), (0, .ref P.1), (1, .int x1), (2, .int x2), (3, .int x3)]) (st1 := []) 2 rfl ?_
        refine me_lv [(0, .ref P.1), (1, .int x1), (2, .int x2), (3, .int x3), (4, .int 0), (5, .int (μ.2.1 27 x5.toNatClampNeg))] (fl_c rfl (fl_c rfl (fl_c rfl (fl_c rfl (fl_c rfl (fl_c rfl fl_0)))))) ?_
        exact h
      · replace h := h.2 (cn_ne c)
        refine me_go (pc1 := 40) (lv1 := [(0, .ref P.1), (1, .int x1), (2, .int x2), (3, .int x3), (4, .int x4), (5, .int x5)]) (st1 := [.ref P.1, .ref P.1]) 2 rfl ?_
        refine me_getf (v := .ref (P.2.1 24)) rfl rfl rfl ?_
        refine me_go (pc1 := 44) (lv1 := [(0, .ref P.1), (1, .int x1), (2, .int x2), (3, .int x3), (4, .int x4), (5, .int x5)]) (st1 := [.int x3, .ref (P.2.1 24), .ref P.1]) 1 rfl ?_
        refine me_iald rfl (g := 24) rfl rfl h.1 ?_
        replace h := h.2
        refine me_callN rfl rfl rfl (h.mono (fun r1 μ1 h => ?_) (fun _ h => h))
        refine me_go (pc1 := 50) (lv1 := [(0, .ref P.1), (1, .int x1), (2, .int x2), (3, .int x3), (4, .int x4), (5, .int x5)]) (st1 := [.ref P.1, .ref P.1, .int r1]) 2 rfl ?_
        refine me_getf (v := .ref (P.2.1 24)) rfl rfl rfl ?_
        refine me_go (pc1 := 55) (lv1 := [(0, .ref P.1), (1, .int x1), (2, .int x2), (3, .int x3), (4, .int x4), (5, .int x5)]) (st1 := [.int x5, .ref (P.2.1 24), .ref P.1, .int r1]) 1 rfl ?_
        refine me_iald rfl (g := 24) rfl rfl h.1 ?_
        replace h := h.2
        refine me_callN rfl rfl rfl (h.mono (fun r2 μ2 h => ?_) (fun _ h => h))
        refine me_icmp rfl rfl (fun c => ?_) (fun c => ?_)
        · replace h := h.1 (ci_ne c)
          refine me_go (pc1 := 70) (lv1 := [(4, .int 0), (0, .ref P.1), (1, .int x1), (2, .int x2), (3, .int x3), (5, .int x5)]) (st1 := [.ref P.1]) 3 rfl ?_
          refine me_getf (v := .ref (P.2.1 27)) rfl rfl rfl ?_
          refine me_go (pc1 := 75) (lv1 := [(4, .int 0), (0, .ref P.1), (1, .int x1), (2, .int x2), (3, .int x3), (5, .int x5)]) (st1 := [.int x5, .ref (P.2.1 27)]) 1 rfl ?_
          refine me_iald rfl (g := 27) rfl rfl h.1 ?_
          replace h := h.2
          refine me_go (pc1 := 12) (lv1 := [(5, .int (μ2.2.1 27 x5.toNatClampNeg)), (4, .int 0), (0, .ref P.1), (1, .int x1), (2, .int x2), (3, .int x3)]) (st1 := []) 2 rfl ?_
          refine me_lv [(0, .ref P.1), (1, .int x1), (2, .int x2), (3, .int x3), (4, .int 0), (5, .int (μ2.2.1 27 x5.toNatClampNeg))] (fl_c rfl (fl_c rfl (fl_c rfl (fl_c rfl (fl_c rfl (fl_c rfl fl_0)))))) ?_
          exact h
        · replace h := h.2 (cn_ne c)
          refine me_go (pc1 := 70) (lv1 := [(4, .int 1), (0, .ref P.1), (1, .int x1), (2, .int x2), (3, .int x3), (5, .int x5)]) (st1 := [.ref P.1]) 4 rfl ?_
          refine me_getf (v := .ref (P.2.1 27)) rfl rfl rfl ?_
          refine me_go (pc1 := 75) (lv1 := [(4, .int 1), (0, .ref P.1), (1, .int x1), (2, .int x2), (3, .int x3), (5, .int x5)]) (st1 := [.int x5, .ref (P.2.1 27)]) 1 rfl ?_
          refine me_iald rfl (g := 27) rfl rfl h.1 ?_
          replace h := h.2
          refine me_go (pc1 := 12) (lv1 := [(5, .int (μ2.2.1 27 x5.toNatClampNeg)), (4, .int 1), (0, .ref P.1), (1, .int x1), (2, .int x2), (3, .int x3)]) (st1 := []) 2 rfl ?_
          refine me_lv [(0, .ref P.1), (1, .int x1), (2, .int x2), (3, .int x3), (4, .int 1), (5, .int (μ2.2.1 27 x5.toNatClampNeg))] (fl_c rfl (fl_c rfl (fl_c rfl (fl_c rfl (fl_c rfl (fl_c rfl fl_0)))))) ?_
          exact h
theorem v_signaturesPair_0 {X : ev_X} {W : Nat → Prop} {d : Nat} {P : MP} {μ : MS} {R : Int32 → MS → Prop} {T : MS → Prop} (x1 : Int32) (x2 : Int32) (x3 : Int32) (x4 : Int32) (h : ME X W true d 379 7 [(0, .ref P.1), (1, .int x1), (2, .int x2), (3, .int x3), (4, .int x4), (5, .int x3), (6, .int x4)] [] P μ R T) : ME X W true d 379 0 [(0, .ref P.1), (1, .int x1), (2, .int x2), (3, .int x3), (4, .int x4)] [] P μ R T := by
  refine me_go (pc1 := 7) (lv1 := [(6, .int x4), (5, .int x3), (0, .ref P.1), (1, .int x1), (2, .int x2), (3, .int x3), (4, .int x4)]) (st1 := []) 4 rfl ?_
  refine me_lv [(0, .ref P.1), (1, .int x1), (2, .int x2), (3, .int x3), (4, .int x4), (5, .int x3), (6, .int x4)] (fl_c rfl (fl_c rfl (fl_c rfl (fl_c rfl (fl_c rfl (fl_c rfl (fl_c rfl fl_0))))))) ?_
  exact h
theorem v_signaturesPair_7 {X : ev_X} {W : Nat → Prop} {d : Nat} {P : MP} {μ : MS} {R : Int32 → MS → Prop} {T : MS → Prop} (x1 : Int32) (x2 : Int32) (x3 : Int32) (x4 : Int32) (x5 : Int32) (x6 : Int32) (h : ((x5.toInt < (0 : Int) → ((¬ x5 = x6 → R 0 μ) ∧ (x5 = x6 → (MI x1 (μ.2.2 23) ∧ (((0 : Int) ≤ (μ.2.1 23 x1.toNatClampNeg).toInt → (MI x2 (μ.2.2 23) ∧ (((0 : Int) ≤ (μ.2.1 23 x2.toNatClampNeg).toInt → (MI x1 (μ.2.2 23) ∧ (((μ.2.1 23 x1.toNatClampNeg).toInt < (0 : Int) → R 1 μ) ∧ ((0 : Int) ≤ (μ.2.1 23 x1.toNatClampNeg).toInt → (MI x1 (μ.2.2 23) ∧ (MI x2 (μ.2.2 23) ∧ MC X W true d 370 [.ref P.1, .int (μ.2.1 23 x1.toNatClampNeg), .int (μ.2.1 23 x2.toNatClampNeg)] P μ (fun r1 μ1 => R 1 μ1) (fun _ => False))))))) ∧ ((μ.2.1 23 x2.toNatClampNeg).toInt < (0 : Int) → R 0 μ)))) ∧ ((μ.2.1 23 x1.toNatClampNeg).toInt < (0 : Int) → (MI x2 (μ.2.2 23) ∧ (((0 : Int) ≤ (μ.2.1 23 x2.toNatClampNeg).toInt → R 0 μ) ∧ ((μ.2.1 23 x2.toNatClampNeg).toInt < (0 : Int) → (MI x1 (μ.2.2 23) ∧ (((μ.2.1 23 x1.toNatClampNeg).toInt < (0 : Int) → R 1 μ) ∧ ((0 : Int) ≤ (μ.2.1 23 x1.toNatClampNeg).toInt → (MI x1 (μ.2.2 23) ∧ (MI x2 (μ.2.2 23) ∧ MC X W true d 370 [.ref P.1, .int (μ.2.1 23 x1.toNatClampNeg), .int (μ.2.1 23 x2.toNatClampNeg)] P μ (fun r2 μ2 => R 1 μ2) (fun _ => False))))))))))))))) ∧ ((0 : Int) ≤ x5.toInt → ((x6.toInt < (0 : Int) → ((¬ x5 = x6 → R 0 μ) ∧ (x5 = x6 → (MI x1 (μ.2.2 23) ∧ (((0 : Int) ≤ (μ.2.1 23 x1.toNatClampNeg).toInt → (MI x2 (μ.2.2 23) ∧ (((0 : Int) ≤ (μ.2.1 23 x2.toNatClampNeg).toInt → (MI x1 (μ.2.2 23) ∧ (((μ.2.1 23 x1.toNatClampNeg).toInt < (0 : Int) → R 1 μ) ∧ ((0 : Int) ≤ (μ.2.1 23 x1.toNatClampNeg).toInt → (MI x1 (μ.2.2 23) ∧ (MI x2 (μ.2.2 23) ∧ MC X W true d 370 [.ref P.1, .int (μ.2.1 23 x1.toNatClampNeg), .int (μ.2.1 23 x2.toNatClampNeg)] P μ (fun r3 μ3 => R 1 μ3) (fun _ => False))))))) ∧ ((μ.2.1 23 x2.toNatClampNeg).toInt < (0 : Int) → R 0 μ)))) ∧ ((μ.2.1 23 x1.toNatClampNeg).toInt < (0 : Int) → (MI x2 (μ.2.2 23) ∧ (((0 : Int) ≤ (μ.2.1 23 x2.toNatClampNeg).toInt → R 0 μ) ∧ ((μ.2.1 23 x2.toNatClampNeg).toInt < (0 : Int) → (MI x1 (μ.2.2 23) ∧ (((μ.2.1 23 x1.toNatClampNeg).toInt < (0 : Int) → R 1 μ) ∧ ((0 : Int) ≤ (μ.2.1 23 x1.toNatClampNeg).toInt → (MI x1 (μ.2.2 23) ∧ (MI x2 (μ.2.2 23) ∧ MC X W true d 370 [.ref P.1, .int (μ.2.1 23 x1.toNatClampNeg), .int (μ.2.1 23 x2.toNatClampNeg)] P μ (fun r4 μ4 => R 1 μ4) (fun _ => False))))))))))))))) ∧ ((0 : Int) ≤ x6.toInt → (MI x5 (μ.2.2 24) ∧ (MI x6 (μ.2.2 24) ∧ (((μ.2.1 24 x5.toNatClampNeg) = (μ.2.1 24 x6.toNatClampNeg) → (MI x5 (μ.2.2 23) ∧ (MI x6 (μ.2.2 23) ∧ MC X W true d 370 [.ref P.1, .int (μ.2.1 23 x5.toNatClampNeg), .int (μ.2.1 23 x6.toNatClampNeg)] P μ (fun r5 μ5 => (MI x5 (μ5.2.2 27) ∧ (MI x6 (μ5.2.2 27) ∧ ME X W true d 379 7 [(0, .ref P.1), (1, .int x1), (2, .int x2), (3, .int x3), (4, .int x4), (5, .int (μ5.2.1 27 x5.toNatClampNeg)), (6, .int (μ5.2.1 27 x6.toNatClampNeg))] [] P μ5 R T))) (fun _ => False)))) ∧ (¬ (μ.2.1 24 x5.toNatClampNeg) = (μ.2.1 24 x6.toNatClampNeg) → R 0 μ))))))))) : ME X W true d 379 7 [(0, .ref P.1), (1, .int x1), (2, .int x2), (3, .int x3), (4, .int x4), (5, .int x5), (6, .int x6)] [] P μ R T := by
  refine me_go (pc1 := 9) (lv1 := [(0, .ref P.1), (1, .int x1), (2, .int x2), (3, .int x3), (4, .int x4), (5, .int x5), (6, .int x6)]) (st1 := [.int x5]) 1 rfl ?_
  refine me_ifc rfl rfl (fun c => ?_) (fun c => ?_)
  · replace h := h.1 (ci_lt c)
    refine me_go (pc1 := 79) (lv1 := [(0, .ref P.1), (1, .int x1), (2, .int x2), (3, .int x3), (4, .int x4), (5, .int x5), (6, .int x6)]) (st1 := [.int x6, .int x5]) 2 rfl ?_
    refine me_icmp rfl rfl (fun c => ?_) (fun c => ?_)
    · replace h := h.1 (ci_ne c)
      refine me_go (pc1 := 114) (lv1 := [(0, .ref P.1), (1, .int x1), (2, .int x2), (3, .int x3), (4, .int x4), (5, .int x5), (6, .int x6)]) (st1 := [.int 0]) 1 rfl ?_
      exact me_retB rfl rfl (by decide) h
    · replace h := h.2 (cn_ne c)
      refine me_go (pc1 := 83) (lv1 := [(0, .ref P.1), (1, .int x1), (2, .int x2), (3, .int x3), (4, .int x4), (5, .int x5), (6, .int x6)]) (st1 := [.ref P.1]) 1 rfl ?_
      refine me_getf (v := .ref (P.2.1 23)) rfl rfl rfl ?_
      refine me_go (pc1 := 87) (lv1 := [(0, .ref P.1), (1, .int x1), (2, .int x2), (3, .int x3), (4, .int x4), (5, .int x5), (6, .int x6)]) (st1 := [.int x1, .ref (P.2.1 23)]) 1 rfl ?_
      refine me_iald rfl (g := 23) rfl rfl h.1 ?_
      replace h := h.2
      refine me_ifc rfl rfl (fun c => ?_) (fun c => ?_)
      · replace h := h.1 (ci_ge c)
        refine me_go (pc1 := 97) (lv1 := [(0, .ref P.1), (1, .int x1), (2, .int x2), (3, .int x3), (4, .int x4), (5, .int x5), (6, .int x6)]) (st1 := [.ref P.1, .int 0]) 2 rfl ?_
        refine me_getf (v := .ref (P.2.1 23)) rfl rfl rfl ?_
        refine me_go (pc1 := 101) (lv1 := [(0, .ref P.1), (1, .int x1), (2, .int x2), (3, .int x3), (4, .int x4), (5, .int x5), (6, .int x6)]) (st1 := [.int x2, .ref (P.2.1 23), .int 0]) 1 rfl ?_
        refine me_iald rfl (g := 23) rfl rfl h.1 ?_
        replace h := h.2
        refine me_ifc rfl rfl (fun c => ?_) (fun c => ?_)
        · replace h := h.1 (ci_ge c)
          refine me_go (pc1 := 110) (lv1 := [(0, .ref P.1), (1, .int x1), (2, .int x2), (3, .int x3), (4, .int x4), (5, .int x5), (6, .int x6)]) (st1 := [.int 0, .int 0]) 1 rfl ?_
          refine me_icmp rfl rfl (fun _ => ?_) (fun c => absurd c (by decide))
          refine me_go (pc1 := 116) (lv1 := [(0, .ref P.1), (1, .int x1), (2, .int x2), (3, .int x3), (4, .int x4), (5, .int x5), (6, .int x6)]) (st1 := [.ref P.1]) 1 rfl ?_
          refine me_getf (v := .ref (P.2.1 23)) rfl rfl rfl ?_
          refine me_go (pc1 := 120) (lv1 := [(0, .ref P.1), (1, .int x1), (2, .int x2), (3, .int x3), (4, .int x4), (5, .int x5), (6, .int x6)]) (st1 := [.int x1, .ref (P.2.1 23)]) 1 rfl ?_
          refine me_iald rfl (g := 23) rfl rfl h.1 ?_
          replace h := h.2
          refine me_ifc rfl rfl (fun c => ?_) (fun c => ?_)
          · replace h := h.1 (ci_lt c)
            refine me_go (pc1 := 141) (lv1 := [(0, .ref P.1), (1, .int x1), (2, .int x2), (3, .int x3), (4, .int x4), (5, .int x5), (6, .int x6)]) (st1 := [.int 1]) 1 rfl ?_
            exact me_retB rfl rfl (by decide) h
          · replace h := h.2 (cn_lt c)
            refine me_go (pc1 := 126) (lv1 := [(0, .ref P.1), (1, .int x1), (2, .int x2), (3, .int x3), (4, .int x4), (5, .int x5), (6, .int x6)]) (st1 := [.ref P.1, .ref P.1]) 2 rfl ?_
            refine me_getf (v := .ref (P.2.1 23)) rfl rfl rfl ?_
            refine me_go (pc1 := 130) (lv1 := [(0, .ref P.1), (1, .int x1), (2, .int x2), (3, .int x3), (4, .int x4), (5, .int x5), (6, .int x6)]) (st1 := [.int x1, .ref (P.2.1 23), .ref P.1]) 1 rfl ?_
            refine me_iald rfl (g := 23) rfl rfl h.1 ?_
            replace h := h.2
            refine me_go (pc1 := 132) (lv1 := [(0, .ref P.1), (1, .int x1), (2, .int x2), (3, .int x3), (4, .int x4), (5, .int x5), (6, .int x6)]) (st1 := [.ref P.1, .int (μ.2.1 23 x1.toNatClampNeg), .ref P.1]) 1 rfl ?_
            refine me_getf (v := .ref (P.2.1 23)) rfl rfl rfl ?_
            refine me_go (pc1 := 136) (lv1 := [(0, .ref P.1), (1, .int x1), (2, .int x2), (3, .int x3), (4, .int x4), (5, .int x5), (6, .int x6)]) (st1 := [.int x2, .ref (P.2.1 23), .int (μ.2.1 23 x1.toNatClampNeg), .ref P.1]) 1 rfl ?_
            refine me_iald rfl (g := 23) rfl rfl h.1 ?_
            replace h := h.2
            refine me_callN rfl rfl rfl (h.mono (fun r1 μ1 h => ?_) (fun _ h => h))
            refine me_go (pc1 := 141) (lv1 := [(0, .ref P.1), (1, .int x1), (2, .int x2), (3, .int x3), (4, .int x4), (5, .int x5), (6, .int x6)]) (st1 := [.int 1]) 1 rfl ?_
            exact me_retB rfl rfl (by decide) h
        · replace h := h.2 (cn_ge c)
          refine me_go (pc1 := 110) (lv1 := [(0, .ref P.1), (1, .int x1), (2, .int x2), (3, .int x3), (4, .int x4), (5, .int x5), (6, .int x6)]) (st1 := [.int 1, .int 0]) 2 rfl ?_
          refine me_icmp rfl rfl (fun c => absurd c (by decide)) (fun _ => ?_)
          refine me_go (pc1 := 114) (lv1 := [(0, .ref P.1), (1, .int x1), (2, .int x2), (3, .int x3), (4, .int x4), (5, .int x5), (6, .int x6)]) (st1 := [.int 0]) 1 rfl ?_
          exact me_retB rfl rfl (by decide) h
      · replace h := h.2 (cn_ge c)
        refine me_go (pc1 := 97) (lv1 := [(0, .ref P.1), (1, .int x1), (2, .int x2), (3, .int x3), (4, .int x4), (5, .int x5), (6, .int x6)]) (st1 := [.ref P.1, .int 1]) 3 rfl ?_
        refine me_getf (v := .ref (P.2.1 23)) rfl rfl rfl ?_
        refine me_go (pc1 := 101) (lv1 := [(0, .ref P.1), (1, .int x1), (2, .int x2), (3, .int x3), (4, .int x4), (5, .int x5), (6, .int x6)]) (st1 := [.int x2, .ref (P.2.1 23), .int 1]) 1 rfl ?_
        refine me_iald rfl (g := 23) rfl rfl h.1 ?_
        replace h := h.2
        refine me_ifc rfl rfl (fun c => ?_) (fun c => ?_)
        · replace h := h.1 (ci_ge c)
          refine me_go (pc1 := 110) (lv1 := [(0, .ref P.1), (1, .int x1), (2, .int x2), (3, .int x3), (4, .int x4), (5, .int x5), (6, .int x6)]) (st1 := [.int 0, .int 1]) 1 rfl ?_
          refine me_icmp rfl rfl (fun c => absurd c (by decide)) (fun _ => ?_)
          refine me_go (pc1 := 114) (lv1 := [(0, .ref P.1), (1, .int x1), (2, .int x2), (3, .int x3), (4, .int x4), (5, .int x5), (6, .int x6)]) (st1 := [.int 0]) 1 rfl ?_
          exact me_retB rfl rfl (by decide) h
        · replace h := h.2 (cn_ge c)
          refine me_go (pc1 := 110) (lv1 := [(0, .ref P.1), (1, .int x1), (2, .int x2), (3, .int x3), (4, .int x4), (5, .int x5), (6, .int x6)]) (st1 := [.int 1, .int 1]) 2 rfl ?_
          refine me_icmp rfl rfl (fun _ => ?_) (fun c => absurd c (by decide))
          refine me_go (pc1 := 116) (lv1 := [(0, .ref P.1), (1, .int x1), (2, .int x2), (3, .int x3), (4, .int x4), (5, .int x5), (6, .int x6)]) (st1 := [.ref P.1]) 1 rfl ?_
          refine me_getf (v := .ref (P.2.1 23)) rfl rfl rfl ?_
          refine me_go (pc1 := 120) (lv1 := [(0, .ref P.1), (1, .int x1), (2, .int x2), (3, .int x3), (4, .int x4), (5, .int x5), (6, .int x6)]) (st1 := [.int x1, .ref (P.2.1 23)]) 1 rfl ?_
          refine me_iald rfl (g := 23) rfl rfl h.1 ?_
          replace h := h.2
          refine me_ifc rfl rfl (fun c => ?_) (fun c => ?_)
          · replace h := h.1 (ci_lt c)
            refine me_go (pc1 := 141) (lv1 := [(0, .ref P.1), (1, .int x1), (2, .int x2), (3, .int x3), (4, .int x4), (5, .int x5), (6, .int x6)]) (st1 := [.int 1]) 1 rfl ?_
            exact me_retB rfl rfl (by decide) h
          · replace h := h.2 (cn_lt c)
            refine me_go (pc1 := 126) (lv1 := [(0, .ref P.1), (1, .int x1), (2, .int x2), (3, .int x3), (4, .int x4), (5, .int x5), (6, .int x6)]) (st1 := [.ref P.1, .ref P.1]) 2 rfl ?_
            refine me_getf (v := .ref (P.2.1 23)) rfl rfl rfl ?_
            refine me_go (pc1 := 130) (lv1 := [(0, .ref P.1), (1, .int x1), (2, .int x2), (3, .int x3), (4, .int x4), (5, .int x5), (6, .int x6)]) (st1 := [.int x1, .ref (P.2.1 23), .ref P.1]) 1 rfl ?_
            refine me_iald rfl (g := 23) rfl rfl h.1 ?_
            replace h := h.2
            refine me_go (pc1 := 132) (lv1 := [(0, .ref P.1), (1, .int x1), (2, .int x2), (3, .int x3), (4, .int x4), (5, .int x5), (6, .int x6)]) (st1 := [.ref P.1, .int (μ.2.1 23 x1.toNatClampNeg), .ref P.1]) 1 rfl ?_
            refine me_getf (v := .ref (P.2.1 23)) rfl rfl rfl ?_
            refine me_go (pc1 := 136) (lv1 := [(0, .ref P.1), (1, .int x1), (2, .int x2), (3, .int x3), (4, .int x4), (5, .int x5), (6, .int x6)]) (st1 := [.int x2, .ref (P.2.1 23), .int (μ.2.1 23 x1.toNatClampNeg), .ref P.1]) 1 rfl ?_
            refine me_iald rfl (g := 23) rfl rfl h.1 ?_
            replace h := h.2
            refine me_callN rfl rfl rfl (h.mono (fun r2 μ2 h => ?_) (fun _ h => h))
            refine me_go (pc1 := 141) (lv1 := [(0, .ref P.1), (1, .int x1), (2, .int x2), (3, .int x3), (4, .int x4), (5, .int x5), (6, .int x6)]) (st1 := [.int 1]) 1 rfl ?_
            exact me_retB rfl rfl (by decide) h
  · replace h := h.2 (cn_lt c)
    refine me_go (pc1 := 14) (lv1 := [(0, .ref P.1), (1, .int x1), (2, .int x2), (3, .int x3), (4, .int x4), (5, .int x5), (6, .int x6)]) (st1 := [.int x6]) 1 rfl ?_
    refine me_ifc rfl rfl (fun c => ?_) (fun c => ?_)
    · replace h := h.1 (ci_lt c)
      refine me_go (pc1 := 79) (lv1 := [(0, .ref P.1), (1, .int x1), (2, .int x2), (3, .int x3), (4, .int x4), (5, .int x5), (6, .int x6)]) (st1 := [.int x6, .int x5]) 2 rfl ?_
      refine me_icmp rfl rfl (fun c => ?_) (fun c => ?_)
      · replace h := h.1 (ci_ne c)
        refine me_go (pc1 := 114) (lv1 := [(0, .ref P.1), (1, .int x1), (2, .int x2), (3, .int x3), (4, .int x4), (5, .int x5), (6, .int x6)]) (st1 := [.int 0]) 1 rfl ?_
        exact me_retB rfl rfl (by decide) h
      · replace h := h.2 (cn_ne c)
        refine me_go (pc1 := 83) (lv1 := [(0, .ref P.1), (1, .int x1), (2, .int x2), (3, .int x3), (4, .int x4), (5, .int x5), (6, .int x6)]) (st1 := [.ref P.1]) 1 rfl ?_
        refine me_getf (v := .ref (P.2.1 23)) rfl rfl rfl ?_
        refine me_go (pc1 := 87) (lv1 := [(0, .ref P.1), (1, .int x1), (2, .int x2), (3, .int x3), (4, .int x4), (5, .int x5), (6, .int x6)]) (st1 := [.int x1, .ref (P.2.1 23)]) 1 rfl ?_
        refine me_iald rfl (g := 23) rfl rfl h.1 ?_
        replace h := h.2
        refine me_ifc rfl rfl (fun c => ?_) (fun c => ?_)
        · replace h := h.1 (ci_ge c)
          refine me_go (pc1 := 97) (lv1 := [(0, .ref P.1), (1, .int x1), (2, .int x2), (3, .int x3), (4, .int x4), (5, .int x5), (6, .int x6)]) (st1 := [.ref P.1, .int 0]) 2 rfl ?_
          refine me_getf (v := .ref (P.2.1 23)) rfl rfl rfl ?_
          refine me_go (pc1 := 101) (lv1 := [(0, .ref P.1), (1, .int x1), (2, .int x2), (3, .int x3), (4, .int x4), (5, .int x5), (6, .int x6)]) (st1 := [.int x2, .ref (P.2.1 23), .int 0]) 1 rfl ?_
          refine me_iald rfl (g := 23) rfl rfl h.1 ?_
          replace h := h.2
          refine me_ifc rfl rfl (fun c => ?_) (fun c => ?_)
          · replace h := h.1 (ci_ge c)
            refine me_go (pc1 := 110) (lv1 := [(0, .ref P.1), (1, .int x1), (2, .int x2), (3, .int x3), (4, .int x4), (5, .int x5), (6, .int x6)]) (st1 := [.int 0, .int 0]) 1 rfl ?_
            refine me_icmp rfl rfl (fun _ => ?_) (fun c => absurd c (by decide))
            refine me_go (pc1 := 116) (lv1 := [(0, .ref P.1), (1, .int x1), (2, .int x2), (3, .int x3), (4, .int x4), (5, .int x5), (6, .int x6)]) (st1 := [.ref P.1]) 1 rfl ?_
            refine me_getf (v := .ref (P.2.1 23)) rfl rfl rfl ?_
            refine me_go (pc1 := 120) (lv1 := [(0, .ref P.1), (1, .int x1), (2, .int x2), (3, .int x3), (4, .int x4), (5, .int x5), (6, .int x6)]) (st1 := [.int x1, .ref (P.2.1 23)]) 1 rfl ?_
            refine me_iald rfl (g := 23) rfl rfl h.1 ?_
            replace h := h.2
            refine me_ifc rfl rfl (fun c => ?_) (fun c => ?_)
            · replace h := h.1 (ci_lt c)
              refine me_go (pc1 := 141) (lv1 := [(0, .ref P.1), (1, .int x1), (2, .int x2), (3, .int x3), (4, .int x4), (5, .int x5), (6, .int x6)]) (st1 := [.int 1]) 1 rfl ?_
              exact me_retB rfl rfl (by decide) h
            · replace h := h.2 (cn_lt c)
              refine me_go (pc1 := 126) (lv1 := [(0, .ref P.1), (1, .int x1), (2, .int x2), (3, .int x3), (4, .int x4), (5, .int x5), (6, .int x6)]) (st1 := [.ref P.1, .ref P.1]) 2 rfl ?_
              refine me_getf (v := .ref (P.2.1 23)) rfl rfl rfl ?_
              refine me_go (pc1 := 130) (lv1 := [(0, .ref P.1), (1, .int x1), (2, .int x2), (3, .int x3), (4, .int x4), (5, .int x5), (6, .int x6)]) (st1 := [.int x1, .ref (P.2.1 23), .ref P.1]) 1 rfl ?_
              refine me_iald rfl (g := 23) rfl rfl h.1 ?_
              replace h := h.2
              refine me_go (pc1 := 132) (lv1 := [(0, .ref P.1), (1, .int x1), (2, .int x2), (3, .int x3), (4, .int x4), (5, .int x5), (6, .int x6)]) (st1 := [.ref P.1, .int (μ.2.1 23 x1.toNatClampNeg), .ref P.1]) 1 rfl ?_
              refine me_getf (v := .ref (P.2.1 23)) rfl rfl rfl ?_
              refine me_go (pc1 := 136) (lv1 := [(0, .ref P.1), (1, .int x1), (2, .int x2), (3, .int x3), (4, .int x4), (5, .int x5), (6, .int x6)]) (st1 := [.int x2, .ref (P.2.1 23), .int (μ.2.1 23 x1.toNatClampNeg), .ref P.1]) 1 rfl ?_
              refine me_iald rfl (g := 23) rfl rfl h.1 ?_
              replace h := h.2
              refine me_callN rfl rfl rfl (h.mono (fun r3 μ3 h => ?_) (fun _ h => h))
              refine me_go (pc1 := 141) (lv1 := [(0, .ref P.1), (1, .int x1), (2, .int x2), (3, .int x3), (4, .int x4), (5, .int x5), (6, .int x6)]) (st1 := [.int 1]) 1 rfl ?_
              exact me_retB rfl rfl (by decide) h
          · replace h := h.2 (cn_ge c)
            refine me_go (pc1 := 110) (lv1 := [(0, .ref P.1), (1, .int x1), (2, .int x2), (3, .int x3), (4, .int x4), (5, .int x5), (6, .int x6)]) (st1 := [.int 1, .int 0]) 2 rfl ?_
            refine me_icmp rfl rfl (fun c => absurd c (by decide)) (fun _ => ?_)
            refine me_go (pc1 := 114) (lv1 := [(0, .ref P.1), (1, .int x1), (2, .int x2), (3, .int x3), (4, .int x4), (5, .int x5), (6, .int x6)]) (st1 := [.int 0]) 1 rfl ?_
            exact me_retB rfl rfl (by decide) h
        · replace h := h.2 (cn_ge c)
          refine me_go (pc1 := 97) (lv1 := [(0, .ref P.1), (1, .int x1), (2, .int x2), (3, .int x3), (4, .int x4), (5, .int x5), (6, .int x6)]) (st1 := [.ref P.1, .int 1]) 3 rfl ?_
          refine me_getf (v := .ref (P.2.1 23)) rfl rfl rfl ?_
          refine me_go (pc1 := 101) (lv1 := [(0, .ref P.1), (1, .int x1), (2, .int x2), (3, .int x3), (4, .int x4), (5, .int x5), (6, .int x6)]) (st1 := [.int x2, .ref (P.2.1 23), .int 1]) 1 rfl ?_
          refine me_iald rfl (g := 23) rfl rfl h.1 ?_
          replace h := h.2
          refine me_ifc rfl rfl (fun c => ?_) (fun c => ?_)
          · replace h := h.1 (ci_ge c)
            refine me_go (pc1 := 110) (lv1 := [(0, .ref P.1), (1, .int x1), (2, .int x2), (3, .int x3), (4, .int x4), (5, .int x5), (6, .int x6)]) (st1 := [.int 0, .int 1]) 1 rfl ?_
            refine me_icmp rfl rfl (fun c => absurd c (by decide)) (fun _ => ?_)
            refine me_go (pc1 := 114) (lv1 := [(0, .ref P.1), (1, .int x1), (2, .int x2), (3, .int x3), (4, .int x4), (5, .int x5), (6, .int x6)]) (st1 := [.int 0]) 1 rfl ?_
            exact me_retB rfl rfl (by decide) h
          · replace h := h.2 (cn_ge c)
            refine me_go (pc1 := 110) (lv1 := [(0, .ref P.1), (1, .int x1), (2, .int x2), (3, .int x3), (4, .int x4), (5, .int x5), (6, .int x6)]) (st1 := [.int 1, .int 1]) 2 rfl ?_
            refine me_icmp rfl rfl (fun _ => ?_) (fun c => absurd c (by decide))
            refine me_go (pc1 := 116) (lv1 := [(0, .ref P.1), (1, .int x1), (2, .int x2), (3, .int x3), (4, .int x4), (5, .int x5), (6, .int x6)]) (st1 := [.ref P.1]) 1 rfl ?_
            refine me_getf (v := .ref (P.2.1 23)) rfl rfl rfl ?_
            refine me_go (pc1 := 120) (lv1 := [(0, .ref P.1), (1, .int x1), (2, .int x2), (3, .int x3), (4, .int x4), (5, .int x5), (6, .int x6)]) (st1 := [.int x1, .ref (P.2.1 23)]) 1 rfl ?_
            refine me_iald rfl (g := 23) rfl rfl h.1 ?_
            replace h := h.2
            refine me_ifc rfl rfl (fun c => ?_) (fun c => ?_)
            · replace h := h.1 (ci_lt c)
              refine me_go (pc1 := 141) (lv1 := [(0, .ref P.1), (1, .int x1), (2, .int x2), (3, .int x3), (4, .int x4), (5, .int x5), (6, .int x6)]) (st1 := [.int 1]) 1 rfl ?_
              exact me_retB rfl rfl (by decide) h
            · replace h := h.2 (cn_lt c)
              refine me_go (pc1 := 126) (lv1 := [(0, .ref P.1), (1, .int x1), (2, .int x2), (3, .int x3), (4, .int x4), (5, .int x5), (6, .int x6)]) (st1 := [.ref P.1, .ref P.1]) 2 rfl ?_
              refine me_getf (v := .ref (P.2.1 23)) rfl rfl rfl ?_
              refine me_go (pc1 := 130) (lv1 := [(0, .ref P.1), (1, .int x1), (2, .int x2), (3, .int x3), (4, .int x4), (5, .int x5), (6, .int x6)]) (st1 := [.int x1, .ref (P.2.1 23), .ref P.1]) 1 rfl ?_
              refine me_iald rfl (g := 23) rfl rfl h.1 ?_
              replace h := h.2
              refine me_go (pc1 := 132) (lv1 := [(0, .ref P.1), (1, .int x1), (2, .int x2), (3, .int x3), (4, .int x4), (5, .int x5), (6, .int x6)]) (st1 := [.ref P.1, .int (μ.2.1 23 x1.toNatClampNeg), .ref P.1]) 1 rfl ?_
              refine me_getf (v := .ref (P.2.1 23)) rfl rfl rfl ?_
              refine me_go (pc1 := 136) (lv1 := [(0, .ref P.1), (1, .int x1), (2, .int x2), (3, .int x3), (4, .int x4), (5, .int x5), (6, .int x6)]) (st1 := [.int x2, .ref (P.2.1 23), .int (μ.2.1 23 x1.toNatClampNeg), .ref P.1]) 1 rfl ?_
              refine me_iald rfl (g := 23) rfl rfl h.1 ?_
              replace h := h.2
              refine me_callN rfl rfl rfl (h.mono (fun r4 μ4 h => ?_) (fun _ h => h))
              refine me_go (pc1 := 141) (lv1 := [(0, .ref P.1), (1, .int x1), (2, .int x2), (3, .int x3), (4, .int x4), (5, .int x5), (6, .int x6)]) (st1 := [.int 1]) 1 rfl ?_
              exact me_retB rfl rfl (by decide) h
    · replace h := h.2 (cn_lt c)
      refine me_go (pc1 := 18) (lv1 := [(0, .ref P.1), (1, .int x1), (2, .int x2), (3, .int x3), (4, .int x4), (5, .int x5), (6, .int x6)]) (st1 := [.ref P.1]) 1 rfl ?_
      refine me_getf (v := .ref (P.2.1 24)) rfl rfl rfl ?_
      refine me_go (pc1 := 23) (lv1 := [(0, .ref P.1), (1, .int x1), (2, .int x2), (3, .int x3), (4, .int x4), (5, .int x5), (6, .int x6)]) (st1 := [.int x5, .ref (P.2.1 24)]) 1 rfl ?_
      refine me_iald rfl (g := 24) rfl rfl h.1 ?_
      replace h := h.2
      refine me_go (pc1 := 25) (lv1 := [(0, .ref P.1), (1, .int x1), (2, .int x2), (3, .int x3), (4, .int x4), (5, .int x5), (6, .int x6)]) (st1 := [.ref P.1, .int (μ.2.1 24 x5.toNatClampNeg)]) 1 rfl ?_
      refine me_getf (v := .ref (P.2.1 24)) rfl rfl rfl ?_
      refine me_go (pc1 := 30) (lv1 := [(0, .ref P.1), (1, .int x1), (2, .int x2), (3, .int x3), (4, .int x4), (5, .int x5), (6, .int x6)]) (st1 := [.int x6, .ref (P.2.1 24), .int (μ.2.1 24 x5.toNatClampNeg)]) 1 rfl ?_
      refine me_iald rfl (g := 24) rfl rfl h.1 ?_
      replace h := h.2
      refine me_icmp rfl rfl (fun c => ?_) (fun c => ?_)
      · replace h := h.1 (ci_eq c)
        refine me_go (pc1 := 38) (lv1 := [(0, .ref P.1), (1, .int x1), (2, .int x2), (3, .int x3), (4, .int x4), (5, .int x5), (6, .int x6)]) (st1 := [.ref P.1, .ref P.1]) 2 rfl ?_
        refine me_getf (v := .ref (P.2.1 23)) rfl rfl rfl ?_
        refine me_go (pc1 := 43) (lv1 := [(0, .ref P.1), (1, .int x1), (2, .int x2), (3, .int x3), (4, .int x4), (5, .int x5), (6, .int x6)]) (st1 := [.int x5, .ref (P.2.1 23), .ref P.1]) 1 rfl ?_
        refine me_iald rfl (g := 23) rfl rfl h.1 ?_
        replace h := h.2
        refine me_go (pc1 := 45) (lv1 := [(0, .ref P.1), (1, .int x1), (2, .int x2), (3, .int x3), (4, .int x4), (5, .int x5), (6, .int x6)]) (st1 := [.ref P.1, .int (μ.2.1 23 x5.toNatClampNeg), .ref P.1]) 1 rfl ?_
        refine me_getf (v := .ref (P.2.1 23)) rfl rfl rfl ?_
        refine me_go (pc1 := 50) (lv1 := [(0, .ref P.1), (1, .int x1), (2, .int x2), (3, .int x3), (4, .int x4), (5, .int x5), (6, .int x6)]) (st1 := [.int x6, .ref (P.2.1 23), .int (μ.2.1 23 x5.toNatClampNeg), .ref P.1]) 1 rfl ?_
        refine me_iald rfl (g := 23) rfl rfl h.1 ?_
        replace h := h.2
        refine me_callN rfl rfl rfl (h.mono (fun r5 μ5 h => ?_) (fun _ h => h))
        refine me_go (pc1 := 55) (lv1 := [(0, .ref P.1), (1, .int x1), (2, .int x2), (3, .int x3), (4, .int x4), (5, .int x5), (6, .int x6)]) (st1 := [.ref P.1]) 1 rfl ?_
        refine me_getf (v := .ref (P.2.1 27)) rfl rfl rfl ?_
        refine me_go (pc1 := 60) (lv1 := [(0, .ref P.1), (1, .int x1), (2, .int x2), (3, .int x3), (4, .int x4), (5, .int x5), (6, .int x6)]) (st1 := [.int x5, .ref (P.2.1 27)]) 1 rfl ?_
        refine me_iald rfl (g := 27) rfl rfl h.1 ?_
        replace h := h.2
        refine me_go (pc1 := 64) (lv1 := [(5, .int (μ5.2.1 27 x5.toNatClampNeg)), (0, .ref P.1), (1, .int x1), (2, .int x2), (3, .int x3), (4, .int x4), (6, .int x6)]) (st1 := [.ref P.1]) 2 rfl ?_
        refine me_getf (v := .ref (P.2.1 27)) rfl rfl rfl ?_
        refine me_go (pc1 := 69) (lv1 := [(5, .int (μ5.2.1 27 x5.toNatClampNeg)), (0, .ref P.1), (1, .int x1), (2, .int x2), (3, .int x3), (4, .int x4), (6, .int x6)]) (st1 := [.int x6, .ref (P.2.1 27)]) 1 rfl ?_
        refine me_iald rfl (g := 27) rfl rfl h.1 ?_
        replace h := h.2
        refine me_go (pc1 := 7) (lv1 := [(6, .int (μ5.2.1 27 x6.toNatClampNeg)), (5, .int (μ5.2.1 27 x5.toNatClampNeg)), (0, .ref P.1), (1, .int x1), (2, .int x2), (3, .int x3), (4, .int x4)]) (st1 := []) 2 rfl ?_
        refine me_lv [(0, .ref P.1), (1, .int x1), (2, .int x2), (3, .int x3), (4, .int x4), (5, .int (μ5.2.1 27 x5.toNatClampNeg)), (6, .int (μ5.2.1 27 x6.toNatClampNeg))] (fl_c rfl (fl_c rfl (fl_c rfl (fl_c rfl (fl_c rfl (fl_c rfl (fl_c rfl fl_0))))))) ?_
        exact h
      · replace h := h.2 (cn_eq c)
        refine me_go (pc1 := 35) (lv1 := [(0, .ref P.1), (1, .int x1), (2, .int x2), (3, .int x3), (4, .int x4), (5, .int x5), (6, .int x6)]) (st1 := [.int 0]) 1 rfl ?_
        exact me_retB rfl rfl (by decide) h
theorem v_hasException_0 {X : ev_X} {W : Nat → Prop} {d : Nat} {P : MP} {μ : MS} {R : Int32 → MS → Prop} {T : MS → Prop} (x1 : Int32) (x2 : Int32) (h : (MI x1 (μ.2.2 24) ∧ ME X W true d 380 7 [(0, .ref P.1), (1, .int x1), (2, .int x2), (3, .int (μ.2.1 24 x1.toNatClampNeg))] [] P μ R T)) : ME X W true d 380 0 [(0, .ref P.1), (1, .int x1), (2, .int x2)] [] P μ R T := by
  refine me_go (pc1 := 1) (lv1 := [(0, .ref P.1), (1, .int x1), (2, .int x2)]) (st1 := [.ref P.1]) 1 rfl ?_
  refine me_getf (v := .ref (P.2.1 24)) rfl rfl rfl ?_
  refine me_go (pc1 := 5) (lv1 := [(0, .ref P.1), (1, .int x1), (2, .int x2)]) (st1 := [.int x1, .ref (P.2.1 24)]) 1 rfl ?_
  refine me_iald rfl (g := 24) rfl rfl h.1 ?_
  replace h := h.2
  refine me_go (pc1 := 7) (lv1 := [(3, .int (μ.2.1 24 x1.toNatClampNeg)), (0, .ref P.1), (1, .int x1), (2, .int x2)]) (st1 := []) 1 rfl ?_
  refine me_lv [(0, .ref P.1), (1, .int x1), (2, .int x2), (3, .int (μ.2.1 24 x1.toNatClampNeg))] (fl_c rfl (fl_c rfl (fl_c rfl (fl_c rfl fl_0)))) ?_
  exact h
theorem v_hasException_7 {X : ev_X} {W : Nat → Prop} {d : Nat} {P : MP} {μ : MS} {R : Int32 → MS → Prop} {T : MS → Prop} (x1 : Int32) (x2 : Int32) (x3 : Int32) (h : ((x3.toInt < (0 : Int) → R 0 μ) ∧ ((0 : Int) ≤ x3.toInt → MC X W true d 376 [.ref P.1, .int x3] P μ (fun r1 μ1 => ((¬ r1 = x2 → (MI x3 (μ1.2.2 27) ∧ ME X W true d 380 7 [(0, .ref P.1), (1, .int x1), (2, .int x2), (3, .int (μ1.2.1 27 x3.toNatClampNeg))] [] P μ1 R T)) ∧ (r1 = x2 → R 1 μ1))) (fun _ => False)))) : ME X W true d 380 7 [(0, .ref P.1), (1, .int x1), (2, .int x2), (3, .int x3)] [] P μ R T := by
  refine me_go (pc1 := 8) (lv1 := [(0, .ref P.1), (1, .int x1), (2, .int x2), (3, .int x3)]) (st1 := [.int x3]) 1 rfl ?_
  refine me_ifc rfl rfl (fun c => ?_) (fun c => ?_)
  · replace h := h.1 (ci_lt c)
    refine me_go (pc1 := 33) (lv1 := [(0, .ref P.1), (1, .int x1), (2, .int x2), (3, .int x3)]) (st1 := [.int 0]) 1 rfl ?_
    exact me_retB rfl rfl (by decide) h
  · replace h := h.2 (cn_lt c)
    refine me_go (pc1 := 13) (lv1 := [(0, .ref P.1), (1, .int x1), (2, .int x2), (3, .int x3)]) (st1 := [.int x3, .ref P.1]) 2 rfl ?_
    refine me_callN rfl rfl rfl (h.mono (fun r1 μ1 h => ?_) (fun _ h => h))
    refine me_go (pc1 := 17) (lv1 := [(0, .ref P.1), (1, .int x1), (2, .int x2), (3, .int x3)]) (st1 := [.int x2, .int r1]) 1 rfl ?_
    refine me_icmp rfl rfl (fun c => ?_) (fun c => ?_)
    · replace h := h.1 (ci_ne c)
      refine me_go (pc1 := 23) (lv1 := [(0, .ref P.1), (1, .int x1), (2, .int x2), (3, .int x3)]) (st1 := [.ref P.1]) 1 rfl ?_
      refine me_getf (v := .ref (P.2.1 27)) rfl rfl rfl ?_
      refine me_go (pc1 := 27) (lv1 := [(0, .ref P.1), (1, .int x1), (2, .int x2), (3, .int x3)]) (st1 := [.int x3, .ref (P.2.1 27)]) 1 rfl ?_
      refine me_iald rfl (g := 27) rfl rfl h.1 ?_
      replace h := h.2
      refine me_go (pc1 := 7) (lv1 := [(3, .int (μ1.2.1 27 x3.toNatClampNeg)), (0, .ref P.1), (1, .int x1), (2, .int x2)]) (st1 := []) 2 rfl ?_
      refine me_lv [(0, .ref P.1), (1, .int x1), (2, .int x2), (3, .int (μ1.2.1 27 x3.toNatClampNeg))] (fl_c rfl (fl_c rfl (fl_c rfl (fl_c rfl fl_0)))) ?_
      exact h
    · replace h := h.2 (cn_ne c)
      refine me_go (pc1 := 21) (lv1 := [(0, .ref P.1), (1, .int x1), (2, .int x2), (3, .int x3)]) (st1 := [.int 1]) 1 rfl ?_
      exact me_retB rfl rfl (by decide) h
theorem v_setWithin_0 {X : ev_X} {W : Nat → Prop} {d : Nat} {P : MP} {μ : MS} {R : Int32 → MS → Prop} {T : MS → Prop} (x1 : Int32) (x2 : Int32) (h : (MI x1 (μ.2.2 24) ∧ ME X W true d 381 7 [(0, .ref P.1), (1, .int x1), (2, .int x2), (3, .int (μ.2.1 24 x1.toNatClampNeg))] [] P μ R T)) : ME X W true d 381 0 [(0, .ref P.1), (1, .int x1), (2, .int x2)] [] P μ R T := by
  refine me_go (pc1 := 1) (lv1 := [(0, .ref P.1), (1, .int x1), (2, .int x2)]) (st1 := [.ref P.1]) 1 rfl ?_
  refine me_getf (v := .ref (P.2.1 24)) rfl rfl rfl ?_
  refine me_go (pc1 := 5) (lv1 := [(0, .ref P.1), (1, .int x1), (2, .int x2)]) (st1 := [.int x1, .ref (P.2.1 24)]) 1 rfl ?_
  refine me_iald rfl (g := 24) rfl rfl h.1 ?_
  replace h := h.2
  refine me_go (pc1 := 7) (lv1 := [(3, .int (μ.2.1 24 x1.toNatClampNeg)), (0, .ref P.1), (1, .int x1), (2, .int x2)]) (st1 := []) 1 rfl ?_
  refine me_lv [(0, .ref P.1), (1, .int x1), (2, .int x2), (3, .int (μ.2.1 24 x1.toNatClampNeg))] (fl_c rfl (fl_c rfl (fl_c rfl (fl_c rfl fl_0)))) ?_
  exact h
theorem v_setWithin_7 {X : ev_X} {W : Nat → Prop} {d : Nat} {P : MP} {μ : MS} {R : Int32 → MS → Prop} {T : MS → Prop} (x1 : Int32) (x2 : Int32) (x3 : Int32) (h : ((x3.toInt < (0 : Int) → R 1 μ) ∧ ((0 : Int) ≤ x3.toInt → MC X W true d 376 [.ref P.1, .int x3] P μ (fun r1 μ1 => MC X W true d 380 [.ref P.1, .int x2, .int r1] P μ1 (fun r2 μ2 => ((¬ r2 = 0 → (MI x3 (μ2.2.2 27) ∧ ME X W true d 381 7 [(0, .ref P.1), (1, .int x1), (2, .int x2), (3, .int (μ2.2.1 27 x3.toNatClampNeg))] [] P μ2 R T)) ∧ (r2 = 0 → R 0 μ2))) (fun _ => False)) (fun _ => False)))) : ME X W true d 381 7 [(0, .ref P.1), (1, .int x1), (2, .int x2), (3, .int x3)] [] P μ R T := by
  refine me_go (pc1 := 8) (lv1 := [(0, .ref P.1), (1, .int x1), (2, .int x2), (3, .int x3)]) (st1 := [.int x3]) 1 rfl ?_
  refine me_ifc rfl rfl (fun c => ?_) (fun c => ?_)
  · replace h := h.1 (ci_lt c)
    refine me_go (pc1 := 37) (lv1 := [(0, .ref P.1), (1, .int x1), (2, .int x2), (3, .int x3)]) (st1 := [.int 1]) 1 rfl ?_
    exact me_retB rfl rfl (by decide) h
  · replace h := h.2 (cn_lt c)
    refine me_go (pc1 := 15) (lv1 := [(0, .ref P.1), (1, .int x1), (2, .int x2), (3, .int x3)]) (st1 := [.int x3, .ref P.1, .int x2, .ref P.1]) 4 rfl ?_
    refine me_callN rfl rfl rfl (h.mono (fun r1 μ1 h => ?_) (fun _ h => h))
    refine me_callN rfl rfl rfl (h.mono (fun r2 μ2 h => ?_) (fun _ h => h))
    refine me_ifc rfl rfl (fun c => ?_) (fun c => ?_)
    · replace h := h.1 (ci_ne c)
      refine me_go (pc1 := 27) (lv1 := [(0, .ref P.1), (1, .int x1), (2, .int x2), (3, .int x3)]) (st1 := [.ref P.1]) 1 rfl ?_
      refine me_getf (v := .ref (P.2.1 27)) rfl rfl rfl ?_
      refine me_go (pc1 := 31) (lv1 := [(0, .ref P.1), (1, .int x1), (2, .int x2), (3, .int x3)]) (st1 := [.int x3, .ref (P.2.1 27)]) 1 rfl ?_
      refine me_iald rfl (g := 27) rfl rfl h.1 ?_
      replace h := h.2
      refine me_go (pc1 := 7) (lv1 := [(3, .int (μ2.2.1 27 x3.toNatClampNeg)), (0, .ref P.1), (1, .int x1), (2, .int x2)]) (st1 := []) 2 rfl ?_
      refine me_lv [(0, .ref P.1), (1, .int x1), (2, .int x2), (3, .int (μ2.2.1 27 x3.toNatClampNeg))] (fl_c rfl (fl_c rfl (fl_c rfl (fl_c rfl fl_0)))) ?_
      exact h
    · replace h := h.2 (cn_ne c)
      refine me_go (pc1 := 25) (lv1 := [(0, .ref P.1), (1, .int x1), (2, .int x2), (3, .int x3)]) (st1 := [.int 0]) 1 rfl ?_
      exact me_retB rfl rfl (by decide) h
theorem v_sameSets_0 {X : ev_X} {W : Nat → Prop} {d : Nat} {P : MP} {μ : MS} {R : Int32 → MS → Prop} {T : MS → Prop} (x1 : Int32) (x2 : Int32) (h : MC X W true d 381 [.ref P.1, .int x1, .int x2] P μ (fun r1 μ1 => ((r1 = 0 → R 0 μ1) ∧ (¬ r1 = 0 → MC X W true d 381 [.ref P.1, .int x2, .int x1] P μ1 (fun r2 μ2 => ((r2 = 0 → R 0 μ2) ∧ (¬ r2 = 0 → R 1 μ2))) (fun _ => False)))) (fun _ => False)) : ME X W true d 382 0 [(0, .ref P.1), (1, .int x1), (2, .int x2)] [] P μ R T := by
  refine me_go (pc1 := 3) (lv1 := [(0, .ref P.1), (1, .int x1), (2, .int x2)]) (st1 := [.int x2, .int x1, .ref P.1]) 3 rfl ?_
  refine me_callN rfl rfl rfl (h.mono (fun r1 μ1 h => ?_) (fun _ h => h))
  refine me_ifc rfl rfl (fun c => ?_) (fun c => ?_)
  · replace h := h.1 (ci_eq c)
    refine me_go (pc1 := 23) (lv1 := [(0, .ref P.1), (1, .int x1), (2, .int x2)]) (st1 := [.int 0]) 1 rfl ?_
    exact me_retB rfl rfl (by decide) h
  · replace h := h.2 (cn_eq c)
    refine me_go (pc1 := 12) (lv1 := [(0, .ref P.1), (1, .int x1), (2, .int x2)]) (st1 := [.int x1, .int x2, .ref P.1]) 3 rfl ?_
    refine me_callN rfl rfl rfl (h.mono (fun r2 μ2 h => ?_) (fun _ h => h))
    refine me_ifc rfl rfl (fun c => ?_) (fun c => ?_)
    · replace h := h.1 (ci_eq c)
      refine me_go (pc1 := 23) (lv1 := [(0, .ref P.1), (1, .int x1), (2, .int x2)]) (st1 := [.int 0]) 1 rfl ?_
      exact me_retB rfl rfl (by decide) h
    · replace h := h.2 (cn_eq c)
      refine me_go (pc1 := 23) (lv1 := [(0, .ref P.1), (1, .int x1), (2, .int x2)]) (st1 := [.int 1]) 2 rfl ?_
      exact me_retB rfl rfl (by decide) h
theorem v_alikeFrom_0 {X : ev_X} {W : Nat → Prop} {d : Nat} {P : MP} {μ : MS} {R : Int32 → MS → Prop} {T : MS → Prop} (x1 : Int32) (x2 : Int32) (x3 : Int32) (x4 : Int32) (h : MC X W true d 379 [.ref P.1, .int x1, .int x2, .int x3, .int x4] P (mS1 μ 69 0) (fun r1 μ1 => ((r1 = 0 → ME X W true d 383 32 [(0, .ref P.1), (1, .int x1), (2, .int x2), (3, .int x3), (4, .int x4), (5, .int (μ.1 67))] [] P μ1 R T) ∧ (¬ r1 = 0 → MC X W true d 372 [.ref P.1] P μ1 (fun r2 μ2 => ((r2 = 0 → ME X W true d 383 32 [(0, .ref P.1), (1, .int x1), (2, .int x2), (3, .int x3), (4, .int x4), (5, .int (μ.1 67))] [] P μ2 R T) ∧ (¬ r2 = 0 → R 1 μ2))) (fun _ => False)))) (fun _ => False)) : ME X W true d 383 0 [(0, .ref P.1), (1, .int x1), (2, .int x2), (3, .int x3), (4, .int x4)] [] P μ R T := by
  refine me_go (pc1 := 1) (lv1 := [(0, .ref P.1), (1, .int x1), (2, .int x2), (3, .int x3), (4, .int x4)]) (st1 := [.ref P.1]) 1 rfl ?_
  refine me_getf (v := .int (μ.1 67)) rfl rfl rfl ?_
  refine me_go (pc1 := 8) (lv1 := [(5, .int (μ.1 67)), (0, .ref P.1), (1, .int x1), (2, .int x2), (3, .int x3), (4, .int x4)]) (st1 := [.int 0, .ref P.1]) 3 rfl ?_
  refine me_put rfl rfl rfl ?_
  refine me_go (pc1 := 17) (lv1 := [(5, .int (μ.1 67)), (0, .ref P.1), (1, .int x1), (2, .int x2), (3, .int x3), (4, .int x4)]) (st1 := [.int x4, .int x3, .int x2, .int x1, .ref P.1]) 5 rfl ?_
  refine me_callN rfl rfl rfl (h.mono (fun r1 μ1 h => ?_) (fun _ h => h))
  refine me_ifc rfl rfl (fun c => ?_) (fun c => ?_)
  · replace h := h.1 (ci_eq c)
    refine me_lv [(0, .ref P.1), (1, .int x1), (2, .int x2), (3, .int x3), (4, .int x4), (5, .int (μ.1 67))] (fl_c rfl (fl_c rfl (fl_c rfl (fl_c rfl (fl_c rfl (fl_c rfl fl_0)))))) ?_
    exact h
  · replace h := h.2 (cn_eq c)
    refine me_go (pc1 := 24) (lv1 := [(5, .int (μ.1 67)), (0, .ref P.1), (1, .int x1), (2, .int x2), (3, .int x3), (4, .int x4)]) (st1 := [.ref P.1]) 1 rfl ?_
    refine me_callN rfl rfl rfl (h.mono (fun r2 μ2 h => ?_) (fun _ h => h))
    refine me_ifc rfl rfl (fun c => ?_) (fun c => ?_)
    · replace h := h.1 (ci_eq c)
      refine me_lv [(0, .ref P.1), (1, .int x1), (2, .int x2), (3, .int x3), (4, .int x4), (5, .int (μ.1 67))] (fl_c rfl (fl_c rfl (fl_c rfl (fl_c rfl (fl_c rfl (fl_c rfl fl_0)))))) ?_
      exact h
    · replace h := h.2 (cn_eq c)
      refine me_go (pc1 := 31) (lv1 := [(5, .int (μ.1 67)), (0, .ref P.1), (1, .int x1), (2, .int x2), (3, .int x3), (4, .int x4)]) (st1 := [.int 1]) 1 rfl ?_
      exact me_retB rfl rfl (by decide) h
theorem v_alikeFrom_32 {X : ev_X} {W : Nat → Prop} {d : Nat} {P : MP} {μ : MS} {R : Int32 → MS → Prop} {T : MS → Prop} (x1 : Int32) (x2 : Int32) (x3 : Int32) (x4 : Int32) (x5 : Int32) (h : (((μ.1 67).toInt ≤ x5.toInt → R 0 μ) ∧ (x5.toInt < (μ.1 67).toInt → (MI ((μ.1 67) - 1) (μ.2.2 68) ∧ (MI (μ.2.1 68 (((μ.1 67) - 1)).toNatClampNeg) (μ.2.2 66) ∧ ME X W true d 383 32 [(0, .ref P.1), (1, .int x1), (2, .int x2), (3, .int x3), (4, .int x4), (5, .int x5)] [] P (mA1 (mS1 μ 67 ((μ.1 67) - 1)) 66 (((μ.2.1 68 (((μ.1 67) - 1)).toNatClampNeg)).toNatClampNeg) (-1)) R T))))) : ME X W true d 383 32 [(0, .ref P.1), (1, .int x1), (2, .int x2), (3, .int x3), (4, .int x4), (5, .int x5)] [] P μ R T := by
  refine me_go (pc1 := 33) (lv1 := [(0, .ref P.1), (1, .int x1), (2, .int x2), (3, .int x3), (4, .int x4), (5, .int x5)]) (st1 := [.ref P.1]) 1 rfl ?_
  refine me_getf (v := .int (μ.1 67)) rfl rfl rfl ?_
  refine me_go (pc1 := 38) (lv1 := [(0, .ref P.1), (1, .int x1), (2, .int x2), (3, .int x3), (4, .int x4), (5, .int x5)]) (st1 := [.int x5, .int (μ.1 67)]) 1 rfl ?_
  refine me_icmp rfl rfl (fun c => ?_) (fun c => ?_)
  · replace h := h.1 (ci_le c)
    refine me_go (pc1 := 70) (lv1 := [(0, .ref P.1), (1, .int x1), (2, .int x2), (3, .int x3), (4, .int x4), (5, .int x5)]) (st1 := [.int 0]) 1 rfl ?_
    exact me_retB rfl rfl (by decide) h
  · replace h := h.2 (cn_le c)
    refine me_go (pc1 := 43) (lv1 := [(0, .ref P.1), (1, .int x1), (2, .int x2), (3, .int x3), (4, .int x4), (5, .int x5)]) (st1 := [.ref P.1, .ref P.1]) 2 rfl ?_
    refine me_getf (v := .int (μ.1 67)) rfl rfl rfl ?_
    refine me_go (pc1 := 48) (lv1 := [(0, .ref P.1), (1, .int x1), (2, .int x2), (3, .int x3), (4, .int x4), (5, .int x5)]) (st1 := [.int ((μ.1 67) - 1), .ref P.1]) 2 rfl ?_
    refine me_put rfl rfl rfl ?_
    refine me_go (pc1 := 52) (lv1 := [(0, .ref P.1), (1, .int x1), (2, .int x2), (3, .int x3), (4, .int x4), (5, .int x5)]) (st1 := [.ref P.1]) 1 rfl ?_
    refine me_getf (v := .ref (P.2.1 66)) rfl rfl rfl ?_
    refine me_go (pc1 := 56) (lv1 := [(0, .ref P.1), (1, .int x1), (2, .int x2), (3, .int x3), (4, .int x4), (5, .int x5)]) (st1 := [.ref P.1, .ref (P.2.1 66)]) 1 rfl ?_
    refine me_getf (v := .ref (P.2.1 68)) rfl rfl rfl ?_
    refine me_go (pc1 := 60) (lv1 := [(0, .ref P.1), (1, .int x1), (2, .int x2), (3, .int x3), (4, .int x4), (5, .int x5)]) (st1 := [.ref P.1, .ref (P.2.1 68), .ref (P.2.1 66)]) 1 rfl ?_
    refine me_getf (v := .int ((μ.1 67) - 1)) rfl rfl rfl ?_
    refine me_iald rfl (g := 68) rfl rfl h.1 ?_
    replace h := h.2
    refine me_go (pc1 := 65) (lv1 := [(0, .ref P.1), (1, .int x1), (2, .int x2), (3, .int x3), (4, .int x4), (5, .int x5)]) (st1 := [.int (-1), .int (μ.2.1 68 (((μ.1 67) - 1)).toNatClampNeg), .ref (P.2.1 66)]) 1 rfl ?_
    have hi := h.1
    replace h := h.2
    refine me_iast rfl (g := 66) rfl rfl hi ?_
    refine me_go (pc1 := 32) (lv1 := [(0, .ref P.1), (1, .int x1), (2, .int x2), (3, .int x3), (4, .int x4), (5, .int x5)]) (st1 := []) 1 rfl ?_
    exact h
theorem v_seesNode_0 {X : ev_X} {W : Nat → Prop} {d : Nat} {P : MP} {μ : MS} {R : Int32 → MS → Prop} {T : MS → Prop} (x1 : Int32) (x2 : Int32) (h : (MI x2 (μ.2.2 29) ∧ (((μ.2.1 29 x2.toNatClampNeg) = x1 → R 1 μ) ∧ (¬ (μ.2.1 29 x2.toNatClampNeg) = x1 → (MI x1 (μ.2.2 50) ∧ ((¬ (μ.2.1 50 x1.toNatClampNeg) = (μ.2.1 29 x2.toNatClampNeg) → (MI x1 (μ.2.2 42) ∧ (MI (μ.2.1 42 x1.toNatClampNeg) (μ.2.2 23) ∧ ME X W true d 384 37 [(0, .ref P.1), (1, .int x1), (2, .int x2), (3, .int (μ.2.1 29 x2.toNatClampNeg)), (4, .int (μ.2.1 23 ((μ.2.1 42 x1.toNatClampNeg)).toNatClampNeg))] [] P μ R T))) ∧ ((μ.2.1 50 x1.toNatClampNeg) = (μ.2.1 29 x2.toNatClampNeg) → R 1 μ))))))) : ME X W true d 384 0 [(0, .ref P.1), (1, .int x1), (2, .int x2)] [] P μ R T := by
  refine me_go (pc1 := 1) (lv1 := [(0, .ref P.1), (1, .int x1), (2, .int x2)]) (st1 := [.ref P.1]) 1 rfl ?_
  refine me_getf (v := .ref (P.2.1 29)) rfl rfl rfl ?_
  refine me_go (pc1 := 5) (lv1 := [(0, .ref P.1), (1, .int x1), (2, .int x2)]) (st1 := [.int x2, .ref (P.2.1 29)]) 1 rfl ?_
  refine me_iald rfl (g := 29) rfl rfl h.1 ?_
  replace h := h.2
  refine me_go (pc1 := 9) (lv1 := [(3, .int (μ.2.1 29 x2.toNatClampNeg)), (0, .ref P.1), (1, .int x1), (2, .int x2)]) (st1 := [.int x1, .int (μ.2.1 29 x2.toNatClampNeg)]) 3 rfl ?_
  refine me_icmp rfl rfl (fun c => ?_) (fun c => ?_)
  · replace h := h.1 (ci_eq c)
    refine me_go (pc1 := 23) (lv1 := [(3, .int (μ.2.1 29 x2.toNatClampNeg)), (0, .ref P.1), (1, .int x1), (2, .int x2)]) (st1 := [.int 1]) 1 rfl ?_
    exact me_retB rfl rfl (by decide) h
  · replace h := h.2 (cn_eq c)
    refine me_go (pc1 := 13) (lv1 := [(3, .int (μ.2.1 29 x2.toNatClampNeg)), (0, .ref P.1), (1, .int x1), (2, .int x2)]) (st1 := [.ref P.1]) 1 rfl ?_
    refine me_getf (v := .ref (P.2.1 50)) rfl rfl rfl ?_
    refine me_go (pc1 := 17) (lv1 := [(3, .int (μ.2.1 29 x2.toNatClampNeg)), (0, .ref P.1), (1, .int x1), (2, .int x2)]) (st1 := [.int x1, .ref (P.2.1 50)]) 1 rfl ?_
    refine me_iald rfl (g := 50) rfl rfl h.1 ?_
    replace h := h.2
    refine me_go (pc1 := 19) (lv1 := [(3, .int (μ.2.1 29 x2.toNatClampNeg)), (0, .ref P.1), (1, .int x1), (2, .int x2)]) (st1 := [.int (μ.2.1 29 x2.toNatClampNeg), .int (μ.2.1 50 x1.toNatClampNeg)]) 1 rfl ?_
    refine me_icmp rfl rfl (fun c => ?_) (fun c => ?_)
    · replace h := h.1 (ci_ne c)
      refine me_go (pc1 := 25) (lv1 := [(3, .int (μ.2.1 29 x2.toNatClampNeg)), (0, .ref P.1), (1, .int x1), (2, .int x2)]) (st1 := [.ref P.1]) 1 rfl ?_
      refine me_getf (v := .ref (P.2.1 23)) rfl rfl rfl ?_
      refine me_go (pc1 := 29) (lv1 := [(3, .int (μ.2.1 29 x2.toNatClampNeg)), (0, .ref P.1), (1, .int x1), (2, .int x2)]) (st1 := [.ref P.1, .ref (P.2.1 23)]) 1 rfl ?_
      refine me_getf (v := .ref (P.2.1 42)) rfl rfl rfl ?_
      refine me_go (pc1 := 33) (lv1 := [(3, .int (μ.2.1 29 x2.toNatClampNeg)), (0, .ref P.1), (1, .int x1), (2, .int x2)]) (st1 := [.int x1, .ref (P.2.1 42), .ref (P.2.1 23)]) 1 rfl ?_
      refine me_iald rfl (g := 42) rfl rfl h.1 ?_
      replace h := h.2
      refine me_iald rfl (g := 23) rfl rfl h.1 ?_
      replace h := h.2
      refine me_go (pc1 := 37) (lv1 := [(4, .int (μ.2.1 23 ((μ.2.1 42 x1.toNatClampNeg)).toNatClampNeg)), (3, .int (μ.2.1 29 x2.toNatClampNeg)), (0, .ref P.1), (1, .int x1), (2, .int x2)]) (st1 := []) 1 rfl ?_
      refine me_lv [(0, .ref P.1), (1, .int x1), (2, .int x2), (3, .int (μ.2.1 29 x2.toNatClampNeg)), (4, .int (μ.2.1 23 ((μ.2.1 42 x1.toNatClampNeg)).toNatClampNeg))] (fl_c rfl (fl_c rfl (fl_c rfl (fl_c rfl (fl_c rfl fl_0))))) ?_
      exact h
    · replace h := h.2 (cn_ne c)
      refine me_go (pc1 := 23) (lv1 := [(3, .int (μ.2.1 29 x2.toNatClampNeg)), (0, .ref P.1), (1, .int x1), (2, .int x2)]) (st1 := [.int 1]) 1 rfl ?_
      exact me_retB rfl rfl (by decide) h
theorem v_seesNode_37 {X : ev_X} {W : Nat → Prop} {d : Nat} {P : MP} {μ : MS} {R : Int32 → MS → Prop} {T : MS → Prop} (x1 : Int32) (x2 : Int32) (x3 : Int32) (x4 : Int32) (h : ((x4.toInt < (0 : Int) → R 0 μ) ∧ ((0 : Int) ≤ x4.toInt → (MI x4 (μ.2.2 22) ∧ MC X W true d 342 [.ref P.1, .int x1, .int (μ.2.1 22 x4.toNatClampNeg), .int 1] P μ (fun r1 μ1 => ((r1.toInt < (0 : Int) → (MI x4 (μ1.2.2 27) ∧ ME X W true d 384 37 [(0, .ref P.1), (1, .int x1), (2, .int x2), (3, .int x3), (4, .int (μ1.2.1 27 x4.toNatClampNeg))] [] P μ1 R T)) ∧ ((0 : Int) ≤ r1.toInt → (MI r1 (μ1.2.2 45) ∧ ((¬ (μ1.2.1 45 r1.toNatClampNeg) = 2 → (MI x4 (μ1.2.2 27) ∧ ME X W true d 384 37 [(0, .ref P.1), (1, .int x1), (2, .int x2), (3, .int x3), (4, .int (μ1.2.1 27 x4.toNatClampNeg))] [] P μ1 R T)) ∧ ((μ1.2.1 45 r1.toNatClampNeg) = 2 → (MI r1 (μ1.2.2 47) ∧ ((¬ (μ1.2.1 47 r1.toNatClampNeg) = x3 → (MI x4 (μ1.2.2 27) ∧ ME X W true d 384 37 [(0, .ref P.1), (1, .int x1), (2, .int x2), (3, .int x3), (4, .int (μ1.2.1 27 x4.toNatClampNeg))] [] P μ1 R T)) ∧ ((μ1.2.1 47 r1.toNatClampNeg) = x3 → R 1 μ1))))))))) (fun _ => False))))) : ME X W true d 384 37 [(0, .ref P.1), (1, .int x1), (2, .int x2), (3, .int x3), (4, .int x4)] [] P μ R T := by
  refine me_go (pc1 := 39) (lv1 := [(0, .ref P.1), (1, .int x1), (2, .int x2), (3, .int x3), (4, .int x4)]) (st1 := [.int x4]) 1 rfl ?_
  refine me_ifc rfl rfl (fun c => ?_) (fun c => ?_)
  · replace h := h.1 (ci_lt c)
    refine me_go (pc1 := 99) (lv1 := [(0, .ref P.1), (1, .int x1), (2, .int x2), (3, .int x3), (4, .int x4)]) (st1 := [.int 0]) 1 rfl ?_
    exact me_retB rfl rfl (by decide) h
  · replace h := h.2 (cn_lt c)
    refine me_go (pc1 := 45) (lv1 := [(0, .ref P.1), (1, .int x1), (2, .int x2), (3, .int x3), (4, .int x4)]) (st1 := [.ref P.1, .int x1, .ref P.1]) 3 rfl ?_
    refine me_getf (v := .ref (P.2.1 22)) rfl rfl rfl ?_
    refine me_go (pc1 := 50) (lv1 := [(0, .ref P.1), (1, .int x1), (2, .int x2), (3, .int x3), (4, .int x4)]) (st1 := [.int x4, .ref (P.2.1 22), .int x1, .ref P.1]) 1 rfl ?_
    refine me_iald rfl (g := 22) rfl rfl h.1 ?_
    replace h := h.2
    refine me_go (pc1 := 52) (lv1 := [(0, .ref P.1), (1, .int x1), (2, .int x2), (3, .int x3), (4, .int x4)]) (st1 := [.int 1, .int (μ.2.1 22 x4.toNatClampNeg), .int x1, .ref P.1]) 1 rfl ?_
    refine me_callN rfl rfl rfl (h.mono (fun r1 μ1 h => ?_) (fun _ h => h))
    refine me_go (pc1 := 59) (lv1 := [(5, .int r1), (0, .ref P.1), (1, .int x1), (2, .int x2), (3, .int x3), (4, .int x4)]) (st1 := [.int r1]) 2 rfl ?_
    refine me_ifc rfl rfl (fun c => ?_) (fun c => ?_)
    · replace h := h.1 (ci_lt c)
      refine me_go (pc1 := 87) (lv1 := [(5, .int r1), (0, .ref P.1), (1, .int x1), (2, .int x2), (3, .int x3), (4, .int x4)]) (st1 := [.ref P.1]) 1 rfl ?_
      refine me_getf (v := .ref (P.2.1 27)) rfl rfl rfl ?_
      refine me_go (pc1 := 92) (lv1 := [(5, .int r1), (0, .ref P.1), (1, .int x1), (2, .int x2), (3, .int x3), (4, .int x4)]) (st1 := [.int x4, .ref (P.2.1 27)]) 1 rfl ?_
      refine me_iald rfl (g := 27) rfl rfl h.1 ?_
      replace h := h.2
      refine me_go (pc1 := 37) (lv1 := [(4, .int (μ1.2.1 27 x4.toNatClampNeg)), (5, .int r1), (0, .ref P.1), (1, .int x1), (2, .int x2), (3, .int x3)]) (st1 := []) 2 rfl ?_
      refine me_lv [(0, .ref P.1), (1, .int x1), (2, .int x2), (3, .int x3), (4, .int (μ1.2.1 27 x4.toNatClampNeg))] (fl_c rfl (fl_c rfl (fl_c rfl (fl_c rfl (fl_c rfl fl_0))))) ?_
      exact h
    · replace h := h.2 (cn_lt c)
      refine me_go (pc1 := 63) (lv1 := [(5, .int r1), (0, .ref P.1), (1, .int x1), (2, .int x2), (3, .int x3), (4, .int x4)]) (st1 := [.ref P.1]) 1 rfl ?_
      refine me_getf (v := .ref (P.2.1 45)) rfl rfl rfl ?_
      refine me_go (pc1 := 68) (lv1 := [(5, .int r1), (0, .ref P.1), (1, .int x1), (2, .int x2), (3, .int x3), (4, .int x4)]) (st1 := [.int r1, .ref (P.2.1 45)]) 1 rfl ?_
      refine me_iald rfl (g := 45) rfl rfl h.1 ?_
      replace h := h.2
      refine me_go (pc1 := 70) (lv1 := [(5, .int r1), (0, .ref P.1), (1, .int x1), (2, .int x2), (3, .int x3), (4, .int x4)]) (st1 := [.int 2, .int (μ1.2.1 45 r1.toNatClampNeg)]) 1 rfl ?_
      refine me_icmp rfl rfl (fun c => ?_) (fun c => ?_)
      · replace h := h.1 (ci_ne c)
        refine me_go (pc1 := 87) (lv1 := [(5, .int r1), (0, .ref P.1), (1, .int x1), (2, .int x2), (3, .int x3), (4, .int x4)]) (st1 := [.ref P.1]) 1 rfl ?_
        refine me_getf (v := .ref (P.2.1 27)) rfl rfl rfl ?_
        refine me_go (pc1 := 92) (lv1 := [(5, .int r1), (0, .ref P.1), (1, .int x1), (2, .int x2), (3, .int x3), (4, .int x4)]) (st1 := [.int x4, .ref (P.2.1 27)]) 1 rfl ?_
        refine me_iald rfl (g := 27) rfl rfl h.1 ?_
        replace h := h.2
        refine me_go (pc1 := 37) (lv1 := [(4, .int (μ1.2.1 27 x4.toNatClampNeg)), (5, .int r1), (0, .ref P.1), (1, .int x1), (2, .int x2), (3, .int x3)]) (st1 := []) 2 rfl ?_
        refine me_lv [(0, .ref P.1), (1, .int x1), (2, .int x2), (3, .int x3), (4, .int (μ1.2.1 27 x4.toNatClampNeg))] (fl_c rfl (fl_c rfl (fl_c rfl (fl_c rfl (fl_c rfl fl_0))))) ?_
        exact h
      · replace h := h.2 (cn_ne c)
        refine me_go (pc1 := 74) (lv1 := [(5, .int r1), (0, .ref P.1), (1, .int x1), (2, .int x2), (3, .int x3), (4, .int x4)]) (st1 := [.ref P.1]) 1 rfl ?_
        refine me_getf (v := .ref (P.2.1 47)) rfl rfl rfl ?_
        refine me_go (pc1 := 79) (lv1 := [(5, .int r1), (0, .ref P.1), (1, .int x1), (2, .int x2), (3, .int x3), (4, .int x4)]) (st1 := [.int r1, .ref (P.2.1 47)]) 1 rfl ?_
        refine me_iald rfl (g := 47) rfl rfl h.1 ?_
        replace h := h.2
        refine me_go (pc1 := 81) (lv1 := [(5, .int r1), (0, .ref P.1), (1, .int x1), (2, .int x2), (3, .int x3), (4, .int x4)]) (st1 := [.int x3, .int (μ1.2.1 47 r1.toNatClampNeg)]) 1 rfl ?_
        refine me_icmp rfl rfl (fun c => ?_) (fun c => ?_)
        · replace h := h.1 (ci_ne c)
          refine me_go (pc1 := 87) (lv1 := [(5, .int r1), (0, .ref P.1), (1, .int x1), (2, .int x2), (3, .int x3), (4, .int x4)]) (st1 := [.ref P.1]) 1 rfl ?_
          refine me_getf (v := .ref (P.2.1 27)) rfl rfl rfl ?_
          refine me_go (pc1 := 92) (lv1 := [(5, .int r1), (0, .ref P.1), (1, .int x1), (2, .int x2), (3, .int x3), (4, .int x4)]) (st1 := [.int x4, .ref (P.2.1 27)]) 1 rfl ?_
          refine me_iald rfl (g := 27) rfl rfl h.1 ?_
          replace h := h.2
          refine me_go (pc1 := 37) (lv1 := [(4, .int (μ1.2.1 27 x4.toNatClampNeg)), (5, .int r1), (0, .ref P.1), (1, .int x1), (2, .int x2), (3, .int x3)]) (st1 := []) 2 rfl ?_
          refine me_lv [(0, .ref P.1), (1, .int x1), (2, .int x2), (3, .int x3), (4, .int (μ1.2.1 27 x4.toNatClampNeg))] (fl_c rfl (fl_c rfl (fl_c rfl (fl_c rfl (fl_c rfl fl_0))))) ?_
          exact h
        · replace h := h.2 (cn_ne c)
          refine me_go (pc1 := 85) (lv1 := [(5, .int r1), (0, .ref P.1), (1, .int x1), (2, .int x2), (3, .int x3), (4, .int x4)]) (st1 := [.int 1]) 1 rfl ?_
          exact me_retB rfl rfl (by decide) h
theorem v_wholeAbove_0 {X : ev_X} {W : Nat → Prop} {d : Nat} {P : MP} {μ : MS} {R : Int32 → MS → Prop} {T : MS → Prop} (x1 : Int32) (h : (MI x1 (μ.2.2 20) ∧ ((¬ (μ.2.1 20 x1.toNatClampNeg) = 32 → (MI x1 (μ.2.2 20) ∧ ((¬ (μ.2.1 20 x1.toNatClampNeg) = 4 → R (-1) μ) ∧ ((μ.2.1 20 x1.toNatClampNeg) = 4 → (MI x1 (μ.2.2 72) ∧ (((0 : Int) ≤ (μ.2.1 72 x1.toNatClampNeg).toInt → (MI x1 (μ.2.2 72) ∧ (MI (μ.2.1 72 x1.toNatClampNeg) (μ.2.2 23) ∧ MC X W true d 374 [.ref P.1, .int (μ.2.1 23 ((μ.2.1 72 x1.toNatClampNeg)).toNatClampNeg)] P μ (fun r1 μ1 => MC X W true d 365 [.ref P.1, .int r1] P μ1 (fun r2 μ2 => R r2 μ2) (fun _ => False)) (fun _ => False)))) ∧ ((μ.2.1 72 x1.toNatClampNeg).toInt < (0 : Int) → R (-1) μ))))))) ∧ ((μ.2.1 20 x1.toNatClampNeg) = 32 → MC X W true d 374 [.ref P.1, .int x1] P μ (fun r3 μ3 => MC X W true d 365 [.ref P.1, .int r3] P μ3 (fun r4 μ4 => R r4 μ4) (fun _ => False)) (fun _ => False))))) : ME X W true d 385 0 [(0, .ref P.1), (1, .int x1)] [] P μ R T := by
  refine me_go (pc1 := 1) (lv1 := [(0, .ref P.1), (1, .int x1)]) (st1 := [.ref P.1]) 1 rfl ?_
  refine me_getf (v := .ref (P.2.1 20)) rfl rfl rfl ?_
  refine me_go (pc1 := 5) (lv1 := [(0, .ref P.1), (1, .int x1)]) (st1 := [.int x1, .ref (P.2.1 20)]) 1 rfl ?_
  refine me_iald rfl (g := 20) rfl rfl h.1 ?_
  replace h := h.2
  refine me_go (pc1 := 8) (lv1 := [(0, .ref P.1), (1, .int x1)]) (st1 := [.int 32, .int (μ.2.1 20 x1.toNatClampNeg)]) 1 rfl ?_
  refine me_icmp rfl rfl (fun c => ?_) (fun c => ?_)
  · replace h := h.1 (ci_ne c)
    refine me_go (pc1 := 22) (lv1 := [(0, .ref P.1), (1, .int x1)]) (st1 := [.ref P.1]) 1 rfl ?_
    refine me_getf (v := .ref (P.2.1 20)) rfl rfl rfl ?_
    refine me_go (pc1 := 26) (lv1 := [(0, .ref P.1), (1, .int x1)]) (st1 := [.int x1, .ref (P.2.1 20)]) 1 rfl ?_
    refine me_iald rfl (g := 20) rfl rfl h.1 ?_
    replace h := h.2
    refine me_go (pc1 := 28) (lv1 := [(0, .ref P.1), (1, .int x1)]) (st1 := [.int 4, .int (μ.2.1 20 x1.toNatClampNeg)]) 1 rfl ?_
    refine me_icmp rfl rfl (fun c => ?_) (fun c => ?_)
    · replace h := h.1 (ci_ne c)
      refine me_go (pc1 := 41) (lv1 := [(0, .ref P.1), (1, .int x1)]) (st1 := [.int (-1)]) 1 rfl ?_
      exact me_ret rfl rfl rfl h
    · replace h := h.2 (cn_ne c)
      refine me_go (pc1 := 32) (lv1 := [(0, .ref P.1), (1, .int x1)]) (st1 := [.ref P.1]) 1 rfl ?_
      refine me_getf (v := .ref (P.2.1 72)) rfl rfl rfl ?_
      refine me_go (pc1 := 36) (lv1 := [(0, .ref P.1), (1, .int x1)]) (st1 := [.int x1, .ref (P.2.1 72)]) 1 rfl ?_
      refine me_iald rfl (g := 72) rfl rfl h.1 ?_
      replace h := h.2
      refine me_ifc rfl rfl (fun c => ?_) (fun c => ?_)
      · replace h := h.1 (ci_ge c)
        refine me_go (pc1 := 45) (lv1 := [(0, .ref P.1), (1, .int x1)]) (st1 := [.ref P.1, .ref P.1, .ref P.1]) 3 rfl ?_
        refine me_getf (v := .ref (P.2.1 23)) rfl rfl rfl ?_
        refine me_go (pc1 := 49) (lv1 := [(0, .ref P.1), (1, .int x1)]) (st1 := [.ref P.1, .ref (P.2.1 23), .ref P.1, .ref P.1]) 1 rfl ?_
        refine me_getf (v := .ref (P.2.1 72)) rfl rfl rfl ?_
        refine me_go (pc1 := 53) (lv1 := [(0, .ref P.1), (1, .int x1)]) (st1 := [.int x1, .ref (P.2.1 72), .ref (P.2.1 23), .ref P.1, .ref P.1]) 1 rfl ?_
        refine me_iald rfl (g := 72) rfl rfl h.1 ?_
        replace h := h.2
        refine me_iald rfl (g := 23) rfl rfl h.1 ?_
        replace h := h.2
        refine me_callN rfl rfl rfl (h.mono (fun r1 μ1 h => ?_) (fun _ h => h))
        refine me_callN rfl rfl rfl (h.mono (fun r2 μ2 h => ?_) (fun _ h => h))
        exact me_ret rfl rfl rfl h
      · replace h := h.2 (cn_ge c)
        refine me_go (pc1 := 41) (lv1 := [(0, .ref P.1), (1, .int x1)]) (st1 := [.int (-1)]) 1 rfl ?_
        exact me_ret rfl rfl rfl h
  · replace h := h.2 (cn_ne c)
    refine me_go (pc1 := 14) (lv1 := [(0, .ref P.1), (1, .int x1)]) (st1 := [.int x1, .ref P.1, .ref P.1]) 3 rfl ?_
    refine me_callN rfl rfl rfl (h.mono (fun r3 μ3 h => ?_) (fun _ h => h))
    refine me_callN rfl rfl rfl (h.mono (fun r4 μ4 h => ?_) (fun _ h => h))
    exact me_ret rfl rfl rfl h
theorem v_wholeChain_0 {X : ev_X} {W : Nat → Prop} {d : Nat} {P : MP} {μ : MS} {R : Int32 → MS → Prop} {T : MS → Prop} (x1 : Int32) (h : ME X W true d 386 17 [(0, .ref P.1), (1, .int x1), (2, .int x1)] [] P (mS1 (mS1 μ 74 0) 76 ((μ.1 76) + 1)) R T) : ME X W true d 386 0 [(0, .ref P.1), (1, .int x1)] [] P μ R T := by
  refine me_go (pc1 := 2) (lv1 := [(0, .ref P.1), (1, .int x1)]) (st1 := [.int 0, .ref P.1]) 2 rfl ?_
  refine me_put rfl rfl rfl ?_
  refine me_go (pc1 := 7) (lv1 := [(0, .ref P.1), (1, .int x1)]) (st1 := [.ref P.1, .ref P.1]) 2 rfl ?_
  refine me_getf (v := .int (μ.1 76)) rfl rfl rfl ?_
  refine me_go (pc1 := 12) (lv1 := [(0, .ref P.1), (1, .int x1)]) (st1 := [.int ((μ.1 76) + 1), .ref P.1]) 2 rfl ?_
  refine me_put rfl rfl rfl ?_
  refine me_go (pc1 := 17) (lv1 := [(2, .int x1), (0, .ref P.1), (1, .int x1)]) (st1 := []) 2 rfl ?_
  refine me_lv [(0, .ref P.1), (1, .int x1), (2, .int x1)] (fl_c rfl (fl_c rfl (fl_c rfl fl_0))) ?_
  exact h
theorem v_wholeChain_17 {X : ev_X} {W : Nat → Prop} {d : Nat} {P : MP} {μ : MS} {R : Int32 → MS → Prop} {T : MS → Prop} (x1 : Int32) (x2 : Int32) (h : ((x2.toInt < (0 : Int) → R 0 μ) ∧ ((0 : Int) ≤ x2.toInt → MC X W true d 367 [.ref P.1, .int x2] P μ (fun r1 μ1 => ((r1 = 0 → R 0 μ1) ∧ (¬ r1 = 0 → (MI x2 (μ1.2.2 78) ∧ (((μ1.2.1 78 x2.toNatClampNeg) = (μ1.1 76) → R 0 μ1) ∧ (¬ (μ1.2.1 78 x2.toNatClampNeg) = (μ1.1 76) → (MI x2 (μ1.2.2 78) ∧ (MI (μ1.1 74) (μ1.2.2 75) ∧ MC X W true d 385 [.ref P.1, .int x2] P (mS1 (mA1 (mA1 μ1 78 x2.toNatClampNeg (μ1.1 76)) 75 (((μ1.1 74)).toNatClampNeg) x2) 74 ((μ1.1 74) + 1)) (fun r2 μ2 => ME X W true d 386 17 [(0, .ref P.1), (1, .int x1), (2, .int r2)] [] P μ2 R T) (fun _ => False))))))))) (fun _ => False)))) : ME X W true d 386 17 [(0, .ref P.1), (1, .int x1), (2, .int x2)] [] P μ R T := by
  refine me_go (pc1 := 18) (lv1 := [(0, .ref P.1), (1, .int x1), (2, .int x2)]) (st1 := [.int x2]) 1 rfl ?_
  refine me_ifc rfl rfl (fun c => ?_) (fun c => ?_)
  · replace h := h.1 (ci_lt c)
    exact me_ret (v := none) (r := 0) rfl rfl rfl h
  · replace h := h.2 (cn_lt c)
    refine me_go (pc1 := 23) (lv1 := [(0, .ref P.1), (1, .int x1), (2, .int x2)]) (st1 := [.int x2, .ref P.1]) 2 rfl ?_
    refine me_callN rfl rfl rfl (h.mono (fun r1 μ1 h => ?_) (fun _ h => h))
    refine me_ifc rfl rfl (fun c => ?_) (fun c => ?_)
    · replace h := h.1 (ci_eq c)
      exact me_ret (v := none) (r := 0) rfl rfl rfl h
    · replace h := h.2 (cn_eq c)
      refine me_go (pc1 := 30) (lv1 := [(0, .ref P.1), (1, .int x1), (2, .int x2)]) (st1 := [.ref P.1]) 1 rfl ?_
      refine me_getf (v := .ref (P.2.1 78)) rfl rfl rfl ?_
      refine me_go (pc1 := 34) (lv1 := [(0, .ref P.1), (1, .int x1), (2, .int x2)]) (st1 := [.int x2, .ref (P.2.1 78)]) 1 rfl ?_
      refine me_iald rfl (g := 78) rfl rfl h.1 ?_
      replace h := h.2
      refine me_go (pc1 := 36) (lv1 := [(0, .ref P.1), (1, .int x1), (2, .int x2)]) (st1 := [.ref P.1, .int (μ1.2.1 78 x2.toNatClampNeg)]) 1 rfl ?_
      refine me_getf (v := .int (μ1.1 76)) rfl rfl rfl ?_
      refine me_icmp rfl rfl (fun c => ?_) (fun c => ?_)
      · replace h := h.1 (ci_eq c)
        exact me_ret (v := none) (r := 0) rfl rfl rfl h
      · replace h := h.2 (cn_eq c)
        refine me_go (pc1 := 43) (lv1 := [(0, .ref P.1), (1, .int x1), (2, .int x2)]) (st1 := [.ref P.1]) 1 rfl ?_
        refine me_getf (v := .ref (P.2.1 78)) rfl rfl rfl ?_
        refine me_go (pc1 := 48) (lv1 := [(0, .ref P.1), (1, .int x1), (2, .int x2)]) (st1 := [.ref P.1, .int x2, .ref (P.2.1 78)]) 2 rfl ?_
        refine me_getf (v := .int (μ1.1 76)) rfl rfl rfl ?_
        have hi := h.1
        replace h := h.2
        refine me_iast rfl (g := 78) rfl rfl hi ?_
        refine me_go (pc1 := 53) (lv1 := [(0, .ref P.1), (1, .int x1), (2, .int x2)]) (st1 := [.ref P.1]) 1 rfl ?_
        refine me_getf (v := .ref (P.2.1 75)) rfl rfl rfl ?_
        refine me_go (pc1 := 57) (lv1 := [(0, .ref P.1), (1, .int x1), (2, .int x2)]) (st1 := [.ref P.1, .ref (P.2.1 75)]) 1 rfl ?_
        refine me_getf (v := .int (μ1.1 74)) rfl rfl rfl ?_
        refine me_go (pc1 := 61) (lv1 := [(0, .ref P.1), (1, .int x1), (2, .int x2)]) (st1 := [.int x2, .int (μ1.1 74), .ref (P.2.1 75)]) 1 rfl ?_
        have hi := h.1
        replace h := h.2
        refine me_iast rfl (g := 75) rfl rfl hi ?_
        refine me_go (pc1 := 64) (lv1 := [(0, .ref P.1), (1, .int x1), (2, .int x2)]) (st1 := [.ref P.1, .ref P.1]) 2 rfl ?_
        refine me_getf (v := .int (μ1.1 74)) rfl rfl rfl ?_
        refine me_go (pc1 := 69) (lv1 := [(0, .ref P.1), (1, .int x1), (2, .int x2)]) (st1 := [.int ((μ1.1 74) + 1), .ref P.1]) 2 rfl ?_
        refine me_put rfl rfl rfl ?_
        refine me_go (pc1 := 74) (lv1 := [(0, .ref P.1), (1, .int x1), (2, .int x2)]) (st1 := [.int x2, .ref P.1]) 2 rfl ?_
        refine me_callN rfl rfl rfl (h.mono (fun r2 μ2 h => ?_) (fun _ h => h))
        refine me_go (pc1 := 17) (lv1 := [(2, .int r2), (0, .ref P.1), (1, .int x1)]) (st1 := []) 2 rfl ?_
        refine me_lv [(0, .ref P.1), (1, .int x1), (2, .int r2)] (fl_c rfl (fl_c rfl (fl_c rfl fl_0))) ?_
        exact h
theorem v_placeIn_0 {X : ev_X} {W : Nat → Prop} {d : Nat} {P : MP} {μ : MS} {R : Int32 → MS → Prop} {T : MS → Prop} (x1 : Int32) (x2 : Int32) (h : MC X W true d 386 [.ref P.1, .int x1] P μ (fun r1 μ1 => ME X W true d 387 7 [(0, .ref P.1), (1, .int x1), (2, .int x2), (3, .int 0)] [] P μ1 R T) (fun _ => False)) : ME X W true d 387 0 [(0, .ref P.1), (1, .int x1), (2, .int x2)] [] P μ R T := by
  refine me_go (pc1 := 2) (lv1 := [(0, .ref P.1), (1, .int x1), (2, .int x2)]) (st1 := [.int x1, .ref P.1]) 2 rfl ?_
  refine me_callN rfl rfl rfl (h.mono (fun r1 μ1 h => ?_) (fun _ h => h))
  refine me_go (pc1 := 7) (lv1 := [(3, .int 0), (0, .ref P.1), (1, .int x1), (2, .int x2)]) (st1 := []) 2 rfl ?_
  refine me_lv [(0, .ref P.1), (1, .int x1), (2, .int x2), (3, .int 0)] (fl_c rfl (fl_c rfl (fl_c rfl (fl_c rfl fl_0)))) ?_
  exact h
theorem v_placeIn_7 {X : ev_X} {W : Nat → Prop} {d : Nat} {P : MP} {μ : MS} {R : Int32 → MS → Prop} {T : MS → Prop} (x1 : Int32) (x2 : Int32) (x3 : Int32) (h : (((μ.1 74).toInt ≤ x3.toInt → R (-1) μ) ∧ (x3.toInt < (μ.1 74).toInt → (MI x3 (μ.2.2 75) ∧ MC X W true d 371 [.ref P.1, .int (μ.2.1 75 x3.toNatClampNeg), .int x2] P μ (fun r1 μ1 => ((r1 = 0 → ME X W true d 387 7 [(0, .ref P.1), (1, .int x1), (2, .int x2), (3, .int (x3 + 1))] [] P μ1 R T) ∧ (¬ r1 = 0 → R x3 μ1))) (fun _ => False))))) : ME X W true d 387 7 [(0, .ref P.1), (1, .int x1), (2, .int x2), (3, .int x3)] [] P μ R T := by
  refine me_go (pc1 := 9) (lv1 := [(0, .ref P.1), (1, .int x1), (2, .int x2), (3, .int x3)]) (st1 := [.ref P.1, .int x3]) 2 rfl ?_
  refine me_getf (v := .int (μ.1 74)) rfl rfl rfl ?_
  refine me_icmp rfl rfl (fun c => ?_) (fun c => ?_)
  · replace h := h.1 (ci_ge c)
    refine me_go (pc1 := 38) (lv1 := [(0, .ref P.1), (1, .int x1), (2, .int x2), (3, .int x3)]) (st1 := [.int (-1)]) 1 rfl ?_
    exact me_ret rfl rfl rfl h
  · replace h := h.2 (cn_ge c)
    refine me_go (pc1 := 17) (lv1 := [(0, .ref P.1), (1, .int x1), (2, .int x2), (3, .int x3)]) (st1 := [.ref P.1, .ref P.1]) 2 rfl ?_
    refine me_getf (v := .ref (P.2.1 75)) rfl rfl rfl ?_
    refine me_go (pc1 := 21) (lv1 := [(0, .ref P.1), (1, .int x1), (2, .int x2), (3, .int x3)]) (st1 := [.int x3, .ref (P.2.1 75), .ref P.1]) 1 rfl ?_
    refine me_iald rfl (g := 75) rfl rfl h.1 ?_
    replace h := h.2
    refine me_go (pc1 := 23) (lv1 := [(0, .ref P.1), (1, .int x1), (2, .int x2), (3, .int x3)]) (st1 := [.int x2, .int (μ.2.1 75 x3.toNatClampNeg), .ref P.1]) 1 rfl ?_
    refine me_callN rfl rfl rfl (h.mono (fun r1 μ1 h => ?_) (fun _ h => h))
    refine me_ifc rfl rfl (fun c => ?_) (fun c => ?_)
    · replace h := h.1 (ci_eq c)
      refine me_go (pc1 := 7) (lv1 := [(3, .int (x3 + 1)), (0, .ref P.1), (1, .int x1), (2, .int x2)]) (st1 := []) 2 rfl ?_
      refine me_lv [(0, .ref P.1), (1, .int x1), (2, .int x2), (3, .int (x3 + 1))] (fl_c rfl (fl_c rfl (fl_c rfl (fl_c rfl fl_0)))) ?_
      exact h
    · replace h := h.2 (cn_eq c)
      refine me_go (pc1 := 30) (lv1 := [(0, .ref P.1), (1, .int x1), (2, .int x2), (3, .int x3)]) (st1 := [.int x3]) 1 rfl ?_
      exact me_ret rfl rfl rfl h
theorem v_above_0 {X : ev_X} {W : Nat → Prop} {d : Nat} {P : MP} {μ : MS} {R : Int32 → MS → Prop} {T : MS → Prop} (x1 : Int32) (x2 : Int32) (h : (MI x2 (μ.2.2 20) ∧ ((¬ (μ.2.1 20 x2.toNatClampNeg) = 32 → (MI x2 (μ.2.2 20) ∧ (((μ.2.1 20 x2.toNatClampNeg) = 4 → (MI x2 (μ.2.2 72) ∧ (((μ.2.1 72 x2.toNatClampNeg).toInt < (0 : Int) → ME X W true d 388 76 [(0, .ref P.1), (1, .int x1), (2, .int x2)] [] P μ R T) ∧ ((0 : Int) ≤ (μ.2.1 72 x2.toNatClampNeg).toInt → (MI x2 (μ.2.2 72) ∧ MC X W true d 384 [.ref P.1, .int x1, .int (μ.2.1 72 x2.toNatClampNeg)] P μ (fun r1 μ1 => ((r1 = 0 → ME X W true d 388 76 [(0, .ref P.1), (1, .int x1), (2, .int x2)] [] P μ1 R T) ∧ (¬ r1 = 0 → (MI x2 (μ1.2.2 72) ∧ (MI (μ1.2.1 72 x2.toNatClampNeg) (μ1.2.2 23) ∧ MC X W true d 374 [.ref P.1, .int (μ1.2.1 23 ((μ1.2.1 72 x2.toNatClampNeg)).toNatClampNeg)] P μ1 (fun r2 μ2 => MC X W true d 365 [.ref P.1, .int r2] P μ2 (fun r3 μ3 => R r3 μ3) (fun _ => False)) (fun _ => False)))))) (fun _ => False)))))) ∧ (¬ (μ.2.1 20 x2.toNatClampNeg) = 4 → R (-1) μ)))) ∧ ((μ.2.1 20 x2.toNatClampNeg) = 32 → MC X W true d 374 [.ref P.1, .int x2] P μ (fun r4 μ4 => MC X W true d 365 [.ref P.1, .int r4] P μ4 (fun r5 μ5 => R r5 μ5) (fun _ => False)) (fun _ => False))))) : ME X W true d 388 0 [(0, .ref P.1), (1, .int x1), (2, .int x2)] [] P μ R T := by
  refine me_go (pc1 := 1) (lv1 := [(0, .ref P.1), (1, .int x1), (2, .int x2)]) (st1 := [.ref P.1]) 1 rfl ?_
  refine me_getf (v := .ref (P.2.1 20)) rfl rfl rfl ?_
  refine me_go (pc1 := 5) (lv1 := [(0, .ref P.1), (1, .int x1), (2, .int x2)]) (st1 := [.int x2, .ref (P.2.1 20)]) 1 rfl ?_
  refine me_iald rfl (g := 20) rfl rfl h.1 ?_
  replace h := h.2
  refine me_go (pc1 := 8) (lv1 := [(0, .ref P.1), (1, .int x1), (2, .int x2)]) (st1 := [.int 32, .int (μ.2.1 20 x2.toNatClampNeg)]) 1 rfl ?_
  refine me_icmp rfl rfl (fun c => ?_) (fun c => ?_)
  · replace h := h.1 (ci_ne c)
    refine me_go (pc1 := 22) (lv1 := [(0, .ref P.1), (1, .int x1), (2, .int x2)]) (st1 := [.ref P.1]) 1 rfl ?_
    refine me_getf (v := .ref (P.2.1 20)) rfl rfl rfl ?_
    refine me_go (pc1 := 26) (lv1 := [(0, .ref P.1), (1, .int x1), (2, .int x2)]) (st1 := [.int x2, .ref (P.2.1 20)]) 1 rfl ?_
    refine me_iald rfl (g := 20) rfl rfl h.1 ?_
    replace h := h.2
    refine me_go (pc1 := 28) (lv1 := [(0, .ref P.1), (1, .int x1), (2, .int x2)]) (st1 := [.int 4, .int (μ.2.1 20 x2.toNatClampNeg)]) 1 rfl ?_
    refine me_icmp rfl rfl (fun c => ?_) (fun c => ?_)
    · replace h := h.1 (ci_eq c)
      refine me_go (pc1 := 34) (lv1 := [(0, .ref P.1), (1, .int x1), (2, .int x2)]) (st1 := [.ref P.1]) 1 rfl ?_
      refine me_getf (v := .ref (P.2.1 72)) rfl rfl rfl ?_
      refine me_go (pc1 := 38) (lv1 := [(0, .ref P.1), (1, .int x1), (2, .int x2)]) (st1 := [.int x2, .ref (P.2.1 72)]) 1 rfl ?_
      refine me_iald rfl (g := 72) rfl rfl h.1 ?_
      replace h := h.2
      refine me_ifc rfl rfl (fun c => ?_) (fun c => ?_)
      · replace h := h.1 (ci_lt c)
        exact h
      · replace h := h.2 (cn_lt c)
        refine me_go (pc1 := 45) (lv1 := [(0, .ref P.1), (1, .int x1), (2, .int x2)]) (st1 := [.ref P.1, .int x1, .ref P.1]) 3 rfl ?_
        refine me_getf (v := .ref (P.2.1 72)) rfl rfl rfl ?_
        refine me_go (pc1 := 49) (lv1 := [(0, .ref P.1), (1, .int x1), (2, .int x2)]) (st1 := [.int x2, .ref (P.2.1 72), .int x1, .ref P.1]) 1 rfl ?_
        refine me_iald rfl (g := 72) rfl rfl h.1 ?_
        replace h := h.2
        refine me_callN rfl rfl rfl (h.mono (fun r1 μ1 h => ?_) (fun _ h => h))
        refine me_ifc rfl rfl (fun c => ?_) (fun c => ?_)
        · replace h := h.1 (ci_eq c)
          exact h
        · replace h := h.2 (cn_eq c)
          refine me_go (pc1 := 59) (lv1 := [(0, .ref P.1), (1, .int x1), (2, .int x2)]) (st1 := [.ref P.1, .ref P.1, .ref P.1]) 3 rfl ?_
          refine me_getf (v := .ref (P.2.1 23)) rfl rfl rfl ?_
          refine me_go (pc1 := 63) (lv1 := [(0, .ref P.1), (1, .int x1), (2, .int x2)]) (st1 := [.ref P.1, .ref (P.2.1 23), .ref P.1, .ref P.1]) 1 rfl ?_
          refine me_getf (v := .ref (P.2.1 72)) rfl rfl rfl ?_
          refine me_go (pc1 := 67) (lv1 := [(0, .ref P.1), (1, .int x1), (2, .int x2)]) (st1 := [.int x2, .ref (P.2.1 72), .ref (P.2.1 23), .ref P.1, .ref P.1]) 1 rfl ?_
          refine me_iald rfl (g := 72) rfl rfl h.1 ?_
          replace h := h.2
          refine me_iald rfl (g := 23) rfl rfl h.1 ?_
          replace h := h.2
          refine me_callN rfl rfl rfl (h.mono (fun r2 μ2 h => ?_) (fun _ h => h))
          refine me_callN rfl rfl rfl (h.mono (fun r3 μ3 h => ?_) (fun _ h => h))
          exact me_ret rfl rfl rfl h
    · replace h := h.2 (cn_eq c)
      refine me_go (pc1 := 32) (lv1 := [(0, .ref P.1), (1, .int x1), (2, .int x2)]) (st1 := [.int (-1)]) 1 rfl ?_
      exact me_ret rfl rfl rfl h
  · replace h := h.2 (cn_ne c)
    refine me_go (pc1 := 14) (lv1 := [(0, .ref P.1), (1, .int x1), (2, .int x2)]) (st1 := [.int x2, .ref P.1, .ref P.1]) 3 rfl ?_
    refine me_callN rfl rfl rfl (h.mono (fun r4 μ4 h => ?_) (fun _ h => h))
    refine me_callN rfl rfl rfl (h.mono (fun r5 μ5 h => ?_) (fun _ h => h))
    exact me_ret rfl rfl rfl h
theorem v_above_76 {X : ev_X} {W : Nat → Prop} {d : Nat} {P : MP} {μ : MS} {R : Int32 → MS → Prop} {T : MS → Prop} (x1 : Int32) (x2 : Int32) (h : (MI x2 (μ.2.2 23) ∧ MC X W true d 365 [.ref P.1, .int (μ.2.1 23 x2.toNatClampNeg)] P μ (fun r1 μ1 => MC X W true d 387 [.ref P.1, .int x2, .int r1] P μ1 (fun r2 μ2 => ((r2.toInt ≤ (0 : Int) → ME X W true d 388 112 [(0, .ref P.1), (1, .int x1), (2, .int x2), (3, .int r2), (4, .int (-1))] [] P μ2 R T) ∧ ((0 : Int) < r2.toInt → (MI x2 (μ2.2.2 23) ∧ MC X W true d 365 [.ref P.1, .int (μ2.2.1 23 x2.toNatClampNeg)] P μ2 (fun r3 μ3 => ME X W true d 388 112 [(0, .ref P.1), (1, .int x1), (2, .int x2), (3, .int r2), (4, .int r3)] [] P μ3 R T) (fun _ => False))))) (fun _ => False)) (fun _ => False))) : ME X W true d 388 76 [(0, .ref P.1), (1, .int x1), (2, .int x2)] [] P μ R T := by
  refine me_go (pc1 := 80) (lv1 := [(0, .ref P.1), (1, .int x1), (2, .int x2)]) (st1 := [.ref P.1, .ref P.1, .int x2, .ref P.1]) 4 rfl ?_
  refine me_getf (v := .ref (P.2.1 23)) rfl rfl rfl ?_
  refine me_go (pc1 := 84) (lv1 := [(0, .ref P.1), (1, .int x1), (2, .int x2)]) (st1 := [.int x2, .ref (P.2.1 23), .ref P.1, .int x2, .ref P.1]) 1 rfl ?_
  refine me_iald rfl (g := 23) rfl rfl h.1 ?_
  replace h := h.2
  refine me_callN rfl rfl rfl (h.mono (fun r1 μ1 h => ?_) (fun _ h => h))
  refine me_callN rfl rfl rfl (h.mono (fun r2 μ2 h => ?_) (fun _ h => h))
  refine me_go (pc1 := 93) (lv1 := [(3, .int r2), (0, .ref P.1), (1, .int x1), (2, .int x2)]) (st1 := [.int r2]) 2 rfl ?_
  refine me_ifc rfl rfl (fun c => ?_) (fun c => ?_)
  · replace h := h.1 (ci_le c)
    refine me_go (pc1 := 112) (lv1 := [(4, .int (-1)), (3, .int r2), (0, .ref P.1), (1, .int x1), (2, .int x2)]) (st1 := []) 2 rfl ?_
    refine me_lv [(0, .ref P.1), (1, .int x1), (2, .int x2), (3, .int r2), (4, .int (-1))] (fl_c rfl (fl_c rfl (fl_c rfl (fl_c rfl (fl_c rfl fl_0))))) ?_
    exact h
  · replace h := h.2 (cn_le c)
    refine me_go (pc1 := 98) (lv1 := [(3, .int r2), (0, .ref P.1), (1, .int x1), (2, .int x2)]) (st1 := [.ref P.1, .ref P.1]) 2 rfl ?_
    refine me_getf (v := .ref (P.2.1 23)) rfl rfl rfl ?_
    refine me_go (pc1 := 102) (lv1 := [(3, .int r2), (0, .ref P.1), (1, .int x1), (2, .int x2)]) (st1 := [.int x2, .ref (P.2.1 23), .ref P.1]) 1 rfl ?_
    refine me_iald rfl (g := 23) rfl rfl h.1 ?_
    replace h := h.2
    refine me_callN rfl rfl rfl (h.mono (fun r3 μ3 h => ?_) (fun _ h => h))
    refine me_go (pc1 := 112) (lv1 := [(4, .int r3), (3, .int r2), (0, .ref P.1), (1, .int x1), (2, .int x2)]) (st1 := []) 2 rfl ?_
    refine me_lv [(0, .ref P.1), (1, .int x1), (2, .int x2), (3, .int r2), (4, .int r3)] (fl_c rfl (fl_c rfl (fl_c rfl (fl_c rfl (fl_c rfl fl_0))))) ?_
    exact h
theorem v_above_112 {X : ev_X} {W : Nat → Prop} {d : Nat} {P : MP} {μ : MS} {R : Int32 → MS → Prop} {T : MS → Prop} (x1 : Int32) (x2 : Int32) (x3 : Int32) (x4 : Int32) (h : ME X W true d 388 115 [(0, .ref P.1), (1, .int x1), (2, .int x2), (3, .int x3), (4, .int x4), (5, .int 0)] [] P μ R T) : ME X W true d 388 112 [(0, .ref P.1), (1, .int x1), (2, .int x2), (3, .int x3), (4, .int x4)] [] P μ R T := by
  refine me_go (pc1 := 115) (lv1 := [(5, .int 0), (0, .ref P.1), (1, .int x1), (2, .int x2), (3, .int x3), (4, .int x4)]) (st1 := []) 2 rfl ?_
  refine me_lv [(0, .ref P.1), (1, .int x1), (2, .int x2), (3, .int x3), (4, .int x4), (5, .int 0)] (fl_c rfl (fl_c rfl (fl_c rfl (fl_c rfl (fl_c rfl (fl_c rfl fl_0)))))) ?_
  exact h
theorem v_above_115 {X : ev_X} {W : Nat → Prop} {d : Nat} {P : MP} {μ : MS} {R : Int32 → MS → Prop} {T : MS → Prop} (x1 : Int32) (x2 : Int32) (x3 : Int32) (x4 : Int32) (x5 : Int32) (h : (((μ.1 41).toInt ≤ x5.toInt → R x4 μ) ∧ (x5.toInt < (μ.1 41).toInt → (MI x5 (μ.2.2 42) ∧ (MI (μ.2.1 42 x5.toNatClampNeg) (μ.2.2 24) ∧ ME X W true d 388 138 [(0, .ref P.1), (1, .int x1), (2, .int x2), (3, .int x3), (4, .int x4), (5, .int x5), (6, .int (μ.2.1 24 ((μ.2.1 42 x5.toNatClampNeg)).toNatClampNeg))] [] P μ R T))))) : ME X W true d 388 115 [(0, .ref P.1), (1, .int x1), (2, .int x2), (3, .int x3), (4, .int x4), (5, .int x5)] [] P μ R T := by
  refine me_go (pc1 := 118) (lv1 := [(0, .ref P.1), (1, .int x1), (2, .int x2), (3, .int x3), (4, .int x4), (5, .int x5)]) (st1 := [.ref P.1, .int x5]) 2 rfl ?_
  refine me_getf (v := .int (μ.1 41)) rfl rfl rfl ?_
  refine me_icmp rfl rfl (fun c => ?_) (fun c => ?_)
  · replace h := h.1 (ci_ge c)
    refine me_go (pc1 := 246) (lv1 := [(0, .ref P.1), (1, .int x1), (2, .int x2), (3, .int x3), (4, .int x4), (5, .int x5)]) (st1 := [.int x4]) 1 rfl ?_
    exact me_ret rfl rfl rfl h
  · replace h := h.2 (cn_ge c)
    refine me_go (pc1 := 125) (lv1 := [(0, .ref P.1), (1, .int x1), (2, .int x2), (3, .int x3), (4, .int x4), (5, .int x5)]) (st1 := [.ref P.1]) 1 rfl ?_
    refine me_getf (v := .ref (P.2.1 24)) rfl rfl rfl ?_
    refine me_go (pc1 := 129) (lv1 := [(0, .ref P.1), (1, .int x1), (2, .int x2), (3, .int x3), (4, .int x4), (5, .int x5)]) (st1 := [.ref P.1, .ref (P.2.1 24)]) 1 rfl ?_
    refine me_getf (v := .ref (P.2.1 42)) rfl rfl rfl ?_
    refine me_go (pc1 := 134) (lv1 := [(0, .ref P.1), (1, .int x1), (2, .int x2), (3, .int x3), (4, .int x4), (5, .int x5)]) (st1 := [.int x5, .ref (P.2.1 42), .ref (P.2.1 24)]) 1 rfl ?_
    refine me_iald rfl (g := 42) rfl rfl h.1 ?_
    replace h := h.2
    refine me_iald rfl (g := 24) rfl rfl h.1 ?_
    replace h := h.2
    refine me_go (pc1 := 138) (lv1 := [(6, .int (μ.2.1 24 ((μ.2.1 42 x5.toNatClampNeg)).toNatClampNeg)), (0, .ref P.1), (1, .int x1), (2, .int x2), (3, .int x3), (4, .int x4), (5, .int x5)]) (st1 := []) 1 rfl ?_
    refine me_lv [(0, .ref P.1), (1, .int x1), (2, .int x2), (3, .int x3), (4, .int x4), (5, .int x5), (6, .int (μ.2.1 24 ((μ.2.1 42 x5.toNatClampNeg)).toNatClampNeg))] (fl_c rfl (fl_c rfl (fl_c rfl (fl_c rfl (fl_c rfl (fl_c rfl (fl_c rfl fl_0))))))) ?_
    exact h
theorem v_above_138 {X : ev_X} {W : Nat → Prop} {d : Nat} {P : MP} {μ : MS} {R : Int32 → MS → Prop} {T : MS → Prop} (x1 : Int32) (x2 : Int32) (x3 : Int32) (x4 : Int32) (x5 : Int32) (x6 : Int32) (h : ((x6.toInt < (0 : Int) → ME X W true d 388 115 [(0, .ref P.1), (1, .int x1), (2, .int x2), (3, .int x3), (4, .int x4), (5, .int (x5 + 1))] [] P μ R T) ∧ ((0 : Int) ≤ x6.toInt → (MI x6 (μ.2.2 20) ∧ ((¬ (μ.2.1 20 x6.toNatClampNeg) = 5 → ME X W true d 388 226 [(0, .ref P.1), (1, .int x1), (2, .int x2), (3, .int x3), (4, .int x4), (5, .int x5), (6, .int x6)] [] P μ R T) ∧ ((μ.2.1 20 x6.toNatClampNeg) = 5 → MC X W true d 389 [.ref P.1, .int x6] P μ (fun r1 μ1 => ((¬ r1 = x2 → ME X W true d 388 226 [(0, .ref P.1), (1, .int x1), (2, .int x2), (3, .int x3), (4, .int x4), (5, .int x5), (6, .int x6)] [] P μ1 R T) ∧ (r1 = x2 → MC X W true d 384 [.ref P.1, .int x1, .int x6] P μ1 (fun r2 μ2 => ((¬ r2 = 0 → (MI x6 (μ2.2.2 23) ∧ MC X W true d 365 [.ref P.1, .int (μ2.2.1 23 x6.toNatClampNeg)] P μ2 (fun r3 μ3 => MC X W true d 387 [.ref P.1, .int x2, .int r3] P μ3 (fun r4 μ4 => ((r4.toInt ≤ (0 : Int) → ME X W true d 388 226 [(0, .ref P.1), (1, .int x1), (2, .int x2), (3, .int x3), (4, .int x4), (5, .int x5), (6, .int x6)] [] P μ4 R T) ∧ ((0 : Int) < r4.toInt → ((x3.toInt ≤ (0 : Int) → ME X W true d 388 210 [(0, .ref P.1), (1, .int x1), (2, .int x2), (3, .int x3), (4, .int x4), (5, .int x5), (6, .int x6), (7, .int r4)] [] P μ4 R T) ∧ ((0 : Int) < x3.toInt → ((x3.toInt ≤ r4.toInt → ME X W true d 388 226 [(0, .ref P.1), (1, .int x1), (2, .int x2), (3, .int x3), (4, .int x4), (5, .int x5), (6, .int x6)] [] P μ4 R T) ∧ (r4.toInt < x3.toInt → ME X W true d 388 210 [(0, .ref P.1), (1, .int x1), (2, .int x2), (3, .int x3), (4, .int x4), (5, .int x5), (6, .int x6), (7, .int r4)] [] P μ4 R T))))))) (fun _ => False)) (fun _ => False))) ∧ (r2 = 0 → ME X W true d 388 226 [(0, .ref P.1), (1, .int x1), (2, .int x2), (3, .int x3), (4, .int x4), (5, .int x5), (6, .int x6)] [] P μ2 R T))) (fun _ => False)))) (fun _ => False))))))) : ME X W true d 388 138 [(0, .ref P.1), (1, .int x1), (2, .int x2), (3, .int x3), (4, .int x4), (5, .int x5), (6, .int x6)] [] P μ R T := by
  refine me_go (pc1 := 140) (lv1 := [(0, .ref P.1), (1, .int x1), (2, .int x2), (3, .int x3), (4, .int x4), (5, .int x5), (6, .int x6)]) (st1 := [.int x6]) 1 rfl ?_
  refine me_ifc rfl rfl (fun c => ?_) (fun c => ?_)
  · replace h := h.1 (ci_lt c)
    refine me_go (pc1 := 115) (lv1 := [(5, .int (x5 + 1)), (0, .ref P.1), (1, .int x1), (2, .int x2), (3, .int x3), (4, .int x4), (6, .int x6)]) (st1 := []) 2 rfl ?_
    refine me_lv [(0, .ref P.1), (1, .int x1), (2, .int x2), (3, .int x3), (4, .int x4), (5, .int (x5 + 1))] (fl_c rfl (fl_c rfl (fl_c rfl (fl_c rfl (fl_c rfl (fl_c rfl fl_0)))))) ?_
    exact h
  · replace h := h.2 (cn_lt c)
    refine me_go (pc1 := 144) (lv1 := [(0, .ref P.1), (1, .int x1), (2, .int x2), (3, .int x3), (4, .int x4), (5, .int x5), (6, .int x6)]) (st1 := [.ref P.1]) 1 rfl ?_
    refine me_getf (v := .ref (P.2.1 20)) rfl rfl rfl ?_
    refine me_go (pc1 := 149) (lv1 := [(0, .ref P.1), (1, .int x1), (2, .int x2), (3, .int x3), (4, .int x4), (5, .int x5), (6, .int x6)]) (st1 := [.int x6, .ref (P.2.1 20)]) 1 rfl ?_
    refine me_iald rfl (g := 20) rfl rfl h.1 ?_
    replace h := h.2
    refine me_go (pc1 := 151) (lv1 := [(0, .ref P.1), (1, .int x1), (2, .int x2), (3, .int x3), (4, .int x4), (5, .int x5), (6, .int x6)]) (st1 := [.int 5, .int (μ.2.1 20 x6.toNatClampNeg)]) 1 rfl ?_
    refine me_icmp rfl rfl (fun c => ?_) (fun c => ?_)
    · replace h := h.1 (ci_ne c)
      exact h
    · replace h := h.2 (cn_ne c)
      refine me_go (pc1 := 157) (lv1 := [(0, .ref P.1), (1, .int x1), (2, .int x2), (3, .int x3), (4, .int x4), (5, .int x5), (6, .int x6)]) (st1 := [.int x6, .ref P.1]) 2 rfl ?_
      refine me_callN rfl rfl rfl (h.mono (fun r1 μ1 h => ?_) (fun _ h => h))
      refine me_go (pc1 := 161) (lv1 := [(0, .ref P.1), (1, .int x1), (2, .int x2), (3, .int x3), (4, .int x4), (5, .int x5), (6, .int x6)]) (st1 := [.int x2, .int r1]) 1 rfl ?_
      refine me_icmp rfl rfl (fun c => ?_) (fun c => ?_)
      · replace h := h.1 (ci_ne c)
        exact h
      · replace h := h.2 (cn_ne c)
        refine me_go (pc1 := 168) (lv1 := [(0, .ref P.1), (1, .int x1), (2, .int x2), (3, .int x3), (4, .int x4), (5, .int x5), (6, .int x6)]) (st1 := [.int x6, .int x1, .ref P.1]) 3 rfl ?_
        refine me_callN rfl rfl rfl (h.mono (fun r2 μ2 h => ?_) (fun _ h => h))
        refine me_ifc rfl rfl (fun c => ?_) (fun c => ?_)
        · replace h := h.1 (ci_ne c)
          refine me_go (pc1 := 181) (lv1 := [(0, .ref P.1), (1, .int x1), (2, .int x2), (3, .int x3), (4, .int x4), (5, .int x5), (6, .int x6)]) (st1 := [.ref P.1, .ref P.1, .int x2, .ref P.1]) 4 rfl ?_
          refine me_getf (v := .ref (P.2.1 23)) rfl rfl rfl ?_
          refine me_go (pc1 := 186) (lv1 := [(0, .ref P.1), (1, .int x1), (2, .int x2), (3, .int x3), (4, .int x4), (5, .int x5), (6, .int x6)]) (st1 := [.int x6, .ref (P.2.1 23), .ref P.1, .int x2, .ref P.1]) 1 rfl ?_
          refine me_iald rfl (g := 23) rfl rfl h.1 ?_
          replace h := h.2
          refine me_callN rfl rfl rfl (h.mono (fun r3 μ3 h => ?_) (fun _ h => h))
          refine me_callN rfl rfl rfl (h.mono (fun r4 μ4 h => ?_) (fun _ h => h))
          refine me_go (pc1 := 197) (lv1 := [(7, .int r4), (0, .ref P.1), (1, .int x1), (2, .int x2), (3, .int x3), (4, .int x4), (5, .int x5), (6, .int x6)]) (st1 := [.int r4]) 2 rfl ?_
          refine me_ifc rfl rfl (fun c => ?_) (fun c => ?_)
          · replace h := h.1 (ci_le c)
            refine me_lv [(0, .ref P.1), (1, .int x1), (2, .int x2), (3, .int x3), (4, .int x4), (5, .int x5), (6, .int x6)] (fl_c rfl (fl_c rfl (fl_c rfl (fl_c rfl (fl_c rfl (fl_c rfl (fl_c rfl fl_0))))))) ?_
            exact h
          · replace h := h.2 (cn_le c)
            refine me_go (pc1 := 201) (lv1 := [(7, .int r4), (0, .ref P.1), (1, .int x1), (2, .int x2), (3, .int x3), (4, .int x4), (5, .int x5), (6, .int x6)]) (st1 := [.int x3]) 1 rfl ?_
            refine me_ifc rfl rfl (fun c => ?_) (fun c => ?_)
            · replace h := h.1 (ci_le c)
              refine me_lv [(0, .ref P.1), (1, .int x1), (2, .int x2), (3, .int x3), (4, .int x4), (5, .int x5), (6, .int x6), (7, .int r4)] (fl_c rfl (fl_c rfl (fl_c rfl (fl_c rfl (fl_c rfl (fl_c rfl (fl_c rfl (fl_c rfl fl_0)))))))) ?_
              exact h
            · replace h := h.2 (cn_le c)
              refine me_go (pc1 := 207) (lv1 := [(7, .int r4), (0, .ref P.1), (1, .int x1), (2, .int x2), (3, .int x3), (4, .int x4), (5, .int x5), (6, .int x6)]) (st1 := [.int x3, .int r4]) 2 rfl ?_
              refine me_icmp rfl rfl (fun c => ?_) (fun c => ?_)
              · replace h := h.1 (ci_ge c)
                refine me_lv [(0, .ref P.1), (1, .int x1), (2, .int x2), (3, .int x3), (4, .int x4), (5, .int x5), (6, .int x6)] (fl_c rfl (fl_c rfl (fl_c rfl (fl_c rfl (fl_c rfl (fl_c rfl (fl_c rfl fl_0))))))) ?_
                exact h
              · replace h := h.2 (cn_ge c)
                refine me_lv [(0, .ref P.1), (1, .int x1), (2, .int x2), (3, .int x3), (4, .int x4), (5, .int x5), (6, .int x6), (7, .int r4)] (fl_c rfl (fl_c rfl (fl_c rfl (fl_c rfl (fl_c rfl (fl_c rfl (fl_c rfl (fl_c rfl fl_0)))))))) ?_
                exact h
        · replace h := h.2 (cn_ne c)
          refine me_go (pc1 := 226) (lv1 := [(0, .ref P.1), (1, .int x1), (2, .int x2), (3, .int x3), (4, .int x4), (5, .int x5), (6, .int x6)]) (st1 := []) 1 rfl ?_
          exact h
theorem v_above_210 {X : ev_X} {W : Nat → Prop} {d : Nat} {P : MP} {μ : MS} {R : Int32 → MS → Prop} {T : MS → Prop} (x1 : Int32) (x2 : Int32) (x3 : Int32) (x4 : Int32) (x5 : Int32) (x6 : Int32) (x7 : Int32) (h : (MI x6 (μ.2.2 23) ∧ MC X W true d 365 [.ref P.1, .int (μ.2.1 23 x6.toNatClampNeg)] P μ (fun r1 μ1 => ME X W true d 388 226 [(0, .ref P.1), (1, .int x1), (2, .int x2), (3, .int x7), (4, .int r1), (5, .int x5), (6, .int x6)] [] P μ1 R T) (fun _ => False))) : ME X W true d 388 210 [(0, .ref P.1), (1, .int x1), (2, .int x2), (3, .int x3), (4, .int x4), (5, .int x5), (6, .int x6), (7, .int x7)] [] P μ R T := by
  refine me_go (pc1 := 215) (lv1 := [(3, .int x7), (0, .ref P.1), (1, .int x1), (2, .int x2), (4, .int x4), (5, .int x5), (6, .int x6), (7, .int x7)]) (st1 := [.ref P.1, .ref P.1]) 4 rfl ?_
  refine me_getf (v := .ref (P.2.1 23)) rfl rfl rfl ?_
  refine me_go (pc1 := 220) (lv1 := [(3, .int x7), (0, .ref P.1), (1, .int x1), (2, .int x2), (4, .int x4), (5, .int x5), (6, .int x6), (7, .int x7)]) (st1 := [.int x6, .ref (P.2.1 23), .ref P.1]) 1 rfl ?_
  refine me_iald rfl (g := 23) rfl rfl h.1 ?_
  replace h := h.2
  refine me_callN rfl rfl rfl (h.mono (fun r1 μ1 h => ?_) (fun _ h => h))
  refine me_go (pc1 := 226) (lv1 := [(4, .int r1), (3, .int x7), (0, .ref P.1), (1, .int x1), (2, .int x2), (5, .int x5), (6, .int x6), (7, .int x7)]) (st1 := []) 1 rfl ?_
  refine me_lv [(0, .ref P.1), (1, .int x1), (2, .int x2), (3, .int x7), (4, .int r1), (5, .int x5), (6, .int x6)] (fl_c rfl (fl_c rfl (fl_c rfl (fl_c rfl (fl_c rfl (fl_c rfl (fl_c rfl fl_0))))))) ?_
  exact h
theorem v_above_226 {X : ev_X} {W : Nat → Prop} {d : Nat} {P : MP} {μ : MS} {R : Int32 → MS → Prop} {T : MS → Prop} (x1 : Int32) (x2 : Int32) (x3 : Int32) (x4 : Int32) (x5 : Int32) (x6 : Int32) (h : (MI x6 (μ.2.2 27) ∧ ME X W true d 388 138 [(0, .ref P.1), (1, .int x1), (2, .int x2), (3, .int x3), (4, .int x4), (5, .int x5), (6, .int (μ.2.1 27 x6.toNatClampNeg))] [] P μ R T)) : ME X W true d 388 226 [(0, .ref P.1), (1, .int x1), (2, .int x2), (3, .int x3), (4, .int x4), (5, .int x5), (6, .int x6)] [] P μ R T := by
  refine me_go (pc1 := 227) (lv1 := [(0, .ref P.1), (1, .int x1), (2, .int x2), (3, .int x3), (4, .int x4), (5, .int x5), (6, .int x6)]) (st1 := [.ref P.1]) 1 rfl ?_
  refine me_getf (v := .ref (P.2.1 27)) rfl rfl rfl ?_
  refine me_go (pc1 := 232) (lv1 := [(0, .ref P.1), (1, .int x1), (2, .int x2), (3, .int x3), (4, .int x4), (5, .int x5), (6, .int x6)]) (st1 := [.int x6, .ref (P.2.1 27)]) 1 rfl ?_
  refine me_iald rfl (g := 27) rfl rfl h.1 ?_
  replace h := h.2
  refine me_go (pc1 := 138) (lv1 := [(6, .int (μ.2.1 27 x6.toNatClampNeg)), (0, .ref P.1), (1, .int x1), (2, .int x2), (3, .int x3), (4, .int x4), (5, .int x5)]) (st1 := []) 2 rfl ?_
  refine me_lv [(0, .ref P.1), (1, .int x1), (2, .int x2), (3, .int x3), (4, .int x4), (5, .int x5), (6, .int (μ.2.1 27 x6.toNatClampNeg))] (fl_c rfl (fl_c rfl (fl_c rfl (fl_c rfl (fl_c rfl (fl_c rfl (fl_c rfl fl_0))))))) ?_
  exact h
theorem v_opaqueOf_0 {X : ev_X} {W : Nat → Prop} {d : Nat} {P : MP} {μ : MS} {R : Int32 → MS → Prop} {T : MS → Prop} (x1 : Int32) (h : (MI x1 (μ.2.2 22) ∧ (MI (μ.2.1 22 x1.toNatClampNeg) (μ.2.2 28) ∧ (MI (μ.2.1 28 ((μ.2.1 22 x1.toNatClampNeg)).toNatClampNeg) (μ.2.2 46) ∧ (MI (μ.2.1 46 ((μ.2.1 28 ((μ.2.1 22 x1.toNatClampNeg)).toNatClampNeg)).toNatClampNeg) (μ.2.2 20) ∧ ((¬ (μ.2.1 20 ((μ.2.1 46 ((μ.2.1 28 ((μ.2.1 22 x1.toNatClampNeg)).toNatClampNeg)).toNatClampNeg)).toNatClampNeg) = 4 → (MI (μ.2.1 46 ((μ.2.1 28 ((μ.2.1 22 x1.toNatClampNeg)).toNatClampNeg)).toNatClampNeg) (μ.2.2 23) ∧ MC X W true d 365 [.ref P.1, .int (μ.2.1 23 ((μ.2.1 46 ((μ.2.1 28 ((μ.2.1 22 x1.toNatClampNeg)).toNatClampNeg)).toNatClampNeg)).toNatClampNeg)] P μ (fun r1 μ1 => (MI r1 (μ1.2.2 20) ∧ ((¬ (μ1.2.1 20 r1.toNatClampNeg) = 4 → R (-1) μ1) ∧ ((μ1.2.1 20 r1.toNatClampNeg) = 4 → R r1 μ1)))) (fun _ => False))) ∧ ((μ.2.1 20 ((μ.2.1 46 ((μ.2.1 28 ((μ.2.1 22 x1.toNatClampNeg)).toNatClampNeg)).toNatClampNeg)).toNatClampNeg) = 4 → (MI (μ.2.1 46 ((μ.2.1 28 ((μ.2.1 22 x1.toNatClampNeg)).toNatClampNeg)).toNatClampNeg) (μ.2.2 20) ∧ ((¬ (μ.2.1 20 ((μ.2.1 46 ((μ.2.1 28 ((μ.2.1 22 x1.toNatClampNeg)).toNatClampNeg)).toNatClampNeg)).toNatClampNeg) = 4 → R (-1) μ) ∧ ((μ.2.1 20 ((μ.2.1 46 ((μ.2.1 28 ((μ.2.1 22 x1.toNatClampNeg)).toNatClampNeg)).toNatClampNeg)).toNatClampNeg) = 4 → R (μ.2.1 46 ((μ.2.1 28 ((μ.2.1 22 x1.toNatClampNeg)).toNatClampNeg)).toNatClampNeg) μ)))))))))) : ME X W true d 389 0 [(0, .ref P.1), (1, .int x1)] [] P μ R T := by
  refine me_go (pc1 := 1) (lv1 := [(0, .ref P.1), (1, .int x1)]) (st1 := [.ref P.1]) 1 rfl ?_
  refine me_getf (v := .ref (P.2.1 46)) rfl rfl rfl ?_
  refine me_go (pc1 := 5) (lv1 := [(0, .ref P.1), (1, .int x1)]) (st1 := [.ref P.1, .ref (P.2.1 46)]) 1 rfl ?_
  refine me_getf (v := .ref (P.2.1 28)) rfl rfl rfl ?_
  refine me_go (pc1 := 9) (lv1 := [(0, .ref P.1), (1, .int x1)]) (st1 := [.ref P.1, .ref (P.2.1 28), .ref (P.2.1 46)]) 1 rfl ?_
  refine me_getf (v := .ref (P.2.1 22)) rfl rfl rfl ?_
  refine me_go (pc1 := 13) (lv1 := [(0, .ref P.1), (1, .int x1)]) (st1 := [.int x1, .ref (P.2.1 22), .ref (P.2.1 28), .ref (P.2.1 46)]) 1 rfl ?_
  refine me_iald rfl (g := 22) rfl rfl h.1 ?_
  replace h := h.2
  refine me_iald rfl (g := 28) rfl rfl h.1 ?_
  replace h := h.2
  refine me_iald rfl (g := 46) rfl rfl h.1 ?_
  replace h := h.2
  refine me_go (pc1 := 18) (lv1 := [(2, .int (μ.2.1 46 ((μ.2.1 28 ((μ.2.1 22 x1.toNatClampNeg)).toNatClampNeg)).toNatClampNeg)), (0, .ref P.1), (1, .int x1)]) (st1 := [.ref P.1]) 2 rfl ?_
  refine me_getf (v := .ref (P.2.1 20)) rfl rfl rfl ?_
  refine me_go (pc1 := 22) (lv1 := [(2, .int (μ.2.1 46 ((μ.2.1 28 ((μ.2.1 22 x1.toNatClampNeg)).toNatClampNeg)).toNatClampNeg)), (0, .ref P.1), (1, .int x1)]) (st1 := [.int (μ.2.1 46 ((μ.2.1 28 ((μ.2.1 22 x1.toNatClampNeg)).toNatClampNeg)).toNatClampNeg), .ref (P.2.1 20)]) 1 rfl ?_
  refine me_iald rfl (g := 20) rfl rfl h.1 ?_
  replace h := h.2
  refine me_go (pc1 := 24) (lv1 := [(2, .int (μ.2.1 46 ((μ.2.1 28 ((μ.2.1 22 x1.toNatClampNeg)).toNatClampNeg)).toNatClampNeg)), (0, .ref P.1), (1, .int x1)]) (st1 := [.int 4, .int (μ.2.1 20 ((μ.2.1 46 ((μ.2.1 28 ((μ.2.1 22 x1.toNatClampNeg)).toNatClampNeg)).toNatClampNeg)).toNatClampNeg)]) 1 rfl ?_
  refine me_icmp rfl rfl (fun c => ?_) (fun c => ?_)
  · replace h := h.1 (ci_ne c)
    refine me_go (pc1 := 33) (lv1 := [(2, .int (μ.2.1 46 ((μ.2.1 28 ((μ.2.1 22 x1.toNatClampNeg)).toNatClampNeg)).toNatClampNeg)), (0, .ref P.1), (1, .int x1)]) (st1 := [.ref P.1, .ref P.1]) 2 rfl ?_
    refine me_getf (v := .ref (P.2.1 23)) rfl rfl rfl ?_
    refine me_go (pc1 := 37) (lv1 := [(2, .int (μ.2.1 46 ((μ.2.1 28 ((μ.2.1 22 x1.toNatClampNeg)).toNatClampNeg)).toNatClampNeg)), (0, .ref P.1), (1, .int x1)]) (st1 := [.int (μ.2.1 46 ((μ.2.1 28 ((μ.2.1 22 x1.toNatClampNeg)).toNatClampNeg)).toNatClampNeg), .ref (P.2.1 23), .ref P.1]) 1 rfl ?_
    refine me_iald rfl (g := 23) rfl rfl h.1 ?_
    replace h := h.2
    refine me_callN rfl rfl rfl (h.mono (fun r1 μ1 h => ?_) (fun _ h => h))
    refine me_go (pc1 := 43) (lv1 := [(3, .int r1), (2, .int (μ.2.1 46 ((μ.2.1 28 ((μ.2.1 22 x1.toNatClampNeg)).toNatClampNeg)).toNatClampNeg)), (0, .ref P.1), (1, .int x1)]) (st1 := [.ref P.1]) 2 rfl ?_
    refine me_getf (v := .ref (P.2.1 20)) rfl rfl rfl ?_
    refine me_go (pc1 := 47) (lv1 := [(3, .int r1), (2, .int (μ.2.1 46 ((μ.2.1 28 ((μ.2.1 22 x1.toNatClampNeg)).toNatClampNeg)).toNatClampNeg)), (0, .ref P.1), (1, .int x1)]) (st1 := [.int r1, .ref (P.2.1 20)]) 1 rfl ?_
    refine me_iald rfl (g := 20) rfl rfl h.1 ?_
    replace h := h.2
    refine me_go (pc1 := 49) (lv1 := [(3, .int r1), (2, .int (μ.2.1 46 ((μ.2.1 28 ((μ.2.1 22 x1.toNatClampNeg)).toNatClampNeg)).toNatClampNeg)), (0, .ref P.1), (1, .int x1)]) (st1 := [.int 4, .int (μ1.2.1 20 r1.toNatClampNeg)]) 1 rfl ?_
    refine me_icmp rfl rfl (fun c => ?_) (fun c => ?_)
    · replace h := h.1 (ci_ne c)
      refine me_go (pc1 := 57) (lv1 := [(3, .int r1), (2, .int (μ.2.1 46 ((μ.2.1 28 ((μ.2.1 22 x1.toNatClampNeg)).toNatClampNeg)).toNatClampNeg)), (0, .ref P.1), (1, .int x1)]) (st1 := [.int (-1)]) 1 rfl ?_
      exact me_ret rfl rfl rfl h
    · replace h := h.2 (cn_ne c)
      refine me_go (pc1 := 57) (lv1 := [(3, .int r1), (2, .int (μ.2.1 46 ((μ.2.1 28 ((μ.2.1 22 x1.toNatClampNeg)).toNatClampNeg)).toNatClampNeg)), (0, .ref P.1), (1, .int x1)]) (st1 := [.int r1]) 2 rfl ?_
      exact me_ret rfl rfl rfl h
  · replace h := h.2 (cn_ne c)
    refine me_go (pc1 := 43) (lv1 := [(3, .int (μ.2.1 46 ((μ.2.1 28 ((μ.2.1 22 x1.toNatClampNeg)).toNatClampNeg)).toNatClampNeg)), (2, .int (μ.2.1 46 ((μ.2.1 28 ((μ.2.1 22 x1.toNatClampNeg)).toNatClampNeg)).toNatClampNeg)), (0, .ref P.1), (1, .int x1)]) (st1 := [.ref P.1]) 4 rfl ?_
    refine me_getf (v := .ref (P.2.1 20)) rfl rfl rfl ?_
    refine me_go (pc1 := 47) (lv1 := [(3, .int (μ.2.1 46 ((μ.2.1 28 ((μ.2.1 22 x1.toNatClampNeg)).toNatClampNeg)).toNatClampNeg)), (2, .int (μ.2.1 46 ((μ.2.1 28 ((μ.2.1 22 x1.toNatClampNeg)).toNatClampNeg)).toNatClampNeg)), (0, .ref P.1), (1, .int x1)]) (st1 := [.int (μ.2.1 46 ((μ.2.1 28 ((μ.2.1 22 x1.toNatClampNeg)).toNatClampNeg)).toNatClampNeg), .ref (P.2.1 20)]) 1 rfl ?_
    refine me_iald rfl (g := 20) rfl rfl h.1 ?_
    replace h := h.2
    refine me_go (pc1 := 49) (lv1 := [(3, .int (μ.2.1 46 ((μ.2.1 28 ((μ.2.1 22 x1.toNatClampNeg)).toNatClampNeg)).toNatClampNeg)), (2, .int (μ.2.1 46 ((μ.2.1 28 ((μ.2.1 22 x1.toNatClampNeg)).toNatClampNeg)).toNatClampNeg)), (0, .ref P.1), (1, .int x1)]) (st1 := [.int 4, .int (μ.2.1 20 ((μ.2.1 46 ((μ.2.1 28 ((μ.2.1 22 x1.toNatClampNeg)).toNatClampNeg)).toNatClampNeg)).toNatClampNeg)]) 1 rfl ?_
    refine me_icmp rfl rfl (fun c => ?_) (fun c => ?_)
    · replace h := h.1 (ci_ne c)
      refine me_go (pc1 := 57) (lv1 := [(3, .int (μ.2.1 46 ((μ.2.1 28 ((μ.2.1 22 x1.toNatClampNeg)).toNatClampNeg)).toNatClampNeg)), (2, .int (μ.2.1 46 ((μ.2.1 28 ((μ.2.1 22 x1.toNatClampNeg)).toNatClampNeg)).toNatClampNeg)), (0, .ref P.1), (1, .int x1)]) (st1 := [.int (-1)]) 1 rfl ?_
      exact me_ret rfl rfl rfl h
    · replace h := h.2 (cn_ne c)
      refine me_go (pc1 := 57) (lv1 := [(3, .int (μ.2.1 46 ((μ.2.1 28 ((μ.2.1 22 x1.toNatClampNeg)).toNatClampNeg)).toNatClampNeg)), (2, .int (μ.2.1 46 ((μ.2.1 28 ((μ.2.1 22 x1.toNatClampNeg)).toNatClampNeg)).toNatClampNeg)), (0, .ref P.1), (1, .int x1)]) (st1 := [.int (μ.2.1 46 ((μ.2.1 28 ((μ.2.1 22 x1.toNatClampNeg)).toNatClampNeg)).toNatClampNeg)]) 2 rfl ?_
      exact me_ret rfl rfl rfl h
theorem v_isBelow_0 {X : ev_X} {W : Nat → Prop} {d : Nat} {P : MP} {μ : MS} {R : Int32 → MS → Prop} {T : MS → Prop} (x1 : Int32) (x2 : Int32) (x3 : Int32) (h : MC X W true d 365 [.ref P.1, .int x2] P μ (fun r1 μ1 => MC X W true d 365 [.ref P.1, .int x3] P μ1 (fun r2 μ2 => MC X W true d 371 [.ref P.1, .int r1, .int r2] P μ2 (fun r3 μ3 => ((r3 = 0 → (MI r1 (μ3.2.2 20) ∧ ((¬ (μ3.2.1 20 r1.toNatClampNeg) = 27 → (MI r1 (μ3.2.2 20) ∧ ((¬ (μ3.2.1 20 r1.toNatClampNeg) = 31 → MC X W true d 367 [.ref P.1, .int r1] P μ3 (fun r4 μ4 => ((r4 = 0 → R 0 μ4) ∧ (¬ r4 = 0 → MC X W true d 367 [.ref P.1, .int r2] P μ4 (fun r5 μ5 => ((¬ r5 = 0 → ME X W true d 390 233 [(0, .ref P.1), (1, .int x1), (2, .int x2), (3, .int x3), (4, .int r1), (5, .int r2), (6, .int r1)] [] P (mS1 μ5 77 ((μ5.1 77) + 1)) R T) ∧ (r5 = 0 → R 0 μ5))) (fun _ => False)))) (fun _ => False)) ∧ ((μ3.2.1 20 r1.toNatClampNeg) = 31 → (MI r2 (μ3.2.2 20) ∧ ((¬ (μ3.2.1 20 r2.toNatClampNeg) = 31 → R 0 μ3) ∧ ((μ3.2.1 20 r2.toNatClampNeg) = 31 → (MI r1 (μ3.2.2 22) ∧ (MI r2 (μ3.2.2 22) ∧ MC X W true d 381 [.ref P.1, .int (μ3.2.1 22 r1.toNatClampNeg), .int (μ3.2.1 22 r2.toNatClampNeg)] P μ3 (fun r6 μ6 => ((r6 = 0 → R 0 μ6) ∧ (¬ r6 = 0 → (MI r1 (μ6.2.2 22) ∧ (MI r2 (μ6.2.2 22) ∧ (MI r1 (μ6.2.2 22) ∧ (MI (μ6.2.1 22 r1.toNatClampNeg) (μ6.2.2 22) ∧ (MI r2 (μ6.2.2 22) ∧ (MI (μ6.2.1 22 r2.toNatClampNeg) (μ6.2.2 22) ∧ MC X W true d 383 [.ref P.1, .int (μ6.2.1 22 r1.toNatClampNeg), .int (μ6.2.1 22 r2.toNatClampNeg), .int (μ6.2.1 22 ((μ6.2.1 22 r1.toNatClampNeg)).toNatClampNeg), .int (μ6.2.1 22 ((μ6.2.1 22 r2.toNatClampNeg)).toNatClampNeg)] P μ6 (fun r7 μ7 => ((r7 = 0 → R 0 μ7) ∧ (¬ r7 = 0 → R 1 μ7))) (fun _ => False)))))))))) (fun _ => False)))))))))) ∧ ((μ3.2.1 20 r1.toNatClampNeg) = 27 → (MI r2 (μ3.2.2 20) ∧ (((μ3.2.1 20 r2.toNatClampNeg) = 21 → R 1 μ3) ∧ (¬ (μ3.2.1 20 r2.toNatClampNeg) = 21 → (MI r2 (μ3.2.2 20) ∧ ((¬ (μ3.2.1 20 r2.toNatClampNeg) = 27 → R 0 μ3) ∧ ((μ3.2.1 20 r2.toNatClampNeg) = 27 → (MI r2 (μ3.2.2 22) ∧ (MI r1 (μ3.2.2 22) ∧ (((μ3.2.1 22 r1.toNatClampNeg).toInt < (μ3.2.1 22 r2.toNatClampNeg).toInt → R 0 μ3) ∧ ((μ3.2.1 22 r2.toNatClampNeg).toInt ≤ (μ3.2.1 22 r1.toNatClampNeg).toInt → (MI r1 (μ3.2.2 23) ∧ (MI r2 (μ3.2.2 23) ∧ (((μ3.2.1 23 r2.toNatClampNeg).toInt < (μ3.2.1 23 r1.toNatClampNeg).toInt → R 0 μ3) ∧ ((μ3.2.1 23 r1.toNatClampNeg).toInt ≤ (μ3.2.1 23 r2.toNatClampNeg).toInt → R 1 μ3)))))))))))))))))) ∧ (¬ r3 = 0 → R 1 μ3))) (fun _ => False)) (fun _ => False)) (fun _ => False)) : ME X W true d 390 0 [(0, .ref P.1), (1, .int x1), (2, .int x2), (3, .int x3)] [] P μ R T := by
  refine me_go (pc1 := 2) (lv1 := [(0, .ref P.1), (1, .int x1), (2, .int x2), (3, .int x3)]) (st1 := [.int x2, .ref P.1]) 2 rfl ?_
  refine me_callN rfl rfl rfl (h.mono (fun r1 μ1 h => ?_) (fun _ h => h))
  refine me_go (pc1 := 9) (lv1 := [(4, .int r1), (0, .ref P.1), (1, .int x1), (2, .int x2), (3, .int x3)]) (st1 := [.int x3, .ref P.1]) 3 rfl ?_
  refine me_callN rfl rfl rfl (h.mono (fun r2 μ2 h => ?_) (fun _ h => h))
  refine me_go (pc1 := 19) (lv1 := [(5, .int r2), (4, .int r1), (0, .ref P.1), (1, .int x1), (2, .int x2), (3, .int x3)]) (st1 := [.int r2, .int r1, .ref P.1]) 4 rfl ?_
  refine me_callN rfl rfl rfl (h.mono (fun r3 μ3 h => ?_) (fun _ h => h))
  refine me_ifc rfl rfl (fun c => ?_) (fun c => ?_)
  · replace h := h.1 (ci_eq c)
    refine me_go (pc1 := 28) (lv1 := [(5, .int r2), (4, .int r1), (0, .ref P.1), (1, .int x1), (2, .int x2), (3, .int x3)]) (st1 := [.ref P.1]) 1 rfl ?_
    refine me_getf (v := .ref (P.2.1 20)) rfl rfl rfl ?_
    refine me_go (pc1 := 33) (lv1 := [(5, .int r2), (4, .int r1), (0, .ref P.1), (1, .int x1), (2, .int x2), (3, .int x3)]) (st1 := [.int r1, .ref (P.2.1 20)]) 1 rfl ?_
    refine me_iald rfl (g := 20) rfl rfl h.1 ?_
    replace h := h.2
    refine me_go (pc1 := 36) (lv1 := [(5, .int r2), (4, .int r1), (0, .ref P.1), (1, .int x1), (2, .int x2), (3, .int x3)]) (st1 := [.int 27, .int (μ3.2.1 20 r1.toNatClampNeg)]) 1 rfl ?_
    refine me_icmp rfl rfl (fun c => ?_) (fun c => ?_)
    · replace h := h.1 (ci_ne c)
      refine me_go (pc1 := 104) (lv1 := [(5, .int r2), (4, .int r1), (0, .ref P.1), (1, .int x1), (2, .int x2), (3, .int x3)]) (st1 := [.ref P.1]) 1 rfl ?_
      refine me_getf (v := .ref (P.2.1 20)) rfl rfl rfl ?_
      refine me_go (pc1 := 109) (lv1 := [(5, .int r2), (4, .int r1), (0, .ref P.1), (1, .int x1), (2, .int x2), (3, .int x3)]) (st1 := [.int r1, .ref (P.2.1 20)]) 1 rfl ?_
      refine me_iald rfl (g := 20) rfl rfl h.1 ?_
      replace h := h.2
      refine me_go (pc1 := 112) (lv1 := [(5, .int r2), (4, .int r1), (0, .ref P.1), (1, .int x1), (2, .int x2), (3, .int x3)]) (st1 := [.int 31, .int (μ3.2.1 20 r1.toNatClampNeg)]) 1 rfl ?_
      refine me_icmp rfl rfl (fun c => ?_) (fun c => ?_)
      · replace h := h.1 (ci_ne c)
        refine me_go (pc1 := 202) (lv1 := [(5, .int r2), (4, .int r1), (0, .ref P.1), (1, .int x1), (2, .int x2), (3, .int x3)]) (st1 := [.int r1, .ref P.1]) 2 rfl ?_
        refine me_callN rfl rfl rfl (h.mono (fun r4 μ4 h => ?_) (fun _ h => h))
        refine me_ifc rfl rfl (fun c => ?_) (fun c => ?_)
        · replace h := h.1 (ci_eq c)
          refine me_go (pc1 := 218) (lv1 := [(5, .int r2), (4, .int r1), (0, .ref P.1), (1, .int x1), (2, .int x2), (3, .int x3)]) (st1 := [.int 0]) 1 rfl ?_
          exact me_retB rfl rfl (by decide) h
        · replace h := h.2 (cn_eq c)
          refine me_go (pc1 := 211) (lv1 := [(5, .int r2), (4, .int r1), (0, .ref P.1), (1, .int x1), (2, .int x2), (3, .int x3)]) (st1 := [.int r2, .ref P.1]) 2 rfl ?_
          refine me_callN rfl rfl rfl (h.mono (fun r5 μ5 h => ?_) (fun _ h => h))
          refine me_ifc rfl rfl (fun c => ?_) (fun c => ?_)
          · replace h := h.1 (ci_ne c)
            refine me_go (pc1 := 221) (lv1 := [(5, .int r2), (4, .int r1), (0, .ref P.1), (1, .int x1), (2, .int x2), (3, .int x3)]) (st1 := [.ref P.1, .ref P.1]) 2 rfl ?_
            refine me_getf (v := .int (μ5.1 77)) rfl rfl rfl ?_
            refine me_go (pc1 := 226) (lv1 := [(5, .int r2), (4, .int r1), (0, .ref P.1), (1, .int x1), (2, .int x2), (3, .int x3)]) (st1 := [.int ((μ5.1 77) + 1), .ref P.1]) 2 rfl ?_
            refine me_put rfl rfl rfl ?_
            refine me_go (pc1 := 233) (lv1 := [(6, .int r1), (5, .int r2), (4, .int r1), (0, .ref P.1), (1, .int x1), (2, .int x2), (3, .int x3)]) (st1 := []) 2 rfl ?_
            refine me_lv [(0, .ref P.1), (1, .int x1), (2, .int x2), (3, .int x3), (4, .int r1), (5, .int r2), (6, .int r1)] (fl_c rfl (fl_c rfl (fl_c rfl (fl_c rfl (fl_c rfl (fl_c rfl (fl_c rfl fl_0))))))) ?_
            exact h
          · replace h := h.2 (cn_ne c)
            refine me_go (pc1 := 218) (lv1 := [(5, .int r2), (4, .int r1), (0, .ref P.1), (1, .int x1), (2, .int x2), (3, .int x3)]) (st1 := [.int 0]) 1 rfl ?_
            exact me_retB rfl rfl (by decide) h
      · replace h := h.2 (cn_ne c)
        refine me_go (pc1 := 116) (lv1 := [(5, .int r2), (4, .int r1), (0, .ref P.1), (1, .int x1), (2, .int x2), (3, .int x3)]) (st1 := [.ref P.1]) 1 rfl ?_
        refine me_getf (v := .ref (P.2.1 20)) rfl rfl rfl ?_
        refine me_go (pc1 := 121) (lv1 := [(5, .int r2), (4, .int r1), (0, .ref P.1), (1, .int x1), (2, .int x2), (3, .int x3)]) (st1 := [.int r2, .ref (P.2.1 20)]) 1 rfl ?_
        refine me_iald rfl (g := 20) rfl rfl h.1 ?_
        replace h := h.2
        refine me_go (pc1 := 124) (lv1 := [(5, .int r2), (4, .int r1), (0, .ref P.1), (1, .int x1), (2, .int x2), (3, .int x3)]) (st1 := [.int 31, .int (μ3.2.1 20 r2.toNatClampNeg)]) 1 rfl ?_
        refine me_icmp rfl rfl (fun c => ?_) (fun c => ?_)
        · replace h := h.1 (ci_ne c)
          refine me_go (pc1 := 198) (lv1 := [(5, .int r2), (4, .int r1), (0, .ref P.1), (1, .int x1), (2, .int x2), (3, .int x3)]) (st1 := [.int 0]) 1 rfl ?_
          exact me_retB rfl rfl (by decide) h
        · replace h := h.2 (cn_ne c)
          refine me_go (pc1 := 129) (lv1 := [(5, .int r2), (4, .int r1), (0, .ref P.1), (1, .int x1), (2, .int x2), (3, .int x3)]) (st1 := [.ref P.1, .ref P.1]) 2 rfl ?_
          refine me_getf (v := .ref (P.2.1 22)) rfl rfl rfl ?_
          refine me_go (pc1 := 134) (lv1 := [(5, .int r2), (4, .int r1), (0, .ref P.1), (1, .int x1), (2, .int x2), (3, .int x3)]) (st1 := [.int r1, .ref (P.2.1 22), .ref P.1]) 1 rfl ?_
          refine me_iald rfl (g := 22) rfl rfl h.1 ?_
          replace h := h.2
          refine me_go (pc1 := 136) (lv1 := [(5, .int r2), (4, .int r1), (0, .ref P.1), (1, .int x1), (2, .int x2), (3, .int x3)]) (st1 := [.ref P.1, .int (μ3.2.1 22 r1.toNatClampNeg), .ref P.1]) 1 rfl ?_
          refine me_getf (v := .ref (P.2.1 22)) rfl rfl rfl ?_
          refine me_go (pc1 := 141) (lv1 := [(5, .int r2), (4, .int r1), (0, .ref P.1), (1, .int x1), (2, .int x2), (3, .int x3)]) (st1 := [.int r2, .ref (P.2.1 22), .int (μ3.2.1 22 r1.toNatClampNeg), .ref P.1]) 1 rfl ?_
          refine me_iald rfl (g := 22) rfl rfl h.1 ?_
          replace h := h.2
          refine me_callN rfl rfl rfl (h.mono (fun r6 μ6 h => ?_) (fun _ h => h))
          refine me_ifc rfl rfl (fun c => ?_) (fun c => ?_)
          · replace h := h.1 (ci_eq c)
            refine me_go (pc1 := 198) (lv1 := [(5, .int r2), (4, .int r1), (0, .ref P.1), (1, .int x1), (2, .int x2), (3, .int x3)]) (st1 := [.int 0]) 1 rfl ?_
            exact me_retB rfl rfl (by decide) h
          · replace h := h.2 (cn_eq c)
            refine me_go (pc1 := 150) (lv1 := [(5, .int r2), (4, .int r1), (0, .ref P.1), (1, .int x1), (2, .int x2), (3, .int x3)]) (st1 := [.ref P.1, .ref P.1]) 2 rfl ?_
            refine me_getf (v := .ref (P.2.1 22)) rfl rfl rfl ?_
            refine me_go (pc1 := 155) (lv1 := [(5, .int r2), (4, .int r1), (0, .ref P.1), (1, .int x1), (2, .int x2), (3, .int x3)]) (st1 := [.int r1, .ref (P.2.1 22), .ref P.1]) 1 rfl ?_
            refine me_iald rfl (g := 22) rfl rfl h.1 ?_
            replace h := h.2
            refine me_go (pc1 := 157) (lv1 := [(5, .int r2), (4, .int r1), (0, .ref P.1), (1, .int x1), (2, .int x2), (3, .int x3)]) (st1 := [.ref P.1, .int (μ6.2.1 22 r1.toNatClampNeg), .ref P.1]) 1 rfl ?_
            refine me_getf (v := .ref (P.2.1 22)) rfl rfl rfl ?_
            refine me_go (pc1 := 162) (lv1 := [(5, .int r2), (4, .int r1), (0, .ref P.1), (1, .int x1), (2, .int x2), (3, .int x3)]) (st1 := [.int r2, .ref (P.2.1 22), .int (μ6.2.1 22 r1.toNatClampNeg), .ref P.1]) 1 rfl ?_
            refine me_iald rfl (g := 22) rfl rfl h.1 ?_
            replace h := h.2
            refine me_go (pc1 := 164) (lv1 := [(5, .int r2), (4, .int r1), (0, .ref P.1), (1, .int x1), (2, .int x2), (3, .int x3)]) (st1 := [.ref P.1, .int (μ6.2.1 22 r2.toNatClampNeg), .int (μ6.2.1 22 r1.toNatClampNeg), .ref P.1]) 1 rfl ?_
            refine me_getf (v := .ref (P.2.1 22)) rfl rfl rfl ?_
            refine me_go (pc1 := 168) (lv1 := [(5, .int r2), (4, .int r1), (0, .ref P.1), (1, .int x1), (2, .int x2), (3, .int x3)]) (st1 := [.ref P.1, .ref (P.2.1 22), .int (μ6.2.1 22 r2.toNatClampNeg), .int (μ6.2.1 22 r1.toNatClampNeg), .ref P.1]) 1 rfl ?_
            refine me_getf (v := .ref (P.2.1 22)) rfl rfl rfl ?_
            refine me_go (pc1 := 173) (lv1 := [(5, .int r2), (4, .int r1), (0, .ref P.1), (1, .int x1), (2, .int x2), (3, .int x3)]) (st1 := [.int r1, .ref (P.2.1 22), .ref (P.2.1 22), .int (μ6.2.1 22 r2.toNatClampNeg), .int (μ6.2.1 22 r1.toNatClampNeg), .ref P.1]) 1 rfl ?_
            refine me_iald rfl (g := 22) rfl rfl h.1 ?_
            replace h := h.2
            refine me_iald rfl (g := 22) rfl rfl h.1 ?_
            replace h := h.2
            refine me_go (pc1 := 176) (lv1 := [(5, .int r2), (4, .int r1), (0, .ref P.1), (1, .int x1), (2, .int x2), (3, .int x3)]) (st1 := [.ref P.1, .int (μ6.2.1 22 ((μ6.2.1 22 r1.toNatClampNeg)).toNatClampNeg), .int (μ6.2.1 22 r2.toNatClampNeg), .int (μ6.2.1 22 r1.toNatClampNeg), .ref P.1]) 1 rfl ?_
            refine me_getf (v := .ref (P.2.1 22)) rfl rfl rfl ?_
            refine me_go (pc1 := 180) (lv1 := [(5, .int r2), (4, .int r1), (0, .ref P.1), (1, .int x1), (2, .int x2), (3, .int x3)]) (st1 := [.ref P.1, .ref (P.2.1 22), .int (μ6.2.1 22 ((μ6.2.1 22 r1.toNatClampNeg)).toNatClampNeg), .int (μ6.2.1 22 r2.toNatClampNeg), .int (μ6.2.1 22 r1.toNatClampNeg), .ref P.1]) 1 rfl ?_
            refine me_getf (v := .ref (P.2.1 22)) rfl rfl rfl ?_
            refine me_go (pc1 := 185) (lv1 := [(5, .int r2), (4, .int r1), (0, .ref P.1), (1, .int x1), (2, .int x2), (3, .int x3)]) (st1 := [.int r2, .ref (P.2.1 22), .ref (P.2.1 22), .int (μ6.2.1 22 ((μ6.2.1 22 r1.toNatClampNeg)).toNatClampNeg), .int (μ6.2.1 22 r2.toNatClampNeg), .int (μ6.2.1 22 r1.toNatClampNeg), .ref P.1]) 1 rfl ?_
            refine me_iald rfl (g := 22) rfl rfl h.1 ?_
            replace h := h.2
            refine me_iald rfl (g := 22) rfl rfl h.1 ?_
            replace h := h.2
            refine me_callN rfl rfl rfl (h.mono (fun r7 μ7 h => ?_) (fun _ h => h))
            refine me_ifc rfl rfl (fun c => ?_) (fun c => ?_)
            · replace h := h.1 (ci_eq c)
              refine me_go (pc1 := 198) (lv1 := [(5, .int r2), (4, .int r1), (0, .ref P.1), (1, .int x1), (2, .int x2), (3, .int x3)]) (st1 := [.int 0]) 1 rfl ?_
              exact me_retB rfl rfl (by decide) h
            · replace h := h.2 (cn_eq c)
              refine me_go (pc1 := 198) (lv1 := [(5, .int r2), (4, .int r1), (0, .ref P.1), (1, .int x1), (2, .int x2), (3, .int x3)]) (st1 := [.int 1]) 2 rfl ?_
              exact me_retB rfl rfl (by decide) h
    · replace h := h.2 (cn_ne c)
      refine me_go (pc1 := 40) (lv1 := [(5, .int r2), (4, .int r1), (0, .ref P.1), (1, .int x1), (2, .int x2), (3, .int x3)]) (st1 := [.ref P.1]) 1 rfl ?_
      refine me_getf (v := .ref (P.2.1 20)) rfl rfl rfl ?_
      refine me_go (pc1 := 45) (lv1 := [(5, .int r2), (4, .int r1), (0, .ref P.1), (1, .int x1), (2, .int x2), (3, .int x3)]) (st1 := [.int r2, .ref (P.2.1 20)]) 1 rfl ?_
      refine me_iald rfl (g := 20) rfl rfl h.1 ?_
      replace h := h.2
      refine me_go (pc1 := 48) (lv1 := [(5, .int r2), (4, .int r1), (0, .ref P.1), (1, .int x1), (2, .int x2), (3, .int x3)]) (st1 := [.int 21, .int (μ3.2.1 20 r2.toNatClampNeg)]) 1 rfl ?_
      refine me_icmp rfl rfl (fun c => ?_) (fun c => ?_)
      · replace h := h.1 (ci_eq c)
        refine me_go (pc1 := 102) (lv1 := [(5, .int r2), (4, .int r1), (0, .ref P.1), (1, .int x1), (2, .int x2), (3, .int x3)]) (st1 := [.int 1]) 2 rfl ?_
        exact me_retB rfl rfl (by decide) h
      · replace h := h.2 (cn_eq c)
        refine me_go (pc1 := 52) (lv1 := [(5, .int r2), (4, .int r1), (0, .ref P.1), (1, .int x1), (2, .int x2), (3, .int x3)]) (st1 := [.ref P.1]) 1 rfl ?_
        refine me_getf (v := .ref (P.2.1 20)) rfl rfl rfl ?_
        refine me_go (pc1 := 57) (lv1 := [(5, .int r2), (4, .int r1), (0, .ref P.1), (1, .int x1), (2, .int x2), (3, .int x3)]) (st1 := [.int r2, .ref (P.2.1 20)]) 1 rfl ?_
        refine me_iald rfl (g := 20) rfl rfl h.1 ?_
        replace h := h.2
        refine me_go (pc1 := 60) (lv1 := [(5, .int r2), (4, .int r1), (0, .ref P.1), (1, .int x1), (2, .int x2), (3, .int x3)]) (st1 := [.int 27, .int (μ3.2.1 20 r2.toNatClampNeg)]) 1 rfl ?_
        refine me_icmp rfl rfl (fun c => ?_) (fun c => ?_)
        · replace h := h.1 (ci_ne c)
          refine me_go (pc1 := 102) (lv1 := [(5, .int r2), (4, .int r1), (0, .ref P.1), (1, .int x1), (2, .int x2), (3, .int x3)]) (st1 := [.int 0]) 1 rfl ?_
          exact me_retB rfl rfl (by decide) h
        · replace h := h.2 (cn_ne c)
          refine me_go (pc1 := 64) (lv1 := [(5, .int r2), (4, .int r1), (0, .ref P.1), (1, .int x1), (2, .int x2), (3, .int x3)]) (st1 := [.ref P.1]) 1 rfl ?_
          refine me_getf (v := .ref (P.2.1 22)) rfl rfl rfl ?_
          refine me_go (pc1 := 69) (lv1 := [(5, .int r2), (4, .int r1), (0, .ref P.1), (1, .int x1), (2, .int x2), (3, .int x3)]) (st1 := [.int r2, .ref (P.2.1 22)]) 1 rfl ?_
          refine me_iald rfl (g := 22) rfl rfl h.1 ?_
          replace h := h.2
          refine me_go (pc1 := 71) (lv1 := [(5, .int r2), (4, .int r1), (0, .ref P.1), (1, .int x1), (2, .int x2), (3, .int x3)]) (st1 := [.ref P.1, .int (μ3.2.1 22 r2.toNatClampNeg)]) 1 rfl ?_
          refine me_getf (v := .ref (P.2.1 22)) rfl rfl rfl ?_
          refine me_go (pc1 := 76) (lv1 := [(5, .int r2), (4, .int r1), (0, .ref P.1), (1, .int x1), (2, .int x2), (3, .int x3)]) (st1 := [.int r1, .ref (P.2.1 22), .int (μ3.2.1 22 r2.toNatClampNeg)]) 1 rfl ?_
          refine me_iald rfl (g := 22) rfl rfl h.1 ?_
          replace h := h.2
          refine me_icmp rfl rfl (fun c => ?_) (fun c => ?_)
          · replace h := h.1 (ci_gt c)
            refine me_go (pc1 := 102) (lv1 := [(5, .int r2), (4, .int r1), (0, .ref P.1), (1, .int x1), (2, .int x2), (3, .int x3)]) (st1 := [.int 0]) 1 rfl ?_
            exact me_retB rfl rfl (by decide) h
          · replace h := h.2 (cn_gt c)
            refine me_go (pc1 := 81) (lv1 := [(5, .int r2), (4, .int r1), (0, .ref P.1), (1, .int x1), (2, .int x2), (3, .int x3)]) (st1 := [.ref P.1]) 1 rfl ?_
            refine me_getf (v := .ref (P.2.1 23)) rfl rfl rfl ?_
            refine me_go (pc1 := 86) (lv1 := [(5, .int r2), (4, .int r1), (0, .ref P.1), (1, .int x1), (2, .int x2), (3, .int x3)]) (st1 := [.int r1, .ref (P.2.1 23)]) 1 rfl ?_
            refine me_iald rfl (g := 23) rfl rfl h.1 ?_
            replace h := h.2
            refine me_go (pc1 := 88) (lv1 := [(5, .int r2), (4, .int r1), (0, .ref P.1), (1, .int x1), (2, .int x2), (3, .int x3)]) (st1 := [.ref P.1, .int (μ3.2.1 23 r1.toNatClampNeg)]) 1 rfl ?_
            refine me_getf (v := .ref (P.2.1 23)) rfl rfl rfl ?_
            refine me_go (pc1 := 93) (lv1 := [(5, .int r2), (4, .int r1), (0, .ref P.1), (1, .int x1), (2, .int x2), (3, .int x3)]) (st1 := [.int r2, .ref (P.2.1 23), .int (μ3.2.1 23 r1.toNatClampNeg)]) 1 rfl ?_
            refine me_iald rfl (g := 23) rfl rfl h.1 ?_
            replace h := h.2
            refine me_icmp rfl rfl (fun c => ?_) (fun c => ?_)
            · replace h := h.1 (ci_gt c)
              refine me_go (pc1 := 102) (lv1 := [(5, .int r2), (4, .int r1), (0, .ref P.1), (1, .int x1), (2, .int x2), (3, .int x3)]) (st1 := [.int 0]) 1 rfl ?_
              exact me_retB rfl rfl (by decide) h
            · replace h := h.2 (cn_gt c)
              refine me_go (pc1 := 102) (lv1 := [(5, .int r2), (4, .int r1), (0, .ref P.1), (1, .int x1), (2, .int x2), (3, .int x3)]) (st1 := [.int 1]) 2 rfl ?_
              exact me_retB rfl rfl (by decide) h
  · replace h := h.2 (cn_eq c)
    refine me_go (pc1 := 26) (lv1 := [(5, .int r2), (4, .int r1), (0, .ref P.1), (1, .int x1), (2, .int x2), (3, .int x3)]) (st1 := [.int 1]) 1 rfl ?_
    exact me_retB rfl rfl (by decide) h
theorem v_isBelow_233 {X : ev_X} {W : Nat → Prop} {d : Nat} {P : MP} {μ : MS} {R : Int32 → MS → Prop} {T : MS → Prop} (x1 : Int32) (x2 : Int32) (x3 : Int32) (x4 : Int32) (x5 : Int32) (x6 : Int32) (h : ((x6.toInt < (0 : Int) → R 0 μ) ∧ ((0 : Int) ≤ x6.toInt → MC X W true d 367 [.ref P.1, .int x6] P μ (fun r1 μ1 => ((r1 = 0 → R 0 μ1) ∧ (¬ r1 = 0 → (MI x6 (μ1.2.2 79) ∧ (((μ1.2.1 79 x6.toNatClampNeg) = (μ1.1 77) → R 0 μ1) ∧ (¬ (μ1.2.1 79 x6.toNatClampNeg) = (μ1.1 77) → ((x6 = x4 → (MI x6 (μ1.2.2 79) ∧ MC X W true d 388 [.ref P.1, .int x1, .int x6] P (mA1 μ1 79 x6.toNatClampNeg (μ1.1 77)) (fun r2 μ2 => ME X W true d 390 233 [(0, .ref P.1), (1, .int x1), (2, .int x2), (3, .int x3), (4, .int x4), (5, .int x5), (6, .int r2)] [] P μ2 R T) (fun _ => False))) ∧ (¬ x6 = x4 → MC X W true d 371 [.ref P.1, .int x6, .int x5] P μ1 (fun r3 μ3 => ((r3 = 0 → (MI x6 (μ3.2.2 79) ∧ MC X W true d 388 [.ref P.1, .int x1, .int x6] P (mA1 μ3 79 x6.toNatClampNeg (μ3.1 77)) (fun r4 μ4 => ME X W true d 390 233 [(0, .ref P.1), (1, .int x1), (2, .int x2), (3, .int x3), (4, .int x4), (5, .int x5), (6, .int r4)] [] P μ4 R T) (fun _ => False))) ∧ (¬ r3 = 0 → R 1 μ3))) (fun _ => False))))))))) (fun _ => False)))) : ME X W true d 390 233 [(0, .ref P.1), (1, .int x1), (2, .int x2), (3, .int x3), (4, .int x4), (5, .int x5), (6, .int x6)] [] P μ R T := by
  refine me_go (pc1 := 235) (lv1 := [(0, .ref P.1), (1, .int x1), (2, .int x2), (3, .int x3), (4, .int x4), (5, .int x5), (6, .int x6)]) (st1 := [.int x6]) 1 rfl ?_
  refine me_ifc rfl rfl (fun c => ?_) (fun c => ?_)
  · replace h := h.1 (ci_lt c)
    refine me_go (pc1 := 305) (lv1 := [(0, .ref P.1), (1, .int x1), (2, .int x2), (3, .int x3), (4, .int x4), (5, .int x5), (6, .int x6)]) (st1 := [.int 0]) 1 rfl ?_
    exact me_retB rfl rfl (by decide) h
  · replace h := h.2 (cn_lt c)
    refine me_go (pc1 := 241) (lv1 := [(0, .ref P.1), (1, .int x1), (2, .int x2), (3, .int x3), (4, .int x4), (5, .int x5), (6, .int x6)]) (st1 := [.int x6, .ref P.1]) 2 rfl ?_
    refine me_callN rfl rfl rfl (h.mono (fun r1 μ1 h => ?_) (fun _ h => h))
    refine me_ifc rfl rfl (fun c => ?_) (fun c => ?_)
    · replace h := h.1 (ci_eq c)
      refine me_go (pc1 := 305) (lv1 := [(0, .ref P.1), (1, .int x1), (2, .int x2), (3, .int x3), (4, .int x4), (5, .int x5), (6, .int x6)]) (st1 := [.int 0]) 1 rfl ?_
      exact me_retB rfl rfl (by decide) h
    · replace h := h.2 (cn_eq c)
      refine me_go (pc1 := 248) (lv1 := [(0, .ref P.1), (1, .int x1), (2, .int x2), (3, .int x3), (4, .int x4), (5, .int x5), (6, .int x6)]) (st1 := [.ref P.1]) 1 rfl ?_
      refine me_getf (v := .ref (P.2.1 79)) rfl rfl rfl ?_
      refine me_go (pc1 := 253) (lv1 := [(0, .ref P.1), (1, .int x1), (2, .int x2), (3, .int x3), (4, .int x4), (5, .int x5), (6, .int x6)]) (st1 := [.int x6, .ref (P.2.1 79)]) 1 rfl ?_
      refine me_iald rfl (g := 79) rfl rfl h.1 ?_
      replace h := h.2
      refine me_go (pc1 := 255) (lv1 := [(0, .ref P.1), (1, .int x1), (2, .int x2), (3, .int x3), (4, .int x4), (5, .int x5), (6, .int x6)]) (st1 := [.ref P.1, .int (μ1.2.1 79 x6.toNatClampNeg)]) 1 rfl ?_
      refine me_getf (v := .int (μ1.1 77)) rfl rfl rfl ?_
      refine me_icmp rfl rfl (fun c => ?_) (fun c => ?_)
      · replace h := h.1 (ci_eq c)
        refine me_go (pc1 := 305) (lv1 := [(0, .ref P.1), (1, .int x1), (2, .int x2), (3, .int x3), (4, .int x4), (5, .int x5), (6, .int x6)]) (st1 := [.int 0]) 1 rfl ?_
        exact me_retB rfl rfl (by decide) h
      · replace h := h.2 (cn_eq c)
        refine me_go (pc1 := 265) (lv1 := [(0, .ref P.1), (1, .int x1), (2, .int x2), (3, .int x3), (4, .int x4), (5, .int x5), (6, .int x6)]) (st1 := [.int x4, .int x6]) 2 rfl ?_
        refine me_icmp rfl rfl (fun c => ?_) (fun c => ?_)
        · replace h := h.1 (ci_eq c)
          refine me_go (pc1 := 282) (lv1 := [(0, .ref P.1), (1, .int x1), (2, .int x2), (3, .int x3), (4, .int x4), (5, .int x5), (6, .int x6)]) (st1 := [.ref P.1]) 1 rfl ?_
          refine me_getf (v := .ref (P.2.1 79)) rfl rfl rfl ?_
          refine me_go (pc1 := 288) (lv1 := [(0, .ref P.1), (1, .int x1), (2, .int x2), (3, .int x3), (4, .int x4), (5, .int x5), (6, .int x6)]) (st1 := [.ref P.1, .int x6, .ref (P.2.1 79)]) 2 rfl ?_
          refine me_getf (v := .int (μ1.1 77)) rfl rfl rfl ?_
          have hi := h.1
          replace h := h.2
          refine me_iast rfl (g := 79) rfl rfl hi ?_
          refine me_go (pc1 := 296) (lv1 := [(0, .ref P.1), (1, .int x1), (2, .int x2), (3, .int x3), (4, .int x4), (5, .int x5), (6, .int x6)]) (st1 := [.int x6, .int x1, .ref P.1]) 3 rfl ?_
          refine me_callN rfl rfl rfl (h.mono (fun r2 μ2 h => ?_) (fun _ h => h))
          refine me_go (pc1 := 233) (lv1 := [(6, .int r2), (0, .ref P.1), (1, .int x1), (2, .int x2), (3, .int x3), (4, .int x4), (5, .int x5)]) (st1 := []) 2 rfl ?_
          refine me_lv [(0, .ref P.1), (1, .int x1), (2, .int x2), (3, .int x3), (4, .int x4), (5, .int x5), (6, .int r2)] (fl_c rfl (fl_c rfl (fl_c rfl (fl_c rfl (fl_c rfl (fl_c rfl (fl_c rfl fl_0))))))) ?_
          exact h
        · replace h := h.2 (cn_eq c)
          refine me_go (pc1 := 273) (lv1 := [(0, .ref P.1), (1, .int x1), (2, .int x2), (3, .int x3), (4, .int x4), (5, .int x5), (6, .int x6)]) (st1 := [.int x5, .int x6, .ref P.1]) 3 rfl ?_
          refine me_callN rfl rfl rfl (h.mono (fun r3 μ3 h => ?_) (fun _ h => h))
          refine me_ifc rfl rfl (fun c => ?_) (fun c => ?_)
          · replace h := h.1 (ci_eq c)
            refine me_go (pc1 := 282) (lv1 := [(0, .ref P.1), (1, .int x1), (2, .int x2), (3, .int x3), (4, .int x4), (5, .int x5), (6, .int x6)]) (st1 := [.ref P.1]) 1 rfl ?_
            refine me_getf (v := .ref (P.2.1 79)) rfl rfl rfl ?_
            refine me_go (pc1 := 288) (lv1 := [(0, .ref P.1), (1, .int x1), (2, .int x2), (3, .int x3), (4, .int x4), (5, .int x5), (6, .int x6)]) (st1 := [.ref P.1, .int x6, .ref (P.2.1 79)]) 2 rfl ?_
            refine me_getf (v := .int (μ3.1 77)) rfl rfl rfl ?_
            have hi := h.1
            replace h := h.2
            refine me_iast rfl (g := 79) rfl rfl hi ?_
            refine me_go (pc1 := 296) (lv1 := [(0, .ref P.1), (1, .int x1), (2, .int x2), (3, .int x3), (4, .int x4), (5, .int x5), (6, .int x6)]) (st1 := [.int x6, .int x1, .ref P.1]) 3 rfl ?_
            refine me_callN rfl rfl rfl (h.mono (fun r4 μ4 h => ?_) (fun _ h => h))
            refine me_go (pc1 := 233) (lv1 := [(6, .int r4), (0, .ref P.1), (1, .int x1), (2, .int x2), (3, .int x3), (4, .int x4), (5, .int x5)]) (st1 := []) 2 rfl ?_
            refine me_lv [(0, .ref P.1), (1, .int x1), (2, .int x2), (3, .int x3), (4, .int x4), (5, .int x5), (6, .int r4)] (fl_c rfl (fl_c rfl (fl_c rfl (fl_c rfl (fl_c rfl (fl_c rfl (fl_c rfl fl_0))))))) ?_
            exact h
          · replace h := h.2 (cn_eq c)
            refine me_go (pc1 := 280) (lv1 := [(0, .ref P.1), (1, .int x1), (2, .int x2), (3, .int x3), (4, .int x4), (5, .int x5), (6, .int x6)]) (st1 := [.int 1]) 1 rfl ?_
            exact me_retB rfl rfl (by decide) h
theorem v_memberOf_0 {X : ev_X} {W : Nat → Prop} {d : Nat} {P : MP} {μ : MS} {R : Int32 → MS → Prop} {T : MS → Prop} (x1 : Int32) (x2 : Int32) (x3 : Int32) (h : ME X W true d 391 13 [(0, .ref P.1), (1, .int x1), (2, .int x2), (3, .int x3), (4, .int x2)] [] P (mS1 μ 77 ((μ.1 77) + 1)) R T) : ME X W true d 391 0 [(0, .ref P.1), (1, .int x1), (2, .int x2), (3, .int x3)] [] P μ R T := by
  refine me_go (pc1 := 2) (lv1 := [(0, .ref P.1), (1, .int x1), (2, .int x2), (3, .int x3)]) (st1 := [.ref P.1, .ref P.1]) 2 rfl ?_
  refine me_getf (v := .int (μ.1 77)) rfl rfl rfl ?_
  refine me_go (pc1 := 7) (lv1 := [(0, .ref P.1), (1, .int x1), (2, .int x2), (3, .int x3)]) (st1 := [.int ((μ.1 77) + 1), .ref P.1]) 2 rfl ?_
  refine me_put rfl rfl rfl ?_
  refine me_go (pc1 := 13) (lv1 := [(4, .int x2), (0, .ref P.1), (1, .int x1), (2, .int x2), (3, .int x3)]) (st1 := []) 2 rfl ?_
  refine me_lv [(0, .ref P.1), (1, .int x1), (2, .int x2), (3, .int x3), (4, .int x2)] (fl_c rfl (fl_c rfl (fl_c rfl (fl_c rfl (fl_c rfl fl_0))))) ?_
  exact h
theorem v_memberOf_13 {X : ev_X} {W : Nat → Prop} {d : Nat} {P : MP} {μ : MS} {R : Int32 → MS → Prop} {T : MS → Prop} (x1 : Int32) (x2 : Int32) (x3 : Int32) (x4 : Int32) (h : ((x4.toInt < (0 : Int) → R (-1) μ) ∧ ((0 : Int) ≤ x4.toInt → MC X W true d 367 [.ref P.1, .int x4] P μ (fun r1 μ1 => ((r1 = 0 → R (-1) μ1) ∧ (¬ r1 = 0 → (MI x4 (μ1.2.2 79) ∧ (((μ1.2.1 79 x4.toNatClampNeg) = (μ1.1 77) → R (-1) μ1) ∧ (¬ (μ1.2.1 79 x4.toNatClampNeg) = (μ1.1 77) → (MI x4 (μ1.2.2 79) ∧ (MI x4 (μ1.2.2 20) ∧ ((¬ (μ1.2.1 20 x4.toNatClampNeg) = 32 → (MI x4 (μ1.2.2 20) ∧ ((¬ (μ1.2.1 20 x4.toNatClampNeg) = 4 → ME X W true d 391 147 [(0, .ref P.1), (1, .int x1), (2, .int x2), (3, .int x3), (4, .int x4), (5, .int (-1)), (6, .int (-1))] [] P (mS1 (mA1 μ1 79 x4.toNatClampNeg (μ1.1 77)) 80 x4) R T) ∧ ((μ1.2.1 20 x4.toNatClampNeg) = 4 → (MI x4 (μ1.2.2 72) ∧ (((μ1.2.1 72 x4.toNatClampNeg).toInt < (0 : Int) → ME X W true d 391 147 [(0, .ref P.1), (1, .int x1), (2, .int x2), (3, .int x3), (4, .int x4), (5, .int (-1)), (6, .int (-1))] [] P (mS1 (mA1 μ1 79 x4.toNatClampNeg (μ1.1 77)) 80 x4) R T) ∧ ((0 : Int) ≤ (μ1.2.1 72 x4.toNatClampNeg).toInt → (MI x4 (μ1.2.2 72) ∧ MC X W true d 384 [.ref P.1, .int x1, .int (μ1.2.1 72 x4.toNatClampNeg)] P (mA1 μ1 79 x4.toNatClampNeg (μ1.1 77)) (fun r2 μ2 => ((r2 = 0 → ME X W true d 391 147 [(0, .ref P.1), (1, .int x1), (2, .int x2), (3, .int x3), (4, .int x4), (5, .int (-1)), (6, .int (-1))] [] P (mS1 μ2 80 x4) R T) ∧ (¬ r2 = 0 → (MI x4 (μ2.2.2 72) ∧ (MI (μ2.2.1 72 x4.toNatClampNeg) (μ2.2.2 23) ∧ (((0 : Int) ≤ (μ2.2.1 23 ((μ2.2.1 72 x4.toNatClampNeg)).toNatClampNeg).toInt → (MI (μ2.2.1 23 ((μ2.2.1 72 x4.toNatClampNeg)).toNatClampNeg) (μ2.2.2 23) ∧ ME X W true d 391 147 [(0, .ref P.1), (1, .int x1), (2, .int x2), (3, .int x3), (4, .int x4), (5, .int (μ2.2.1 23 ((μ2.2.1 72 x4.toNatClampNeg)).toNatClampNeg)), (6, .int (μ2.2.1 23 ((μ2.2.1 23 ((μ2.2.1 72 x4.toNatClampNeg)).toNatClampNeg)).toNatClampNeg))] [] P (mS1 μ2 80 x4) R T)) ∧ ((μ2.2.1 23 ((μ2.2.1 72 x4.toNatClampNeg)).toNatClampNeg).toInt < (0 : Int) → ME X W true d 391 147 [(0, .ref P.1), (1, .int x1), (2, .int x2), (3, .int x3), (4, .int x4), (5, .int (μ2.2.1 23 ((μ2.2.1 72 x4.toNatClampNeg)).toNatClampNeg)), (6, .int (-1))] [] P (mS1 μ2 80 x4) R T))))))) (fun _ => False))))))))) ∧ ((μ1.2.1 20 x4.toNatClampNeg) = 32 → (((0 : Int) ≤ x4.toInt → (MI x4 (μ1.2.2 23) ∧ ME X W true d 391 147 [(0, .ref P.1), (1, .int x1), (2, .int x2), (3, .int x3), (4, .int x4), (5, .int x4), (6, .int (μ1.2.1 23 x4.toNatClampNeg))] [] P (mS1 (mA1 μ1 79 x4.toNatClampNeg (μ1.1 77)) 80 x4) R T)) ∧ (x4.toInt < (0 : Int) → ME X W true d 391 147 [(0, .ref P.1), (1, .int x1), (2, .int x2), (3, .int x3), (4, .int x4), (5, .int x4), (6, .int (-1))] [] P (mS1 (mA1 μ1 79 x4.toNatClampNeg (μ1.1 77)) 80 x4) R T)))))))))))) (fun _ => False)))) : ME X W true d 391 13 [(0, .ref P.1), (1, .int x1), (2, .int x2), (3, .int x3), (4, .int x4)] [] P μ R T := by
  refine me_go (pc1 := 15) (lv1 := [(0, .ref P.1), (1, .int x1), (2, .int x2), (3, .int x3), (4, .int x4)]) (st1 := [.int x4]) 1 rfl ?_
  refine me_ifc rfl rfl (fun c => ?_) (fun c => ?_)
  · replace h := h.1 (ci_lt c)
    refine me_go (pc1 := 240) (lv1 := [(0, .ref P.1), (1, .int x1), (2, .int x2), (3, .int x3), (4, .int x4)]) (st1 := [.int (-1)]) 1 rfl ?_
    exact me_ret rfl rfl rfl h
  · replace h := h.2 (cn_lt c)
    refine me_go (pc1 := 21) (lv1 := [(0, .ref P.1), (1, .int x1), (2, .int x2), (3, .int x3), (4, .int x4)]) (st1 := [.int x4, .ref P.1]) 2 rfl ?_
    refine me_callN rfl rfl rfl (h.mono (fun r1 μ1 h => ?_) (fun _ h => h))
    refine me_ifc rfl rfl (fun c => ?_) (fun c => ?_)
    · replace h := h.1 (ci_eq c)
      refine me_go (pc1 := 240) (lv1 := [(0, .ref P.1), (1, .int x1), (2, .int x2), (3, .int x3), (4, .int x4)]) (st1 := [.int (-1)]) 1 rfl ?_
      exact me_ret rfl rfl rfl h
    · replace h := h.2 (cn_eq c)
      refine me_go (pc1 := 28) (lv1 := [(0, .ref P.1), (1, .int x1), (2, .int x2), (3, .int x3), (4, .int x4)]) (st1 := [.ref P.1]) 1 rfl ?_
      refine me_getf (v := .ref (P.2.1 79)) rfl rfl rfl ?_
      refine me_go (pc1 := 33) (lv1 := [(0, .ref P.1), (1, .int x1), (2, .int x2), (3, .int x3), (4, .int x4)]) (st1 := [.int x4, .ref (P.2.1 79)]) 1 rfl ?_
      refine me_iald rfl (g := 79) rfl rfl h.1 ?_
      replace h := h.2
      refine me_go (pc1 := 35) (lv1 := [(0, .ref P.1), (1, .int x1), (2, .int x2), (3, .int x3), (4, .int x4)]) (st1 := [.ref P.1, .int (μ1.2.1 79 x4.toNatClampNeg)]) 1 rfl ?_
      refine me_getf (v := .int (μ1.1 77)) rfl rfl rfl ?_
      refine me_icmp rfl rfl (fun c => ?_) (fun c => ?_)
      · replace h := h.1 (ci_eq c)
        refine me_go (pc1 := 240) (lv1 := [(0, .ref P.1), (1, .int x1), (2, .int x2), (3, .int x3), (4, .int x4)]) (st1 := [.int (-1)]) 1 rfl ?_
        exact me_ret rfl rfl rfl h
      · replace h := h.2 (cn_eq c)
        refine me_go (pc1 := 42) (lv1 := [(0, .ref P.1), (1, .int x1), (2, .int x2), (3, .int x3), (4, .int x4)]) (st1 := [.ref P.1]) 1 rfl ?_
        refine me_getf (v := .ref (P.2.1 79)) rfl rfl rfl ?_
        refine me_go (pc1 := 48) (lv1 := [(0, .ref P.1), (1, .int x1), (2, .int x2), (3, .int x3), (4, .int x4)]) (st1 := [.ref P.1, .int x4, .ref (P.2.1 79)]) 2 rfl ?_
        refine me_getf (v := .int (μ1.1 77)) rfl rfl rfl ?_
        have hi := h.1
        replace h := h.2
        refine me_iast rfl (g := 79) rfl rfl hi ?_
        refine me_go (pc1 := 53) (lv1 := [(0, .ref P.1), (1, .int x1), (2, .int x2), (3, .int x3), (4, .int x4)]) (st1 := [.ref P.1]) 1 rfl ?_
        refine me_getf (v := .ref (P.2.1 20)) rfl rfl rfl ?_
        refine me_go (pc1 := 58) (lv1 := [(0, .ref P.1), (1, .int x1), (2, .int x2), (3, .int x3), (4, .int x4)]) (st1 := [.int x4, .ref (P.2.1 20)]) 1 rfl ?_
        refine me_iald rfl (g := 20) rfl rfl h.1 ?_
        replace h := h.2
        refine me_go (pc1 := 61) (lv1 := [(0, .ref P.1), (1, .int x1), (2, .int x2), (3, .int x3), (4, .int x4)]) (st1 := [.int 32, .int (μ1.2.1 20 x4.toNatClampNeg)]) 1 rfl ?_
        refine me_icmp rfl rfl (fun c => ?_) (fun c => ?_)
        · replace h := h.1 (ci_ne c)
          refine me_go (pc1 := 70) (lv1 := [(0, .ref P.1), (1, .int x1), (2, .int x2), (3, .int x3), (4, .int x4)]) (st1 := [.ref P.1]) 1 rfl ?_
          refine me_getf (v := .ref (P.2.1 20)) rfl rfl rfl ?_
          refine me_go (pc1 := 75) (lv1 := [(0, .ref P.1), (1, .int x1), (2, .int x2), (3, .int x3), (4, .int x4)]) (st1 := [.int x4, .ref (P.2.1 20)]) 1 rfl ?_
          refine me_iald rfl (g := 20) rfl rfl h.1 ?_
          replace h := h.2
          refine me_go (pc1 := 77) (lv1 := [(0, .ref P.1), (1, .int x1), (2, .int x2), (3, .int x3), (4, .int x4)]) (st1 := [.int 4, .int (μ1.2.1 20 x4.toNatClampNeg)]) 1 rfl ?_
          refine me_icmp rfl rfl (fun c => ?_) (fun c => ?_)
          · replace h := h.1 (ci_ne c)
            refine me_go (pc1 := 126) (lv1 := [(5, .int (-1)), (0, .ref P.1), (1, .int x1), (2, .int x2), (3, .int x3), (4, .int x4)]) (st1 := [.int x4, .ref P.1]) 4 rfl ?_
            refine me_put rfl rfl rfl ?_
            refine me_go (pc1 := 131) (lv1 := [(5, .int (-1)), (0, .ref P.1), (1, .int x1), (2, .int x2), (3, .int x3), (4, .int x4)]) (st1 := [.int (-1)]) 1 rfl ?_
            refine me_ifc rfl rfl (fun c => absurd c (by decide)) (fun _ => ?_)
            refine me_go (pc1 := 147) (lv1 := [(6, .int (-1)), (5, .int (-1)), (0, .ref P.1), (1, .int x1), (2, .int x2), (3, .int x3), (4, .int x4)]) (st1 := []) 3 rfl ?_
            refine me_lv [(0, .ref P.1), (1, .int x1), (2, .int x2), (3, .int x3), (4, .int x4), (5, .int (-1)), (6, .int (-1))] (fl_c rfl (fl_c rfl (fl_c rfl (fl_c rfl (fl_c rfl (fl_c rfl (fl_c rfl fl_0))))))) ?_
            exact h
          · replace h := h.2 (cn_ne c)
            refine me_go (pc1 := 81) (lv1 := [(0, .ref P.1), (1, .int x1), (2, .int x2), (3, .int x3), (4, .int x4)]) (st1 := [.ref P.1]) 1 rfl ?_
            refine me_getf (v := .ref (P.2.1 72)) rfl rfl rfl ?_
            refine me_go (pc1 := 86) (lv1 := [(0, .ref P.1), (1, .int x1), (2, .int x2), (3, .int x3), (4, .int x4)]) (st1 := [.int x4, .ref (P.2.1 72)]) 1 rfl ?_
            refine me_iald rfl (g := 72) rfl rfl h.1 ?_
            replace h := h.2
            refine me_ifc rfl rfl (fun c => ?_) (fun c => ?_)
            · replace h := h.1 (ci_lt c)
              refine me_go (pc1 := 126) (lv1 := [(5, .int (-1)), (0, .ref P.1), (1, .int x1), (2, .int x2), (3, .int x3), (4, .int x4)]) (st1 := [.int x4, .ref P.1]) 4 rfl ?_
              refine me_put rfl rfl rfl ?_
              refine me_go (pc1 := 131) (lv1 := [(5, .int (-1)), (0, .ref P.1), (1, .int x1), (2, .int x2), (3, .int x3), (4, .int x4)]) (st1 := [.int (-1)]) 1 rfl ?_
              refine me_ifc rfl rfl (fun c => absurd c (by decide)) (fun _ => ?_)
              refine me_go (pc1 := 147) (lv1 := [(6, .int (-1)), (5, .int (-1)), (0, .ref P.1), (1, .int x1), (2, .int x2), (3, .int x3), (4, .int x4)]) (st1 := []) 3 rfl ?_
              refine me_lv [(0, .ref P.1), (1, .int x1), (2, .int x2), (3, .int x3), (4, .int x4), (5, .int (-1)), (6, .int (-1))] (fl_c rfl (fl_c rfl (fl_c rfl (fl_c rfl (fl_c rfl (fl_c rfl (fl_c rfl fl_0))))))) ?_
              exact h
            · replace h := h.2 (cn_lt c)
              refine me_go (pc1 := 93) (lv1 := [(0, .ref P.1), (1, .int x1), (2, .int x2), (3, .int x3), (4, .int x4)]) (st1 := [.ref P.1, .int x1, .ref P.1]) 3 rfl ?_
              refine me_getf (v := .ref (P.2.1 72)) rfl rfl rfl ?_
              refine me_go (pc1 := 98) (lv1 := [(0, .ref P.1), (1, .int x1), (2, .int x2), (3, .int x3), (4, .int x4)]) (st1 := [.int x4, .ref (P.2.1 72), .int x1, .ref P.1]) 1 rfl ?_
              refine me_iald rfl (g := 72) rfl rfl h.1 ?_
              replace h := h.2
              refine me_callN rfl rfl rfl (h.mono (fun r2 μ2 h => ?_) (fun _ h => h))
              refine me_ifc rfl rfl (fun c => ?_) (fun c => ?_)
              · replace h := h.1 (ci_eq c)
                refine me_go (pc1 := 126) (lv1 := [(5, .int (-1)), (0, .ref P.1), (1, .int x1), (2, .int x2), (3, .int x3), (4, .int x4)]) (st1 := [.int x4, .ref P.1]) 4 rfl ?_
                refine me_put rfl rfl rfl ?_
                refine me_go (pc1 := 131) (lv1 := [(5, .int (-1)), (0, .ref P.1), (1, .int x1), (2, .int x2), (3, .int x3), (4, .int x4)]) (st1 := [.int (-1)]) 1 rfl ?_
                refine me_ifc rfl rfl (fun c => absurd c (by decide)) (fun _ => ?_)
                refine me_go (pc1 := 147) (lv1 := [(6, .int (-1)), (5, .int (-1)), (0, .ref P.1), (1, .int x1), (2, .int x2), (3, .int x3), (4, .int x4)]) (st1 := []) 3 rfl ?_
                refine me_lv [(0, .ref P.1), (1, .int x1), (2, .int x2), (3, .int x3), (4, .int x4), (5, .int (-1)), (6, .int (-1))] (fl_c rfl (fl_c rfl (fl_c rfl (fl_c rfl (fl_c rfl (fl_c rfl (fl_c rfl fl_0))))))) ?_
                exact h
              · replace h := h.2 (cn_eq c)
                refine me_go (pc1 := 106) (lv1 := [(0, .ref P.1), (1, .int x1), (2, .int x2), (3, .int x3), (4, .int x4)]) (st1 := [.ref P.1]) 1 rfl ?_
                refine me_getf (v := .ref (P.2.1 23)) rfl rfl rfl ?_
                refine me_go (pc1 := 110) (lv1 := [(0, .ref P.1), (1, .int x1), (2, .int x2), (3, .int x3), (4, .int x4)]) (st1 := [.ref P.1, .ref (P.2.1 23)]) 1 rfl ?_
                refine me_getf (v := .ref (P.2.1 72)) rfl rfl rfl ?_
                refine me_go (pc1 := 115) (lv1 := [(0, .ref P.1), (1, .int x1), (2, .int x2), (3, .int x3), (4, .int x4)]) (st1 := [.int x4, .ref (P.2.1 72), .ref (P.2.1 23)]) 1 rfl ?_
                refine me_iald rfl (g := 72) rfl rfl h.1 ?_
                replace h := h.2
                refine me_iald rfl (g := 23) rfl rfl h.1 ?_
                replace h := h.2
                refine me_go (pc1 := 126) (lv1 := [(5, .int (μ2.2.1 23 ((μ2.2.1 72 x4.toNatClampNeg)).toNatClampNeg)), (0, .ref P.1), (1, .int x1), (2, .int x2), (3, .int x3), (4, .int x4)]) (st1 := [.int x4, .ref P.1]) 4 rfl ?_
                refine me_put rfl rfl rfl ?_
                refine me_go (pc1 := 131) (lv1 := [(5, .int (μ2.2.1 23 ((μ2.2.1 72 x4.toNatClampNeg)).toNatClampNeg)), (0, .ref P.1), (1, .int x1), (2, .int x2), (3, .int x3), (4, .int x4)]) (st1 := [.int (μ2.2.1 23 ((μ2.2.1 72 x4.toNatClampNeg)).toNatClampNeg)]) 1 rfl ?_
                refine me_ifc rfl rfl (fun c => ?_) (fun c => ?_)
                · replace h := h.1 (ci_ge c)
                  refine me_go (pc1 := 139) (lv1 := [(5, .int (μ2.2.1 23 ((μ2.2.1 72 x4.toNatClampNeg)).toNatClampNeg)), (0, .ref P.1), (1, .int x1), (2, .int x2), (3, .int x3), (4, .int x4)]) (st1 := [.ref P.1]) 1 rfl ?_
                  refine me_getf (v := .ref (P.2.1 23)) rfl rfl rfl ?_
                  refine me_go (pc1 := 144) (lv1 := [(5, .int (μ2.2.1 23 ((μ2.2.1 72 x4.toNatClampNeg)).toNatClampNeg)), (0, .ref P.1), (1, .int x1), (2, .int x2), (3, .int x3), (4, .int x4)]) (st1 := [.int (μ2.2.1 23 ((μ2.2.1 72 x4.toNatClampNeg)).toNatClampNeg), .ref (P.2.1 23)]) 1 rfl ?_
                  refine me_iald rfl (g := 23) rfl rfl h.1 ?_
                  replace h := h.2
                  refine me_go (pc1 := 147) (lv1 := [(6, .int (μ2.2.1 23 ((μ2.2.1 23 ((μ2.2.1 72 x4.toNatClampNeg)).toNatClampNeg)).toNatClampNeg)), (5, .int (μ2.2.1 23 ((μ2.2.1 72 x4.toNatClampNeg)).toNatClampNeg)), (0, .ref P.1), (1, .int x1), (2, .int x2), (3, .int x3), (4, .int x4)]) (st1 := []) 1 rfl ?_
                  refine me_lv [(0, .ref P.1), (1, .int x1), (2, .int x2), (3, .int x3), (4, .int x4), (5, .int (μ2.2.1 23 ((μ2.2.1 72 x4.toNatClampNeg)).toNatClampNeg)), (6, .int (μ2.2.1 23 ((μ2.2.1 23 ((μ2.2.1 72 x4.toNatClampNeg)).toNatClampNeg)).toNatClampNeg))] (fl_c rfl (fl_c rfl (fl_c rfl (fl_c rfl (fl_c rfl (fl_c rfl (fl_c rfl fl_0))))))) ?_
                  exact h
                · replace h := h.2 (cn_ge c)
                  refine me_go (pc1 := 147) (lv1 := [(6, .int (-1)), (5, .int (μ2.2.1 23 ((μ2.2.1 72 x4.toNatClampNeg)).toNatClampNeg)), (0, .ref P.1), (1, .int x1), (2, .int x2), (3, .int x3), (4, .int x4)]) (st1 := []) 3 rfl ?_
                  refine me_lv [(0, .ref P.1), (1, .int x1), (2, .int x2), (3, .int x3), (4, .int x4), (5, .int (μ2.2.1 23 ((μ2.2.1 72 x4.toNatClampNeg)).toNatClampNeg)), (6, .int (-1))] (fl_c rfl (fl_c rfl (fl_c rfl (fl_c rfl (fl_c rfl (fl_c rfl (fl_c rfl fl_0))))))) ?_
                  exact h
        · replace h := h.2 (cn_ne c)
          refine me_go (pc1 := 126) (lv1 := [(5, .int x4), (0, .ref P.1), (1, .int x1), (2, .int x2), (3, .int x3), (4, .int x4)]) (st1 := [.int x4, .ref P.1]) 5 rfl ?_
          refine me_put rfl rfl rfl ?_
          refine me_go (pc1 := 131) (lv1 := [(5, .int x4), (0, .ref P.1), (1, .int x1), (2, .int x2), (3, .int x3), (4, .int x4)]) (st1 := [.int x4]) 1 rfl ?_
          refine me_ifc rfl rfl (fun c => ?_) (fun c => ?_)
          · replace h := h.1 (ci_ge c)
            refine me_go (pc1 := 139) (lv1 := [(5, .int x4), (0, .ref P.1), (1, .int x1), (2, .int x2), (3, .int x3), (4, .int x4)]) (st1 := [.ref P.1]) 1 rfl ?_
            refine me_getf (v := .ref (P.2.1 23)) rfl rfl rfl ?_
            refine me_go (pc1 := 144) (lv1 := [(5, .int x4), (0, .ref P.1), (1, .int x1), (2, .int x2), (3, .int x3), (4, .int x4)]) (st1 := [.int x4, .ref (P.2.1 23)]) 1 rfl ?_
            refine me_iald rfl (g := 23) rfl rfl h.1 ?_
            replace h := h.2
            refine me_go (pc1 := 147) (lv1 := [(6, .int (μ1.2.1 23 x4.toNatClampNeg)), (5, .int x4), (0, .ref P.1), (1, .int x1), (2, .int x2), (3, .int x3), (4, .int x4)]) (st1 := []) 1 rfl ?_
            refine me_lv [(0, .ref P.1), (1, .int x1), (2, .int x2), (3, .int x3), (4, .int x4), (5, .int x4), (6, .int (μ1.2.1 23 x4.toNatClampNeg))] (fl_c rfl (fl_c rfl (fl_c rfl (fl_c rfl (fl_c rfl (fl_c rfl (fl_c rfl fl_0))))))) ?_
            exact h
          · replace h := h.2 (cn_ge c)
            refine me_go (pc1 := 147) (lv1 := [(6, .int (-1)), (5, .int x4), (0, .ref P.1), (1, .int x1), (2, .int x2), (3, .int x3), (4, .int x4)]) (st1 := []) 3 rfl ?_
            refine me_lv [(0, .ref P.1), (1, .int x1), (2, .int x2), (3, .int x3), (4, .int x4), (5, .int x4), (6, .int (-1))] (fl_c rfl (fl_c rfl (fl_c rfl (fl_c rfl (fl_c rfl (fl_c rfl (fl_c rfl fl_0))))))) ?_
            exact h
theorem v_memberOf_147 {X : ev_X} {W : Nat → Prop} {d : Nat} {P : MP} {μ : MS} {R : Int32 → MS → Prop} {T : MS → Prop} (x1 : Int32) (x2 : Int32) (x3 : Int32) (x4 : Int32) (x5 : Int32) (x6 : Int32) (h : ((x6.toInt < (0 : Int) → (((0 : Int) ≤ x5.toInt → (MI x5 (μ.2.2 24) ∧ ME X W true d 391 196 [(0, .ref P.1), (1, .int x1), (2, .int x2), (3, .int x3), (4, .int x4), (5, .int x5), (6, .int (μ.2.1 24 x5.toNatClampNeg))] [] P μ R T)) ∧ (x5.toInt < (0 : Int) → ME X W true d 391 196 [(0, .ref P.1), (1, .int x1), (2, .int x2), (3, .int x3), (4, .int x4), (5, .int x5), (6, .int (-1))] [] P μ R T))) ∧ ((0 : Int) ≤ x6.toInt → (MI x6 (μ.2.2 22) ∧ ((¬ (μ.2.1 22 x6.toNatClampNeg) = x3 → (MI x6 (μ.2.2 27) ∧ ME X W true d 391 147 [(0, .ref P.1), (1, .int x1), (2, .int x2), (3, .int x3), (4, .int x4), (5, .int x5), (6, .int (μ.2.1 27 x6.toNatClampNeg))] [] P μ R T)) ∧ ((μ.2.1 22 x6.toNatClampNeg) = x3 → R x6 μ)))))) : ME X W true d 391 147 [(0, .ref P.1), (1, .int x1), (2, .int x2), (3, .int x3), (4, .int x4), (5, .int x5), (6, .int x6)] [] P μ R T := by
  refine me_go (pc1 := 149) (lv1 := [(0, .ref P.1), (1, .int x1), (2, .int x2), (3, .int x3), (4, .int x4), (5, .int x5), (6, .int x6)]) (st1 := [.int x6]) 1 rfl ?_
  refine me_ifc rfl rfl (fun c => ?_) (fun c => ?_)
  · replace h := h.1 (ci_lt c)
    refine me_go (pc1 := 180) (lv1 := [(0, .ref P.1), (1, .int x1), (2, .int x2), (3, .int x3), (4, .int x4), (5, .int x5), (6, .int x6)]) (st1 := [.int x5]) 1 rfl ?_
    refine me_ifc rfl rfl (fun c => ?_) (fun c => ?_)
    · replace h := h.1 (ci_ge c)
      refine me_go (pc1 := 188) (lv1 := [(0, .ref P.1), (1, .int x1), (2, .int x2), (3, .int x3), (4, .int x4), (5, .int x5), (6, .int x6)]) (st1 := [.ref P.1]) 1 rfl ?_
      refine me_getf (v := .ref (P.2.1 24)) rfl rfl rfl ?_
      refine me_go (pc1 := 193) (lv1 := [(0, .ref P.1), (1, .int x1), (2, .int x2), (3, .int x3), (4, .int x4), (5, .int x5), (6, .int x6)]) (st1 := [.int x5, .ref (P.2.1 24)]) 1 rfl ?_
      refine me_iald rfl (g := 24) rfl rfl h.1 ?_
      replace h := h.2
      refine me_go (pc1 := 196) (lv1 := [(6, .int (μ.2.1 24 x5.toNatClampNeg)), (0, .ref P.1), (1, .int x1), (2, .int x2), (3, .int x3), (4, .int x4), (5, .int x5)]) (st1 := []) 1 rfl ?_
      refine me_lv [(0, .ref P.1), (1, .int x1), (2, .int x2), (3, .int x3), (4, .int x4), (5, .int x5), (6, .int (μ.2.1 24 x5.toNatClampNeg))] (fl_c rfl (fl_c rfl (fl_c rfl (fl_c rfl (fl_c rfl (fl_c rfl (fl_c rfl fl_0))))))) ?_
      exact h
    · replace h := h.2 (cn_ge c)
      refine me_go (pc1 := 196) (lv1 := [(6, .int (-1)), (0, .ref P.1), (1, .int x1), (2, .int x2), (3, .int x3), (4, .int x4), (5, .int x5)]) (st1 := []) 3 rfl ?_
      refine me_lv [(0, .ref P.1), (1, .int x1), (2, .int x2), (3, .int x3), (4, .int x4), (5, .int x5), (6, .int (-1))] (fl_c rfl (fl_c rfl (fl_c rfl (fl_c rfl (fl_c rfl (fl_c rfl (fl_c rfl fl_0))))))) ?_
      exact h
  · replace h := h.2 (cn_lt c)
    refine me_go (pc1 := 153) (lv1 := [(0, .ref P.1), (1, .int x1), (2, .int x2), (3, .int x3), (4, .int x4), (5, .int x5), (6, .int x6)]) (st1 := [.ref P.1]) 1 rfl ?_
    refine me_getf (v := .ref (P.2.1 22)) rfl rfl rfl ?_
    refine me_go (pc1 := 158) (lv1 := [(0, .ref P.1), (1, .int x1), (2, .int x2), (3, .int x3), (4, .int x4), (5, .int x5), (6, .int x6)]) (st1 := [.int x6, .ref (P.2.1 22)]) 1 rfl ?_
    refine me_iald rfl (g := 22) rfl rfl h.1 ?_
    replace h := h.2
    refine me_go (pc1 := 160) (lv1 := [(0, .ref P.1), (1, .int x1), (2, .int x2), (3, .int x3), (4, .int x4), (5, .int x5), (6, .int x6)]) (st1 := [.int x3, .int (μ.2.1 22 x6.toNatClampNeg)]) 1 rfl ?_
    refine me_icmp rfl rfl (fun c => ?_) (fun c => ?_)
    · replace h := h.1 (ci_ne c)
      refine me_go (pc1 := 167) (lv1 := [(0, .ref P.1), (1, .int x1), (2, .int x2), (3, .int x3), (4, .int x4), (5, .int x5), (6, .int x6)]) (st1 := [.ref P.1]) 1 rfl ?_
      refine me_getf (v := .ref (P.2.1 27)) rfl rfl rfl ?_
      refine me_go (pc1 := 172) (lv1 := [(0, .ref P.1), (1, .int x1), (2, .int x2), (3, .int x3), (4, .int x4), (5, .int x5), (6, .int x6)]) (st1 := [.int x6, .ref (P.2.1 27)]) 1 rfl ?_
      refine me_iald rfl (g := 27) rfl rfl h.1 ?_
      replace h := h.2
      refine me_go (pc1 := 147) (lv1 := [(6, .int (μ.2.1 27 x6.toNatClampNeg)), (0, .ref P.1), (1, .int x1), (2, .int x2), (3, .int x3), (4, .int x4), (5, .int x5)]) (st1 := []) 2 rfl ?_
      refine me_lv [(0, .ref P.1), (1, .int x1), (2, .int x2), (3, .int x3), (4, .int x4), (5, .int x5), (6, .int (μ.2.1 27 x6.toNatClampNeg))] (fl_c rfl (fl_c rfl (fl_c rfl (fl_c rfl (fl_c rfl (fl_c rfl (fl_c rfl fl_0))))))) ?_
      exact h
    · replace h := h.2 (cn_ne c)
      refine me_go (pc1 := 165) (lv1 := [(0, .ref P.1), (1, .int x1), (2, .int x2), (3, .int x3), (4, .int x4), (5, .int x5), (6, .int x6)]) (st1 := [.int x6]) 1 rfl ?_
      exact me_ret rfl rfl rfl h
theorem v_memberOf_196 {X : ev_X} {W : Nat → Prop} {d : Nat} {P : MP} {μ : MS} {R : Int32 → MS → Prop} {T : MS → Prop} (x1 : Int32) (x2 : Int32) (x3 : Int32) (x4 : Int32) (x5 : Int32) (x6 : Int32) (h : ((x6.toInt < (0 : Int) → MC X W true d 388 [.ref P.1, .int x1, .int x4] P μ (fun r1 μ1 => ME X W true d 391 13 [(0, .ref P.1), (1, .int x1), (2, .int x2), (3, .int x3), (4, .int r1)] [] P μ1 R T) (fun _ => False)) ∧ ((0 : Int) ≤ x6.toInt → (MI x6 (μ.2.2 22) ∧ ((¬ (μ.2.1 22 x6.toNatClampNeg) = x3 → (MI x6 (μ.2.2 27) ∧ ME X W true d 391 196 [(0, .ref P.1), (1, .int x1), (2, .int x2), (3, .int x3), (4, .int x4), (5, .int x5), (6, .int (μ.2.1 27 x6.toNatClampNeg))] [] P μ R T)) ∧ ((μ.2.1 22 x6.toNatClampNeg) = x3 → R x6 μ)))))) : ME X W true d 391 196 [(0, .ref P.1), (1, .int x1), (2, .int x2), (3, .int x3), (4, .int x4), (5, .int x5), (6, .int x6)] [] P μ R T := by
  refine me_go (pc1 := 198) (lv1 := [(0, .ref P.1), (1, .int x1), (2, .int x2), (3, .int x3), (4, .int x4), (5, .int x5), (6, .int x6)]) (st1 := [.int x6]) 1 rfl ?_
  refine me_ifc rfl rfl (fun c => ?_) (fun c => ?_)
  · replace h := h.1 (ci_lt c)
    refine me_go (pc1 := 231) (lv1 := [(0, .ref P.1), (1, .int x1), (2, .int x2), (3, .int x3), (4, .int x4), (5, .int x5), (6, .int x6)]) (st1 := [.int x4, .int x1, .ref P.1]) 3 rfl ?_
    refine me_callN rfl rfl rfl (h.mono (fun r1 μ1 h => ?_) (fun _ h => h))
    refine me_go (pc1 := 13) (lv1 := [(4, .int r1), (0, .ref P.1), (1, .int x1), (2, .int x2), (3, .int x3), (5, .int x5), (6, .int x6)]) (st1 := []) 2 rfl ?_
    refine me_lv [(0, .ref P.1), (1, .int x1), (2, .int x2), (3, .int x3), (4, .int r1)] (fl_c rfl (fl_c rfl (fl_c rfl (fl_c rfl (fl_c rfl fl_0))))) ?_
    exact h
  · replace h := h.2 (cn_lt c)
    refine me_go (pc1 := 202) (lv1 := [(0, .ref P.1), (1, .int x1), (2, .int x2), (3, .int x3), (4, .int x4), (5, .int x5), (6, .int x6)]) (st1 := [.ref P.1]) 1 rfl ?_
    refine me_getf (v := .ref (P.2.1 22)) rfl rfl rfl ?_
    refine me_go (pc1 := 207) (lv1 := [(0, .ref P.1), (1, .int x1), (2, .int x2), (3, .int x3), (4, .int x4), (5, .int x5), (6, .int x6)]) (st1 := [.int x6, .ref (P.2.1 22)]) 1 rfl ?_
    refine me_iald rfl (g := 22) rfl rfl h.1 ?_
    replace h := h.2
    refine me_go (pc1 := 209) (lv1 := [(0, .ref P.1), (1, .int x1), (2, .int x2), (3, .int x3), (4, .int x4), (5, .int x5), (6, .int x6)]) (st1 := [.int x3, .int (μ.2.1 22 x6.toNatClampNeg)]) 1 rfl ?_
    refine me_icmp rfl rfl (fun c => ?_) (fun c => ?_)
    · replace h := h.1 (ci_ne c)
      refine me_go (pc1 := 216) (lv1 := [(0, .ref P.1), (1, .int x1), (2, .int x2), (3, .int x3), (4, .int x4), (5, .int x5), (6, .int x6)]) (st1 := [.ref P.1]) 1 rfl ?_
      refine me_getf (v := .ref (P.2.1 27)) rfl rfl rfl ?_
      refine me_go (pc1 := 221) (lv1 := [(0, .ref P.1), (1, .int x1), (2, .int x2), (3, .int x3), (4, .int x4), (5, .int x5), (6, .int x6)]) (st1 := [.int x6, .ref (P.2.1 27)]) 1 rfl ?_
      refine me_iald rfl (g := 27) rfl rfl h.1 ?_
      replace h := h.2
      refine me_go (pc1 := 196) (lv1 := [(6, .int (μ.2.1 27 x6.toNatClampNeg)), (0, .ref P.1), (1, .int x1), (2, .int x2), (3, .int x3), (4, .int x4), (5, .int x5)]) (st1 := []) 2 rfl ?_
      refine me_lv [(0, .ref P.1), (1, .int x1), (2, .int x2), (3, .int x3), (4, .int x4), (5, .int x5), (6, .int (μ.2.1 27 x6.toNatClampNeg))] (fl_c rfl (fl_c rfl (fl_c rfl (fl_c rfl (fl_c rfl (fl_c rfl (fl_c rfl fl_0))))))) ?_
      exact h
    · replace h := h.2 (cn_ne c)
      refine me_go (pc1 := 214) (lv1 := [(0, .ref P.1), (1, .int x1), (2, .int x2), (3, .int x3), (4, .int x4), (5, .int x5), (6, .int x6)]) (st1 := [.int x6]) 1 rfl ?_
      exact me_ret rfl rfl rfl h
theorem v_levelOf_0 {X : ev_X} {W : Nat → Prop} {d : Nat} {P : MP} {μ : MS} {R : Int32 → MS → Prop} {T : MS → Prop} (x1 : Int32) (h : (MI x1 (μ.2.2 20) ∧ ((¬ (μ.2.1 20 x1.toNatClampNeg) = 32 → (MI x1 (μ.2.2 20) ∧ ((¬ (μ.2.1 20 x1.toNatClampNeg) = 4 → R (-1) μ) ∧ ((μ.2.1 20 x1.toNatClampNeg) = 4 → (MI x1 (μ.2.2 72) ∧ (((μ.2.1 72 x1.toNatClampNeg).toInt < (0 : Int) → R (-1) μ) ∧ ((0 : Int) ≤ (μ.2.1 72 x1.toNatClampNeg).toInt → (MI x1 (μ.2.2 72) ∧ (MI (μ.2.1 72 x1.toNatClampNeg) (μ.2.2 23) ∧ R (μ.2.1 23 ((μ.2.1 72 x1.toNatClampNeg)).toNatClampNeg) μ))))))))) ∧ ((μ.2.1 20 x1.toNatClampNeg) = 32 → R x1 μ)))) : ME X W true d 392 0 [(0, .ref P.1), (1, .int x1)] [] P μ R T := by
  refine me_go (pc1 := 1) (lv1 := [(0, .ref P.1), (1, .int x1)]) (st1 := [.ref P.1]) 1 rfl ?_
  refine me_getf (v := .ref (P.2.1 20)) rfl rfl rfl ?_
  refine me_go (pc1 := 5) (lv1 := [(0, .ref P.1), (1, .int x1)]) (st1 := [.int x1, .ref (P.2.1 20)]) 1 rfl ?_
  refine me_iald rfl (g := 20) rfl rfl h.1 ?_
  replace h := h.2
  refine me_go (pc1 := 8) (lv1 := [(0, .ref P.1), (1, .int x1)]) (st1 := [.int 32, .int (μ.2.1 20 x1.toNatClampNeg)]) 1 rfl ?_
  refine me_icmp rfl rfl (fun c => ?_) (fun c => ?_)
  · replace h := h.1 (ci_ne c)
    refine me_go (pc1 := 16) (lv1 := [(0, .ref P.1), (1, .int x1)]) (st1 := [.ref P.1]) 1 rfl ?_
    refine me_getf (v := .ref (P.2.1 20)) rfl rfl rfl ?_
    refine me_go (pc1 := 20) (lv1 := [(0, .ref P.1), (1, .int x1)]) (st1 := [.int x1, .ref (P.2.1 20)]) 1 rfl ?_
    refine me_iald rfl (g := 20) rfl rfl h.1 ?_
    replace h := h.2
    refine me_go (pc1 := 22) (lv1 := [(0, .ref P.1), (1, .int x1)]) (st1 := [.int 4, .int (μ.2.1 20 x1.toNatClampNeg)]) 1 rfl ?_
    refine me_icmp rfl rfl (fun c => ?_) (fun c => ?_)
    · replace h := h.1 (ci_ne c)
      refine me_go (pc1 := 49) (lv1 := [(0, .ref P.1), (1, .int x1)]) (st1 := [.int (-1)]) 1 rfl ?_
      exact me_ret rfl rfl rfl h
    · replace h := h.2 (cn_ne c)
      refine me_go (pc1 := 26) (lv1 := [(0, .ref P.1), (1, .int x1)]) (st1 := [.ref P.1]) 1 rfl ?_
      refine me_getf (v := .ref (P.2.1 72)) rfl rfl rfl ?_
      refine me_go (pc1 := 30) (lv1 := [(0, .ref P.1), (1, .int x1)]) (st1 := [.int x1, .ref (P.2.1 72)]) 1 rfl ?_
      refine me_iald rfl (g := 72) rfl rfl h.1 ?_
      replace h := h.2
      refine me_ifc rfl rfl (fun c => ?_) (fun c => ?_)
      · replace h := h.1 (ci_lt c)
        refine me_go (pc1 := 49) (lv1 := [(0, .ref P.1), (1, .int x1)]) (st1 := [.int (-1)]) 1 rfl ?_
        exact me_ret rfl rfl rfl h
      · replace h := h.2 (cn_lt c)
        refine me_go (pc1 := 35) (lv1 := [(0, .ref P.1), (1, .int x1)]) (st1 := [.ref P.1]) 1 rfl ?_
        refine me_getf (v := .ref (P.2.1 23)) rfl rfl rfl ?_
        refine me_go (pc1 := 39) (lv1 := [(0, .ref P.1), (1, .int x1)]) (st1 := [.ref P.1, .ref (P.2.1 23)]) 1 rfl ?_
        refine me_getf (v := .ref (P.2.1 72)) rfl rfl rfl ?_
        refine me_go (pc1 := 43) (lv1 := [(0, .ref P.1), (1, .int x1)]) (st1 := [.int x1, .ref (P.2.1 72), .ref (P.2.1 23)]) 1 rfl ?_
        refine me_iald rfl (g := 72) rfl rfl h.1 ?_
        replace h := h.2
        refine me_iald rfl (g := 23) rfl rfl h.1 ?_
        replace h := h.2
        refine me_go (pc1 := 49) (lv1 := [(0, .ref P.1), (1, .int x1)]) (st1 := [.int (μ.2.1 23 ((μ.2.1 72 x1.toNatClampNeg)).toNatClampNeg)]) 1 rfl ?_
        exact me_ret rfl rfl rfl h
  · replace h := h.2 (cn_ne c)
    refine me_go (pc1 := 49) (lv1 := [(0, .ref P.1), (1, .int x1)]) (st1 := [.int x1]) 2 rfl ?_
    exact me_ret rfl rfl rfl h
theorem v_cellsOf_0 {X : ev_X} {W : Nat → Prop} {d : Nat} {P : MP} {μ : MS} {R : Int32 → MS → Prop} {T : MS → Prop} (x1 : Int32) (h : ME X W true d 393 2 [(0, .ref P.1), (1, .int x1), (2, .int x1)] [] P μ R T) : ME X W true d 393 0 [(0, .ref P.1), (1, .int x1)] [] P μ R T := by
  refine me_go (pc1 := 2) (lv1 := [(2, .int x1), (0, .ref P.1), (1, .int x1)]) (st1 := []) 2 rfl ?_
  refine me_lv [(0, .ref P.1), (1, .int x1), (2, .int x1)] (fl_c rfl (fl_c rfl (fl_c rfl fl_0))) ?_
  exact h
theorem v_cellsOf_2 {X : ev_X} {W : Nat → Prop} {d : Nat} {P : MP} {μ : MS} {R : Int32 → MS → Prop} {T : MS → Prop} (x1 : Int32) (x2 : Int32) (h : (MI x2 (μ.2.2 20) ∧ ((¬ (μ.2.1 20 x2.toNatClampNeg) = 20 → (MI x2 (μ.2.2 20) ∧ (((μ.2.1 20 x2.toNatClampNeg) = 28 → ME X W true d 393 76 [(0, .ref P.1), (1, .int x1), (2, .int x2)] [] P μ R T) ∧ (¬ (μ.2.1 20 x2.toNatClampNeg) = 28 → (MI x2 (μ.2.2 20) ∧ (((μ.2.1 20 x2.toNatClampNeg) = 29 → ME X W true d 393 76 [(0, .ref P.1), (1, .int x1), (2, .int x2)] [] P μ R T) ∧ (¬ (μ.2.1 20 x2.toNatClampNeg) = 29 → R 1 μ))))))) ∧ ((μ.2.1 20 x2.toNatClampNeg) = 20 → MC X W true d 364 [.ref P.1, .int x2] P μ (fun r1 μ1 => (MI r1 (μ1.2.2 20) ∧ ((¬ (μ1.2.1 20 r1.toNatClampNeg) = 4 → (MI r1 (μ1.2.2 82) ∧ (((μ1.2.1 82 r1.toNatClampNeg) = 0 → (MI r1 (μ1.2.2 23) ∧ ME X W true d 393 2 [(0, .ref P.1), (1, .int x1), (2, .int (μ1.2.1 23 r1.toNatClampNeg))] [] P μ1 R T)) ∧ (¬ (μ1.2.1 82 r1.toNatClampNeg) = 0 → R (-1) μ1)))) ∧ ((μ1.2.1 20 r1.toNatClampNeg) = 4 → R 1 μ1)))) (fun _ => False))))) : ME X W true d 393 2 [(0, .ref P.1), (1, .int x1), (2, .int x2)] [] P μ R T := by
  refine me_go (pc1 := 3) (lv1 := [(0, .ref P.1), (1, .int x1), (2, .int x2)]) (st1 := [.ref P.1]) 1 rfl ?_
  refine me_getf (v := .ref (P.2.1 20)) rfl rfl rfl ?_
  refine me_go (pc1 := 7) (lv1 := [(0, .ref P.1), (1, .int x1), (2, .int x2)]) (st1 := [.int x2, .ref (P.2.1 20)]) 1 rfl ?_
  refine me_iald rfl (g := 20) rfl rfl h.1 ?_
  replace h := h.2
  refine me_go (pc1 := 10) (lv1 := [(0, .ref P.1), (1, .int x1), (2, .int x2)]) (st1 := [.int 20, .int (μ.2.1 20 x2.toNatClampNeg)]) 1 rfl ?_
  refine me_icmp rfl rfl (fun c => ?_) (fun c => ?_)
  · replace h := h.1 (ci_ne c)
    refine me_go (pc1 := 53) (lv1 := [(0, .ref P.1), (1, .int x1), (2, .int x2)]) (st1 := [.ref P.1]) 1 rfl ?_
    refine me_getf (v := .ref (P.2.1 20)) rfl rfl rfl ?_
    refine me_go (pc1 := 57) (lv1 := [(0, .ref P.1), (1, .int x1), (2, .int x2)]) (st1 := [.int x2, .ref (P.2.1 20)]) 1 rfl ?_
    refine me_iald rfl (g := 20) rfl rfl h.1 ?_
    replace h := h.2
    refine me_go (pc1 := 60) (lv1 := [(0, .ref P.1), (1, .int x1), (2, .int x2)]) (st1 := [.int 28, .int (μ.2.1 20 x2.toNatClampNeg)]) 1 rfl ?_
    refine me_icmp rfl rfl (fun c => ?_) (fun c => ?_)
    · replace h := h.1 (ci_eq c)
      exact h
    · replace h := h.2 (cn_eq c)
      refine me_go (pc1 := 64) (lv1 := [(0, .ref P.1), (1, .int x1), (2, .int x2)]) (st1 := [.ref P.1]) 1 rfl ?_
      refine me_getf (v := .ref (P.2.1 20)) rfl rfl rfl ?_
      refine me_go (pc1 := 68) (lv1 := [(0, .ref P.1), (1, .int x1), (2, .int x2)]) (st1 := [.int x2, .ref (P.2.1 20)]) 1 rfl ?_
      refine me_iald rfl (g := 20) rfl rfl h.1 ?_
      replace h := h.2
      refine me_go (pc1 := 71) (lv1 := [(0, .ref P.1), (1, .int x1), (2, .int x2)]) (st1 := [.int 29, .int (μ.2.1 20 x2.toNatClampNeg)]) 1 rfl ?_
      refine me_icmp rfl rfl (fun c => ?_) (fun c => ?_)
      · replace h := h.1 (ci_eq c)
        exact h
      · replace h := h.2 (cn_eq c)
        refine me_go (pc1 := 75) (lv1 := [(0, .ref P.1), (1, .int x1), (2, .int x2)]) (st1 := [.int 1]) 1 rfl ?_
        exact me_ret rfl rfl rfl h
  · replace h := h.2 (cn_ne c)
    refine me_go (pc1 := 15) (lv1 := [(0, .ref P.1), (1, .int x1), (2, .int x2)]) (st1 := [.int x2, .ref P.1]) 2 rfl ?_
    refine me_callN rfl rfl rfl (h.mono (fun r1 μ1 h => ?_) (fun _ h => h))
    refine me_go (pc1 := 20) (lv1 := [(3, .int r1), (0, .ref P.1), (1, .int x1), (2, .int x2)]) (st1 := [.ref P.1]) 2 rfl ?_
    refine me_getf (v := .ref (P.2.1 20)) rfl rfl rfl ?_
    refine me_go (pc1 := 24) (lv1 := [(3, .int r1), (0, .ref P.1), (1, .int x1), (2, .int x2)]) (st1 := [.int r1, .ref (P.2.1 20)]) 1 rfl ?_
    refine me_iald rfl (g := 20) rfl rfl h.1 ?_
    replace h := h.2
    refine me_go (pc1 := 26) (lv1 := [(3, .int r1), (0, .ref P.1), (1, .int x1), (2, .int x2)]) (st1 := [.int 4, .int (μ1.2.1 20 r1.toNatClampNeg)]) 1 rfl ?_
    refine me_icmp rfl rfl (fun c => ?_) (fun c => ?_)
    · replace h := h.1 (ci_ne c)
      refine me_go (pc1 := 32) (lv1 := [(3, .int r1), (0, .ref P.1), (1, .int x1), (2, .int x2)]) (st1 := [.ref P.1]) 1 rfl ?_
      refine me_getf (v := .ref (P.2.1 82)) rfl rfl rfl ?_
      refine me_go (pc1 := 36) (lv1 := [(3, .int r1), (0, .ref P.1), (1, .int x1), (2, .int x2)]) (st1 := [.int r1, .ref (P.2.1 82)]) 1 rfl ?_
      refine me_bald rfl (g := 82) rfl (Or.inr rfl) h.1 ?_
      replace h := h.2
      refine me_ifc rfl rfl (fun c => ?_) (fun c => ?_)
      · replace h := h.1 (ci_eq c)
        refine me_go (pc1 := 43) (lv1 := [(3, .int r1), (0, .ref P.1), (1, .int x1), (2, .int x2)]) (st1 := [.ref P.1]) 1 rfl ?_
        refine me_getf (v := .ref (P.2.1 23)) rfl rfl rfl ?_
        refine me_go (pc1 := 47) (lv1 := [(3, .int r1), (0, .ref P.1), (1, .int x1), (2, .int x2)]) (st1 := [.int r1, .ref (P.2.1 23)]) 1 rfl ?_
        refine me_iald rfl (g := 23) rfl rfl h.1 ?_
        replace h := h.2
        refine me_go (pc1 := 2) (lv1 := [(2, .int (μ1.2.1 23 r1.toNatClampNeg)), (3, .int r1), (0, .ref P.1), (1, .int x1)]) (st1 := []) 2 rfl ?_
        refine me_lv [(0, .ref P.1), (1, .int x1), (2, .int (μ1.2.1 23 r1.toNatClampNeg))] (fl_c rfl (fl_c rfl (fl_c rfl fl_0))) ?_
        exact h
      · replace h := h.2 (cn_eq c)
        refine me_go (pc1 := 41) (lv1 := [(3, .int r1), (0, .ref P.1), (1, .int x1), (2, .int x2)]) (st1 := [.int (-1)]) 1 rfl ?_
        exact me_ret rfl rfl rfl h
    · replace h := h.2 (cn_ne c)
      refine me_go (pc1 := 30) (lv1 := [(3, .int r1), (0, .ref P.1), (1, .int x1), (2, .int x2)]) (st1 := [.int 1]) 1 rfl ?_
      exact me_ret rfl rfl rfl h
theorem v_cellsOf_76 {X : ev_X} {W : Nat → Prop} {d : Nat} {P : MP} {μ : MS} {R : Int32 → MS → Prop} {T : MS → Prop} (x1 : Int32) (x2 : Int32) (h : (MI x2 (μ.2.2 81) ∧ (((μ.2.1 81 x2.toNatClampNeg) = (-2) → (MI x2 (μ.2.2 20) ∧ ((¬ (μ.2.1 20 x2.toNatClampNeg) = 28 → ME X W true d 393 173 [(0, .ref P.1), (1, .int x1), (2, .int x2), (3, .long 0), (5, .int 1)] [] P μ R T) ∧ ((μ.2.1 20 x2.toNatClampNeg) = 28 → (MI x2 (μ.2.2 23) ∧ (MI x2 (μ.2.2 22) ∧ (MI x2 (μ.2.2 24) ∧ MC X W true d 393 [.ref P.1, .int (μ.2.1 24 x2.toNatClampNeg)] P μ (fun r1 μ1 => (((lg_cmp (((((μ.2.1 23 x2.toNatClampNeg)).toInt64) - (((μ.2.1 22 x2.toNatClampNeg)).toInt64)) + 1) 1).toInt < (0 : Int) → ME X W true d 393 157 [(0, .ref P.1), (1, .int x1), (2, .int x2), (3, .long 0), (5, .int 1), (6, .long (((((μ.2.1 23 x2.toNatClampNeg)).toInt64) - (((μ.2.1 22 x2.toNatClampNeg)).toInt64)) + 1)), (8, .int r1)] [] P μ1 R T) ∧ ((0 : Int) ≤ (lg_cmp (((((μ.2.1 23 x2.toNatClampNeg)).toInt64) - (((μ.2.1 22 x2.toNatClampNeg)).toInt64)) + 1) 1).toInt → ((r1.toInt < (0 : Int) → ME X W true d 393 157 [(0, .ref P.1), (1, .int x1), (2, .int x2), (3, .long 0), (5, .int 1), (6, .long (((((μ.2.1 23 x2.toNatClampNeg)).toInt64) - (((μ.2.1 22 x2.toNatClampNeg)).toInt64)) + 1)), (8, .int r1)] [] P μ1 R T) ∧ ((0 : Int) ≤ r1.toInt → ME X W true d 393 160 [(0, .ref P.1), (1, .int x1), (2, .int x2), (3, .long 0), (5, .int 1), (6, .long (((((μ.2.1 23 x2.toNatClampNeg)).toInt64) - (((μ.2.1 22 x2.toNatClampNeg)).toInt64)) + 1)), (8, .int r1)] [] P μ1 R T))))) (fun _ => False)))))))) ∧ (¬ (μ.2.1 81 x2.toNatClampNeg) = (-2) → (MI x2 (μ.2.2 81) ∧ R (μ.2.1 81 x2.toNatClampNeg) μ))))) : ME X W true d 393 76 [(0, .ref P.1), (1, .int x1), (2, .int x2)] [] P μ R T := by
  refine me_go (pc1 := 77) (lv1 := [(0, .ref P.1), (1, .int x1), (2, .int x2)]) (st1 := [.ref P.1]) 1 rfl ?_
  refine me_getf (v := .ref (P.2.1 81)) rfl rfl rfl ?_
  refine me_go (pc1 := 81) (lv1 := [(0, .ref P.1), (1, .int x1), (2, .int x2)]) (st1 := [.int x2, .ref (P.2.1 81)]) 1 rfl ?_
  refine me_iald rfl (g := 81) rfl rfl h.1 ?_
  replace h := h.2
  refine me_go (pc1 := 84) (lv1 := [(0, .ref P.1), (1, .int x1), (2, .int x2)]) (st1 := [.int (-2), .int (μ.2.1 81 x2.toNatClampNeg)]) 1 rfl ?_
  refine me_icmp rfl rfl (fun c => ?_) (fun c => ?_)
  · replace h := h.1 (ci_eq c)
    refine me_go (pc1 := 100) (lv1 := [(5, .int 1), (3, .long 0), (0, .ref P.1), (1, .int x1), (2, .int x2)]) (st1 := [.ref P.1]) 5 rfl ?_
    refine me_getf (v := .ref (P.2.1 20)) rfl rfl rfl ?_
    refine me_go (pc1 := 104) (lv1 := [(5, .int 1), (3, .long 0), (0, .ref P.1), (1, .int x1), (2, .int x2)]) (st1 := [.int x2, .ref (P.2.1 20)]) 1 rfl ?_
    refine me_iald rfl (g := 20) rfl rfl h.1 ?_
    replace h := h.2
    refine me_go (pc1 := 107) (lv1 := [(5, .int 1), (3, .long 0), (0, .ref P.1), (1, .int x1), (2, .int x2)]) (st1 := [.int 28, .int (μ.2.1 20 x2.toNatClampNeg)]) 1 rfl ?_
    refine me_icmp rfl rfl (fun c => ?_) (fun c => ?_)
    · replace h := h.1 (ci_ne c)
      refine me_lv [(0, .ref P.1), (1, .int x1), (2, .int x2), (3, .long 0), (5, .int 1)] (fl_c rfl (fl_c rfl (fl_c rfl (fl_c rfl (fl_c rfl fl_0))))) ?_
      exact h
    · replace h := h.2 (cn_ne c)
      refine me_go (pc1 := 111) (lv1 := [(5, .int 1), (3, .long 0), (0, .ref P.1), (1, .int x1), (2, .int x2)]) (st1 := [.ref P.1]) 1 rfl ?_
      refine me_getf (v := .ref (P.2.1 23)) rfl rfl rfl ?_
      refine me_go (pc1 := 115) (lv1 := [(5, .int 1), (3, .long 0), (0, .ref P.1), (1, .int x1), (2, .int x2)]) (st1 := [.int x2, .ref (P.2.1 23)]) 1 rfl ?_
      refine me_iald rfl (g := 23) rfl rfl h.1 ?_
      replace h := h.2
      refine me_go (pc1 := 118) (lv1 := [(5, .int 1), (3, .long 0), (0, .ref P.1), (1, .int x1), (2, .int x2)]) (st1 := [.ref P.1, .long ((μ.2.1 23 x2.toNatClampNeg)).toInt64]) 2 rfl ?_
      refine me_getf (v := .ref (P.2.1 22)) rfl rfl rfl ?_
      refine me_go (pc1 := 122) (lv1 := [(5, .int 1), (3, .long 0), (0, .ref P.1), (1, .int x1), (2, .int x2)]) (st1 := [.int x2, .ref (P.2.1 22), .long ((μ.2.1 23 x2.toNatClampNeg)).toInt64]) 1 rfl ?_
      refine me_iald rfl (g := 22) rfl rfl h.1 ?_
      replace h := h.2
      refine me_go (pc1 := 131) (lv1 := [(6, .long (((((μ.2.1 23 x2.toNatClampNeg)).toInt64) - (((μ.2.1 22 x2.toNatClampNeg)).toInt64)) + 1)), (5, .int 1), (3, .long 0), (0, .ref P.1), (1, .int x1), (2, .int x2)]) (st1 := [.ref P.1, .ref P.1]) 7 rfl ?_
      refine me_getf (v := .ref (P.2.1 24)) rfl rfl rfl ?_
      refine me_go (pc1 := 135) (lv1 := [(6, .long (((((μ.2.1 23 x2.toNatClampNeg)).toInt64) - (((μ.2.1 22 x2.toNatClampNeg)).toInt64)) + 1)), (5, .int 1), (3, .long 0), (0, .ref P.1), (1, .int x1), (2, .int x2)]) (st1 := [.int x2, .ref (P.2.1 24), .ref P.1]) 1 rfl ?_
      refine me_iald rfl (g := 24) rfl rfl h.1 ?_
      replace h := h.2
      refine me_callN rfl rfl rfl (h.mono (fun r1 μ1 h => ?_) (fun _ h => h))
      refine me_go (pc1 := 145) (lv1 := [(8, .int r1), (6, .long (((((μ.2.1 23 x2.toNatClampNeg)).toInt64) - (((μ.2.1 22 x2.toNatClampNeg)).toInt64)) + 1)), (5, .int 1), (3, .long 0), (0, .ref P.1), (1, .int x1), (2, .int x2)]) (st1 := [.int (lg_cmp (((((μ.2.1 23 x2.toNatClampNeg)).toInt64) - (((μ.2.1 22 x2.toNatClampNeg)).toInt64)) + 1) 1)]) 4 rfl ?_
      refine me_ifc rfl rfl (fun c => ?_) (fun c => ?_)
      · replace h := h.1 (ci_lt c)
        refine me_lv [(0, .ref P.1), (1, .int x1), (2, .int x2), (3, .long 0), (5, .int 1), (6, .long (((((μ.2.1 23 x2.toNatClampNeg)).toInt64) - (((μ.2.1 22 x2.toNatClampNeg)).toInt64)) + 1)), (8, .int r1)] (fl_c rfl (fl_c rfl (fl_c rfl (fl_c rfl (fl_c rfl (fl_c rfl (fl_c rfl fl_0))))))) ?_
        exact h
      · replace h := h.2 (cn_lt c)
        refine me_go (pc1 := 150) (lv1 := [(8, .int r1), (6, .long (((((μ.2.1 23 x2.toNatClampNeg)).toInt64) - (((μ.2.1 22 x2.toNatClampNeg)).toInt64)) + 1)), (5, .int 1), (3, .long 0), (0, .ref P.1), (1, .int x1), (2, .int x2)]) (st1 := [.int r1]) 1 rfl ?_
        refine me_ifc rfl rfl (fun c => ?_) (fun c => ?_)
        · replace h := h.1 (ci_lt c)
          refine me_lv [(0, .ref P.1), (1, .int x1), (2, .int x2), (3, .long 0), (5, .int 1), (6, .long (((((μ.2.1 23 x2.toNatClampNeg)).toInt64) - (((μ.2.1 22 x2.toNatClampNeg)).toInt64)) + 1)), (8, .int r1)] (fl_c rfl (fl_c rfl (fl_c rfl (fl_c rfl (fl_c rfl (fl_c rfl (fl_c rfl fl_0))))))) ?_
          exact h
        · replace h := h.2 (cn_lt c)
          refine me_go (pc1 := 160) (lv1 := [(5, .int 1), (8, .int r1), (6, .long (((((μ.2.1 23 x2.toNatClampNeg)).toInt64) - (((μ.2.1 22 x2.toNatClampNeg)).toInt64)) + 1)), (3, .long 0), (0, .ref P.1), (1, .int x1), (2, .int x2)]) (st1 := []) 3 rfl ?_
          refine me_lv [(0, .ref P.1), (1, .int x1), (2, .int x2), (3, .long 0), (5, .int 1), (6, .long (((((μ.2.1 23 x2.toNatClampNeg)).toInt64) - (((μ.2.1 22 x2.toNatClampNeg)).toInt64)) + 1)), (8, .int r1)] (fl_c rfl (fl_c rfl (fl_c rfl (fl_c rfl (fl_c rfl (fl_c rfl (fl_c rfl fl_0))))))) ?_
          exact h
  · replace h := h.2 (cn_eq c)
    refine me_go (pc1 := 88) (lv1 := [(0, .ref P.1), (1, .int x1), (2, .int x2)]) (st1 := [.ref P.1]) 1 rfl ?_
    refine me_getf (v := .ref (P.2.1 81)) rfl rfl rfl ?_
    refine me_go (pc1 := 92) (lv1 := [(0, .ref P.1), (1, .int x1), (2, .int x2)]) (st1 := [.int x2, .ref (P.2.1 81)]) 1 rfl ?_
    refine me_iald rfl (g := 81) rfl rfl h.1 ?_
    replace h := h.2
    exact me_ret rfl rfl rfl h
theorem v_cellsOf_157 {X : ev_X} {W : Nat → Prop} {d : Nat} {P : MP} {μ : MS} {R : Int32 → MS → Prop} {T : MS → Prop} (x1 : Int32) (x2 : Int32) (x3 : Int64) (x5 : Int32) (x6 : Int64) (x8 : Int32) (h : ME X W true d 393 160 [(0, .ref P.1), (1, .int x1), (2, .int x2), (3, .long x3), (5, .int 0), (6, .long x6), (8, .int x8)] [] P μ R T) : ME X W true d 393 157 [(0, .ref P.1), (1, .int x1), (2, .int x2), (3, .long x3), (5, .int x5), (6, .long x6), (8, .int x8)] [] P μ R T := by
  refine me_go (pc1 := 160) (lv1 := [(5, .int 0), (0, .ref P.1), (1, .int x1), (2, .int x2), (3, .long x3), (6, .long x6), (8, .int x8)]) (st1 := []) 2 rfl ?_
  refine me_lv [(0, .ref P.1), (1, .int x1), (2, .int x2), (3, .long x3), (5, .int 0), (6, .long x6), (8, .int x8)] (fl_c rfl (fl_c rfl (fl_c rfl (fl_c rfl (fl_c rfl (fl_c rfl (fl_c rfl fl_0))))))) ?_
  exact h
theorem v_cellsOf_160 {X : ev_X} {W : Nat → Prop} {d : Nat} {P : MP} {μ : MS} {R : Int32 → MS → Prop} {T : MS → Prop} (x1 : Int32) (x2 : Int32) (x3 : Int64) (x5 : Int32) (x6 : Int64) (x8 : Int32) (h : ME X W true d 393 173 [(0, .ref P.1), (1, .int x1), (2, .int x2), (3, .long (if (100000 : Int64) < (x6 * ((x8).toInt64)) then 100000 else (x6 * ((x8).toInt64)))), (5, .int x5)] [] P μ R T) : ME X W true d 393 160 [(0, .ref P.1), (1, .int x1), (2, .int x2), (3, .long x3), (5, .int x5), (6, .long x6), (8, .int x8)] [] P μ R T := by
  refine me_go (pc1 := 166) (lv1 := [(0, .ref P.1), (1, .int x1), (2, .int x2), (3, .long x3), (5, .int x5), (6, .long x6), (8, .int x8)]) (st1 := [.long (x6 * ((x8).toInt64))]) 4 rfl ?_
  refine me_ldc2 rfl ?_
  refine me_xm (st1 := [.long (if (100000 : Int64) < (x6 * ((x8).toInt64)) then 100000 else (x6 * ((x8).toInt64)))]) rfl rfl ?_
  refine me_go (pc1 := 173) (lv1 := [(3, .long (if (100000 : Int64) < (x6 * ((x8).toInt64)) then 100000 else (x6 * ((x8).toInt64)))), (0, .ref P.1), (1, .int x1), (2, .int x2), (5, .int x5), (6, .long x6), (8, .int x8)]) (st1 := []) 1 rfl ?_
  refine me_lv [(0, .ref P.1), (1, .int x1), (2, .int x2), (3, .long (if (100000 : Int64) < (x6 * ((x8).toInt64)) then 100000 else (x6 * ((x8).toInt64)))), (5, .int x5)] (fl_c rfl (fl_c rfl (fl_c rfl (fl_c rfl (fl_c rfl fl_0))))) ?_
  exact h
theorem v_cellsOf_173 {X : ev_X} {W : Nat → Prop} {d : Nat} {P : MP} {μ : MS} {R : Int32 → MS → Prop} {T : MS → Prop} (x1 : Int32) (x2 : Int32) (x3 : Int64) (x5 : Int32) (h : (MI x2 (μ.2.2 20) ∧ ((¬ (μ.2.1 20 x2.toNatClampNeg) = 29 → ME X W true d 393 196 [(0, .ref P.1), (1, .int x1), (2, .int x2), (3, .long x3), (5, .int x5), (6, .int (-1))] [] P μ R T) ∧ ((μ.2.1 20 x2.toNatClampNeg) = 29 → (MI x2 (μ.2.2 22) ∧ ME X W true d 393 196 [(0, .ref P.1), (1, .int x1), (2, .int x2), (3, .long x3), (5, .int x5), (6, .int (μ.2.1 22 x2.toNatClampNeg))] [] P μ R T))))) : ME X W true d 393 173 [(0, .ref P.1), (1, .int x1), (2, .int x2), (3, .long x3), (5, .int x5)] [] P μ R T := by
  refine me_go (pc1 := 174) (lv1 := [(0, .ref P.1), (1, .int x1), (2, .int x2), (3, .long x3), (5, .int x5)]) (st1 := [.ref P.1]) 1 rfl ?_
  refine me_getf (v := .ref (P.2.1 20)) rfl rfl rfl ?_
  refine me_go (pc1 := 178) (lv1 := [(0, .ref P.1), (1, .int x1), (2, .int x2), (3, .long x3), (5, .int x5)]) (st1 := [.int x2, .ref (P.2.1 20)]) 1 rfl ?_
  refine me_iald rfl (g := 20) rfl rfl h.1 ?_
  replace h := h.2
  refine me_go (pc1 := 181) (lv1 := [(0, .ref P.1), (1, .int x1), (2, .int x2), (3, .long x3), (5, .int x5)]) (st1 := [.int 29, .int (μ.2.1 20 x2.toNatClampNeg)]) 1 rfl ?_
  refine me_icmp rfl rfl (fun c => ?_) (fun c => ?_)
  · replace h := h.1 (ci_ne c)
    refine me_go (pc1 := 196) (lv1 := [(6, .int (-1)), (0, .ref P.1), (1, .int x1), (2, .int x2), (3, .long x3), (5, .int x5)]) (st1 := []) 2 rfl ?_
    refine me_lv [(0, .ref P.1), (1, .int x1), (2, .int x2), (3, .long x3), (5, .int x5), (6, .int (-1))] (fl_c rfl (fl_c rfl (fl_c rfl (fl_c rfl (fl_c rfl (fl_c rfl fl_0)))))) ?_
    exact h
  · replace h := h.2 (cn_ne c)
    refine me_go (pc1 := 185) (lv1 := [(0, .ref P.1), (1, .int x1), (2, .int x2), (3, .long x3), (5, .int x5)]) (st1 := [.ref P.1]) 1 rfl ?_
    refine me_getf (v := .ref (P.2.1 22)) rfl rfl rfl ?_
    refine me_go (pc1 := 189) (lv1 := [(0, .ref P.1), (1, .int x1), (2, .int x2), (3, .long x3), (5, .int x5)]) (st1 := [.int x2, .ref (P.2.1 22)]) 1 rfl ?_
    refine me_iald rfl (g := 22) rfl rfl h.1 ?_
    replace h := h.2
    refine me_go (pc1 := 196) (lv1 := [(6, .int (μ.2.1 22 x2.toNatClampNeg)), (0, .ref P.1), (1, .int x1), (2, .int x2), (3, .long x3), (5, .int x5)]) (st1 := []) 2 rfl ?_
    refine me_lv [(0, .ref P.1), (1, .int x1), (2, .int x2), (3, .long x3), (5, .int x5), (6, .int (μ.2.1 22 x2.toNatClampNeg))] (fl_c rfl (fl_c rfl (fl_c rfl (fl_c rfl (fl_c rfl (fl_c rfl fl_0)))))) ?_
    exact h
theorem v_cellsOf_196 {X : ev_X} {W : Nat → Prop} {d : Nat} {P : MP} {μ : MS} {R : Int32 → MS → Prop} {T : MS → Prop} (x1 : Int32) (x2 : Int32) (x3 : Int64) (x5 : Int32) (x6 : Int32) (h : ((x6.toInt < (0 : Int) → ((x5 = 0 → (MI x2 (μ.2.2 81) ∧ (MI x2 (μ.2.2 81) ∧ R (upd (μ.2.1 81) x2.toNatClampNeg (-1) x2.toNatClampNeg) (mA1 μ 81 x2.toNatClampNeg (-1))))) ∧ (¬ x5 = 0 → (MI x2 (μ.2.2 81) ∧ (MI x2 (μ.2.2 81) ∧ R (upd (μ.2.1 81) x2.toNatClampNeg (x3.toInt32) x2.toNatClampNeg) (mA1 μ 81 x2.toNatClampNeg (x3.toInt32))))))) ∧ ((0 : Int) ≤ x6.toInt → (MI x6 (μ.2.2 23) ∧ MC X W true d 393 [.ref P.1, .int (μ.2.1 23 x6.toNatClampNeg)] P μ (fun r1 μ1 => ((x5 = 0 → ME X W true d 393 228 [(0, .ref P.1), (1, .int x1), (2, .int x2), (3, .long x3), (5, .int x5), (6, .int x6), (7, .int r1)] [] P μ1 R T) ∧ (¬ x5 = 0 → ((r1.toInt < (0 : Int) → ME X W true d 393 228 [(0, .ref P.1), (1, .int x1), (2, .int x2), (3, .long x3), (5, .int x5), (6, .int x6), (7, .int r1)] [] P μ1 R T) ∧ ((0 : Int) ≤ r1.toInt → ME X W true d 393 231 [(0, .ref P.1), (1, .int x1), (2, .int x2), (3, .long x3), (5, .int 1), (6, .int x6), (7, .int r1)] [] P μ1 R T))))) (fun _ => False))))) : ME X W true d 393 196 [(0, .ref P.1), (1, .int x1), (2, .int x2), (3, .long x3), (5, .int x5), (6, .int x6)] [] P μ R T := by
  refine me_go (pc1 := 198) (lv1 := [(0, .ref P.1), (1, .int x1), (2, .int x2), (3, .long x3), (5, .int x5), (6, .int x6)]) (st1 := [.int x6]) 1 rfl ?_
  refine me_ifc rfl rfl (fun c => ?_) (fun c => ?_)
  · replace h := h.1 (ci_lt c)
    refine me_go (pc1 := 256) (lv1 := [(0, .ref P.1), (1, .int x1), (2, .int x2), (3, .long x3), (5, .int x5), (6, .int x6)]) (st1 := [.ref P.1]) 1 rfl ?_
    refine me_getf (v := .ref (P.2.1 81)) rfl rfl rfl ?_
    refine me_go (pc1 := 262) (lv1 := [(0, .ref P.1), (1, .int x1), (2, .int x2), (3, .long x3), (5, .int x5), (6, .int x6)]) (st1 := [.int x5, .int x2, .ref (P.2.1 81)]) 2 rfl ?_
    refine me_ifc rfl rfl (fun c => ?_) (fun c => ?_)
    · replace h := h.1 (ci_eq c)
      refine me_go (pc1 := 271) (lv1 := [(0, .ref P.1), (1, .int x1), (2, .int x2), (3, .long x3), (5, .int x5), (6, .int x6)]) (st1 := [.int (-1), .int x2, .ref (P.2.1 81)]) 1 rfl ?_
      have hi := h.1
      replace h := h.2
      refine me_iast rfl (g := 81) rfl rfl hi ?_
      refine me_go (pc1 := 273) (lv1 := [(0, .ref P.1), (1, .int x1), (2, .int x2), (3, .long x3), (5, .int x5), (6, .int x6)]) (st1 := [.ref P.1]) 1 rfl ?_
      refine me_getf (v := .ref (P.2.1 81)) rfl rfl rfl ?_
      refine me_go (pc1 := 277) (lv1 := [(0, .ref P.1), (1, .int x1), (2, .int x2), (3, .long x3), (5, .int x5), (6, .int x6)]) (st1 := [.int x2, .ref (P.2.1 81)]) 1 rfl ?_
      refine me_iald rfl (g := 81) rfl rfl h.1 ?_
      replace h := h.2
      exact me_ret rfl rfl rfl h
    · replace h := h.2 (cn_eq c)
      refine me_go (pc1 := 271) (lv1 := [(0, .ref P.1), (1, .int x1), (2, .int x2), (3, .long x3), (5, .int x5), (6, .int x6)]) (st1 := [.int (x3.toInt32), .int x2, .ref (P.2.1 81)]) 3 rfl ?_
      have hi := h.1
      replace h := h.2
      refine me_iast rfl (g := 81) rfl rfl hi ?_
      refine me_go (pc1 := 273) (lv1 := [(0, .ref P.1), (1, .int x1), (2, .int x2), (3, .long x3), (5, .int x5), (6, .int x6)]) (st1 := [.ref P.1]) 1 rfl ?_
      refine me_getf (v := .ref (P.2.1 81)) rfl rfl rfl ?_
      refine me_go (pc1 := 277) (lv1 := [(0, .ref P.1), (1, .int x1), (2, .int x2), (3, .long x3), (5, .int x5), (6, .int x6)]) (st1 := [.int x2, .ref (P.2.1 81)]) 1 rfl ?_
      refine me_iald rfl (g := 81) rfl rfl h.1 ?_
      replace h := h.2
      exact me_ret rfl rfl rfl h
  · replace h := h.2 (cn_lt c)
    refine me_go (pc1 := 203) (lv1 := [(0, .ref P.1), (1, .int x1), (2, .int x2), (3, .long x3), (5, .int x5), (6, .int x6)]) (st1 := [.ref P.1, .ref P.1]) 2 rfl ?_
    refine me_getf (v := .ref (P.2.1 23)) rfl rfl rfl ?_
    refine me_go (pc1 := 208) (lv1 := [(0, .ref P.1), (1, .int x1), (2, .int x2), (3, .long x3), (5, .int x5), (6, .int x6)]) (st1 := [.int x6, .ref (P.2.1 23), .ref P.1]) 1 rfl ?_
    refine me_iald rfl (g := 23) rfl rfl h.1 ?_
    replace h := h.2
    refine me_callN rfl rfl rfl (h.mono (fun r1 μ1 h => ?_) (fun _ h => h))
    refine me_go (pc1 := 216) (lv1 := [(7, .int r1), (0, .ref P.1), (1, .int x1), (2, .int x2), (3, .long x3), (5, .int x5), (6, .int x6)]) (st1 := [.int x5]) 2 rfl ?_
    refine me_ifc rfl rfl (fun c => ?_) (fun c => ?_)
    · replace h := h.1 (ci_eq c)
      refine me_lv [(0, .ref P.1), (1, .int x1), (2, .int x2), (3, .long x3), (5, .int x5), (6, .int x6), (7, .int r1)] (fl_c rfl (fl_c rfl (fl_c rfl (fl_c rfl (fl_c rfl (fl_c rfl (fl_c rfl fl_0))))))) ?_
      exact h
    · replace h := h.2 (cn_eq c)
      refine me_go (pc1 := 221) (lv1 := [(7, .int r1), (0, .ref P.1), (1, .int x1), (2, .int x2), (3, .long x3), (5, .int x5), (6, .int x6)]) (st1 := [.int r1]) 1 rfl ?_
      refine me_ifc rfl rfl (fun c => ?_) (fun c => ?_)
      · replace h := h.1 (ci_lt c)
        refine me_lv [(0, .ref P.1), (1, .int x1), (2, .int x2), (3, .long x3), (5, .int x5), (6, .int x6), (7, .int r1)] (fl_c rfl (fl_c rfl (fl_c rfl (fl_c rfl (fl_c rfl (fl_c rfl (fl_c rfl fl_0))))))) ?_
        exact h
      · replace h := h.2 (cn_lt c)
        refine me_go (pc1 := 231) (lv1 := [(5, .int 1), (7, .int r1), (0, .ref P.1), (1, .int x1), (2, .int x2), (3, .long x3), (6, .int x6)]) (st1 := []) 3 rfl ?_
        refine me_lv [(0, .ref P.1), (1, .int x1), (2, .int x2), (3, .long x3), (5, .int 1), (6, .int x6), (7, .int r1)] (fl_c rfl (fl_c rfl (fl_c rfl (fl_c rfl (fl_c rfl (fl_c rfl (fl_c rfl fl_0))))))) ?_
        exact h
theorem v_cellsOf_228 {X : ev_X} {W : Nat → Prop} {d : Nat} {P : MP} {μ : MS} {R : Int32 → MS → Prop} {T : MS → Prop} (x1 : Int32) (x2 : Int32) (x3 : Int64) (x5 : Int32) (x6 : Int32) (x7 : Int32) (h : ME X W true d 393 231 [(0, .ref P.1), (1, .int x1), (2, .int x2), (3, .long x3), (5, .int 0), (6, .int x6), (7, .int x7)] [] P μ R T) : ME X W true d 393 228 [(0, .ref P.1), (1, .int x1), (2, .int x2), (3, .long x3), (5, .int x5), (6, .int x6), (7, .int x7)] [] P μ R T := by
  refine me_go (pc1 := 231) (lv1 := [(5, .int 0), (0, .ref P.1), (1, .int x1), (2, .int x2), (3, .long x3), (6, .int x6), (7, .int x7)]) (st1 := []) 2 rfl ?_
  refine me_lv [(0, .ref P.1), (1, .int x1), (2, .int x2), (3, .long x3), (5, .int 0), (6, .int x6), (7, .int x7)] (fl_c rfl (fl_c rfl (fl_c rfl (fl_c rfl (fl_c rfl (fl_c rfl (fl_c rfl fl_0))))))) ?_
  exact h
theorem v_cellsOf_231 {X : ev_X} {W : Nat → Prop} {d : Nat} {P : MP} {μ : MS} {R : Int32 → MS → Prop} {T : MS → Prop} (x1 : Int32) (x2 : Int32) (x3 : Int64) (x5 : Int32) (x6 : Int32) (x7 : Int32) (h : (MI x6 (μ.2.2 27) ∧ ME X W true d 393 196 [(0, .ref P.1), (1, .int x1), (2, .int x2), (3, .long (if (100000 : Int64) < (x3 + ((x7).toInt64)) then 100000 else (x3 + ((x7).toInt64)))), (5, .int x5), (6, .int (μ.2.1 27 x6.toNatClampNeg))] [] P μ R T)) : ME X W true d 393 231 [(0, .ref P.1), (1, .int x1), (2, .int x2), (3, .long x3), (5, .int x5), (6, .int x6), (7, .int x7)] [] P μ R T := by
  refine me_go (pc1 := 236) (lv1 := [(0, .ref P.1), (1, .int x1), (2, .int x2), (3, .long x3), (5, .int x5), (6, .int x6), (7, .int x7)]) (st1 := [.long (x3 + ((x7).toInt64))]) 4 rfl ?_
  refine me_ldc2 rfl ?_
  refine me_xm (st1 := [.long (if (100000 : Int64) < (x3 + ((x7).toInt64)) then 100000 else (x3 + ((x7).toInt64)))]) rfl rfl ?_
  refine me_go (pc1 := 244) (lv1 := [(3, .long (if (100000 : Int64) < (x3 + ((x7).toInt64)) then 100000 else (x3 + ((x7).toInt64)))), (0, .ref P.1), (1, .int x1), (2, .int x2), (5, .int x5), (6, .int x6), (7, .int x7)]) (st1 := [.ref P.1]) 2 rfl ?_
  refine me_getf (v := .ref (P.2.1 27)) rfl rfl rfl ?_
  refine me_go (pc1 := 249) (lv1 := [(3, .long (if (100000 : Int64) < (x3 + ((x7).toInt64)) then 100000 else (x3 + ((x7).toInt64)))), (0, .ref P.1), (1, .int x1), (2, .int x2), (5, .int x5), (6, .int x6), (7, .int x7)]) (st1 := [.int x6, .ref (P.2.1 27)]) 1 rfl ?_
  refine me_iald rfl (g := 27) rfl rfl h.1 ?_
  replace h := h.2
  refine me_go (pc1 := 196) (lv1 := [(6, .int (μ.2.1 27 x6.toNatClampNeg)), (3, .long (if (100000 : Int64) < (x3 + ((x7).toInt64)) then 100000 else (x3 + ((x7).toInt64)))), (0, .ref P.1), (1, .int x1), (2, .int x2), (5, .int x5), (7, .int x7)]) (st1 := []) 2 rfl ?_
  refine me_lv [(0, .ref P.1), (1, .int x1), (2, .int x2), (3, .long (if (100000 : Int64) < (x3 + ((x7).toInt64)) then 100000 else (x3 + ((x7).toInt64)))), (5, .int x5), (6, .int (μ.2.1 27 x6.toNatClampNeg))] (fl_c rfl (fl_c rfl (fl_c rfl (fl_c rfl (fl_c rfl (fl_c rfl fl_0)))))) ?_
  exact h
theorem v_typeRound_0 {X : ev_X} {W : Nat → Prop} {d : Nat} {P : MP} {μ : MS} {R : Int32 → MS → Prop} {T : MS → Prop}  (h : ME X W true d 394 2 [(0, .ref P.1), (1, .int 0)] [] P μ R T) : ME X W true d 394 0 [(0, .ref P.1)] [] P μ R T := by
  refine me_go (pc1 := 2) (lv1 := [(1, .int 0), (0, .ref P.1)]) (st1 := []) 2 rfl ?_
  refine me_lv [(0, .ref P.1), (1, .int 0)] (fl_c rfl (fl_c rfl fl_0)) ?_
  exact h
theorem v_typeRound_2 {X : ev_X} {W : Nat → Prop} {d : Nat} {P : MP} {μ : MS} {R : Int32 → MS → Prop} {T : MS → Prop} (x1 : Int32) (h : (((μ.1 19).toInt ≤ x1.toInt → ME X W true d 394 64 [(0, .ref P.1), (1, .int 0)] [] P (mS1 (mS1 μ 67 0) 34 0) R T) ∧ (x1.toInt < (μ.1 19).toInt → (MI x1 (μ.2.2 66) ∧ (MI x1 (μ.2.2 72) ∧ (MI x1 (μ.2.2 73) ∧ (MI x1 (μ.2.2 81) ∧ (MI x1 (μ.2.2 82) ∧ ME X W true d 394 2 [(0, .ref P.1), (1, .int (x1 + 1))] [] P (mA1 (mA1 (mA1 (mA1 (mA1 μ 66 x1.toNatClampNeg (-1)) 72 x1.toNatClampNeg (-1)) 73 x1.toNatClampNeg x1) 81 x1.toNatClampNeg (-2)) 82 x1.toNatClampNeg 0) R T)))))))) : ME X W true d 394 2 [(0, .ref P.1), (1, .int x1)] [] P μ R T := by
  refine me_go (pc1 := 4) (lv1 := [(0, .ref P.1), (1, .int x1)]) (st1 := [.ref P.1, .int x1]) 2 rfl ?_
  refine me_getf (v := .int (μ.1 19)) rfl rfl rfl ?_
  refine me_icmp rfl rfl (fun c => ?_) (fun c => ?_)
  · replace h := h.1 (ci_ge c)
    refine me_go (pc1 := 54) (lv1 := [(0, .ref P.1), (1, .int x1)]) (st1 := [.int 0, .ref P.1]) 2 rfl ?_
    refine me_put rfl rfl rfl ?_
    refine me_go (pc1 := 59) (lv1 := [(0, .ref P.1), (1, .int x1)]) (st1 := [.int 0, .ref P.1]) 2 rfl ?_
    refine me_put rfl rfl rfl ?_
    refine me_go (pc1 := 64) (lv1 := [(1, .int 0), (0, .ref P.1)]) (st1 := []) 2 rfl ?_
    refine me_lv [(0, .ref P.1), (1, .int 0)] (fl_c rfl (fl_c rfl fl_0)) ?_
    exact h
  · replace h := h.2 (cn_ge c)
    refine me_go (pc1 := 11) (lv1 := [(0, .ref P.1), (1, .int x1)]) (st1 := [.ref P.1]) 1 rfl ?_
    refine me_getf (v := .ref (P.2.1 66)) rfl rfl rfl ?_
    refine me_go (pc1 := 16) (lv1 := [(0, .ref P.1), (1, .int x1)]) (st1 := [.int (-1), .int x1, .ref (P.2.1 66)]) 2 rfl ?_
    have hi := h.1
    replace h := h.2
    refine me_iast rfl (g := 66) rfl rfl hi ?_
    refine me_go (pc1 := 18) (lv1 := [(0, .ref P.1), (1, .int x1)]) (st1 := [.ref P.1]) 1 rfl ?_
    refine me_getf (v := .ref (P.2.1 72)) rfl rfl rfl ?_
    refine me_go (pc1 := 23) (lv1 := [(0, .ref P.1), (1, .int x1)]) (st1 := [.int (-1), .int x1, .ref (P.2.1 72)]) 2 rfl ?_
    have hi := h.1
    replace h := h.2
    refine me_iast rfl (g := 72) rfl rfl hi ?_
    refine me_go (pc1 := 25) (lv1 := [(0, .ref P.1), (1, .int x1)]) (st1 := [.ref P.1]) 1 rfl ?_
    refine me_getf (v := .ref (P.2.1 73)) rfl rfl rfl ?_
    refine me_go (pc1 := 30) (lv1 := [(0, .ref P.1), (1, .int x1)]) (st1 := [.int x1, .int x1, .ref (P.2.1 73)]) 2 rfl ?_
    have hi := h.1
    replace h := h.2
    refine me_iast rfl (g := 73) rfl rfl hi ?_
    refine me_go (pc1 := 32) (lv1 := [(0, .ref P.1), (1, .int x1)]) (st1 := [.ref P.1]) 1 rfl ?_
    refine me_getf (v := .ref (P.2.1 81)) rfl rfl rfl ?_
    refine me_go (pc1 := 38) (lv1 := [(0, .ref P.1), (1, .int x1)]) (st1 := [.int (-2), .int x1, .ref (P.2.1 81)]) 2 rfl ?_
    have hi := h.1
    replace h := h.2
    refine me_iast rfl (g := 81) rfl rfl hi ?_
    refine me_go (pc1 := 40) (lv1 := [(0, .ref P.1), (1, .int x1)]) (st1 := [.ref P.1]) 1 rfl ?_
    refine me_getf (v := .ref (P.2.1 82)) rfl rfl rfl ?_
    refine me_go (pc1 := 45) (lv1 := [(0, .ref P.1), (1, .int x1)]) (st1 := [.int 0, .int x1, .ref (P.2.1 82)]) 2 rfl ?_
    have hi := h.1
    replace h := h.2
    refine me_zast rfl (g := 82) rfl rfl hi (by decide) ?_
    refine me_go (pc1 := 2) (lv1 := [(1, .int (x1 + 1)), (0, .ref P.1)]) (st1 := []) 2 rfl ?_
    refine me_lv [(0, .ref P.1), (1, .int (x1 + 1))] (fl_c rfl (fl_c rfl fl_0)) ?_
    exact h
theorem v_typeRound_64 {X : ev_X} {W : Nat → Prop} {d : Nat} {P : MP} {μ : MS} {R : Int32 → MS → Prop} {T : MS → Prop} (x1 : Int32) (h : (((μ.1 41).toInt ≤ x1.toInt → MC X W true d 396 [.ref P.1] P μ (fun r1 μ1 => MC X W true d 399 [.ref P.1] P μ1 (fun r2 μ2 => ME X W true d 394 124 [(0, .ref P.1), (1, .int 0)] [] P (mS1 μ2 83 0) R T) (fun _ => False)) (fun _ => False)) ∧ (x1.toInt < (μ.1 41).toInt → (MI x1 (μ.2.2 42) ∧ (MI (μ.2.1 42 x1.toNatClampNeg) (μ.2.2 24) ∧ ME X W true d 394 84 [(0, .ref P.1), (1, .int x1), (2, .int (μ.2.1 24 ((μ.2.1 42 x1.toNatClampNeg)).toNatClampNeg))] [] P μ R T))))) : ME X W true d 394 64 [(0, .ref P.1), (1, .int x1)] [] P μ R T := by
  refine me_go (pc1 := 66) (lv1 := [(0, .ref P.1), (1, .int x1)]) (st1 := [.ref P.1, .int x1]) 2 rfl ?_
  refine me_getf (v := .int (μ.1 41)) rfl rfl rfl ?_
  refine me_icmp rfl rfl (fun c => ?_) (fun c => ?_)
  · replace h := h.1 (ci_ge c)
    refine me_go (pc1 := 110) (lv1 := [(0, .ref P.1), (1, .int x1)]) (st1 := [.ref P.1]) 1 rfl ?_
    refine me_callN rfl rfl rfl (h.mono (fun r1 μ1 h => ?_) (fun _ h => h))
    refine me_go (pc1 := 114) (lv1 := [(0, .ref P.1), (1, .int x1)]) (st1 := [.ref P.1]) 1 rfl ?_
    refine me_callN rfl rfl rfl (h.mono (fun r2 μ2 h => ?_) (fun _ h => h))
    refine me_go (pc1 := 119) (lv1 := [(0, .ref P.1), (1, .int x1)]) (st1 := [.int 0, .ref P.1]) 2 rfl ?_
    refine me_put rfl rfl rfl ?_
    refine me_go (pc1 := 124) (lv1 := [(1, .int 0), (0, .ref P.1)]) (st1 := []) 2 rfl ?_
    refine me_lv [(0, .ref P.1), (1, .int 0)] (fl_c rfl (fl_c rfl fl_0)) ?_
    exact h
  · replace h := h.2 (cn_ge c)
    refine me_go (pc1 := 73) (lv1 := [(0, .ref P.1), (1, .int x1)]) (st1 := [.ref P.1]) 1 rfl ?_
    refine me_getf (v := .ref (P.2.1 24)) rfl rfl rfl ?_
    refine me_go (pc1 := 77) (lv1 := [(0, .ref P.1), (1, .int x1)]) (st1 := [.ref P.1, .ref (P.2.1 24)]) 1 rfl ?_
    refine me_getf (v := .ref (P.2.1 42)) rfl rfl rfl ?_
    refine me_go (pc1 := 81) (lv1 := [(0, .ref P.1), (1, .int x1)]) (st1 := [.int x1, .ref (P.2.1 42), .ref (P.2.1 24)]) 1 rfl ?_
    refine me_iald rfl (g := 42) rfl rfl h.1 ?_
    replace h := h.2
    refine me_iald rfl (g := 24) rfl rfl h.1 ?_
    replace h := h.2
    refine me_go (pc1 := 84) (lv1 := [(2, .int (μ.2.1 24 ((μ.2.1 42 x1.toNatClampNeg)).toNatClampNeg)), (0, .ref P.1), (1, .int x1)]) (st1 := []) 1 rfl ?_
    refine me_lv [(0, .ref P.1), (1, .int x1), (2, .int (μ.2.1 24 ((μ.2.1 42 x1.toNatClampNeg)).toNatClampNeg))] (fl_c rfl (fl_c rfl (fl_c rfl fl_0))) ?_
    exact h
theorem v_typeRound_84 {X : ev_X} {W : Nat → Prop} {d : Nat} {P : MP} {μ : MS} {R : Int32 → MS → Prop} {T : MS → Prop} (x1 : Int32) (x2 : Int32) (h : ((x2.toInt < (0 : Int) → ME X W true d 394 64 [(0, .ref P.1), (1, .int (x1 + 1))] [] P μ R T) ∧ ((0 : Int) ≤ x2.toInt → MC X W true d 395 [.ref P.1, .int x2] P μ (fun r1 μ1 => (MI x2 (μ1.2.2 27) ∧ ME X W true d 394 84 [(0, .ref P.1), (1, .int x1), (2, .int (μ1.2.1 27 x2.toNatClampNeg))] [] P μ1 R T)) (fun _ => False)))) : ME X W true d 394 84 [(0, .ref P.1), (1, .int x1), (2, .int x2)] [] P μ R T := by
  refine me_go (pc1 := 85) (lv1 := [(0, .ref P.1), (1, .int x1), (2, .int x2)]) (st1 := [.int x2]) 1 rfl ?_
  refine me_ifc rfl rfl (fun c => ?_) (fun c => ?_)
  · replace h := h.1 (ci_lt c)
    refine me_go (pc1 := 64) (lv1 := [(1, .int (x1 + 1)), (0, .ref P.1), (2, .int x2)]) (st1 := []) 2 rfl ?_
    refine me_lv [(0, .ref P.1), (1, .int (x1 + 1))] (fl_c rfl (fl_c rfl fl_0)) ?_
    exact h
  · replace h := h.2 (cn_lt c)
    refine me_go (pc1 := 90) (lv1 := [(0, .ref P.1), (1, .int x1), (2, .int x2)]) (st1 := [.int x2, .ref P.1]) 2 rfl ?_
    refine me_callN rfl rfl rfl (h.mono (fun r1 μ1 h => ?_) (fun _ h => h))
    refine me_go (pc1 := 94) (lv1 := [(0, .ref P.1), (1, .int x1), (2, .int x2)]) (st1 := [.ref P.1]) 1 rfl ?_
    refine me_getf (v := .ref (P.2.1 27)) rfl rfl rfl ?_
    refine me_go (pc1 := 98) (lv1 := [(0, .ref P.1), (1, .int x1), (2, .int x2)]) (st1 := [.int x2, .ref (P.2.1 27)]) 1 rfl ?_
    refine me_iald rfl (g := 27) rfl rfl h.1 ?_
    replace h := h.2
    refine me_go (pc1 := 84) (lv1 := [(2, .int (μ1.2.1 27 x2.toNatClampNeg)), (0, .ref P.1), (1, .int x1)]) (st1 := []) 2 rfl ?_
    refine me_lv [(0, .ref P.1), (1, .int x1), (2, .int (μ1.2.1 27 x2.toNatClampNeg))] (fl_c rfl (fl_c rfl (fl_c rfl fl_0))) ?_
    exact h
theorem v_typeRound_124 {X : ev_X} {W : Nat → Prop} {d : Nat} {P : MP} {μ : MS} {R : Int32 → MS → Prop} {T : MS → Prop} (x1 : Int32) (h : (((μ.1 41).toInt ≤ x1.toInt → ME X W true d 394 171 [(0, .ref P.1), (1, .int 0)] [] P μ R T) ∧ (x1.toInt < (μ.1 41).toInt → (MI x1 (μ.2.2 42) ∧ (MI (μ.2.1 42 x1.toNatClampNeg) (μ.2.2 24) ∧ ME X W true d 394 144 [(0, .ref P.1), (1, .int x1), (2, .int (μ.2.1 24 ((μ.2.1 42 x1.toNatClampNeg)).toNatClampNeg))] [] P μ R T))))) : ME X W true d 394 124 [(0, .ref P.1), (1, .int x1)] [] P μ R T := by
  refine me_go (pc1 := 126) (lv1 := [(0, .ref P.1), (1, .int x1)]) (st1 := [.ref P.1, .int x1]) 2 rfl ?_
  refine me_getf (v := .int (μ.1 41)) rfl rfl rfl ?_
  refine me_icmp rfl rfl (fun c => ?_) (fun c => ?_)
  · replace h := h.1 (ci_ge c)
    refine me_go (pc1 := 171) (lv1 := [(1, .int 0), (0, .ref P.1)]) (st1 := []) 2 rfl ?_
    refine me_lv [(0, .ref P.1), (1, .int 0)] (fl_c rfl (fl_c rfl fl_0)) ?_
    exact h
  · replace h := h.2 (cn_ge c)
    refine me_go (pc1 := 133) (lv1 := [(0, .ref P.1), (1, .int x1)]) (st1 := [.ref P.1]) 1 rfl ?_
    refine me_getf (v := .ref (P.2.1 24)) rfl rfl rfl ?_
    refine me_go (pc1 := 137) (lv1 := [(0, .ref P.1), (1, .int x1)]) (st1 := [.ref P.1, .ref (P.2.1 24)]) 1 rfl ?_
    refine me_getf (v := .ref (P.2.1 42)) rfl rfl rfl ?_
    refine me_go (pc1 := 141) (lv1 := [(0, .ref P.1), (1, .int x1)]) (st1 := [.int x1, .ref (P.2.1 42), .ref (P.2.1 24)]) 1 rfl ?_
    refine me_iald rfl (g := 42) rfl rfl h.1 ?_
    replace h := h.2
    refine me_iald rfl (g := 24) rfl rfl h.1 ?_
    replace h := h.2
    refine me_go (pc1 := 144) (lv1 := [(2, .int (μ.2.1 24 ((μ.2.1 42 x1.toNatClampNeg)).toNatClampNeg)), (0, .ref P.1), (1, .int x1)]) (st1 := []) 1 rfl ?_
    refine me_lv [(0, .ref P.1), (1, .int x1), (2, .int (μ.2.1 24 ((μ.2.1 42 x1.toNatClampNeg)).toNatClampNeg))] (fl_c rfl (fl_c rfl (fl_c rfl fl_0))) ?_
    exact h
theorem v_typeRound_144 {X : ev_X} {W : Nat → Prop} {d : Nat} {P : MP} {μ : MS} {R : Int32 → MS → Prop} {T : MS → Prop} (x1 : Int32) (x2 : Int32) (h : ((x2.toInt < (0 : Int) → ME X W true d 394 124 [(0, .ref P.1), (1, .int (x1 + 1))] [] P μ R T) ∧ ((0 : Int) ≤ x2.toInt → MC X W true d 400 [.ref P.1, .int x2] P μ (fun r1 μ1 => (MI x2 (μ1.2.2 27) ∧ ME X W true d 394 144 [(0, .ref P.1), (1, .int x1), (2, .int (μ1.2.1 27 x2.toNatClampNeg))] [] P μ1 R T)) (fun _ => False)))) : ME X W true d 394 144 [(0, .ref P.1), (1, .int x1), (2, .int x2)] [] P μ R T := by
  refine me_go (pc1 := 145) (lv1 := [(0, .ref P.1), (1, .int x1), (2, .int x2)]) (st1 := [.int x2]) 1 rfl ?_
  refine me_ifc rfl rfl (fun c => ?_) (fun c => ?_)
  · replace h := h.1 (ci_lt c)
    refine me_go (pc1 := 124) (lv1 := [(1, .int (x1 + 1)), (0, .ref P.1), (2, .int x2)]) (st1 := []) 2 rfl ?_
    refine me_lv [(0, .ref P.1), (1, .int (x1 + 1))] (fl_c rfl (fl_c rfl fl_0)) ?_
    exact h
  · replace h := h.2 (cn_lt c)
    refine me_go (pc1 := 150) (lv1 := [(0, .ref P.1), (1, .int x1), (2, .int x2)]) (st1 := [.int x2, .ref P.1]) 2 rfl ?_
    refine me_callN rfl rfl rfl (h.mono (fun r1 μ1 h => ?_) (fun _ h => h))
    refine me_go (pc1 := 154) (lv1 := [(0, .ref P.1), (1, .int x1), (2, .int x2)]) (st1 := [.ref P.1]) 1 rfl ?_
    refine me_getf (v := .ref (P.2.1 27)) rfl rfl rfl ?_
    refine me_go (pc1 := 158) (lv1 := [(0, .ref P.1), (1, .int x1), (2, .int x2)]) (st1 := [.int x2, .ref (P.2.1 27)]) 1 rfl ?_
    refine me_iald rfl (g := 27) rfl rfl h.1 ?_
    replace h := h.2
    refine me_go (pc1 := 144) (lv1 := [(2, .int (μ1.2.1 27 x2.toNatClampNeg)), (0, .ref P.1), (1, .int x1)]) (st1 := []) 2 rfl ?_
    refine me_lv [(0, .ref P.1), (1, .int x1), (2, .int (μ1.2.1 27 x2.toNatClampNeg))] (fl_c rfl (fl_c rfl (fl_c rfl fl_0))) ?_
    exact h
theorem v_typeRound_171 {X : ev_X} {W : Nat → Prop} {d : Nat} {P : MP} {μ : MS} {R : Int32 → MS → Prop} {T : MS → Prop} (x1 : Int32) (h : (((μ.1 19).toInt ≤ x1.toInt → R 0 μ) ∧ (x1.toInt < (μ.1 19).toInt → (MI x1 (μ.2.2 20) ∧ ((¬ (μ.2.1 20 x1.toNatClampNeg) = 12 → ME X W true d 394 251 [(0, .ref P.1), (1, .int x1)] [] P μ R T) ∧ ((μ.2.1 20 x1.toNatClampNeg) = 12 → (MI x1 (μ.2.2 23) ∧ (((μ.2.1 23 x1.toNatClampNeg).toInt < (0 : Int) → ME X W true d 394 251 [(0, .ref P.1), (1, .int x1)] [] P μ R T) ∧ ((0 : Int) ≤ (μ.2.1 23 x1.toNatClampNeg).toInt → (MI x1 (μ.2.2 23) ∧ MC X W true d 365 [.ref P.1, .int (μ.2.1 23 x1.toNatClampNeg)] P μ (fun r1 μ1 => (MI r1 (μ1.2.2 20) ∧ (((μ1.2.1 20 r1.toNatClampNeg) = 28 → ME X W true d 394 239 [(0, .ref P.1), (1, .int x1)] [] P μ1 R T) ∧ (¬ (μ1.2.1 20 r1.toNatClampNeg) = 28 → (MI x1 (μ1.2.2 23) ∧ MC X W true d 365 [.ref P.1, .int (μ1.2.1 23 x1.toNatClampNeg)] P μ1 (fun r2 μ2 => (MI r2 (μ2.2.2 20) ∧ ((¬ (μ2.2.1 20 r2.toNatClampNeg) = 29 → ME X W true d 394 251 [(0, .ref P.1), (1, .int x1)] [] P μ2 R T) ∧ ((μ2.2.1 20 r2.toNatClampNeg) = 29 → ME X W true d 394 239 [(0, .ref P.1), (1, .int x1)] [] P μ2 R T)))) (fun _ => False)))))) (fun _ => False))))))))))) : ME X W true d 394 171 [(0, .ref P.1), (1, .int x1)] [] P μ R T := by
  refine me_go (pc1 := 173) (lv1 := [(0, .ref P.1), (1, .int x1)]) (st1 := [.ref P.1, .int x1]) 2 rfl ?_
  refine me_getf (v := .int (μ.1 19)) rfl rfl rfl ?_
  refine me_icmp rfl rfl (fun c => ?_) (fun c => ?_)
  · replace h := h.1 (ci_ge c)
    exact me_ret (v := none) (r := 0) rfl rfl rfl h
  · replace h := h.2 (cn_ge c)
    refine me_go (pc1 := 180) (lv1 := [(0, .ref P.1), (1, .int x1)]) (st1 := [.ref P.1]) 1 rfl ?_
    refine me_getf (v := .ref (P.2.1 20)) rfl rfl rfl ?_
    refine me_go (pc1 := 184) (lv1 := [(0, .ref P.1), (1, .int x1)]) (st1 := [.int x1, .ref (P.2.1 20)]) 1 rfl ?_
    refine me_iald rfl (g := 20) rfl rfl h.1 ?_
    replace h := h.2
    refine me_go (pc1 := 187) (lv1 := [(0, .ref P.1), (1, .int x1)]) (st1 := [.int 12, .int (μ.2.1 20 x1.toNatClampNeg)]) 1 rfl ?_
    refine me_icmp rfl rfl (fun c => ?_) (fun c => ?_)
    · replace h := h.1 (ci_ne c)
      exact h
    · replace h := h.2 (cn_ne c)
      refine me_go (pc1 := 191) (lv1 := [(0, .ref P.1), (1, .int x1)]) (st1 := [.ref P.1]) 1 rfl ?_
      refine me_getf (v := .ref (P.2.1 23)) rfl rfl rfl ?_
      refine me_go (pc1 := 195) (lv1 := [(0, .ref P.1), (1, .int x1)]) (st1 := [.int x1, .ref (P.2.1 23)]) 1 rfl ?_
      refine me_iald rfl (g := 23) rfl rfl h.1 ?_
      replace h := h.2
      refine me_ifc rfl rfl (fun c => ?_) (fun c => ?_)
      · replace h := h.1 (ci_lt c)
        exact h
      · replace h := h.2 (cn_lt c)
        refine me_go (pc1 := 200) (lv1 := [(0, .ref P.1), (1, .int x1)]) (st1 := [.ref P.1]) 1 rfl ?_
        refine me_getf (v := .ref (P.2.1 20)) rfl rfl rfl ?_
        refine me_go (pc1 := 205) (lv1 := [(0, .ref P.1), (1, .int x1)]) (st1 := [.ref P.1, .ref P.1, .ref (P.2.1 20)]) 2 rfl ?_
        refine me_getf (v := .ref (P.2.1 23)) rfl rfl rfl ?_
        refine me_go (pc1 := 209) (lv1 := [(0, .ref P.1), (1, .int x1)]) (st1 := [.int x1, .ref (P.2.1 23), .ref P.1, .ref (P.2.1 20)]) 1 rfl ?_
        refine me_iald rfl (g := 23) rfl rfl h.1 ?_
        replace h := h.2
        refine me_callN rfl rfl rfl (h.mono (fun r1 μ1 h => ?_) (fun _ h => h))
        refine me_iald rfl (g := 20) rfl rfl h.1 ?_
        replace h := h.2
        refine me_go (pc1 := 216) (lv1 := [(0, .ref P.1), (1, .int x1)]) (st1 := [.int 28, .int (μ1.2.1 20 r1.toNatClampNeg)]) 1 rfl ?_
        refine me_icmp rfl rfl (fun c => ?_) (fun c => ?_)
        · replace h := h.1 (ci_eq c)
          exact h
        · replace h := h.2 (cn_eq c)
          refine me_go (pc1 := 220) (lv1 := [(0, .ref P.1), (1, .int x1)]) (st1 := [.ref P.1]) 1 rfl ?_
          refine me_getf (v := .ref (P.2.1 20)) rfl rfl rfl ?_
          refine me_go (pc1 := 225) (lv1 := [(0, .ref P.1), (1, .int x1)]) (st1 := [.ref P.1, .ref P.1, .ref (P.2.1 20)]) 2 rfl ?_
          refine me_getf (v := .ref (P.2.1 23)) rfl rfl rfl ?_
          refine me_go (pc1 := 229) (lv1 := [(0, .ref P.1), (1, .int x1)]) (st1 := [.int x1, .ref (P.2.1 23), .ref P.1, .ref (P.2.1 20)]) 1 rfl ?_
          refine me_iald rfl (g := 23) rfl rfl h.1 ?_
          replace h := h.2
          refine me_callN rfl rfl rfl (h.mono (fun r2 μ2 h => ?_) (fun _ h => h))
          refine me_iald rfl (g := 20) rfl rfl h.1 ?_
          replace h := h.2
          refine me_go (pc1 := 236) (lv1 := [(0, .ref P.1), (1, .int x1)]) (st1 := [.int 29, .int (μ2.2.1 20 r2.toNatClampNeg)]) 1 rfl ?_
          refine me_icmp rfl rfl (fun c => ?_) (fun c => ?_)
          · replace h := h.1 (ci_ne c)
            exact h
          · replace h := h.2 (cn_ne c)
            exact h
theorem v_typeRound_239 {X : ev_X} {W : Nat → Prop} {d : Nat} {P : MP} {μ : MS} {R : Int32 → MS → Prop} {T : MS → Prop} (x1 : Int32) (h : (MI x1 (μ.2.2 30) ∧ MC X W true d 290 [.ref P.1, .int 9, .int (μ.2.1 30 x1.toNatClampNeg)] P μ (fun r1 μ1 => ME X W true d 394 251 [(0, .ref P.1), (1, .int x1)] [] P μ1 R T) (fun _ => False))) : ME X W true d 394 239 [(0, .ref P.1), (1, .int x1)] [] P μ R T := by
  refine me_go (pc1 := 243) (lv1 := [(0, .ref P.1), (1, .int x1)]) (st1 := [.ref P.1, .int 9, .ref P.1]) 3 rfl ?_
  refine me_getf (v := .ref (P.2.1 30)) rfl rfl rfl ?_
  refine me_go (pc1 := 247) (lv1 := [(0, .ref P.1), (1, .int x1)]) (st1 := [.int x1, .ref (P.2.1 30), .int 9, .ref P.1]) 1 rfl ?_
  refine me_iald rfl (g := 30) rfl rfl h.1 ?_
  replace h := h.2
  refine me_callN rfl rfl rfl (h.mono (fun r1 μ1 h => ?_) (fun _ h => h))
  exact h
theorem v_typeRound_251 {X : ev_X} {W : Nat → Prop} {d : Nat} {P : MP} {μ : MS} {R : Int32 → MS → Prop} {T : MS → Prop} (x1 : Int32) (h : (MI x1 (μ.2.2 20) ∧ (((μ.2.1 20 x1.toNatClampNeg) = 32 → MC X W true d 374 [.ref P.1, .int x1] P μ (fun r1 μ1 => MC X W true d 365 [.ref P.1, .int r1] P μ1 (fun r2 μ2 => MC X W true d 367 [.ref P.1, .int r2] P μ2 (fun r3 μ3 => ((¬ r3 = 0 → ME X W true d 394 293 [(0, .ref P.1), (1, .int x1)] [] P μ3 R T) ∧ (r3 = 0 → (MI x1 (μ3.2.2 30) ∧ MC X W true d 290 [.ref P.1, .int 10, .int (μ3.2.1 30 x1.toNatClampNeg)] P μ3 (fun r4 μ4 => ME X W true d 394 293 [(0, .ref P.1), (1, .int x1)] [] P μ4 R T) (fun _ => False))))) (fun _ => False)) (fun _ => False)) (fun _ => False)) ∧ (¬ (μ.2.1 20 x1.toNatClampNeg) = 32 → ME X W true d 394 298 [(0, .ref P.1), (1, .int x1)] [] P μ R T)))) : ME X W true d 394 251 [(0, .ref P.1), (1, .int x1)] [] P μ R T := by
  refine me_go (pc1 := 252) (lv1 := [(0, .ref P.1), (1, .int x1)]) (st1 := [.ref P.1]) 1 rfl ?_
  refine me_getf (v := .ref (P.2.1 20)) rfl rfl rfl ?_
  refine me_go (pc1 := 256) (lv1 := [(0, .ref P.1), (1, .int x1)]) (st1 := [.int x1, .ref (P.2.1 20)]) 1 rfl ?_
  refine me_iald rfl (g := 20) rfl rfl h.1 ?_
  replace h := h.2
  refine me_go (pc1 := 259) (lv1 := [(0, .ref P.1), (1, .int x1)]) (st1 := [.int 32, .int (μ.2.1 20 x1.toNatClampNeg)]) 1 rfl ?_
  refine me_icmp rfl rfl (fun c => ?_) (fun c => ?_)
  · replace h := h.1 (ci_eq c)
    refine me_go (pc1 := 269) (lv1 := [(0, .ref P.1), (1, .int x1)]) (st1 := [.int x1, .ref P.1, .ref P.1, .ref P.1]) 4 rfl ?_
    refine me_callN rfl rfl rfl (h.mono (fun r1 μ1 h => ?_) (fun _ h => h))
    refine me_callN rfl rfl rfl (h.mono (fun r2 μ2 h => ?_) (fun _ h => h))
    refine me_callN rfl rfl rfl (h.mono (fun r3 μ3 h => ?_) (fun _ h => h))
    refine me_ifc rfl rfl (fun c => ?_) (fun c => ?_)
    · replace h := h.1 (ci_ne c)
      exact h
    · replace h := h.2 (cn_ne c)
      refine me_go (pc1 := 285) (lv1 := [(0, .ref P.1), (1, .int x1)]) (st1 := [.ref P.1, .int 10, .ref P.1]) 3 rfl ?_
      refine me_getf (v := .ref (P.2.1 30)) rfl rfl rfl ?_
      refine me_go (pc1 := 289) (lv1 := [(0, .ref P.1), (1, .int x1)]) (st1 := [.int x1, .ref (P.2.1 30), .int 10, .ref P.1]) 1 rfl ?_
      refine me_iald rfl (g := 30) rfl rfl h.1 ?_
      replace h := h.2
      refine me_callN rfl rfl rfl (h.mono (fun r4 μ4 h => ?_) (fun _ h => h))
      exact h
  · replace h := h.2 (cn_eq c)
    refine me_go (pc1 := 298) (lv1 := [(0, .ref P.1), (1, .int x1)]) (st1 := []) 1 rfl ?_
    exact h
theorem v_typeRound_293 {X : ev_X} {W : Nat → Prop} {d : Nat} {P : MP} {μ : MS} {R : Int32 → MS → Prop} {T : MS → Prop} (x1 : Int32) (h : MC X W true d 403 [.ref P.1, .int x1] P μ (fun r1 μ1 => ME X W true d 394 298 [(0, .ref P.1), (1, .int x1)] [] P μ1 R T) (fun _ => False)) : ME X W true d 394 293 [(0, .ref P.1), (1, .int x1)] [] P μ R T := by
  refine me_go (pc1 := 295) (lv1 := [(0, .ref P.1), (1, .int x1)]) (st1 := [.int x1, .ref P.1]) 2 rfl ?_
  refine me_callN rfl rfl rfl (h.mono (fun r1 μ1 h => ?_) (fun _ h => h))
  exact h
theorem v_typeRound_298 {X : ev_X} {W : Nat → Prop} {d : Nat} {P : MP} {μ : MS} {R : Int32 → MS → Prop} {T : MS → Prop} (x1 : Int32) (h : ME X W true d 394 171 [(0, .ref P.1), (1, .int (x1 + 1))] [] P μ R T) : ME X W true d 394 298 [(0, .ref P.1), (1, .int x1)] [] P μ R T := by
  refine me_go (pc1 := 171) (lv1 := [(1, .int (x1 + 1)), (0, .ref P.1)]) (st1 := []) 2 rfl ?_
  refine me_lv [(0, .ref P.1), (1, .int (x1 + 1))] (fl_c rfl (fl_c rfl fl_0)) ?_
  exact h
theorem v_revealed_0 {X : ev_X} {W : Nat → Prop} {d : Nat} {P : MP} {μ : MS} {R : Int32 → MS → Prop} {T : MS → Prop} (x1 : Int32) (h : (MI x1 (μ.2.2 20) ∧ (((μ.2.1 20 x1.toNatClampNeg) = 5 → MC X W true d 389 [.ref P.1, .int x1] P μ (fun r1 μ1 => (((0 : Int) ≤ r1.toInt → (MI x1 (μ1.2.2 20) ∧ ((¬ (μ1.2.1 20 x1.toNatClampNeg) = 6 → R 0 μ1) ∧ ((μ1.2.1 20 x1.toNatClampNeg) = 6 → (MI x1 (μ1.2.2 23) ∧ (MI (μ1.2.1 23 x1.toNatClampNeg) (μ1.2.2 73) ∧ (MI r1 (μ1.2.2 72) ∧ (((0 : Int) ≤ (μ1.2.1 72 r1.toNatClampNeg).toInt → (MI x1 (μ1.2.2 30) ∧ MC X W true d 290 [.ref P.1, .int 10, .int (μ1.2.1 30 x1.toNatClampNeg)] P (mA1 μ1 73 (((μ1.2.1 23 x1.toNatClampNeg)).toNatClampNeg) r1) (fun r2 μ2 => R 0 μ2) (fun _ => False))) ∧ ((μ1.2.1 72 r1.toNatClampNeg).toInt < (0 : Int) → (MI r1 (μ1.2.2 72) ∧ R 0 (mA1 (mA1 μ1 73 (((μ1.2.1 23 x1.toNatClampNeg)).toNatClampNeg) r1) 72 r1.toNatClampNeg x1))))))))))) ∧ (r1.toInt < (0 : Int) → (MI x1 (μ1.2.2 30) ∧ MC X W true d 290 [.ref P.1, .int 10, .int (μ1.2.1 30 x1.toNatClampNeg)] P μ1 (fun r3 μ3 => R 0 μ3) (fun _ => False))))) (fun _ => False)) ∧ (¬ (μ.2.1 20 x1.toNatClampNeg) = 5 → (MI x1 (μ.2.2 20) ∧ (((μ.2.1 20 x1.toNatClampNeg) = 6 → MC X W true d 389 [.ref P.1, .int x1] P μ (fun r4 μ4 => (((0 : Int) ≤ r4.toInt → (MI x1 (μ4.2.2 20) ∧ ((¬ (μ4.2.1 20 x1.toNatClampNeg) = 6 → R 0 μ4) ∧ ((μ4.2.1 20 x1.toNatClampNeg) = 6 → (MI x1 (μ4.2.2 23) ∧ (MI (μ4.2.1 23 x1.toNatClampNeg) (μ4.2.2 73) ∧ (MI r4 (μ4.2.2 72) ∧ (((0 : Int) ≤ (μ4.2.1 72 r4.toNatClampNeg).toInt → (MI x1 (μ4.2.2 30) ∧ MC X W true d 290 [.ref P.1, .int 10, .int (μ4.2.1 30 x1.toNatClampNeg)] P (mA1 μ4 73 (((μ4.2.1 23 x1.toNatClampNeg)).toNatClampNeg) r4) (fun r5 μ5 => R 0 μ5) (fun _ => False))) ∧ ((μ4.2.1 72 r4.toNatClampNeg).toInt < (0 : Int) → (MI r4 (μ4.2.2 72) ∧ R 0 (mA1 (mA1 μ4 73 (((μ4.2.1 23 x1.toNatClampNeg)).toNatClampNeg) r4) 72 r4.toNatClampNeg x1))))))))))) ∧ (r4.toInt < (0 : Int) → (MI x1 (μ4.2.2 30) ∧ MC X W true d 290 [.ref P.1, .int 10, .int (μ4.2.1 30 x1.toNatClampNeg)] P μ4 (fun r6 μ6 => R 0 μ6) (fun _ => False))))) (fun _ => False)) ∧ (¬ (μ.2.1 20 x1.toNatClampNeg) = 6 → R 0 μ))))))) : ME X W true d 395 0 [(0, .ref P.1), (1, .int x1)] [] P μ R T := by
  refine me_go (pc1 := 1) (lv1 := [(0, .ref P.1), (1, .int x1)]) (st1 := [.ref P.1]) 1 rfl ?_
  refine me_getf (v := .ref (P.2.1 20)) rfl rfl rfl ?_
  refine me_go (pc1 := 5) (lv1 := [(0, .ref P.1), (1, .int x1)]) (st1 := [.int x1, .ref (P.2.1 20)]) 1 rfl ?_
  refine me_iald rfl (g := 20) rfl rfl h.1 ?_
  replace h := h.2
  refine me_go (pc1 := 7) (lv1 := [(0, .ref P.1), (1, .int x1)]) (st1 := [.int 5, .int (μ.2.1 20 x1.toNatClampNeg)]) 1 rfl ?_
  refine me_icmp rfl rfl (fun c => ?_) (fun c => ?_)
  · replace h := h.1 (ci_eq c)
    refine me_go (pc1 := 24) (lv1 := [(0, .ref P.1), (1, .int x1)]) (st1 := [.int x1, .ref P.1]) 2 rfl ?_
    refine me_callN rfl rfl rfl (h.mono (fun r1 μ1 h => ?_) (fun _ h => h))
    refine me_go (pc1 := 29) (lv1 := [(2, .int r1), (0, .ref P.1), (1, .int x1)]) (st1 := [.int r1]) 2 rfl ?_
    refine me_ifc rfl rfl (fun c => ?_) (fun c => ?_)
    · replace h := h.1 (ci_ge c)
      refine me_go (pc1 := 48) (lv1 := [(2, .int r1), (0, .ref P.1), (1, .int x1)]) (st1 := [.ref P.1]) 1 rfl ?_
      refine me_getf (v := .ref (P.2.1 20)) rfl rfl rfl ?_
      refine me_go (pc1 := 52) (lv1 := [(2, .int r1), (0, .ref P.1), (1, .int x1)]) (st1 := [.int x1, .ref (P.2.1 20)]) 1 rfl ?_
      refine me_iald rfl (g := 20) rfl rfl h.1 ?_
      replace h := h.2
      refine me_go (pc1 := 55) (lv1 := [(2, .int r1), (0, .ref P.1), (1, .int x1)]) (st1 := [.int 6, .int (μ1.2.1 20 x1.toNatClampNeg)]) 1 rfl ?_
      refine me_icmp rfl rfl (fun c => ?_) (fun c => ?_)
      · replace h := h.1 (ci_ne c)
        exact me_ret (v := none) (r := 0) rfl rfl rfl h
      · replace h := h.2 (cn_ne c)
        refine me_go (pc1 := 59) (lv1 := [(2, .int r1), (0, .ref P.1), (1, .int x1)]) (st1 := [.ref P.1]) 1 rfl ?_
        refine me_getf (v := .ref (P.2.1 73)) rfl rfl rfl ?_
        refine me_go (pc1 := 63) (lv1 := [(2, .int r1), (0, .ref P.1), (1, .int x1)]) (st1 := [.ref P.1, .ref (P.2.1 73)]) 1 rfl ?_
        refine me_getf (v := .ref (P.2.1 23)) rfl rfl rfl ?_
        refine me_go (pc1 := 67) (lv1 := [(2, .int r1), (0, .ref P.1), (1, .int x1)]) (st1 := [.int x1, .ref (P.2.1 23), .ref (P.2.1 73)]) 1 rfl ?_
        refine me_iald rfl (g := 23) rfl rfl h.1 ?_
        replace h := h.2
        refine me_go (pc1 := 69) (lv1 := [(2, .int r1), (0, .ref P.1), (1, .int x1)]) (st1 := [.int r1, .int (μ1.2.1 23 x1.toNatClampNeg), .ref (P.2.1 73)]) 1 rfl ?_
        have hi := h.1
        replace h := h.2
        refine me_iast rfl (g := 73) rfl rfl hi ?_
        refine me_go (pc1 := 71) (lv1 := [(2, .int r1), (0, .ref P.1), (1, .int x1)]) (st1 := [.ref P.1]) 1 rfl ?_
        refine me_getf (v := .ref (P.2.1 72)) rfl rfl rfl ?_
        refine me_go (pc1 := 75) (lv1 := [(2, .int r1), (0, .ref P.1), (1, .int x1)]) (st1 := [.int r1, .ref (P.2.1 72)]) 1 rfl ?_
        refine me_iald rfl (g := 72) rfl rfl h.1 ?_
        replace h := h.2
        refine me_ifc rfl rfl (fun c => ?_) (fun c => ?_)
        · replace h := h.1 (ci_ge c)
          refine me_go (pc1 := 93) (lv1 := [(2, .int r1), (0, .ref P.1), (1, .int x1)]) (st1 := [.ref P.1, .int 10, .ref P.1]) 3 rfl ?_
          refine me_getf (v := .ref (P.2.1 30)) rfl rfl rfl ?_
          refine me_go (pc1 := 97) (lv1 := [(2, .int r1), (0, .ref P.1), (1, .int x1)]) (st1 := [.int x1, .ref (P.2.1 30), .int 10, .ref P.1]) 1 rfl ?_
          refine me_iald rfl (g := 30) rfl rfl h.1 ?_
          replace h := h.2
          refine me_callN rfl rfl rfl (h.mono (fun r2 μ2 h => ?_) (fun _ h => h))
          exact me_ret (v := none) (r := 0) rfl rfl rfl h
        · replace h := h.2 (cn_ge c)
          refine me_go (pc1 := 80) (lv1 := [(2, .int r1), (0, .ref P.1), (1, .int x1)]) (st1 := [.ref P.1]) 1 rfl ?_
          refine me_getf (v := .ref (P.2.1 72)) rfl rfl rfl ?_
          refine me_go (pc1 := 85) (lv1 := [(2, .int r1), (0, .ref P.1), (1, .int x1)]) (st1 := [.int x1, .int r1, .ref (P.2.1 72)]) 2 rfl ?_
          have hi := h.1
          replace h := h.2
          refine me_iast rfl (g := 72) rfl rfl hi ?_
          refine me_go (pc1 := 101) (lv1 := [(2, .int r1), (0, .ref P.1), (1, .int x1)]) (st1 := []) 1 rfl ?_
          exact me_ret (v := none) (r := 0) rfl rfl rfl h
    · replace h := h.2 (cn_ge c)
      refine me_go (pc1 := 36) (lv1 := [(2, .int r1), (0, .ref P.1), (1, .int x1)]) (st1 := [.ref P.1, .int 10, .ref P.1]) 3 rfl ?_
      refine me_getf (v := .ref (P.2.1 30)) rfl rfl rfl ?_
      refine me_go (pc1 := 40) (lv1 := [(2, .int r1), (0, .ref P.1), (1, .int x1)]) (st1 := [.int x1, .ref (P.2.1 30), .int 10, .ref P.1]) 1 rfl ?_
      refine me_iald rfl (g := 30) rfl rfl h.1 ?_
      replace h := h.2
      refine me_callN rfl rfl rfl (h.mono (fun r3 μ3 h => ?_) (fun _ h => h))
      refine me_go (pc1 := 101) (lv1 := [(2, .int r1), (0, .ref P.1), (1, .int x1)]) (st1 := []) 1 rfl ?_
      exact me_ret (v := none) (r := 0) rfl rfl rfl h
  · replace h := h.2 (cn_eq c)
    refine me_go (pc1 := 11) (lv1 := [(0, .ref P.1), (1, .int x1)]) (st1 := [.ref P.1]) 1 rfl ?_
    refine me_getf (v := .ref (P.2.1 20)) rfl rfl rfl ?_
    refine me_go (pc1 := 15) (lv1 := [(0, .ref P.1), (1, .int x1)]) (st1 := [.int x1, .ref (P.2.1 20)]) 1 rfl ?_
    refine me_iald rfl (g := 20) rfl rfl h.1 ?_
    replace h := h.2
    refine me_go (pc1 := 18) (lv1 := [(0, .ref P.1), (1, .int x1)]) (st1 := [.int 6, .int (μ.2.1 20 x1.toNatClampNeg)]) 1 rfl ?_
    refine me_icmp rfl rfl (fun c => ?_) (fun c => ?_)
    · replace h := h.1 (ci_eq c)
      refine me_go (pc1 := 24) (lv1 := [(0, .ref P.1), (1, .int x1)]) (st1 := [.int x1, .ref P.1]) 2 rfl ?_
      refine me_callN rfl rfl rfl (h.mono (fun r4 μ4 h => ?_) (fun _ h => h))
      refine me_go (pc1 := 29) (lv1 := [(2, .int r4), (0, .ref P.1), (1, .int x1)]) (st1 := [.int r4]) 2 rfl ?_
      refine me_ifc rfl rfl (fun c => ?_) (fun c => ?_)
      · replace h := h.1 (ci_ge c)
        refine me_go (pc1 := 48) (lv1 := [(2, .int r4), (0, .ref P.1), (1, .int x1)]) (st1 := [.ref P.1]) 1 rfl ?_
        refine me_getf (v := .ref (P.2.1 20)) rfl rfl rfl ?_
        refine me_go (pc1 := 52) (lv1 := [(2, .int r4), (0, .ref P.1), (1, .int x1)]) (st1 := [.int x1, .ref (P.2.1 20)]) 1 rfl ?_
        refine me_iald rfl (g := 20) rfl rfl h.1 ?_
        replace h := h.2
        refine me_go (pc1 := 55) (lv1 := [(2, .int r4), (0, .ref P.1), (1, .int x1)]) (st1 := [.int 6, .int (μ4.2.1 20 x1.toNatClampNeg)]) 1 rfl ?_
        refine me_icmp rfl rfl (fun c => ?_) (fun c => ?_)
        · replace h := h.1 (ci_ne c)
          exact me_ret (v := none) (r := 0) rfl rfl rfl h
        · replace h := h.2 (cn_ne c)
          refine me_go (pc1 := 59) (lv1 := [(2, .int r4), (0, .ref P.1), (1, .int x1)]) (st1 := [.ref P.1]) 1 rfl ?_
          refine me_getf (v := .ref (P.2.1 73)) rfl rfl rfl ?_
          refine me_go (pc1 := 63) (lv1 := [(2, .int r4), (0, .ref P.1), (1, .int x1)]) (st1 := [.ref P.1, .ref (P.2.1 73)]) 1 rfl ?_
          refine me_getf (v := .ref (P.2.1 23)) rfl rfl rfl ?_
          refine me_go (pc1 := 67) (lv1 := [(2, .int r4), (0, .ref P.1), (1, .int x1)]) (st1 := [.int x1, .ref (P.2.1 23), .ref (P.2.1 73)]) 1 rfl ?_
          refine me_iald rfl (g := 23) rfl rfl h.1 ?_
          replace h := h.2
          refine me_go (pc1 := 69) (lv1 := [(2, .int r4), (0, .ref P.1), (1, .int x1)]) (st1 := [.int r4, .int (μ4.2.1 23 x1.toNatClampNeg), .ref (P.2.1 73)]) 1 rfl ?_
          have hi := h.1
          replace h := h.2
          refine me_iast rfl (g := 73) rfl rfl hi ?_
          refine me_go (pc1 := 71) (lv1 := [(2, .int r4), (0, .ref P.1), (1, .int x1)]) (st1 := [.ref P.1]) 1 rfl ?_
          refine me_getf (v := .ref (P.2.1 72)) rfl rfl rfl ?_
          refine me_go (pc1 := 75) (lv1 := [(2, .int r4), (0, .ref P.1), (1, .int x1)]) (st1 := [.int r4, .ref (P.2.1 72)]) 1 rfl ?_
          refine me_iald rfl (g := 72) rfl rfl h.1 ?_
          replace h := h.2
          refine me_ifc rfl rfl (fun c => ?_) (fun c => ?_)
          · replace h := h.1 (ci_ge c)
            refine me_go (pc1 := 93) (lv1 := [(2, .int r4), (0, .ref P.1), (1, .int x1)]) (st1 := [.ref P.1, .int 10, .ref P.1]) 3 rfl ?_
            refine me_getf (v := .ref (P.2.1 30)) rfl rfl rfl ?_
            refine me_go (pc1 := 97) (lv1 := [(2, .int r4), (0, .ref P.1), (1, .int x1)]) (st1 := [.int x1, .ref (P.2.1 30), .int 10, .ref P.1]) 1 rfl ?_
            refine me_iald rfl (g := 30) rfl rfl h.1 ?_
            replace h := h.2
            refine me_callN rfl rfl rfl (h.mono (fun r5 μ5 h => ?_) (fun _ h => h))
            exact me_ret (v := none) (r := 0) rfl rfl rfl h
          · replace h := h.2 (cn_ge c)
            refine me_go (pc1 := 80) (lv1 := [(2, .int r4), (0, .ref P.1), (1, .int x1)]) (st1 := [.ref P.1]) 1 rfl ?_
            refine me_getf (v := .ref (P.2.1 72)) rfl rfl rfl ?_
            refine me_go (pc1 := 85) (lv1 := [(2, .int r4), (0, .ref P.1), (1, .int x1)]) (st1 := [.int x1, .int r4, .ref (P.2.1 72)]) 2 rfl ?_
            have hi := h.1
            replace h := h.2
            refine me_iast rfl (g := 72) rfl rfl hi ?_
            refine me_go (pc1 := 101) (lv1 := [(2, .int r4), (0, .ref P.1), (1, .int x1)]) (st1 := []) 1 rfl ?_
            exact me_ret (v := none) (r := 0) rfl rfl rfl h
      · replace h := h.2 (cn_ge c)
        refine me_go (pc1 := 36) (lv1 := [(2, .int r4), (0, .ref P.1), (1, .int x1)]) (st1 := [.ref P.1, .int 10, .ref P.1]) 3 rfl ?_
        refine me_getf (v := .ref (P.2.1 30)) rfl rfl rfl ?_
        refine me_go (pc1 := 40) (lv1 := [(2, .int r4), (0, .ref P.1), (1, .int x1)]) (st1 := [.int x1, .ref (P.2.1 30), .int 10, .ref P.1]) 1 rfl ?_
        refine me_iald rfl (g := 30) rfl rfl h.1 ?_
        replace h := h.2
        refine me_callN rfl rfl rfl (h.mono (fun r6 μ6 h => ?_) (fun _ h => h))
        refine me_go (pc1 := 101) (lv1 := [(2, .int r4), (0, .ref P.1), (1, .int x1)]) (st1 := []) 1 rfl ?_
        exact me_ret (v := none) (r := 0) rfl rfl rfl h
    · replace h := h.2 (cn_eq c)
      exact me_ret (v := none) (r := 0) rfl rfl rfl h
theorem v_rings_0 {X : ev_X} {W : Nat → Prop} {d : Nat} {P : MP} {μ : MS} {R : Int32 → MS → Prop} {T : MS → Prop}  (h : ME X W true d 396 2 [(0, .ref P.1), (1, .int 0)] [] P μ R T) : ME X W true d 396 0 [(0, .ref P.1)] [] P μ R T := by
  refine me_go (pc1 := 2) (lv1 := [(1, .int 0), (0, .ref P.1)]) (st1 := []) 2 rfl ?_
  refine me_lv [(0, .ref P.1), (1, .int 0)] (fl_c rfl (fl_c rfl fl_0)) ?_
  exact h
theorem v_rings_2 {X : ev_X} {W : Nat → Prop} {d : Nat} {P : MP} {μ : MS} {R : Int32 → MS → Prop} {T : MS → Prop} (x1 : Int32) (h : (((μ.1 60).toInt ≤ x1.toInt → ME X W true d 396 99 [(0, .ref P.1), (1, .int 0)] [] P μ R T) ∧ (x1.toInt < (μ.1 60).toInt → (MI x1 (μ.2.2 61) ∧ (MI (μ.2.1 61 x1.toNatClampNeg) (μ.2.2 20) ∧ (((μ.2.1 20 ((μ.2.1 61 x1.toNatClampNeg)).toNatClampNeg) = 3 → ME X W true d 396 32 [(0, .ref P.1), (1, .int x1), (2, .int (μ.2.1 61 x1.toNatClampNeg)), (3, .int 0)] [] P μ R T) ∧ (¬ (μ.2.1 20 ((μ.2.1 61 x1.toNatClampNeg)).toNatClampNeg) = 3 → ME X W true d 396 2 [(0, .ref P.1), (1, .int (x1 + 1))] [] P μ R T))))))) : ME X W true d 396 2 [(0, .ref P.1), (1, .int x1)] [] P μ R T := by
  refine me_go (pc1 := 4) (lv1 := [(0, .ref P.1), (1, .int x1)]) (st1 := [.ref P.1, .int x1]) 2 rfl ?_
  refine me_getf (v := .int (μ.1 60)) rfl rfl rfl ?_
  refine me_icmp rfl rfl (fun c => ?_) (fun c => ?_)
  · replace h := h.1 (ci_ge c)
    refine me_go (pc1 := 99) (lv1 := [(1, .int 0), (0, .ref P.1)]) (st1 := []) 2 rfl ?_
    refine me_lv [(0, .ref P.1), (1, .int 0)] (fl_c rfl (fl_c rfl fl_0)) ?_
    exact h
  · replace h := h.2 (cn_ge c)
    refine me_go (pc1 := 11) (lv1 := [(0, .ref P.1), (1, .int x1)]) (st1 := [.ref P.1]) 1 rfl ?_
    refine me_getf (v := .ref (P.2.1 61)) rfl rfl rfl ?_
    refine me_go (pc1 := 15) (lv1 := [(0, .ref P.1), (1, .int x1)]) (st1 := [.int x1, .ref (P.2.1 61)]) 1 rfl ?_
    refine me_iald rfl (g := 61) rfl rfl h.1 ?_
    replace h := h.2
    refine me_go (pc1 := 18) (lv1 := [(2, .int (μ.2.1 61 x1.toNatClampNeg)), (0, .ref P.1), (1, .int x1)]) (st1 := [.ref P.1]) 2 rfl ?_
    refine me_getf (v := .ref (P.2.1 20)) rfl rfl rfl ?_
    refine me_go (pc1 := 22) (lv1 := [(2, .int (μ.2.1 61 x1.toNatClampNeg)), (0, .ref P.1), (1, .int x1)]) (st1 := [.int (μ.2.1 61 x1.toNatClampNeg), .ref (P.2.1 20)]) 1 rfl ?_
    refine me_iald rfl (g := 20) rfl rfl h.1 ?_
    replace h := h.2
    refine me_go (pc1 := 24) (lv1 := [(2, .int (μ.2.1 61 x1.toNatClampNeg)), (0, .ref P.1), (1, .int x1)]) (st1 := [.int 3, .int (μ.2.1 20 ((μ.2.1 61 x1.toNatClampNeg)).toNatClampNeg)]) 1 rfl ?_
    refine me_icmp rfl rfl (fun c => ?_) (fun c => ?_)
    · replace h := h.1 (ci_eq c)
      refine me_go (pc1 := 32) (lv1 := [(3, .int 0), (2, .int (μ.2.1 61 x1.toNatClampNeg)), (0, .ref P.1), (1, .int x1)]) (st1 := []) 2 rfl ?_
      refine me_lv [(0, .ref P.1), (1, .int x1), (2, .int (μ.2.1 61 x1.toNatClampNeg)), (3, .int 0)] (fl_c rfl (fl_c rfl (fl_c rfl (fl_c rfl fl_0)))) ?_
      exact h
    · replace h := h.2 (cn_eq c)
      refine me_go (pc1 := 2) (lv1 := [(1, .int (x1 + 1)), (2, .int (μ.2.1 61 x1.toNatClampNeg)), (0, .ref P.1)]) (st1 := []) 3 rfl ?_
      refine me_lv [(0, .ref P.1), (1, .int (x1 + 1))] (fl_c rfl (fl_c rfl fl_0)) ?_
      exact h
theorem v_rings_32 {X : ev_X} {W : Nat → Prop} {d : Nat} {P : MP} {μ : MS} {R : Int32 → MS → Prop} {T : MS → Prop} (x1 : Int32) (x2 : Int32) (x3 : Int32) (h : (((μ.1 19).toInt ≤ x3.toInt → (MI x2 (μ.2.2 23) ∧ MC X W true d 397 [.ref P.1, .int (μ.2.1 23 x2.toNatClampNeg), .int x2] P μ (fun r1 μ1 => (MI x2 (μ1.2.2 82) ∧ (((r1) = 0 ∨ (r1) = 1) ∧ (MI x2 (μ1.2.2 82) ∧ (((upd (μ1.2.1 82) x2.toNatClampNeg r1 x2.toNatClampNeg) = 0 → ME X W true d 396 2 [(0, .ref P.1), (1, .int (x1 + 1))] [] P (mA1 μ1 82 x2.toNatClampNeg r1) R T) ∧ (¬ (upd (μ1.2.1 82) x2.toNatClampNeg r1 x2.toNatClampNeg) = 0 → (MI x2 (μ1.2.2 30) ∧ MC X W true d 290 [.ref P.1, .int 8, .int (μ1.2.1 30 x2.toNatClampNeg)] P (mA1 μ1 82 x2.toNatClampNeg r1) (fun r2 μ2 => ME X W true d 396 2 [(0, .ref P.1), (1, .int (x1 + 1))] [] P μ2 R T) (fun _ => False)))))))) (fun _ => False))) ∧ (x3.toInt < (μ.1 19).toInt → (MI x3 (μ.2.2 84) ∧ ME X W true d 396 32 [(0, .ref P.1), (1, .int x1), (2, .int x2), (3, .int (x3 + 1))] [] P (mA1 μ 84 x3.toNatClampNeg 0) R T)))) : ME X W true d 396 32 [(0, .ref P.1), (1, .int x1), (2, .int x2), (3, .int x3)] [] P μ R T := by
  refine me_go (pc1 := 34) (lv1 := [(0, .ref P.1), (1, .int x1), (2, .int x2), (3, .int x3)]) (st1 := [.ref P.1, .int x3]) 2 rfl ?_
  refine me_getf (v := .int (μ.1 19)) rfl rfl rfl ?_
  refine me_icmp rfl rfl (fun c => ?_) (fun c => ?_)
  · replace h := h.1 (ci_ge c)
    refine me_go (pc1 := 54) (lv1 := [(0, .ref P.1), (1, .int x1), (2, .int x2), (3, .int x3)]) (st1 := [.ref P.1]) 1 rfl ?_
    refine me_getf (v := .ref (P.2.1 82)) rfl rfl rfl ?_
    refine me_go (pc1 := 60) (lv1 := [(0, .ref P.1), (1, .int x1), (2, .int x2), (3, .int x3)]) (st1 := [.ref P.1, .ref P.1, .int x2, .ref (P.2.1 82)]) 3 rfl ?_
    refine me_getf (v := .ref (P.2.1 23)) rfl rfl rfl ?_
    refine me_go (pc1 := 64) (lv1 := [(0, .ref P.1), (1, .int x1), (2, .int x2), (3, .int x3)]) (st1 := [.int x2, .ref (P.2.1 23), .ref P.1, .int x2, .ref (P.2.1 82)]) 1 rfl ?_
    refine me_iald rfl (g := 23) rfl rfl h.1 ?_
    replace h := h.2
    refine me_go (pc1 := 66) (lv1 := [(0, .ref P.1), (1, .int x1), (2, .int x2), (3, .int x3)]) (st1 := [.int x2, .int (μ.2.1 23 x2.toNatClampNeg), .ref P.1, .int x2, .ref (P.2.1 82)]) 1 rfl ?_
    refine me_callN rfl rfl rfl (h.mono (fun r1 μ1 h => ?_) (fun _ h => h))
    have hi := h.1
    replace h := h.2
    refine me_zast rfl (g := 82) rfl rfl hi h.1 ?_
    replace h := h.2
    refine me_go (pc1 := 71) (lv1 := [(0, .ref P.1), (1, .int x1), (2, .int x2), (3, .int x3)]) (st1 := [.ref P.1]) 1 rfl ?_
    refine me_getf (v := .ref (P.2.1 82)) rfl rfl rfl ?_
    refine me_go (pc1 := 75) (lv1 := [(0, .ref P.1), (1, .int x1), (2, .int x2), (3, .int x3)]) (st1 := [.int x2, .ref (P.2.1 82)]) 1 rfl ?_
    refine me_bald rfl (g := 82) rfl (Or.inr rfl) h.1 ?_
    replace h := h.2
    refine me_ifc rfl rfl (fun c => ?_) (fun c => ?_)
    · replace h := h.1 (ci_eq c)
      refine me_go (pc1 := 2) (lv1 := [(1, .int (x1 + 1)), (0, .ref P.1), (2, .int x2), (3, .int x3)]) (st1 := []) 2 rfl ?_
      refine me_lv [(0, .ref P.1), (1, .int (x1 + 1))] (fl_c rfl (fl_c rfl fl_0)) ?_
      exact h
    · replace h := h.2 (cn_eq c)
      refine me_go (pc1 := 83) (lv1 := [(0, .ref P.1), (1, .int x1), (2, .int x2), (3, .int x3)]) (st1 := [.ref P.1, .int 8, .ref P.1]) 3 rfl ?_
      refine me_getf (v := .ref (P.2.1 30)) rfl rfl rfl ?_
      refine me_go (pc1 := 87) (lv1 := [(0, .ref P.1), (1, .int x1), (2, .int x2), (3, .int x3)]) (st1 := [.int x2, .ref (P.2.1 30), .int 8, .ref P.1]) 1 rfl ?_
      refine me_iald rfl (g := 30) rfl rfl h.1 ?_
      replace h := h.2
      refine me_callN rfl rfl rfl (h.mono (fun r2 μ2 h => ?_) (fun _ h => h))
      refine me_go (pc1 := 2) (lv1 := [(1, .int (x1 + 1)), (0, .ref P.1), (2, .int x2), (3, .int x3)]) (st1 := []) 2 rfl ?_
      refine me_lv [(0, .ref P.1), (1, .int (x1 + 1))] (fl_c rfl (fl_c rfl fl_0)) ?_
      exact h
  · replace h := h.2 (cn_ge c)
    refine me_go (pc1 := 41) (lv1 := [(0, .ref P.1), (1, .int x1), (2, .int x2), (3, .int x3)]) (st1 := [.ref P.1]) 1 rfl ?_
    refine me_getf (v := .ref (P.2.1 84)) rfl rfl rfl ?_
    refine me_go (pc1 := 46) (lv1 := [(0, .ref P.1), (1, .int x1), (2, .int x2), (3, .int x3)]) (st1 := [.int 0, .int x3, .ref (P.2.1 84)]) 2 rfl ?_
    have hi := h.1
    replace h := h.2
    refine me_zast rfl (g := 84) rfl rfl hi (by decide) ?_
    refine me_go (pc1 := 32) (lv1 := [(3, .int (x3 + 1)), (0, .ref P.1), (1, .int x1), (2, .int x2)]) (st1 := []) 2 rfl ?_
    refine me_lv [(0, .ref P.1), (1, .int x1), (2, .int x2), (3, .int (x3 + 1))] (fl_c rfl (fl_c rfl (fl_c rfl (fl_c rfl fl_0)))) ?_
    exact h
theorem v_rings_99 {X : ev_X} {W : Nat → Prop} {d : Nat} {P : MP} {μ : MS} {R : Int32 → MS → Prop} {T : MS → Prop} (x1 : Int32) (h : (((μ.1 19).toInt ≤ x1.toInt → R 0 μ) ∧ (x1.toInt < (μ.1 19).toInt → (MI x1 (μ.2.2 20) ∧ (((μ.2.1 20 x1.toNatClampNeg) = 3 → MC X W true d 398 [.ref P.1, .int x1] P μ (fun r1 μ1 => ME X W true d 396 139 [(0, .ref P.1), (1, .int x1), (2, .int r1), (3, .int 0)] [] P μ1 R T) (fun _ => False)) ∧ (¬ (μ.2.1 20 x1.toNatClampNeg) = 3 → (MI x1 (μ.2.2 20) ∧ (((μ.2.1 20 x1.toNatClampNeg) = 6 → MC X W true d 398 [.ref P.1, .int x1] P μ (fun r2 μ2 => ME X W true d 396 139 [(0, .ref P.1), (1, .int x1), (2, .int r2), (3, .int 0)] [] P μ2 R T) (fun _ => False)) ∧ (¬ (μ.2.1 20 x1.toNatClampNeg) = 6 → ME X W true d 396 99 [(0, .ref P.1), (1, .int (x1 + 1))] [] P μ R T))))))))) : ME X W true d 396 99 [(0, .ref P.1), (1, .int x1)] [] P μ R T := by
  refine me_go (pc1 := 101) (lv1 := [(0, .ref P.1), (1, .int x1)]) (st1 := [.ref P.1, .int x1]) 2 rfl ?_
  refine me_getf (v := .int (μ.1 19)) rfl rfl rfl ?_
  refine me_icmp rfl rfl (fun c => ?_) (fun c => ?_)
  · replace h := h.1 (ci_ge c)
    exact me_ret (v := none) (r := 0) rfl rfl rfl h
  · replace h := h.2 (cn_ge c)
    refine me_go (pc1 := 108) (lv1 := [(0, .ref P.1), (1, .int x1)]) (st1 := [.ref P.1]) 1 rfl ?_
    refine me_getf (v := .ref (P.2.1 20)) rfl rfl rfl ?_
    refine me_go (pc1 := 112) (lv1 := [(0, .ref P.1), (1, .int x1)]) (st1 := [.int x1, .ref (P.2.1 20)]) 1 rfl ?_
    refine me_iald rfl (g := 20) rfl rfl h.1 ?_
    replace h := h.2
    refine me_go (pc1 := 114) (lv1 := [(0, .ref P.1), (1, .int x1)]) (st1 := [.int 3, .int (μ.2.1 20 x1.toNatClampNeg)]) 1 rfl ?_
    refine me_icmp rfl rfl (fun c => ?_) (fun c => ?_)
    · replace h := h.1 (ci_eq c)
      refine me_go (pc1 := 133) (lv1 := [(0, .ref P.1), (1, .int x1)]) (st1 := [.int x1, .ref P.1]) 2 rfl ?_
      refine me_callN rfl rfl rfl (h.mono (fun r1 μ1 h => ?_) (fun _ h => h))
      refine me_go (pc1 := 139) (lv1 := [(3, .int 0), (2, .int r1), (0, .ref P.1), (1, .int x1)]) (st1 := []) 3 rfl ?_
      refine me_lv [(0, .ref P.1), (1, .int x1), (2, .int r1), (3, .int 0)] (fl_c rfl (fl_c rfl (fl_c rfl (fl_c rfl fl_0)))) ?_
      exact h
    · replace h := h.2 (cn_eq c)
      refine me_go (pc1 := 118) (lv1 := [(0, .ref P.1), (1, .int x1)]) (st1 := [.ref P.1]) 1 rfl ?_
      refine me_getf (v := .ref (P.2.1 20)) rfl rfl rfl ?_
      refine me_go (pc1 := 122) (lv1 := [(0, .ref P.1), (1, .int x1)]) (st1 := [.int x1, .ref (P.2.1 20)]) 1 rfl ?_
      refine me_iald rfl (g := 20) rfl rfl h.1 ?_
      replace h := h.2
      refine me_go (pc1 := 125) (lv1 := [(0, .ref P.1), (1, .int x1)]) (st1 := [.int 6, .int (μ.2.1 20 x1.toNatClampNeg)]) 1 rfl ?_
      refine me_icmp rfl rfl (fun c => ?_) (fun c => ?_)
      · replace h := h.1 (ci_eq c)
        refine me_go (pc1 := 133) (lv1 := [(0, .ref P.1), (1, .int x1)]) (st1 := [.int x1, .ref P.1]) 2 rfl ?_
        refine me_callN rfl rfl rfl (h.mono (fun r2 μ2 h => ?_) (fun _ h => h))
        refine me_go (pc1 := 139) (lv1 := [(3, .int 0), (2, .int r2), (0, .ref P.1), (1, .int x1)]) (st1 := []) 3 rfl ?_
        refine me_lv [(0, .ref P.1), (1, .int x1), (2, .int r2), (3, .int 0)] (fl_c rfl (fl_c rfl (fl_c rfl (fl_c rfl fl_0)))) ?_
        exact h
      · replace h := h.2 (cn_eq c)
        refine me_go (pc1 := 99) (lv1 := [(1, .int (x1 + 1)), (0, .ref P.1)]) (st1 := []) 3 rfl ?_
        refine me_lv [(0, .ref P.1), (1, .int (x1 + 1))] (fl_c rfl (fl_c rfl fl_0)) ?_
        exact h
theorem v_rings_139 {X : ev_X} {W : Nat → Prop} {d : Nat} {P : MP} {μ : MS} {R : Int32 → MS → Prop} {T : MS → Prop} (x1 : Int32) (x2 : Int32) (x3 : Int32) (h : ((x2.toInt < (0 : Int) → ((¬ x2 = x1 → ME X W true d 396 99 [(0, .ref P.1), (1, .int (x1 + 1))] [] P μ R T) ∧ (x2 = x1 → (MI x1 (μ.2.2 30) ∧ MC X W true d 290 [.ref P.1, .int 8, .int (μ.2.1 30 x1.toNatClampNeg)] P μ (fun r1 μ1 => ME X W true d 396 99 [(0, .ref P.1), (1, .int (x1 + 1))] [] P μ1 R T) (fun _ => False))))) ∧ ((0 : Int) ≤ x2.toInt → ((x2 = x1 → ((¬ x2 = x1 → ME X W true d 396 99 [(0, .ref P.1), (1, .int (x1 + 1))] [] P μ R T) ∧ (x2 = x1 → (MI x1 (μ.2.2 30) ∧ MC X W true d 290 [.ref P.1, .int 8, .int (μ.2.1 30 x1.toNatClampNeg)] P μ (fun r2 μ2 => ME X W true d 396 99 [(0, .ref P.1), (1, .int (x1 + 1))] [] P μ2 R T) (fun _ => False))))) ∧ (¬ x2 = x1 → (((μ.1 19).toInt ≤ x3.toInt → ((¬ x2 = x1 → ME X W true d 396 99 [(0, .ref P.1), (1, .int (x1 + 1))] [] P μ R T) ∧ (x2 = x1 → (MI x1 (μ.2.2 30) ∧ MC X W true d 290 [.ref P.1, .int 8, .int (μ.2.1 30 x1.toNatClampNeg)] P μ (fun r3 μ3 => ME X W true d 396 99 [(0, .ref P.1), (1, .int (x1 + 1))] [] P μ3 R T) (fun _ => False))))) ∧ (x3.toInt < (μ.1 19).toInt → MC X W true d 398 [.ref P.1, .int x2] P μ (fun r4 μ4 => ME X W true d 396 139 [(0, .ref P.1), (1, .int x1), (2, .int r4), (3, .int (x3 + 1))] [] P μ4 R T) (fun _ => False)))))))) : ME X W true d 396 139 [(0, .ref P.1), (1, .int x1), (2, .int x2), (3, .int x3)] [] P μ R T := by
  refine me_go (pc1 := 140) (lv1 := [(0, .ref P.1), (1, .int x1), (2, .int x2), (3, .int x3)]) (st1 := [.int x2]) 1 rfl ?_
  refine me_ifc rfl rfl (fun c => ?_) (fun c => ?_)
  · replace h := h.1 (ci_lt c)
    refine me_go (pc1 := 170) (lv1 := [(0, .ref P.1), (1, .int x1), (2, .int x2), (3, .int x3)]) (st1 := [.int x1, .int x2]) 2 rfl ?_
    refine me_icmp rfl rfl (fun c => ?_) (fun c => ?_)
    · replace h := h.1 (ci_ne c)
      refine me_go (pc1 := 99) (lv1 := [(1, .int (x1 + 1)), (0, .ref P.1), (2, .int x2), (3, .int x3)]) (st1 := []) 2 rfl ?_
      refine me_lv [(0, .ref P.1), (1, .int (x1 + 1))] (fl_c rfl (fl_c rfl fl_0)) ?_
      exact h
    · replace h := h.2 (cn_ne c)
      refine me_go (pc1 := 177) (lv1 := [(0, .ref P.1), (1, .int x1), (2, .int x2), (3, .int x3)]) (st1 := [.ref P.1, .int 8, .ref P.1]) 3 rfl ?_
      refine me_getf (v := .ref (P.2.1 30)) rfl rfl rfl ?_
      refine me_go (pc1 := 181) (lv1 := [(0, .ref P.1), (1, .int x1), (2, .int x2), (3, .int x3)]) (st1 := [.int x1, .ref (P.2.1 30), .int 8, .ref P.1]) 1 rfl ?_
      refine me_iald rfl (g := 30) rfl rfl h.1 ?_
      replace h := h.2
      refine me_callN rfl rfl rfl (h.mono (fun r1 μ1 h => ?_) (fun _ h => h))
      refine me_go (pc1 := 99) (lv1 := [(1, .int (x1 + 1)), (0, .ref P.1), (2, .int x2), (3, .int x3)]) (st1 := []) 2 rfl ?_
      refine me_lv [(0, .ref P.1), (1, .int (x1 + 1))] (fl_c rfl (fl_c rfl fl_0)) ?_
      exact h
  · replace h := h.2 (cn_lt c)
    refine me_go (pc1 := 145) (lv1 := [(0, .ref P.1), (1, .int x1), (2, .int x2), (3, .int x3)]) (st1 := [.int x1, .int x2]) 2 rfl ?_
    refine me_icmp rfl rfl (fun c => ?_) (fun c => ?_)
    · replace h := h.1 (ci_eq c)
      refine me_go (pc1 := 170) (lv1 := [(0, .ref P.1), (1, .int x1), (2, .int x2), (3, .int x3)]) (st1 := [.int x1, .int x2]) 2 rfl ?_
      refine me_icmp rfl rfl (fun c => ?_) (fun c => ?_)
      · replace h := h.1 (ci_ne c)
        refine me_go (pc1 := 99) (lv1 := [(1, .int (x1 + 1)), (0, .ref P.1), (2, .int x2), (3, .int x3)]) (st1 := []) 2 rfl ?_
        refine me_lv [(0, .ref P.1), (1, .int (x1 + 1))] (fl_c rfl (fl_c rfl fl_0)) ?_
        exact h
      · replace h := h.2 (cn_ne c)
        refine me_go (pc1 := 177) (lv1 := [(0, .ref P.1), (1, .int x1), (2, .int x2), (3, .int x3)]) (st1 := [.ref P.1, .int 8, .ref P.1]) 3 rfl ?_
        refine me_getf (v := .ref (P.2.1 30)) rfl rfl rfl ?_
        refine me_go (pc1 := 181) (lv1 := [(0, .ref P.1), (1, .int x1), (2, .int x2), (3, .int x3)]) (st1 := [.int x1, .ref (P.2.1 30), .int 8, .ref P.1]) 1 rfl ?_
        refine me_iald rfl (g := 30) rfl rfl h.1 ?_
        replace h := h.2
        refine me_callN rfl rfl rfl (h.mono (fun r2 μ2 h => ?_) (fun _ h => h))
        refine me_go (pc1 := 99) (lv1 := [(1, .int (x1 + 1)), (0, .ref P.1), (2, .int x2), (3, .int x3)]) (st1 := []) 2 rfl ?_
        refine me_lv [(0, .ref P.1), (1, .int (x1 + 1))] (fl_c rfl (fl_c rfl fl_0)) ?_
        exact h
    · replace h := h.2 (cn_eq c)
      refine me_go (pc1 := 150) (lv1 := [(0, .ref P.1), (1, .int x1), (2, .int x2), (3, .int x3)]) (st1 := [.ref P.1, .int x3]) 2 rfl ?_
      refine me_getf (v := .int (μ.1 19)) rfl rfl rfl ?_
      refine me_icmp rfl rfl (fun c => ?_) (fun c => ?_)
      · replace h := h.1 (ci_ge c)
        refine me_go (pc1 := 170) (lv1 := [(0, .ref P.1), (1, .int x1), (2, .int x2), (3, .int x3)]) (st1 := [.int x1, .int x2]) 2 rfl ?_
        refine me_icmp rfl rfl (fun c => ?_) (fun c => ?_)
        · replace h := h.1 (ci_ne c)
          refine me_go (pc1 := 99) (lv1 := [(1, .int (x1 + 1)), (0, .ref P.1), (2, .int x2), (3, .int x3)]) (st1 := []) 2 rfl ?_
          refine me_lv [(0, .ref P.1), (1, .int (x1 + 1))] (fl_c rfl (fl_c rfl fl_0)) ?_
          exact h
        · replace h := h.2 (cn_ne c)
          refine me_go (pc1 := 177) (lv1 := [(0, .ref P.1), (1, .int x1), (2, .int x2), (3, .int x3)]) (st1 := [.ref P.1, .int 8, .ref P.1]) 3 rfl ?_
          refine me_getf (v := .ref (P.2.1 30)) rfl rfl rfl ?_
          refine me_go (pc1 := 181) (lv1 := [(0, .ref P.1), (1, .int x1), (2, .int x2), (3, .int x3)]) (st1 := [.int x1, .ref (P.2.1 30), .int 8, .ref P.1]) 1 rfl ?_
          refine me_iald rfl (g := 30) rfl rfl h.1 ?_
          replace h := h.2
          refine me_callN rfl rfl rfl (h.mono (fun r3 μ3 h => ?_) (fun _ h => h))
          refine me_go (pc1 := 99) (lv1 := [(1, .int (x1 + 1)), (0, .ref P.1), (2, .int x2), (3, .int x3)]) (st1 := []) 2 rfl ?_
          refine me_lv [(0, .ref P.1), (1, .int (x1 + 1))] (fl_c rfl (fl_c rfl fl_0)) ?_
          exact h
      · replace h := h.2 (cn_ge c)
        refine me_go (pc1 := 158) (lv1 := [(0, .ref P.1), (1, .int x1), (2, .int x2), (3, .int x3)]) (st1 := [.int x2, .ref P.1]) 2 rfl ?_
        refine me_callN rfl rfl rfl (h.mono (fun r4 μ4 h => ?_) (fun _ h => h))
        refine me_go (pc1 := 139) (lv1 := [(3, .int (x3 + 1)), (2, .int r4), (0, .ref P.1), (1, .int x1)]) (st1 := []) 3 rfl ?_
        refine me_lv [(0, .ref P.1), (1, .int x1), (2, .int r4), (3, .int (x3 + 1))] (fl_c rfl (fl_c rfl (fl_c rfl (fl_c rfl fl_0)))) ?_
        exact h
theorem v_holds_0 {X : ev_X} {W : Nat → Prop} {d : Nat} {P : MP} {μ : MS} {R : Int32 → MS → Prop} {T : MS → Prop} (x1 : Int32) (x2 : Int32) (h : ME X W true d 397 2 [(0, .ref P.1), (1, .int x1), (2, .int x2), (3, .int x1)] [] P μ R T) : ME X W true d 397 0 [(0, .ref P.1), (1, .int x1), (2, .int x2)] [] P μ R T := by
  refine me_go (pc1 := 2) (lv1 := [(3, .int x1), (0, .ref P.1), (1, .int x1), (2, .int x2)]) (st1 := []) 2 rfl ?_
  refine me_lv [(0, .ref P.1), (1, .int x1), (2, .int x2), (3, .int x1)] (fl_c rfl (fl_c rfl (fl_c rfl (fl_c rfl fl_0)))) ?_
  exact h
theorem v_holds_2 {X : ev_X} {W : Nat → Prop} {d : Nat} {P : MP} {μ : MS} {R : Int32 → MS → Prop} {T : MS → Prop} (x1 : Int32) (x2 : Int32) (x3 : Int32) (h : (MI x3 (μ.2.2 20) ∧ (((μ.2.1 20 x3.toNatClampNeg) = 20 → (MI x3 (μ.2.2 20) ∧ ((¬ (μ.2.1 20 x3.toNatClampNeg) = 28 → MC X W true d 364 [.ref P.1, .int x3] P μ (fun r1 μ1 => ((¬ r1 = x2 → (MI r1 (μ1.2.2 20) ∧ (((μ1.2.1 20 r1.toNatClampNeg) = 4 → R 0 μ1) ∧ (¬ (μ1.2.1 20 r1.toNatClampNeg) = 4 → (MI r1 (μ1.2.2 84) ∧ (((μ1.2.1 84 r1.toNatClampNeg) = 0 → (MI r1 (μ1.2.2 84) ∧ (MI r1 (μ1.2.2 23) ∧ ME X W true d 397 2 [(0, .ref P.1), (1, .int x1), (2, .int x2), (3, .int (μ1.2.1 23 r1.toNatClampNeg))] [] P (mA1 μ1 84 r1.toNatClampNeg 1) R T))) ∧ (¬ (μ1.2.1 84 r1.toNatClampNeg) = 0 → R 0 μ1))))))) ∧ (r1 = x2 → R 1 μ1))) (fun _ => False)) ∧ ((μ.2.1 20 x3.toNatClampNeg) = 28 → (MI x3 (μ.2.2 24) ∧ ME X W true d 397 2 [(0, .ref P.1), (1, .int x1), (2, .int x2), (3, .int (μ.2.1 24 x3.toNatClampNeg))] [] P μ R T))))) ∧ (¬ (μ.2.1 20 x3.toNatClampNeg) = 20 → (MI x3 (μ.2.2 20) ∧ ((¬ (μ.2.1 20 x3.toNatClampNeg) = 28 → (MI x3 (μ.2.2 20) ∧ ((¬ (μ.2.1 20 x3.toNatClampNeg) = 29 → R 0 μ) ∧ ((μ.2.1 20 x3.toNatClampNeg) = 29 → (MI x3 (μ.2.2 84) ∧ (((μ.2.1 84 x3.toNatClampNeg) = 0 → (MI x3 (μ.2.2 84) ∧ (MI x3 (μ.2.2 22) ∧ ME X W true d 397 139 [(0, .ref P.1), (1, .int x1), (2, .int x2), (3, .int x3), (4, .int (μ.2.1 22 x3.toNatClampNeg))] [] P (mA1 μ 84 x3.toNatClampNeg 1) R T))) ∧ (¬ (μ.2.1 84 x3.toNatClampNeg) = 0 → R 0 μ))))))) ∧ ((μ.2.1 20 x3.toNatClampNeg) = 28 → (MI x3 (μ.2.2 20) ∧ ((¬ (μ.2.1 20 x3.toNatClampNeg) = 28 → MC X W true d 364 [.ref P.1, .int x3] P μ (fun r2 μ2 => ((¬ r2 = x2 → (MI r2 (μ2.2.2 20) ∧ (((μ2.2.1 20 r2.toNatClampNeg) = 4 → R 0 μ2) ∧ (¬ (μ2.2.1 20 r2.toNatClampNeg) = 4 → (MI r2 (μ2.2.2 84) ∧ (((μ2.2.1 84 r2.toNatClampNeg) = 0 → (MI r2 (μ2.2.2 84) ∧ (MI r2 (μ2.2.2 23) ∧ ME X W true d 397 2 [(0, .ref P.1), (1, .int x1), (2, .int x2), (3, .int (μ2.2.1 23 r2.toNatClampNeg))] [] P (mA1 μ2 84 r2.toNatClampNeg 1) R T))) ∧ (¬ (μ2.2.1 84 r2.toNatClampNeg) = 0 → R 0 μ2))))))) ∧ (r2 = x2 → R 1 μ2))) (fun _ => False)) ∧ ((μ.2.1 20 x3.toNatClampNeg) = 28 → (MI x3 (μ.2.2 24) ∧ ME X W true d 397 2 [(0, .ref P.1), (1, .int x1), (2, .int x2), (3, .int (μ.2.1 24 x3.toNatClampNeg))] [] P μ R T))))))))))) : ME X W true d 397 2 [(0, .ref P.1), (1, .int x1), (2, .int x2), (3, .int x3)] [] P μ R T := by
  refine me_go (pc1 := 3) (lv1 := [(0, .ref P.1), (1, .int x1), (2, .int x2), (3, .int x3)]) (st1 := [.ref P.1]) 1 rfl ?_
  refine me_getf (v := .ref (P.2.1 20)) rfl rfl rfl ?_
  refine me_go (pc1 := 7) (lv1 := [(0, .ref P.1), (1, .int x1), (2, .int x2), (3, .int x3)]) (st1 := [.int x3, .ref (P.2.1 20)]) 1 rfl ?_
  refine me_iald rfl (g := 20) rfl rfl h.1 ?_
  replace h := h.2
  refine me_go (pc1 := 10) (lv1 := [(0, .ref P.1), (1, .int x1), (2, .int x2), (3, .int x3)]) (st1 := [.int 20, .int (μ.2.1 20 x3.toNatClampNeg)]) 1 rfl ?_
  refine me_icmp rfl rfl (fun c => ?_) (fun c => ?_)
  · replace h := h.1 (ci_eq c)
    refine me_go (pc1 := 25) (lv1 := [(0, .ref P.1), (1, .int x1), (2, .int x2), (3, .int x3)]) (st1 := [.ref P.1]) 1 rfl ?_
    refine me_getf (v := .ref (P.2.1 20)) rfl rfl rfl ?_
    refine me_go (pc1 := 29) (lv1 := [(0, .ref P.1), (1, .int x1), (2, .int x2), (3, .int x3)]) (st1 := [.int x3, .ref (P.2.1 20)]) 1 rfl ?_
    refine me_iald rfl (g := 20) rfl rfl h.1 ?_
    replace h := h.2
    refine me_go (pc1 := 32) (lv1 := [(0, .ref P.1), (1, .int x1), (2, .int x2), (3, .int x3)]) (st1 := [.int 28, .int (μ.2.1 20 x3.toNatClampNeg)]) 1 rfl ?_
    refine me_icmp rfl rfl (fun c => ?_) (fun c => ?_)
    · replace h := h.1 (ci_ne c)
      refine me_go (pc1 := 47) (lv1 := [(0, .ref P.1), (1, .int x1), (2, .int x2), (3, .int x3)]) (st1 := [.int x3, .ref P.1]) 2 rfl ?_
      refine me_callN rfl rfl rfl (h.mono (fun r1 μ1 h => ?_) (fun _ h => h))
      refine me_go (pc1 := 55) (lv1 := [(4, .int r1), (0, .ref P.1), (1, .int x1), (2, .int x2), (3, .int x3)]) (st1 := [.int x2, .int r1]) 3 rfl ?_
      refine me_icmp rfl rfl (fun c => ?_) (fun c => ?_)
      · replace h := h.1 (ci_ne c)
        refine me_go (pc1 := 61) (lv1 := [(4, .int r1), (0, .ref P.1), (1, .int x1), (2, .int x2), (3, .int x3)]) (st1 := [.ref P.1]) 1 rfl ?_
        refine me_getf (v := .ref (P.2.1 20)) rfl rfl rfl ?_
        refine me_go (pc1 := 66) (lv1 := [(4, .int r1), (0, .ref P.1), (1, .int x1), (2, .int x2), (3, .int x3)]) (st1 := [.int r1, .ref (P.2.1 20)]) 1 rfl ?_
        refine me_iald rfl (g := 20) rfl rfl h.1 ?_
        replace h := h.2
        refine me_go (pc1 := 68) (lv1 := [(4, .int r1), (0, .ref P.1), (1, .int x1), (2, .int x2), (3, .int x3)]) (st1 := [.int 4, .int (μ1.2.1 20 r1.toNatClampNeg)]) 1 rfl ?_
        refine me_icmp rfl rfl (fun c => ?_) (fun c => ?_)
        · replace h := h.1 (ci_eq c)
          refine me_go (pc1 := 82) (lv1 := [(4, .int r1), (0, .ref P.1), (1, .int x1), (2, .int x2), (3, .int x3)]) (st1 := [.int 0]) 1 rfl ?_
          exact me_retB rfl rfl (by decide) h
        · replace h := h.2 (cn_eq c)
          refine me_go (pc1 := 72) (lv1 := [(4, .int r1), (0, .ref P.1), (1, .int x1), (2, .int x2), (3, .int x3)]) (st1 := [.ref P.1]) 1 rfl ?_
          refine me_getf (v := .ref (P.2.1 84)) rfl rfl rfl ?_
          refine me_go (pc1 := 77) (lv1 := [(4, .int r1), (0, .ref P.1), (1, .int x1), (2, .int x2), (3, .int x3)]) (st1 := [.int r1, .ref (P.2.1 84)]) 1 rfl ?_
          refine me_bald rfl (g := 84) rfl (Or.inr rfl) h.1 ?_
          replace h := h.2
          refine me_ifc rfl rfl (fun c => ?_) (fun c => ?_)
          · replace h := h.1 (ci_eq c)
            refine me_go (pc1 := 84) (lv1 := [(4, .int r1), (0, .ref P.1), (1, .int x1), (2, .int x2), (3, .int x3)]) (st1 := [.ref P.1]) 1 rfl ?_
            refine me_getf (v := .ref (P.2.1 84)) rfl rfl rfl ?_
            refine me_go (pc1 := 90) (lv1 := [(4, .int r1), (0, .ref P.1), (1, .int x1), (2, .int x2), (3, .int x3)]) (st1 := [.int 1, .int r1, .ref (P.2.1 84)]) 2 rfl ?_
            have hi := h.1
            replace h := h.2
            refine me_zast rfl (g := 84) rfl rfl hi (by decide) ?_
            refine me_go (pc1 := 92) (lv1 := [(4, .int r1), (0, .ref P.1), (1, .int x1), (2, .int x2), (3, .int x3)]) (st1 := [.ref P.1]) 1 rfl ?_
            refine me_getf (v := .ref (P.2.1 23)) rfl rfl rfl ?_
            refine me_go (pc1 := 97) (lv1 := [(4, .int r1), (0, .ref P.1), (1, .int x1), (2, .int x2), (3, .int x3)]) (st1 := [.int r1, .ref (P.2.1 23)]) 1 rfl ?_
            refine me_iald rfl (g := 23) rfl rfl h.1 ?_
            replace h := h.2
            refine me_go (pc1 := 2) (lv1 := [(3, .int (μ1.2.1 23 r1.toNatClampNeg)), (4, .int r1), (0, .ref P.1), (1, .int x1), (2, .int x2)]) (st1 := []) 2 rfl ?_
            refine me_lv [(0, .ref P.1), (1, .int x1), (2, .int x2), (3, .int (μ1.2.1 23 r1.toNatClampNeg))] (fl_c rfl (fl_c rfl (fl_c rfl (fl_c rfl fl_0)))) ?_
            exact h
          · replace h := h.2 (cn_eq c)
            refine me_go (pc1 := 82) (lv1 := [(4, .int r1), (0, .ref P.1), (1, .int x1), (2, .int x2), (3, .int x3)]) (st1 := [.int 0]) 1 rfl ?_
            exact me_retB rfl rfl (by decide) h
      · replace h := h.2 (cn_ne c)
        refine me_go (pc1 := 59) (lv1 := [(4, .int r1), (0, .ref P.1), (1, .int x1), (2, .int x2), (3, .int x3)]) (st1 := [.int 1]) 1 rfl ?_
        exact me_retB rfl rfl (by decide) h
    · replace h := h.2 (cn_ne c)
      refine me_go (pc1 := 36) (lv1 := [(0, .ref P.1), (1, .int x1), (2, .int x2), (3, .int x3)]) (st1 := [.ref P.1]) 1 rfl ?_
      refine me_getf (v := .ref (P.2.1 24)) rfl rfl rfl ?_
      refine me_go (pc1 := 40) (lv1 := [(0, .ref P.1), (1, .int x1), (2, .int x2), (3, .int x3)]) (st1 := [.int x3, .ref (P.2.1 24)]) 1 rfl ?_
      refine me_iald rfl (g := 24) rfl rfl h.1 ?_
      replace h := h.2
      refine me_go (pc1 := 2) (lv1 := [(3, .int (μ.2.1 24 x3.toNatClampNeg)), (0, .ref P.1), (1, .int x1), (2, .int x2)]) (st1 := []) 2 rfl ?_
      refine me_lv [(0, .ref P.1), (1, .int x1), (2, .int x2), (3, .int (μ.2.1 24 x3.toNatClampNeg))] (fl_c rfl (fl_c rfl (fl_c rfl (fl_c rfl fl_0)))) ?_
      exact h
  · replace h := h.2 (cn_eq c)
    refine me_go (pc1 := 14) (lv1 := [(0, .ref P.1), (1, .int x1), (2, .int x2), (3, .int x3)]) (st1 := [.ref P.1]) 1 rfl ?_
    refine me_getf (v := .ref (P.2.1 20)) rfl rfl rfl ?_
    refine me_go (pc1 := 18) (lv1 := [(0, .ref P.1), (1, .int x1), (2, .int x2), (3, .int x3)]) (st1 := [.int x3, .ref (P.2.1 20)]) 1 rfl ?_
    refine me_iald rfl (g := 20) rfl rfl h.1 ?_
    replace h := h.2
    refine me_go (pc1 := 21) (lv1 := [(0, .ref P.1), (1, .int x1), (2, .int x2), (3, .int x3)]) (st1 := [.int 28, .int (μ.2.1 20 x3.toNatClampNeg)]) 1 rfl ?_
    refine me_icmp rfl rfl (fun c => ?_) (fun c => ?_)
    · replace h := h.1 (ci_ne c)
      refine me_go (pc1 := 103) (lv1 := [(0, .ref P.1), (1, .int x1), (2, .int x2), (3, .int x3)]) (st1 := [.ref P.1]) 1 rfl ?_
      refine me_getf (v := .ref (P.2.1 20)) rfl rfl rfl ?_
      refine me_go (pc1 := 107) (lv1 := [(0, .ref P.1), (1, .int x1), (2, .int x2), (3, .int x3)]) (st1 := [.int x3, .ref (P.2.1 20)]) 1 rfl ?_
      refine me_iald rfl (g := 20) rfl rfl h.1 ?_
      replace h := h.2
      refine me_go (pc1 := 110) (lv1 := [(0, .ref P.1), (1, .int x1), (2, .int x2), (3, .int x3)]) (st1 := [.int 29, .int (μ.2.1 20 x3.toNatClampNeg)]) 1 rfl ?_
      refine me_icmp rfl rfl (fun c => ?_) (fun c => ?_)
      · replace h := h.1 (ci_ne c)
        refine me_go (pc1 := 123) (lv1 := [(0, .ref P.1), (1, .int x1), (2, .int x2), (3, .int x3)]) (st1 := [.int 0]) 1 rfl ?_
        exact me_retB rfl rfl (by decide) h
      · replace h := h.2 (cn_ne c)
        refine me_go (pc1 := 114) (lv1 := [(0, .ref P.1), (1, .int x1), (2, .int x2), (3, .int x3)]) (st1 := [.ref P.1]) 1 rfl ?_
        refine me_getf (v := .ref (P.2.1 84)) rfl rfl rfl ?_
        refine me_go (pc1 := 118) (lv1 := [(0, .ref P.1), (1, .int x1), (2, .int x2), (3, .int x3)]) (st1 := [.int x3, .ref (P.2.1 84)]) 1 rfl ?_
        refine me_bald rfl (g := 84) rfl (Or.inr rfl) h.1 ?_
        replace h := h.2
        refine me_ifc rfl rfl (fun c => ?_) (fun c => ?_)
        · replace h := h.1 (ci_eq c)
          refine me_go (pc1 := 125) (lv1 := [(0, .ref P.1), (1, .int x1), (2, .int x2), (3, .int x3)]) (st1 := [.ref P.1]) 1 rfl ?_
          refine me_getf (v := .ref (P.2.1 84)) rfl rfl rfl ?_
          refine me_go (pc1 := 130) (lv1 := [(0, .ref P.1), (1, .int x1), (2, .int x2), (3, .int x3)]) (st1 := [.int 1, .int x3, .ref (P.2.1 84)]) 2 rfl ?_
          have hi := h.1
          replace h := h.2
          refine me_zast rfl (g := 84) rfl rfl hi (by decide) ?_
          refine me_go (pc1 := 132) (lv1 := [(0, .ref P.1), (1, .int x1), (2, .int x2), (3, .int x3)]) (st1 := [.ref P.1]) 1 rfl ?_
          refine me_getf (v := .ref (P.2.1 22)) rfl rfl rfl ?_
          refine me_go (pc1 := 136) (lv1 := [(0, .ref P.1), (1, .int x1), (2, .int x2), (3, .int x3)]) (st1 := [.int x3, .ref (P.2.1 22)]) 1 rfl ?_
          refine me_iald rfl (g := 22) rfl rfl h.1 ?_
          replace h := h.2
          refine me_go (pc1 := 139) (lv1 := [(4, .int (μ.2.1 22 x3.toNatClampNeg)), (0, .ref P.1), (1, .int x1), (2, .int x2), (3, .int x3)]) (st1 := []) 1 rfl ?_
          refine me_lv [(0, .ref P.1), (1, .int x1), (2, .int x2), (3, .int x3), (4, .int (μ.2.1 22 x3.toNatClampNeg))] (fl_c rfl (fl_c rfl (fl_c rfl (fl_c rfl (fl_c rfl fl_0))))) ?_
          exact h
        · replace h := h.2 (cn_eq c)
          refine me_go (pc1 := 123) (lv1 := [(0, .ref P.1), (1, .int x1), (2, .int x2), (3, .int x3)]) (st1 := [.int 0]) 1 rfl ?_
          exact me_retB rfl rfl (by decide) h
    · replace h := h.2 (cn_ne c)
      refine me_go (pc1 := 25) (lv1 := [(0, .ref P.1), (1, .int x1), (2, .int x2), (3, .int x3)]) (st1 := [.ref P.1]) 1 rfl ?_
      refine me_getf (v := .ref (P.2.1 20)) rfl rfl rfl ?_
      refine me_go (pc1 := 29) (lv1 := [(0, .ref P.1), (1, .int x1), (2, .int x2), (3, .int x3)]) (st1 := [.int x3, .ref (P.2.1 20)]) 1 rfl ?_
      refine me_iald rfl (g := 20) rfl rfl h.1 ?_
      replace h := h.2
      refine me_go (pc1 := 32) (lv1 := [(0, .ref P.1), (1, .int x1), (2, .int x2), (3, .int x3)]) (st1 := [.int 28, .int (μ.2.1 20 x3.toNatClampNeg)]) 1 rfl ?_
      refine me_icmp rfl rfl (fun c => ?_) (fun c => ?_)
      · replace h := h.1 (ci_ne c)
        refine me_go (pc1 := 47) (lv1 := [(0, .ref P.1), (1, .int x1), (2, .int x2), (3, .int x3)]) (st1 := [.int x3, .ref P.1]) 2 rfl ?_
        refine me_callN rfl rfl rfl (h.mono (fun r2 μ2 h => ?_) (fun _ h => h))
        refine me_go (pc1 := 55) (lv1 := [(4, .int r2), (0, .ref P.1), (1, .int x1), (2, .int x2), (3, .int x3)]) (st1 := [.int x2, .int r2]) 3 rfl ?_
        refine me_icmp rfl rfl (fun c => ?_) (fun c => ?_)
        · replace h := h.1 (ci_ne c)
          refine me_go (pc1 := 61) (lv1 := [(4, .int r2), (0, .ref P.1), (1, .int x1), (2, .int x2), (3, .int x3)]) (st1 := [.ref P.1]) 1 rfl ?_
          refine me_getf (v := .ref (P.2.1 20)) rfl rfl rfl ?_
          refine me_go (pc1 := 66) (lv1 := [(4, .int r2), (0, .ref P.1), (1, .int x1), (2, .int x2), (3, .int x3)]) (st1 := [.int r2, .ref (P.2.1 20)]) 1 rfl ?_
          refine me_iald rfl (g := 20) rfl rfl h.1 ?_
          replace h := h.2
          refine me_go (pc1 := 68) (lv1 := [(4, .int r2), (0, .ref P.1), (1, .int x1), (2, .int x2), (3, .int x3)]) (st1 := [.int 4, .int (μ2.2.1 20 r2.toNatClampNeg)]) 1 rfl ?_
          refine me_icmp rfl rfl (fun c => ?_) (fun c => ?_)
          · replace h := h.1 (ci_eq c)
            refine me_go (pc1 := 82) (lv1 := [(4, .int r2), (0, .ref P.1), (1, .int x1), (2, .int x2), (3, .int x3)]) (st1 := [.int 0]) 1 rfl ?_
            exact me_retB rfl rfl (by decide) h
          · replace h := h.2 (cn_eq c)
            refine me_go (pc1 := 72) (lv1 := [(4, .int r2), (0, .ref P.1), (1, .int x1), (2, .int x2), (3, .int x3)]) (st1 := [.ref P.1]) 1 rfl ?_
            refine me_getf (v := .ref (P.2.1 84)) rfl rfl rfl ?_
            refine me_go (pc1 := 77) (lv1 := [(4, .int r2), (0, .ref P.1), (1, .int x1), (2, .int x2), (3, .int x3)]) (st1 := [.int r2, .ref (P.2.1 84)]) 1 rfl ?_
            refine me_bald rfl (g := 84) rfl (Or.inr rfl) h.1 ?_
            replace h := h.2
            refine me_ifc rfl rfl (fun c => ?_) (fun c => ?_)
            · replace h := h.1 (ci_eq c)
              refine me_go (pc1 := 84) (lv1 := [(4, .int r2), (0, .ref P.1), (1, .int x1), (2, .int x2), (3, .int x3)]) (st1 := [.ref P.1]) 1 rfl ?_
              refine me_getf (v := .ref (P.2.1 84)) rfl rfl rfl ?_
              refine me_go (pc1 := 90) (lv1 := [(4, .int r2), (0, .ref P.1), (1, .int x1), (2, .int x2), (3, .int x3)]) (st1 := [.int 1, .int r2, .ref (P.2.1 84)]) 2 rfl ?_
              have hi := h.1
              replace h := h.2
              refine me_zast rfl (g := 84) rfl rfl hi (by decide) ?_
              refine me_go (pc1 := 92) (lv1 := [(4, .int r2), (0, .ref P.1), (1, .int x1), (2, .int x2), (3, .int x3)]) (st1 := [.ref P.1]) 1 rfl ?_
              refine me_getf (v := .ref (P.2.1 23)) rfl rfl rfl ?_
              refine me_go (pc1 := 97) (lv1 := [(4, .int r2), (0, .ref P.1), (1, .int x1), (2, .int x2), (3, .int x3)]) (st1 := [.int r2, .ref (P.2.1 23)]) 1 rfl ?_
              refine me_iald rfl (g := 23) rfl rfl h.1 ?_
              replace h := h.2
              refine me_go (pc1 := 2) (lv1 := [(3, .int (μ2.2.1 23 r2.toNatClampNeg)), (4, .int r2), (0, .ref P.1), (1, .int x1), (2, .int x2)]) (st1 := []) 2 rfl ?_
              refine me_lv [(0, .ref P.1), (1, .int x1), (2, .int x2), (3, .int (μ2.2.1 23 r2.toNatClampNeg))] (fl_c rfl (fl_c rfl (fl_c rfl (fl_c rfl fl_0)))) ?_
              exact h
            · replace h := h.2 (cn_eq c)
              refine me_go (pc1 := 82) (lv1 := [(4, .int r2), (0, .ref P.1), (1, .int x1), (2, .int x2), (3, .int x3)]) (st1 := [.int 0]) 1 rfl ?_
              exact me_retB rfl rfl (by decide) h
        · replace h := h.2 (cn_ne c)
          refine me_go (pc1 := 59) (lv1 := [(4, .int r2), (0, .ref P.1), (1, .int x1), (2, .int x2), (3, .int x3)]) (st1 := [.int 1]) 1 rfl ?_
          exact me_retB rfl rfl (by decide) h
      · replace h := h.2 (cn_ne c)
        refine me_go (pc1 := 36) (lv1 := [(0, .ref P.1), (1, .int x1), (2, .int x2), (3, .int x3)]) (st1 := [.ref P.1]) 1 rfl ?_
        refine me_getf (v := .ref (P.2.1 24)) rfl rfl rfl ?_
        refine me_go (pc1 := 40) (lv1 := [(0, .ref P.1), (1, .int x1), (2, .int x2), (3, .int x3)]) (st1 := [.int x3, .ref (P.2.1 24)]) 1 rfl ?_
        refine me_iald rfl (g := 24) rfl rfl h.1 ?_
        replace h := h.2
        refine me_go (pc1 := 2) (lv1 := [(3, .int (μ.2.1 24 x3.toNatClampNeg)), (0, .ref P.1), (1, .int x1), (2, .int x2)]) (st1 := []) 2 rfl ?_
        refine me_lv [(0, .ref P.1), (1, .int x1), (2, .int x2), (3, .int (μ.2.1 24 x3.toNatClampNeg))] (fl_c rfl (fl_c rfl (fl_c rfl (fl_c rfl fl_0)))) ?_
        exact h
theorem v_holds_139 {X : ev_X} {W : Nat → Prop} {d : Nat} {P : MP} {μ : MS} {R : Int32 → MS → Prop} {T : MS → Prop} (x1 : Int32) (x2 : Int32) (x3 : Int32) (x4 : Int32) (h : ((x4.toInt < (0 : Int) → R 0 μ) ∧ ((0 : Int) ≤ x4.toInt → (MI x4 (μ.2.2 23) ∧ MC X W true d 397 [.ref P.1, .int (μ.2.1 23 x4.toNatClampNeg), .int x2] P μ (fun r1 μ1 => ((r1 = 0 → (MI x4 (μ1.2.2 27) ∧ ME X W true d 397 139 [(0, .ref P.1), (1, .int x1), (2, .int x2), (3, .int x3), (4, .int (μ1.2.1 27 x4.toNatClampNeg))] [] P μ1 R T)) ∧ (¬ r1 = 0 → R 1 μ1))) (fun _ => False))))) : ME X W true d 397 139 [(0, .ref P.1), (1, .int x1), (2, .int x2), (3, .int x3), (4, .int x4)] [] P μ R T := by
  refine me_go (pc1 := 141) (lv1 := [(0, .ref P.1), (1, .int x1), (2, .int x2), (3, .int x3), (4, .int x4)]) (st1 := [.int x4]) 1 rfl ?_
  refine me_ifc rfl rfl (fun c => ?_) (fun c => ?_)
  · replace h := h.1 (ci_lt c)
    refine me_go (pc1 := 174) (lv1 := [(0, .ref P.1), (1, .int x1), (2, .int x2), (3, .int x3), (4, .int x4)]) (st1 := [.int 0]) 1 rfl ?_
    exact me_retB rfl rfl (by decide) h
  · replace h := h.2 (cn_lt c)
    refine me_go (pc1 := 146) (lv1 := [(0, .ref P.1), (1, .int x1), (2, .int x2), (3, .int x3), (4, .int x4)]) (st1 := [.ref P.1, .ref P.1]) 2 rfl ?_
    refine me_getf (v := .ref (P.2.1 23)) rfl rfl rfl ?_
    refine me_go (pc1 := 151) (lv1 := [(0, .ref P.1), (1, .int x1), (2, .int x2), (3, .int x3), (4, .int x4)]) (st1 := [.int x4, .ref (P.2.1 23), .ref P.1]) 1 rfl ?_
    refine me_iald rfl (g := 23) rfl rfl h.1 ?_
    replace h := h.2
    refine me_go (pc1 := 153) (lv1 := [(0, .ref P.1), (1, .int x1), (2, .int x2), (3, .int x3), (4, .int x4)]) (st1 := [.int x2, .int (μ.2.1 23 x4.toNatClampNeg), .ref P.1]) 1 rfl ?_
    refine me_callN rfl rfl rfl (h.mono (fun r1 μ1 h => ?_) (fun _ h => h))
    refine me_ifc rfl rfl (fun c => ?_) (fun c => ?_)
    · replace h := h.1 (ci_eq c)
      refine me_go (pc1 := 162) (lv1 := [(0, .ref P.1), (1, .int x1), (2, .int x2), (3, .int x3), (4, .int x4)]) (st1 := [.ref P.1]) 1 rfl ?_
      refine me_getf (v := .ref (P.2.1 27)) rfl rfl rfl ?_
      refine me_go (pc1 := 167) (lv1 := [(0, .ref P.1), (1, .int x1), (2, .int x2), (3, .int x3), (4, .int x4)]) (st1 := [.int x4, .ref (P.2.1 27)]) 1 rfl ?_
      refine me_iald rfl (g := 27) rfl rfl h.1 ?_
      replace h := h.2
      refine me_go (pc1 := 139) (lv1 := [(4, .int (μ1.2.1 27 x4.toNatClampNeg)), (0, .ref P.1), (1, .int x1), (2, .int x2), (3, .int x3)]) (st1 := []) 2 rfl ?_
      refine me_lv [(0, .ref P.1), (1, .int x1), (2, .int x2), (3, .int x3), (4, .int (μ1.2.1 27 x4.toNatClampNeg))] (fl_c rfl (fl_c rfl (fl_c rfl (fl_c rfl (fl_c rfl fl_0))))) ?_
      exact h
    · replace h := h.2 (cn_eq c)
      refine me_go (pc1 := 160) (lv1 := [(0, .ref P.1), (1, .int x1), (2, .int x2), (3, .int x3), (4, .int x4)]) (st1 := [.int 1]) 1 rfl ?_
      exact me_retB rfl rfl (by decide) h
theorem v_goesTo_0 {X : ev_X} {W : Nat → Prop} {d : Nat} {P : MP} {μ : MS} {R : Int32 → MS → Prop} {T : MS → Prop} (x1 : Int32) (h : (MI x1 (μ.2.2 20) ∧ ((¬ (μ.2.1 20 x1.toNatClampNeg) = 4 → (MI x1 (μ.2.2 23) ∧ (MI (μ.2.1 23 x1.toNatClampNeg) (μ.2.2 20) ∧ ((¬ (μ.2.1 20 ((μ.2.1 23 x1.toNatClampNeg)).toNatClampNeg) = 32 → (MI (μ.2.1 23 x1.toNatClampNeg) (μ.2.2 20) ∧ ((¬ (μ.2.1 20 ((μ.2.1 23 x1.toNatClampNeg)).toNatClampNeg) = 20 → R (-1) μ) ∧ ((μ.2.1 20 ((μ.2.1 23 x1.toNatClampNeg)).toNatClampNeg) = 20 → MC X W true d 364 [.ref P.1, .int (μ.2.1 23 x1.toNatClampNeg)] P μ (fun r1 μ1 => R r1 μ1) (fun _ => False))))) ∧ ((μ.2.1 20 ((μ.2.1 23 x1.toNatClampNeg)).toNatClampNeg) = 32 → MC X W true d 374 [.ref P.1, .int (μ.2.1 23 x1.toNatClampNeg)] P μ (fun r2 μ2 => (MI r2 (μ2.2.2 20) ∧ ((¬ (μ2.2.1 20 r2.toNatClampNeg) = 20 → R (-1) μ2) ∧ ((μ2.2.1 20 r2.toNatClampNeg) = 20 → MC X W true d 364 [.ref P.1, .int r2] P μ2 (fun r3 μ3 => R r3 μ3) (fun _ => False))))) (fun _ => False)))))) ∧ ((μ.2.1 20 x1.toNatClampNeg) = 4 → (MI x1 (μ.2.2 72) ∧ R (μ.2.1 72 x1.toNatClampNeg) μ))))) : ME X W true d 398 0 [(0, .ref P.1), (1, .int x1)] [] P μ R T := by
  refine me_go (pc1 := 1) (lv1 := [(0, .ref P.1), (1, .int x1)]) (st1 := [.ref P.1]) 1 rfl ?_
  refine me_getf (v := .ref (P.2.1 20)) rfl rfl rfl ?_
  refine me_go (pc1 := 5) (lv1 := [(0, .ref P.1), (1, .int x1)]) (st1 := [.int x1, .ref (P.2.1 20)]) 1 rfl ?_
  refine me_iald rfl (g := 20) rfl rfl h.1 ?_
  replace h := h.2
  refine me_go (pc1 := 7) (lv1 := [(0, .ref P.1), (1, .int x1)]) (st1 := [.int 4, .int (μ.2.1 20 x1.toNatClampNeg)]) 1 rfl ?_
  refine me_icmp rfl rfl (fun c => ?_) (fun c => ?_)
  · replace h := h.1 (ci_ne c)
    refine me_go (pc1 := 18) (lv1 := [(0, .ref P.1), (1, .int x1)]) (st1 := [.ref P.1]) 1 rfl ?_
    refine me_getf (v := .ref (P.2.1 23)) rfl rfl rfl ?_
    refine me_go (pc1 := 22) (lv1 := [(0, .ref P.1), (1, .int x1)]) (st1 := [.int x1, .ref (P.2.1 23)]) 1 rfl ?_
    refine me_iald rfl (g := 23) rfl rfl h.1 ?_
    replace h := h.2
    refine me_go (pc1 := 25) (lv1 := [(2, .int (μ.2.1 23 x1.toNatClampNeg)), (0, .ref P.1), (1, .int x1)]) (st1 := [.ref P.1]) 2 rfl ?_
    refine me_getf (v := .ref (P.2.1 20)) rfl rfl rfl ?_
    refine me_go (pc1 := 29) (lv1 := [(2, .int (μ.2.1 23 x1.toNatClampNeg)), (0, .ref P.1), (1, .int x1)]) (st1 := [.int (μ.2.1 23 x1.toNatClampNeg), .ref (P.2.1 20)]) 1 rfl ?_
    refine me_iald rfl (g := 20) rfl rfl h.1 ?_
    replace h := h.2
    refine me_go (pc1 := 32) (lv1 := [(2, .int (μ.2.1 23 x1.toNatClampNeg)), (0, .ref P.1), (1, .int x1)]) (st1 := [.int 32, .int (μ.2.1 20 ((μ.2.1 23 x1.toNatClampNeg)).toNatClampNeg)]) 1 rfl ?_
    refine me_icmp rfl rfl (fun c => ?_) (fun c => ?_)
    · replace h := h.1 (ci_ne c)
      refine me_go (pc1 := 42) (lv1 := [(2, .int (μ.2.1 23 x1.toNatClampNeg)), (0, .ref P.1), (1, .int x1)]) (st1 := [.ref P.1]) 1 rfl ?_
      refine me_getf (v := .ref (P.2.1 20)) rfl rfl rfl ?_
      refine me_go (pc1 := 46) (lv1 := [(2, .int (μ.2.1 23 x1.toNatClampNeg)), (0, .ref P.1), (1, .int x1)]) (st1 := [.int (μ.2.1 23 x1.toNatClampNeg), .ref (P.2.1 20)]) 1 rfl ?_
      refine me_iald rfl (g := 20) rfl rfl h.1 ?_
      replace h := h.2
      refine me_go (pc1 := 49) (lv1 := [(2, .int (μ.2.1 23 x1.toNatClampNeg)), (0, .ref P.1), (1, .int x1)]) (st1 := [.int 20, .int (μ.2.1 20 ((μ.2.1 23 x1.toNatClampNeg)).toNatClampNeg)]) 1 rfl ?_
      refine me_icmp rfl rfl (fun c => ?_) (fun c => ?_)
      · replace h := h.1 (ci_ne c)
        refine me_go (pc1 := 61) (lv1 := [(2, .int (μ.2.1 23 x1.toNatClampNeg)), (0, .ref P.1), (1, .int x1)]) (st1 := [.int (-1)]) 1 rfl ?_
        exact me_ret rfl rfl rfl h
      · replace h := h.2 (cn_ne c)
        refine me_go (pc1 := 54) (lv1 := [(2, .int (μ.2.1 23 x1.toNatClampNeg)), (0, .ref P.1), (1, .int x1)]) (st1 := [.int (μ.2.1 23 x1.toNatClampNeg), .ref P.1]) 2 rfl ?_
        refine me_callN rfl rfl rfl (h.mono (fun r1 μ1 h => ?_) (fun _ h => h))
        refine me_go (pc1 := 61) (lv1 := [(2, .int (μ.2.1 23 x1.toNatClampNeg)), (0, .ref P.1), (1, .int x1)]) (st1 := [.int r1]) 1 rfl ?_
        exact me_ret rfl rfl rfl h
    · replace h := h.2 (cn_ne c)
      refine me_go (pc1 := 37) (lv1 := [(2, .int (μ.2.1 23 x1.toNatClampNeg)), (0, .ref P.1), (1, .int x1)]) (st1 := [.int (μ.2.1 23 x1.toNatClampNeg), .ref P.1]) 2 rfl ?_
      refine me_callN rfl rfl rfl (h.mono (fun r2 μ2 h => ?_) (fun _ h => h))
      refine me_go (pc1 := 42) (lv1 := [(2, .int r2), (0, .ref P.1), (1, .int x1)]) (st1 := [.ref P.1]) 2 rfl ?_
      refine me_getf (v := .ref (P.2.1 20)) rfl rfl rfl ?_
      refine me_go (pc1 := 46) (lv1 := [(2, .int r2), (0, .ref P.1), (1, .int x1)]) (st1 := [.int r2, .ref (P.2.1 20)]) 1 rfl ?_
      refine me_iald rfl (g := 20) rfl rfl h.1 ?_
      replace h := h.2
      refine me_go (pc1 := 49) (lv1 := [(2, .int r2), (0, .ref P.1), (1, .int x1)]) (st1 := [.int 20, .int (μ2.2.1 20 r2.toNatClampNeg)]) 1 rfl ?_
      refine me_icmp rfl rfl (fun c => ?_) (fun c => ?_)
      · replace h := h.1 (ci_ne c)
        refine me_go (pc1 := 61) (lv1 := [(2, .int r2), (0, .ref P.1), (1, .int x1)]) (st1 := [.int (-1)]) 1 rfl ?_
        exact me_ret rfl rfl rfl h
      · replace h := h.2 (cn_ne c)
        refine me_go (pc1 := 54) (lv1 := [(2, .int r2), (0, .ref P.1), (1, .int x1)]) (st1 := [.int r2, .ref P.1]) 2 rfl ?_
        refine me_callN rfl rfl rfl (h.mono (fun r3 μ3 h => ?_) (fun _ h => h))
        refine me_go (pc1 := 61) (lv1 := [(2, .int r2), (0, .ref P.1), (1, .int x1)]) (st1 := [.int r3]) 1 rfl ?_
        exact me_ret rfl rfl rfl h
  · replace h := h.2 (cn_ne c)
    refine me_go (pc1 := 11) (lv1 := [(0, .ref P.1), (1, .int x1)]) (st1 := [.ref P.1]) 1 rfl ?_
    refine me_getf (v := .ref (P.2.1 72)) rfl rfl rfl ?_
    refine me_go (pc1 := 15) (lv1 := [(0, .ref P.1), (1, .int x1)]) (st1 := [.int x1, .ref (P.2.1 72)]) 1 rfl ?_
    refine me_iald rfl (g := 72) rfl rfl h.1 ?_
    replace h := h.2
    exact me_ret rfl rfl rfl h
theorem v_bounds__0 {X : ev_X} {W : Nat → Prop} {d : Nat} {P : MP} {μ : MS} {R : Int32 → MS → Prop} {T : MS → Prop}  (h : ME X W true d 399 2 [(0, .ref P.1), (1, .int 0)] [] P μ R T) : ME X W true d 399 0 [(0, .ref P.1)] [] P μ R T := by
  refine me_go (pc1 := 2) (lv1 := [(1, .int 0), (0, .ref P.1)]) (st1 := []) 2 rfl ?_
  refine me_lv [(0, .ref P.1), (1, .int 0)] (fl_c rfl (fl_c rfl fl_0)) ?_
  exact h
theorem v_bounds__2 {X : ev_X} {W : Nat → Prop} {d : Nat} {P : MP} {μ : MS} {R : Int32 → MS → Prop} {T : MS → Prop} (x1 : Int32) (h : (((μ.1 19).toInt ≤ x1.toInt → R 0 μ) ∧ (x1.toInt < (μ.1 19).toInt → (MI x1 (μ.2.2 20) ∧ ((¬ (μ.2.1 20 x1.toNatClampNeg) = 28 → ME X W true d 399 27 [(0, .ref P.1), (1, .int x1), (2, .int 0)] [] P μ R T) ∧ ((μ.2.1 20 x1.toNatClampNeg) = 28 → ME X W true d 399 27 [(0, .ref P.1), (1, .int x1), (2, .int 1)] [] P μ R T)))))) : ME X W true d 399 2 [(0, .ref P.1), (1, .int x1)] [] P μ R T := by
  refine me_go (pc1 := 4) (lv1 := [(0, .ref P.1), (1, .int x1)]) (st1 := [.ref P.1, .int x1]) 2 rfl ?_
  refine me_getf (v := .int (μ.1 19)) rfl rfl rfl ?_
  refine me_icmp rfl rfl (fun c => ?_) (fun c => ?_)
  · replace h := h.1 (ci_ge c)
    exact me_ret (v := none) (r := 0) rfl rfl rfl h
  · replace h := h.2 (cn_ge c)
    refine me_go (pc1 := 11) (lv1 := [(0, .ref P.1), (1, .int x1)]) (st1 := [.ref P.1]) 1 rfl ?_
    refine me_getf (v := .ref (P.2.1 20)) rfl rfl rfl ?_
    refine me_go (pc1 := 15) (lv1 := [(0, .ref P.1), (1, .int x1)]) (st1 := [.int x1, .ref (P.2.1 20)]) 1 rfl ?_
    refine me_iald rfl (g := 20) rfl rfl h.1 ?_
    replace h := h.2
    refine me_go (pc1 := 18) (lv1 := [(0, .ref P.1), (1, .int x1)]) (st1 := [.int 28, .int (μ.2.1 20 x1.toNatClampNeg)]) 1 rfl ?_
    refine me_icmp rfl rfl (fun c => ?_) (fun c => ?_)
    · replace h := h.1 (ci_ne c)
      refine me_go (pc1 := 27) (lv1 := [(2, .int 0), (0, .ref P.1), (1, .int x1)]) (st1 := []) 2 rfl ?_
      refine me_lv [(0, .ref P.1), (1, .int x1), (2, .int 0)] (fl_c rfl (fl_c rfl (fl_c rfl fl_0))) ?_
      exact h
    · replace h := h.2 (cn_ne c)
      refine me_go (pc1 := 27) (lv1 := [(2, .int 1), (0, .ref P.1), (1, .int x1)]) (st1 := []) 3 rfl ?_
      refine me_lv [(0, .ref P.1), (1, .int x1), (2, .int 1)] (fl_c rfl (fl_c rfl (fl_c rfl fl_0))) ?_
      exact h
theorem v_bounds__27 {X : ev_X} {W : Nat → Prop} {d : Nat} {P : MP} {μ : MS} {R : Int32 → MS → Prop} {T : MS → Prop} (x1 : Int32) (x2 : Int32) (h : ((¬ x2 = 0 → ME X W true d 399 42 [(0, .ref P.1), (1, .int x1), (2, .int x2)] [] P μ R T) ∧ (x2 = 0 → (MI x1 (μ.2.2 20) ∧ ((¬ (μ.2.1 20 x1.toNatClampNeg) = 27 → ME X W true d 399 90 [(0, .ref P.1), (1, .int x1), (2, .int x2)] [] P μ R T) ∧ ((μ.2.1 20 x1.toNatClampNeg) = 27 → ME X W true d 399 42 [(0, .ref P.1), (1, .int x1), (2, .int x2)] [] P μ R T)))))) : ME X W true d 399 27 [(0, .ref P.1), (1, .int x1), (2, .int x2)] [] P μ R T := by
  refine me_go (pc1 := 28) (lv1 := [(0, .ref P.1), (1, .int x1), (2, .int x2)]) (st1 := [.int x2]) 1 rfl ?_
  refine me_ifc rfl rfl (fun c => ?_) (fun c => ?_)
  · replace h := h.1 (ci_ne c)
    exact h
  · replace h := h.2 (cn_ne c)
    refine me_go (pc1 := 32) (lv1 := [(0, .ref P.1), (1, .int x1), (2, .int x2)]) (st1 := [.ref P.1]) 1 rfl ?_
    refine me_getf (v := .ref (P.2.1 20)) rfl rfl rfl ?_
    refine me_go (pc1 := 36) (lv1 := [(0, .ref P.1), (1, .int x1), (2, .int x2)]) (st1 := [.int x1, .ref (P.2.1 20)]) 1 rfl ?_
    refine me_iald rfl (g := 20) rfl rfl h.1 ?_
    replace h := h.2
    refine me_go (pc1 := 39) (lv1 := [(0, .ref P.1), (1, .int x1), (2, .int x2)]) (st1 := [.int 27, .int (μ.2.1 20 x1.toNatClampNeg)]) 1 rfl ?_
    refine me_icmp rfl rfl (fun c => ?_) (fun c => ?_)
    · replace h := h.1 (ci_ne c)
      exact h
    · replace h := h.2 (cn_ne c)
      exact h
theorem v_bounds__42 {X : ev_X} {W : Nat → Prop} {d : Nat} {P : MP} {μ : MS} {R : Int32 → MS → Prop} {T : MS → Prop} (x1 : Int32) (x2 : Int32) (h : (MI x1 (μ.2.2 23) ∧ (MI x1 (μ.2.2 22) ∧ (((lg_cmp (((((μ.2.1 23 x1.toNatClampNeg)).toInt64) - (((μ.2.1 22 x1.toNatClampNeg)).toInt64)) + 1) 1).toInt < (0 : Int) → ME X W true d 399 78 [(0, .ref P.1), (1, .int x1), (2, .int x2), (3, .long (((((μ.2.1 23 x1.toNatClampNeg)).toInt64) - (((μ.2.1 22 x1.toNatClampNeg)).toInt64)) + 1))] [] P μ R T) ∧ ((0 : Int) ≤ (lg_cmp (((((μ.2.1 23 x1.toNatClampNeg)).toInt64) - (((μ.2.1 22 x1.toNatClampNeg)).toInt64)) + 1) 1).toInt → ((x2 = 0 → ME X W true d 399 90 [(0, .ref P.1), (1, .int x1), (2, .int x2)] [] P μ R T) ∧ (¬ x2 = 0 → (((lg_cmp (((((μ.2.1 23 x1.toNatClampNeg)).toInt64) - (((μ.2.1 22 x1.toNatClampNeg)).toInt64)) + 1) 1000).toInt ≤ (0 : Int) → ME X W true d 399 90 [(0, .ref P.1), (1, .int x1), (2, .int x2)] [] P μ R T) ∧ ((0 : Int) < (lg_cmp (((((μ.2.1 23 x1.toNatClampNeg)).toInt64) - (((μ.2.1 22 x1.toNatClampNeg)).toInt64)) + 1) 1000).toInt → ME X W true d 399 78 [(0, .ref P.1), (1, .int x1), (2, .int x2), (3, .long (((((μ.2.1 23 x1.toNatClampNeg)).toInt64) - (((μ.2.1 22 x1.toNatClampNeg)).toInt64)) + 1))] [] P μ R T))))))))) : ME X W true d 399 42 [(0, .ref P.1), (1, .int x1), (2, .int x2)] [] P μ R T := by
  refine me_go (pc1 := 43) (lv1 := [(0, .ref P.1), (1, .int x1), (2, .int x2)]) (st1 := [.ref P.1]) 1 rfl ?_
  refine me_getf (v := .ref (P.2.1 23)) rfl rfl rfl ?_
  refine me_go (pc1 := 47) (lv1 := [(0, .ref P.1), (1, .int x1), (2, .int x2)]) (st1 := [.int x1, .ref (P.2.1 23)]) 1 rfl ?_
  refine me_iald rfl (g := 23) rfl rfl h.1 ?_
  replace h := h.2
  refine me_go (pc1 := 50) (lv1 := [(0, .ref P.1), (1, .int x1), (2, .int x2)]) (st1 := [.ref P.1, .long ((μ.2.1 23 x1.toNatClampNeg)).toInt64]) 2 rfl ?_
  refine me_getf (v := .ref (P.2.1 22)) rfl rfl rfl ?_
  refine me_go (pc1 := 54) (lv1 := [(0, .ref P.1), (1, .int x1), (2, .int x2)]) (st1 := [.int x1, .ref (P.2.1 22), .long ((μ.2.1 23 x1.toNatClampNeg)).toInt64]) 1 rfl ?_
  refine me_iald rfl (g := 22) rfl rfl h.1 ?_
  replace h := h.2
  refine me_go (pc1 := 63) (lv1 := [(3, .long (((((μ.2.1 23 x1.toNatClampNeg)).toInt64) - (((μ.2.1 22 x1.toNatClampNeg)).toInt64)) + 1)), (0, .ref P.1), (1, .int x1), (2, .int x2)]) (st1 := [.int (lg_cmp (((((μ.2.1 23 x1.toNatClampNeg)).toInt64) - (((μ.2.1 22 x1.toNatClampNeg)).toInt64)) + 1) 1)]) 8 rfl ?_
  refine me_ifc rfl rfl (fun c => ?_) (fun c => ?_)
  · replace h := h.1 (ci_lt c)
    refine me_lv [(0, .ref P.1), (1, .int x1), (2, .int x2), (3, .long (((((μ.2.1 23 x1.toNatClampNeg)).toInt64) - (((μ.2.1 22 x1.toNatClampNeg)).toInt64)) + 1))] (fl_c rfl (fl_c rfl (fl_c rfl (fl_c rfl fl_0)))) ?_
    exact h
  · replace h := h.2 (cn_lt c)
    refine me_go (pc1 := 67) (lv1 := [(3, .long (((((μ.2.1 23 x1.toNatClampNeg)).toInt64) - (((μ.2.1 22 x1.toNatClampNeg)).toInt64)) + 1)), (0, .ref P.1), (1, .int x1), (2, .int x2)]) (st1 := [.int x2]) 1 rfl ?_
    refine me_ifc rfl rfl (fun c => ?_) (fun c => ?_)
    · replace h := h.1 (ci_eq c)
      refine me_lv [(0, .ref P.1), (1, .int x1), (2, .int x2)] (fl_c rfl (fl_c rfl (fl_c rfl fl_0))) ?_
      exact h
    · replace h := h.2 (cn_eq c)
      refine me_go (pc1 := 71) (lv1 := [(3, .long (((((μ.2.1 23 x1.toNatClampNeg)).toInt64) - (((μ.2.1 22 x1.toNatClampNeg)).toInt64)) + 1)), (0, .ref P.1), (1, .int x1), (2, .int x2)]) (st1 := [.long (((((μ.2.1 23 x1.toNatClampNeg)).toInt64) - (((μ.2.1 22 x1.toNatClampNeg)).toInt64)) + 1)]) 1 rfl ?_
      refine me_ldc2 rfl ?_
      refine me_go (pc1 := 75) (lv1 := [(3, .long (((((μ.2.1 23 x1.toNatClampNeg)).toInt64) - (((μ.2.1 22 x1.toNatClampNeg)).toInt64)) + 1)), (0, .ref P.1), (1, .int x1), (2, .int x2)]) (st1 := [.int (lg_cmp (((((μ.2.1 23 x1.toNatClampNeg)).toInt64) - (((μ.2.1 22 x1.toNatClampNeg)).toInt64)) + 1) 1000)]) 1 rfl ?_
      refine me_ifc rfl rfl (fun c => ?_) (fun c => ?_)
      · replace h := h.1 (ci_le c)
        refine me_lv [(0, .ref P.1), (1, .int x1), (2, .int x2)] (fl_c rfl (fl_c rfl (fl_c rfl fl_0))) ?_
        exact h
      · replace h := h.2 (cn_le c)
        refine me_lv [(0, .ref P.1), (1, .int x1), (2, .int x2), (3, .long (((((μ.2.1 23 x1.toNatClampNeg)).toInt64) - (((μ.2.1 22 x1.toNatClampNeg)).toInt64)) + 1))] (fl_c rfl (fl_c rfl (fl_c rfl (fl_c rfl fl_0)))) ?_
        exact h
theorem v_bounds__78 {X : ev_X} {W : Nat → Prop} {d : Nat} {P : MP} {μ : MS} {R : Int32 → MS → Prop} {T : MS → Prop} (x1 : Int32) (x2 : Int32) (x3 : Int64) (h : (MI x1 (μ.2.2 30) ∧ MC X W true d 290 [.ref P.1, .int 9, .int (μ.2.1 30 x1.toNatClampNeg)] P μ (fun r1 μ1 => ME X W true d 399 90 [(0, .ref P.1), (1, .int x1), (2, .int x2)] [] P μ1 R T) (fun _ => False))) : ME X W true d 399 78 [(0, .ref P.1), (1, .int x1), (2, .int x2), (3, .long x3)] [] P μ R T := by
  refine me_go (pc1 := 82) (lv1 := [(0, .ref P.1), (1, .int x1), (2, .int x2), (3, .long x3)]) (st1 := [.ref P.1, .int 9, .ref P.1]) 3 rfl ?_
  refine me_getf (v := .ref (P.2.1 30)) rfl rfl rfl ?_
  refine me_go (pc1 := 86) (lv1 := [(0, .ref P.1), (1, .int x1), (2, .int x2), (3, .long x3)]) (st1 := [.int x1, .ref (P.2.1 30), .int 9, .ref P.1]) 1 rfl ?_
  refine me_iald rfl (g := 30) rfl rfl h.1 ?_
  replace h := h.2
  refine me_callN rfl rfl rfl (h.mono (fun r1 μ1 h => ?_) (fun _ h => h))
  refine me_lv [(0, .ref P.1), (1, .int x1), (2, .int x2)] (fl_c rfl (fl_c rfl (fl_c rfl fl_0))) ?_
  exact h
theorem v_bounds__90 {X : ev_X} {W : Nat → Prop} {d : Nat} {P : MP} {μ : MS} {R : Int32 → MS → Prop} {T : MS → Prop} (x1 : Int32) (x2 : Int32) (h : ((¬ x2 = 0 → ME X W true d 399 105 [(0, .ref P.1), (1, .int x1), (2, .int x2)] [] P μ R T) ∧ (x2 = 0 → (MI x1 (μ.2.2 20) ∧ ((¬ (μ.2.1 20 x1.toNatClampNeg) = 29 → ME X W true d 399 128 [(0, .ref P.1), (1, .int x1), (2, .int x2)] [] P μ R T) ∧ ((μ.2.1 20 x1.toNatClampNeg) = 29 → ME X W true d 399 105 [(0, .ref P.1), (1, .int x1), (2, .int x2)] [] P μ R T)))))) : ME X W true d 399 90 [(0, .ref P.1), (1, .int x1), (2, .int x2)] [] P μ R T := by
  refine me_go (pc1 := 91) (lv1 := [(0, .ref P.1), (1, .int x1), (2, .int x2)]) (st1 := [.int x2]) 1 rfl ?_
  refine me_ifc rfl rfl (fun c => ?_) (fun c => ?_)
  · replace h := h.1 (ci_ne c)
    exact h
  · replace h := h.2 (cn_ne c)
    refine me_go (pc1 := 95) (lv1 := [(0, .ref P.1), (1, .int x1), (2, .int x2)]) (st1 := [.ref P.1]) 1 rfl ?_
    refine me_getf (v := .ref (P.2.1 20)) rfl rfl rfl ?_
    refine me_go (pc1 := 99) (lv1 := [(0, .ref P.1), (1, .int x1), (2, .int x2)]) (st1 := [.int x1, .ref (P.2.1 20)]) 1 rfl ?_
    refine me_iald rfl (g := 20) rfl rfl h.1 ?_
    replace h := h.2
    refine me_go (pc1 := 102) (lv1 := [(0, .ref P.1), (1, .int x1), (2, .int x2)]) (st1 := [.int 29, .int (μ.2.1 20 x1.toNatClampNeg)]) 1 rfl ?_
    refine me_icmp rfl rfl (fun c => ?_) (fun c => ?_)
    · replace h := h.1 (ci_ne c)
      exact h
    · replace h := h.2 (cn_ne c)
      exact h
theorem v_bounds__105 {X : ev_X} {W : Nat → Prop} {d : Nat} {P : MP} {μ : MS} {R : Int32 → MS → Prop} {T : MS → Prop} (x1 : Int32) (x2 : Int32) (h : MC X W true d 393 [.ref P.1, .int x1] P μ (fun r1 μ1 => ((r1.toInt ≤ (2000 : Int) → ME X W true d 399 128 [(0, .ref P.1), (1, .int x1), (2, .int x2)] [] P μ1 R T) ∧ ((2000 : Int) < r1.toInt → (MI x1 (μ1.2.2 30) ∧ MC X W true d 290 [.ref P.1, .int 9, .int (μ1.2.1 30 x1.toNatClampNeg)] P μ1 (fun r2 μ2 => ME X W true d 399 128 [(0, .ref P.1), (1, .int x1), (2, .int x2)] [] P μ2 R T) (fun _ => False))))) (fun _ => False)) : ME X W true d 399 105 [(0, .ref P.1), (1, .int x1), (2, .int x2)] [] P μ R T := by
  refine me_go (pc1 := 107) (lv1 := [(0, .ref P.1), (1, .int x1), (2, .int x2)]) (st1 := [.int x1, .ref P.1]) 2 rfl ?_
  refine me_callN rfl rfl rfl (h.mono (fun r1 μ1 h => ?_) (fun _ h => h))
  refine me_go (pc1 := 113) (lv1 := [(0, .ref P.1), (1, .int x1), (2, .int x2)]) (st1 := [.int 2000, .int r1]) 1 rfl ?_
  refine me_icmp rfl rfl (fun c => ?_) (fun c => ?_)
  · replace h := h.1 (ci_le c)
    exact h
  · replace h := h.2 (cn_le c)
    refine me_go (pc1 := 120) (lv1 := [(0, .ref P.1), (1, .int x1), (2, .int x2)]) (st1 := [.ref P.1, .int 9, .ref P.1]) 3 rfl ?_
    refine me_getf (v := .ref (P.2.1 30)) rfl rfl rfl ?_
    refine me_go (pc1 := 124) (lv1 := [(0, .ref P.1), (1, .int x1), (2, .int x2)]) (st1 := [.int x1, .ref (P.2.1 30), .int 9, .ref P.1]) 1 rfl ?_
    refine me_iald rfl (g := 30) rfl rfl h.1 ?_
    replace h := h.2
    refine me_callN rfl rfl rfl (h.mono (fun r2 μ2 h => ?_) (fun _ h => h))
    exact h
theorem v_bounds__128 {X : ev_X} {W : Nat → Prop} {d : Nat} {P : MP} {μ : MS} {R : Int32 → MS → Prop} {T : MS → Prop} (x1 : Int32) (x2 : Int32) (h : ME X W true d 399 2 [(0, .ref P.1), (1, .int (x1 + 1))] [] P μ R T) : ME X W true d 399 128 [(0, .ref P.1), (1, .int x1), (2, .int x2)] [] P μ R T := by
  refine me_go (pc1 := 2) (lv1 := [(1, .int (x1 + 1)), (0, .ref P.1), (2, .int x2)]) (st1 := []) 2 rfl ?_
  refine me_lv [(0, .ref P.1), (1, .int (x1 + 1))] (fl_c rfl (fl_c rfl fl_0)) ?_
  exact h
theorem v_typeDeclaration_0 {X : ev_X} {W : Nat → Prop} {d : Nat} {P : MP} {μ : MS} {R : Int32 → MS → Prop} {T : MS → Prop} (x1 : Int32) (h : (MI x1 (μ.2.2 20) ∧ ((((μ.2.1 20 x1.toNatClampNeg) = 4) → (MI x1 (μ.2.2 72) ∧ (((0 : Int) ≤ (μ.2.1 72 x1.toNatClampNeg).toInt → ME X W true d 400 156 [(0, .ref P.1), (1, .int x1)] [] P μ R T) ∧ ((μ.2.1 72 x1.toNatClampNeg).toInt < (0 : Int) → (MI x1 (μ.2.2 30) ∧ MC X W true d 290 [.ref P.1, .int 10, .int (μ.2.1 30 x1.toNatClampNeg)] P μ (fun r1 μ1 => ME X W true d 400 156 [(0, .ref P.1), (1, .int x1)] [] P μ1 R T) (fun _ => False)))))) ∧ (((μ.2.1 20 x1.toNatClampNeg) = 5) → MC X W true d 389 [.ref P.1, .int x1] P μ (fun r2 μ2 => ((r2.toInt < (0 : Int) → (MI x1 (μ2.2.2 23) ∧ MC X W true d 365 [.ref P.1, .int (μ2.2.1 23 x1.toNatClampNeg)] P μ2 (fun r3 μ3 => MC X W true d 367 [.ref P.1, .int r3] P μ3 (fun r4 μ4 => ((¬ r4 = 0 → ME X W true d 400 321 [(0, .ref P.1), (1, .int x1)] [] P μ4 R T) ∧ (r4 = 0 → (MI x1 (μ4.2.2 30) ∧ MC X W true d 290 [.ref P.1, .int 10, .int (μ4.2.1 30 x1.toNatClampNeg)] P μ4 (fun r5 μ5 => ME X W true d 400 321 [(0, .ref P.1), (1, .int x1)] [] P μ5 R T) (fun _ => False))))) (fun _ => False)) (fun _ => False))) ∧ ((0 : Int) ≤ r2.toInt → MC X W true d 402 [.ref P.1, .int x1, .int r2] P μ2 (fun r6 μ6 => ME X W true d 400 321 [(0, .ref P.1), (1, .int x1)] [] P μ6 R T) (fun _ => False)))) (fun _ => False)) ∧ (((μ.2.1 20 x1.toNatClampNeg) = 7) → (MI x1 (μ.2.2 22) ∧ ME X W true d 400 51 [(0, .ref P.1), (1, .int x1), (2, .int (μ.2.1 22 x1.toNatClampNeg))] [] P μ R T)) ∧ (((μ.2.1 20 x1.toNatClampNeg) = 9) → (MI x1 (μ.2.2 28) ∧ (MI x1 (μ.2.2 26) ∧ (((0 : Int) ≤ (μ.2.1 26 x1.toNatClampNeg).toInt → ME X W true d 400 253 [(0, .ref P.1), (1, .int x1), (2, .int (μ.2.1 28 x1.toNatClampNeg))] [] P μ R T) ∧ ((μ.2.1 26 x1.toNatClampNeg).toInt < (0 : Int) → (MI (μ.2.1 28 x1.toNatClampNeg) (μ.2.2 58) ∧ (((0 : Int) ≤ (μ.2.1 58 ((μ.2.1 28 x1.toNatClampNeg)).toNatClampNeg).toInt → ME X W true d 400 253 [(0, .ref P.1), (1, .int x1), (2, .int (μ.2.1 28 x1.toNatClampNeg))] [] P μ R T) ∧ ((μ.2.1 58 ((μ.2.1 28 x1.toNatClampNeg)).toNatClampNeg).toInt < (0 : Int) → (MI x1 (μ.2.2 30) ∧ MC X W true d 290 [.ref P.1, .int 11, .int (μ.2.1 30 x1.toNatClampNeg)] P μ (fun r7 μ7 => ME X W true d 400 253 [(0, .ref P.1), (1, .int x1), (2, .int (μ.2.1 28 x1.toNatClampNeg))] [] P μ7 R T) (fun _ => False)))))))))) ∧ ((∀ v ∈ [(4 : Int32), (5 : Int32), (7 : Int32), (9 : Int32)], ¬ (μ.2.1 20 x1.toNatClampNeg) = v) → ME X W true d 400 321 [(0, .ref P.1), (1, .int x1)] [] P μ R T)))) : ME X W true d 400 0 [(0, .ref P.1), (1, .int x1)] [] P μ R T := by
  refine me_go (pc1 := 1) (lv1 := [(0, .ref P.1), (1, .int x1)]) (st1 := [.ref P.1]) 1 rfl ?_
  refine me_getf (v := .ref (P.2.1 20)) rfl rfl rfl ?_
  refine me_go (pc1 := 5) (lv1 := [(0, .ref P.1), (1, .int x1)]) (st1 := [.int x1, .ref (P.2.1 20)]) 1 rfl ?_
  refine me_iald rfl (g := 20) rfl rfl h.1 ?_
  replace h := h.2
  have hD := h
  have q6_0 : ((μ.2.1 20 x1.toNatClampNeg) = 4) → ME X W true d 400 135 [(0, .ref P.1), (1, .int x1)] [] P μ R T := fun c => by
      replace h := hD.1 c
      refine me_go (pc1 := 136) (lv1 := [(0, .ref P.1), (1, .int x1)]) (st1 := [.ref P.1]) 1 rfl ?_
      refine me_getf (v := .ref (P.2.1 72)) rfl rfl rfl ?_
      refine me_go (pc1 := 140) (lv1 := [(0, .ref P.1), (1, .int x1)]) (st1 := [.int x1, .ref (P.2.1 72)]) 1 rfl ?_
      refine me_iald rfl (g := 72) rfl rfl h.1 ?_
      replace h := h.2
      refine me_ifc rfl rfl (fun c => ?_) (fun c => ?_)
      · replace h := h.1 (ci_ge c)
        exact h
      · replace h := h.2 (cn_ge c)
        refine me_go (pc1 := 148) (lv1 := [(0, .ref P.1), (1, .int x1)]) (st1 := [.ref P.1, .int 10, .ref P.1]) 3 rfl ?_
        refine me_getf (v := .ref (P.2.1 30)) rfl rfl rfl ?_
        refine me_go (pc1 := 152) (lv1 := [(0, .ref P.1), (1, .int x1)]) (st1 := [.int x1, .ref (P.2.1 30), .int 10, .ref P.1]) 1 rfl ?_
        refine me_iald rfl (g := 30) rfl rfl h.1 ?_
        replace h := h.2
        refine me_callN rfl rfl rfl (h.mono (fun r1 μ1 h => ?_) (fun _ h => h))
        exact h
  have q6_1 : ((μ.2.1 20 x1.toNatClampNeg) = 5) → ME X W true d 400 165 [(0, .ref P.1), (1, .int x1)] [] P μ R T := fun c => by
      replace h := hD.2.1 c
      refine me_go (pc1 := 167) (lv1 := [(0, .ref P.1), (1, .int x1)]) (st1 := [.int x1, .ref P.1]) 2 rfl ?_
      refine me_callN rfl rfl rfl (h.mono (fun r2 μ2 h => ?_) (fun _ h => h))
      refine me_go (pc1 := 172) (lv1 := [(2, .int r2), (0, .ref P.1), (1, .int x1)]) (st1 := [.int r2]) 2 rfl ?_
      refine me_ifc rfl rfl (fun c => ?_) (fun c => ?_)
      · replace h := h.1 (ci_lt c)
        refine me_go (pc1 := 187) (lv1 := [(2, .int r2), (0, .ref P.1), (1, .int x1)]) (st1 := [.ref P.1, .ref P.1, .ref P.1]) 3 rfl ?_
        refine me_getf (v := .ref (P.2.1 23)) rfl rfl rfl ?_
        refine me_go (pc1 := 191) (lv1 := [(2, .int r2), (0, .ref P.1), (1, .int x1)]) (st1 := [.int x1, .ref (P.2.1 23), .ref P.1, .ref P.1]) 1 rfl ?_
        refine me_iald rfl (g := 23) rfl rfl h.1 ?_
        replace h := h.2
        refine me_callN rfl rfl rfl (h.mono (fun r3 μ3 h => ?_) (fun _ h => h))
        refine me_callN rfl rfl rfl (h.mono (fun r4 μ4 h => ?_) (fun _ h => h))
        refine me_ifc rfl rfl (fun c => ?_) (fun c => ?_)
        · replace h := h.1 (ci_ne c)
          refine me_lv [(0, .ref P.1), (1, .int x1)] (fl_c rfl (fl_c rfl fl_0)) ?_
          exact h
        · replace h := h.2 (cn_ne c)
          refine me_go (pc1 := 205) (lv1 := [(2, .int r2), (0, .ref P.1), (1, .int x1)]) (st1 := [.ref P.1, .int 10, .ref P.1]) 3 rfl ?_
          refine me_getf (v := .ref (P.2.1 30)) rfl rfl rfl ?_
          refine me_go (pc1 := 209) (lv1 := [(2, .int r2), (0, .ref P.1), (1, .int x1)]) (st1 := [.int x1, .ref (P.2.1 30), .int 10, .ref P.1]) 1 rfl ?_
          refine me_iald rfl (g := 30) rfl rfl h.1 ?_
          replace h := h.2
          refine me_callN rfl rfl rfl (h.mono (fun r5 μ5 h => ?_) (fun _ h => h))
          refine me_go (pc1 := 321) (lv1 := [(2, .int r2), (0, .ref P.1), (1, .int x1)]) (st1 := []) 1 rfl ?_
          refine me_lv [(0, .ref P.1), (1, .int x1)] (fl_c rfl (fl_c rfl fl_0)) ?_
          exact h
      · replace h := h.2 (cn_lt c)
        refine me_go (pc1 := 178) (lv1 := [(2, .int r2), (0, .ref P.1), (1, .int x1)]) (st1 := [.int r2, .int x1, .ref P.1]) 3 rfl ?_
        refine me_callN rfl rfl rfl (h.mono (fun r6 μ6 h => ?_) (fun _ h => h))
        refine me_go (pc1 := 321) (lv1 := [(2, .int r2), (0, .ref P.1), (1, .int x1)]) (st1 := []) 1 rfl ?_
        refine me_lv [(0, .ref P.1), (1, .int x1)] (fl_c rfl (fl_c rfl fl_0)) ?_
        exact h
  have q6_2 : ((μ.2.1 20 x1.toNatClampNeg) = 7) → ME X W true d 400 44 [(0, .ref P.1), (1, .int x1)] [] P μ R T := fun c => by
      replace h := hD.2.2.1 c
      refine me_go (pc1 := 45) (lv1 := [(0, .ref P.1), (1, .int x1)]) (st1 := [.ref P.1]) 1 rfl ?_
      refine me_getf (v := .ref (P.2.1 22)) rfl rfl rfl ?_
      refine me_go (pc1 := 49) (lv1 := [(0, .ref P.1), (1, .int x1)]) (st1 := [.int x1, .ref (P.2.1 22)]) 1 rfl ?_
      refine me_iald rfl (g := 22) rfl rfl h.1 ?_
      replace h := h.2
      refine me_go (pc1 := 51) (lv1 := [(2, .int (μ.2.1 22 x1.toNatClampNeg)), (0, .ref P.1), (1, .int x1)]) (st1 := []) 1 rfl ?_
      refine me_lv [(0, .ref P.1), (1, .int x1), (2, .int (μ.2.1 22 x1.toNatClampNeg))] (fl_c rfl (fl_c rfl (fl_c rfl fl_0))) ?_
      exact h
  have q6_3 : ((μ.2.1 20 x1.toNatClampNeg) = 9) → ME X W true d 400 216 [(0, .ref P.1), (1, .int x1)] [] P μ R T := fun c => by
      replace h := hD.2.2.2.1 c
      refine me_go (pc1 := 217) (lv1 := [(0, .ref P.1), (1, .int x1)]) (st1 := [.ref P.1]) 1 rfl ?_
      refine me_getf (v := .ref (P.2.1 28)) rfl rfl rfl ?_
      refine me_go (pc1 := 221) (lv1 := [(0, .ref P.1), (1, .int x1)]) (st1 := [.int x1, .ref (P.2.1 28)]) 1 rfl ?_
      refine me_iald rfl (g := 28) rfl rfl h.1 ?_
      replace h := h.2
      refine me_go (pc1 := 224) (lv1 := [(2, .int (μ.2.1 28 x1.toNatClampNeg)), (0, .ref P.1), (1, .int x1)]) (st1 := [.ref P.1]) 2 rfl ?_
      refine me_getf (v := .ref (P.2.1 26)) rfl rfl rfl ?_
      refine me_go (pc1 := 228) (lv1 := [(2, .int (μ.2.1 28 x1.toNatClampNeg)), (0, .ref P.1), (1, .int x1)]) (st1 := [.int x1, .ref (P.2.1 26)]) 1 rfl ?_
      refine me_iald rfl (g := 26) rfl rfl h.1 ?_
      replace h := h.2
      refine me_ifc rfl rfl (fun c => ?_) (fun c => ?_)
      · replace h := h.1 (ci_ge c)
        refine me_lv [(0, .ref P.1), (1, .int x1), (2, .int (μ.2.1 28 x1.toNatClampNeg))] (fl_c rfl (fl_c rfl (fl_c rfl fl_0))) ?_
        exact h
      · replace h := h.2 (cn_ge c)
        refine me_go (pc1 := 233) (lv1 := [(2, .int (μ.2.1 28 x1.toNatClampNeg)), (0, .ref P.1), (1, .int x1)]) (st1 := [.ref P.1]) 1 rfl ?_
        refine me_getf (v := .ref (P.2.1 58)) rfl rfl rfl ?_
        refine me_go (pc1 := 237) (lv1 := [(2, .int (μ.2.1 28 x1.toNatClampNeg)), (0, .ref P.1), (1, .int x1)]) (st1 := [.int (μ.2.1 28 x1.toNatClampNeg), .ref (P.2.1 58)]) 1 rfl ?_
        refine me_iald rfl (g := 58) rfl rfl h.1 ?_
        replace h := h.2
        refine me_ifc rfl rfl (fun c => ?_) (fun c => ?_)
        · replace h := h.1 (ci_ge c)
          refine me_lv [(0, .ref P.1), (1, .int x1), (2, .int (μ.2.1 28 x1.toNatClampNeg))] (fl_c rfl (fl_c rfl (fl_c rfl fl_0))) ?_
          exact h
        · replace h := h.2 (cn_ge c)
          refine me_go (pc1 := 245) (lv1 := [(2, .int (μ.2.1 28 x1.toNatClampNeg)), (0, .ref P.1), (1, .int x1)]) (st1 := [.ref P.1, .int 11, .ref P.1]) 3 rfl ?_
          refine me_getf (v := .ref (P.2.1 30)) rfl rfl rfl ?_
          refine me_go (pc1 := 249) (lv1 := [(2, .int (μ.2.1 28 x1.toNatClampNeg)), (0, .ref P.1), (1, .int x1)]) (st1 := [.int x1, .ref (P.2.1 30), .int 11, .ref P.1]) 1 rfl ?_
          refine me_iald rfl (g := 30) rfl rfl h.1 ?_
          replace h := h.2
          refine me_callN rfl rfl rfl (h.mono (fun r7 μ7 h => ?_) (fun _ h => h))
          refine me_lv [(0, .ref P.1), (1, .int x1), (2, .int (μ.2.1 28 x1.toNatClampNeg))] (fl_c rfl (fl_c rfl (fl_c rfl fl_0))) ?_
          exact h
  by_cases c : (μ.2.1 20 x1.toNatClampNeg) = 4
  · exact me_sw rfl c (t := 135) rfl (q6_0 (c))
  rename ¬ (μ.2.1 20 x1.toNatClampNeg) = 4 => n0
  by_cases c : (μ.2.1 20 x1.toNatClampNeg) = 5
  · exact me_sw rfl c (t := 165) rfl (q6_1 (c))
  rename ¬ (μ.2.1 20 x1.toNatClampNeg) = 5 => n1
  by_cases c : (μ.2.1 20 x1.toNatClampNeg) = 7
  · exact me_sw rfl c (t := 44) rfl (q6_2 (c))
  rename ¬ (μ.2.1 20 x1.toNatClampNeg) = 7 => n2
  by_cases c : (μ.2.1 20 x1.toNatClampNeg) = 9
  · exact me_sw rfl c (t := 216) rfl (q6_3 (c))
  rename ¬ (μ.2.1 20 x1.toNatClampNeg) = 9 => n3
  have hk : ∀ v ∈ [(4 : Int32), (5 : Int32), (7 : Int32), (9 : Int32)], ¬ (μ.2.1 20 x1.toNatClampNeg) = v := fun v hv => by
    simp only [List.mem_cons, List.not_mem_nil, or_false] at hv
    rcases hv with rfl | rfl | rfl | rfl <;> assumption
  refine me_tsD (t := 321) rfl _ rfl rfl hk ?_
  replace h := hD.2.2.2.2 hk
  exact h
theorem v_typeDeclaration_51 {X : ev_X} {W : Nat → Prop} {d : Nat} {P : MP} {μ : MS} {R : Int32 → MS → Prop} {T : MS → Prop} (x1 : Int32) (x2 : Int32) (h : ((x2.toInt < (0 : Int) → ME X W true d 400 321 [(0, .ref P.1), (1, .int x1)] [] P μ R T) ∧ ((0 : Int) ≤ x2.toInt → (MI x2 (μ.2.2 28) ∧ (MI (μ.2.1 28 x2.toNatClampNeg) (μ.2.2 55) ∧ (MI x1 (μ.2.2 23) ∧ MC X W true d 393 [.ref P.1, .int (μ.2.1 23 x1.toNatClampNeg)] P (mA1 μ 55 (((μ.2.1 28 x2.toNatClampNeg)).toNatClampNeg) (μ.1 83)) (fun r1 μ1 => ((((μ.1 83) + (if (r1 : Int32) < 0 then 0 else r1)).toInt ≤ (5000 : Int) → ME X W true d 400 122 [(0, .ref P.1), (1, .int x1), (2, .int x2)] [] P (mS1 μ1 83 ((μ.1 83) + (if (r1 : Int32) < 0 then 0 else r1))) R T) ∧ ((5000 : Int) < ((μ.1 83) + (if (r1 : Int32) < 0 then 0 else r1)).toInt → (MI x1 (μ1.2.2 30) ∧ MC X W true d 290 [.ref P.1, .int 9, .int (μ1.2.1 30 x1.toNatClampNeg)] P (mS1 μ1 83 ((μ.1 83) + (if (r1 : Int32) < 0 then 0 else r1))) (fun r2 μ2 => ME X W true d 400 122 [(0, .ref P.1), (1, .int x1), (2, .int x2)] [] P (mS1 μ2 83 5001) R T) (fun _ => False))))) (fun _ => False))))))) : ME X W true d 400 51 [(0, .ref P.1), (1, .int x1), (2, .int x2)] [] P μ R T := by
  refine me_go (pc1 := 52) (lv1 := [(0, .ref P.1), (1, .int x1), (2, .int x2)]) (st1 := [.int x2]) 1 rfl ?_
  refine me_ifc rfl rfl (fun c => ?_) (fun c => ?_)
  · replace h := h.1 (ci_lt c)
    refine me_go (pc1 := 321) (lv1 := [(0, .ref P.1), (1, .int x1), (2, .int x2)]) (st1 := []) 1 rfl ?_
    refine me_lv [(0, .ref P.1), (1, .int x1)] (fl_c rfl (fl_c rfl fl_0)) ?_
    exact h
  · replace h := h.2 (cn_lt c)
    refine me_go (pc1 := 56) (lv1 := [(0, .ref P.1), (1, .int x1), (2, .int x2)]) (st1 := [.ref P.1]) 1 rfl ?_
    refine me_getf (v := .ref (P.2.1 55)) rfl rfl rfl ?_
    refine me_go (pc1 := 60) (lv1 := [(0, .ref P.1), (1, .int x1), (2, .int x2)]) (st1 := [.ref P.1, .ref (P.2.1 55)]) 1 rfl ?_
    refine me_getf (v := .ref (P.2.1 28)) rfl rfl rfl ?_
    refine me_go (pc1 := 64) (lv1 := [(0, .ref P.1), (1, .int x1), (2, .int x2)]) (st1 := [.int x2, .ref (P.2.1 28), .ref (P.2.1 55)]) 1 rfl ?_
    refine me_iald rfl (g := 28) rfl rfl h.1 ?_
    replace h := h.2
    refine me_go (pc1 := 66) (lv1 := [(0, .ref P.1), (1, .int x1), (2, .int x2)]) (st1 := [.ref P.1, .int (μ.2.1 28 x2.toNatClampNeg), .ref (P.2.1 55)]) 1 rfl ?_
    refine me_getf (v := .int (μ.1 83)) rfl rfl rfl ?_
    have hi := h.1
    replace h := h.2
    refine me_iast rfl (g := 55) rfl rfl hi ?_
    refine me_go (pc1 := 72) (lv1 := [(0, .ref P.1), (1, .int x1), (2, .int x2)]) (st1 := [.ref P.1, .ref P.1]) 2 rfl ?_
    refine me_getf (v := .int (μ.1 83)) rfl rfl rfl ?_
    refine me_go (pc1 := 77) (lv1 := [(0, .ref P.1), (1, .int x1), (2, .int x2)]) (st1 := [.ref P.1, .ref P.1, .int (μ.1 83), .ref P.1]) 2 rfl ?_
    refine me_getf (v := .ref (P.2.1 23)) rfl rfl rfl ?_
    refine me_go (pc1 := 81) (lv1 := [(0, .ref P.1), (1, .int x1), (2, .int x2)]) (st1 := [.int x1, .ref (P.2.1 23), .ref P.1, .int (μ.1 83), .ref P.1]) 1 rfl ?_
    refine me_iald rfl (g := 23) rfl rfl h.1 ?_
    replace h := h.2
    refine me_callN rfl rfl rfl (h.mono (fun r1 μ1 h => ?_) (fun _ h => h))
    refine me_go (pc1 := 86) (lv1 := [(0, .ref P.1), (1, .int x1), (2, .int x2)]) (st1 := [.int 0, .int r1, .int (μ.1 83), .ref P.1]) 1 rfl ?_
    refine me_xm (st1 := [.int (if (r1 : Int32) < 0 then 0 else r1), .int (μ.1 83), .ref P.1]) rfl rfl ?_
    refine me_go (pc1 := 90) (lv1 := [(0, .ref P.1), (1, .int x1), (2, .int x2)]) (st1 := [.int ((μ.1 83) + (if (r1 : Int32) < 0 then 0 else r1)), .ref P.1]) 1 rfl ?_
    refine me_put rfl rfl rfl ?_
    refine me_go (pc1 := 94) (lv1 := [(0, .ref P.1), (1, .int x1), (2, .int x2)]) (st1 := [.ref P.1]) 1 rfl ?_
    refine me_getf (v := .int ((μ.1 83) + (if (r1 : Int32) < 0 then 0 else r1))) rfl rfl rfl ?_
    refine me_go (pc1 := 100) (lv1 := [(0, .ref P.1), (1, .int x1), (2, .int x2)]) (st1 := [.int 5000, .int ((μ.1 83) + (if (r1 : Int32) < 0 then 0 else r1))]) 1 rfl ?_
    refine me_icmp rfl rfl (fun c => ?_) (fun c => ?_)
    · replace h := h.1 (ci_le c)
      exact h
    · replace h := h.2 (cn_le c)
      refine me_go (pc1 := 107) (lv1 := [(0, .ref P.1), (1, .int x1), (2, .int x2)]) (st1 := [.ref P.1, .int 9, .ref P.1]) 3 rfl ?_
      refine me_getf (v := .ref (P.2.1 30)) rfl rfl rfl ?_
      refine me_go (pc1 := 111) (lv1 := [(0, .ref P.1), (1, .int x1), (2, .int x2)]) (st1 := [.int x1, .ref (P.2.1 30), .int 9, .ref P.1]) 1 rfl ?_
      refine me_iald rfl (g := 30) rfl rfl h.1 ?_
      replace h := h.2
      refine me_callN rfl rfl rfl (h.mono (fun r2 μ2 h => ?_) (fun _ h => h))
      refine me_go (pc1 := 119) (lv1 := [(0, .ref P.1), (1, .int x1), (2, .int x2)]) (st1 := [.int 5001, .ref P.1]) 2 rfl ?_
      refine me_put rfl rfl rfl ?_
      exact h
theorem v_typeDeclaration_122 {X : ev_X} {W : Nat → Prop} {d : Nat} {P : MP} {μ : MS} {R : Int32 → MS → Prop} {T : MS → Prop} (x1 : Int32) (x2 : Int32) (h : (MI x2 (μ.2.2 27) ∧ ME X W true d 400 51 [(0, .ref P.1), (1, .int x1), (2, .int (μ.2.1 27 x2.toNatClampNeg))] [] P μ R T)) : ME X W true d 400 122 [(0, .ref P.1), (1, .int x1), (2, .int x2)] [] P μ R T := by
  refine me_go (pc1 := 123) (lv1 := [(0, .ref P.1), (1, .int x1), (2, .int x2)]) (st1 := [.ref P.1]) 1 rfl ?_
  refine me_getf (v := .ref (P.2.1 27)) rfl rfl rfl ?_
  refine me_go (pc1 := 127) (lv1 := [(0, .ref P.1), (1, .int x1), (2, .int x2)]) (st1 := [.int x2, .ref (P.2.1 27)]) 1 rfl ?_
  refine me_iald rfl (g := 27) rfl rfl h.1 ?_
  replace h := h.2
  refine me_go (pc1 := 51) (lv1 := [(2, .int (μ.2.1 27 x2.toNatClampNeg)), (0, .ref P.1), (1, .int x1)]) (st1 := []) 2 rfl ?_
  refine me_lv [(0, .ref P.1), (1, .int x1), (2, .int (μ.2.1 27 x2.toNatClampNeg))] (fl_c rfl (fl_c rfl (fl_c rfl fl_0))) ?_
  exact h
theorem v_typeDeclaration_156 {X : ev_X} {W : Nat → Prop} {d : Nat} {P : MP} {μ : MS} {R : Int32 → MS → Prop} {T : MS → Prop} (x1 : Int32) (h : MC X W true d 402 [.ref P.1, .int x1, .int x1] P μ (fun r1 μ1 => ME X W true d 400 321 [(0, .ref P.1), (1, .int x1)] [] P μ1 R T) (fun _ => False)) : ME X W true d 400 156 [(0, .ref P.1), (1, .int x1)] [] P μ R T := by
  refine me_go (pc1 := 159) (lv1 := [(0, .ref P.1), (1, .int x1)]) (st1 := [.int x1, .int x1, .ref P.1]) 3 rfl ?_
  refine me_callN rfl rfl rfl (h.mono (fun r1 μ1 h => ?_) (fun _ h => h))
  refine me_go (pc1 := 321) (lv1 := [(0, .ref P.1), (1, .int x1)]) (st1 := []) 1 rfl ?_
  exact h
theorem v_typeDeclaration_253 {X : ev_X} {W : Nat → Prop} {d : Nat} {P : MP} {μ : MS} {R : Int32 → MS → Prop} {T : MS → Prop} (x1 : Int32) (x2 : Int32) (h : (MI x1 (μ.2.2 26) ∧ (((μ.2.1 26 x1.toNatClampNeg).toInt < (0 : Int) → ME X W true d 400 276 [(0, .ref P.1), (1, .int x1), (2, .int x2)] [] P μ R T) ∧ ((0 : Int) ≤ (μ.2.1 26 x1.toNatClampNeg).toInt → (MI x2 (μ.2.2 57) ∧ (((μ.2.1 57 x2.toNatClampNeg) = x1 → ME X W true d 400 276 [(0, .ref P.1), (1, .int x1), (2, .int x2)] [] P μ R T) ∧ (¬ (μ.2.1 57 x2.toNatClampNeg) = x1 → ME X W true d 400 278 [(0, .ref P.1), (1, .int x1), (2, .int x2), (3, .int 1)] [] P μ R T))))))) : ME X W true d 400 253 [(0, .ref P.1), (1, .int x1), (2, .int x2)] [] P μ R T := by
  refine me_go (pc1 := 254) (lv1 := [(0, .ref P.1), (1, .int x1), (2, .int x2)]) (st1 := [.ref P.1]) 1 rfl ?_
  refine me_getf (v := .ref (P.2.1 26)) rfl rfl rfl ?_
  refine me_go (pc1 := 258) (lv1 := [(0, .ref P.1), (1, .int x1), (2, .int x2)]) (st1 := [.int x1, .ref (P.2.1 26)]) 1 rfl ?_
  refine me_iald rfl (g := 26) rfl rfl h.1 ?_
  replace h := h.2
  refine me_ifc rfl rfl (fun c => ?_) (fun c => ?_)
  · replace h := h.1 (ci_lt c)
    exact h
  · replace h := h.2 (cn_lt c)
    refine me_go (pc1 := 263) (lv1 := [(0, .ref P.1), (1, .int x1), (2, .int x2)]) (st1 := [.ref P.1]) 1 rfl ?_
    refine me_getf (v := .ref (P.2.1 57)) rfl rfl rfl ?_
    refine me_go (pc1 := 267) (lv1 := [(0, .ref P.1), (1, .int x1), (2, .int x2)]) (st1 := [.int x2, .ref (P.2.1 57)]) 1 rfl ?_
    refine me_iald rfl (g := 57) rfl rfl h.1 ?_
    replace h := h.2
    refine me_go (pc1 := 269) (lv1 := [(0, .ref P.1), (1, .int x1), (2, .int x2)]) (st1 := [.int x1, .int (μ.2.1 57 x2.toNatClampNeg)]) 1 rfl ?_
    refine me_icmp rfl rfl (fun c => ?_) (fun c => ?_)
    · replace h := h.1 (ci_eq c)
      exact h
    · replace h := h.2 (cn_eq c)
      refine me_go (pc1 := 278) (lv1 := [(3, .int 1), (0, .ref P.1), (1, .int x1), (2, .int x2)]) (st1 := []) 3 rfl ?_
      refine me_lv [(0, .ref P.1), (1, .int x1), (2, .int x2), (3, .int 1)] (fl_c rfl (fl_c rfl (fl_c rfl (fl_c rfl fl_0)))) ?_
      exact h
theorem v_typeDeclaration_276 {X : ev_X} {W : Nat → Prop} {d : Nat} {P : MP} {μ : MS} {R : Int32 → MS → Prop} {T : MS → Prop} (x1 : Int32) (x2 : Int32) (h : ME X W true d 400 278 [(0, .ref P.1), (1, .int x1), (2, .int x2), (3, .int 0)] [] P μ R T) : ME X W true d 400 276 [(0, .ref P.1), (1, .int x1), (2, .int x2)] [] P μ R T := by
  refine me_go (pc1 := 278) (lv1 := [(3, .int 0), (0, .ref P.1), (1, .int x1), (2, .int x2)]) (st1 := []) 2 rfl ?_
  refine me_lv [(0, .ref P.1), (1, .int x1), (2, .int x2), (3, .int 0)] (fl_c rfl (fl_c rfl (fl_c rfl (fl_c rfl fl_0)))) ?_
  exact h
theorem v_typeDeclaration_278 {X : ev_X} {W : Nat → Prop} {d : Nat} {P : MP} {μ : MS} {R : Int32 → MS → Prop} {T : MS → Prop} (x1 : Int32) (x2 : Int32) (x3 : Int32) (h : ((x3 = 0 → ME X W true d 400 321 [(0, .ref P.1), (1, .int x1)] [] P μ R T) ∧ (¬ x3 = 0 → (MI x2 (μ.2.2 57) ∧ (MI (μ.2.1 57 x2.toNatClampNeg) (μ.2.2 23) ∧ (MI x1 (μ.2.2 23) ∧ MC X W true d 401 [.ref P.1, .int (μ.2.1 23 ((μ.2.1 57 x2.toNatClampNeg)).toNatClampNeg), .int (μ.2.1 23 x1.toNatClampNeg)] P μ (fun r1 μ1 => ((¬ r1 = 0 → ME X W true d 400 321 [(0, .ref P.1), (1, .int x1)] [] P μ1 R T) ∧ (r1 = 0 → (MI x1 (μ1.2.2 30) ∧ MC X W true d 290 [.ref P.1, .int 11, .int (μ1.2.1 30 x1.toNatClampNeg)] P μ1 (fun r2 μ2 => ME X W true d 400 321 [(0, .ref P.1), (1, .int x1)] [] P μ2 R T) (fun _ => False))))) (fun _ => False))))))) : ME X W true d 400 278 [(0, .ref P.1), (1, .int x1), (2, .int x2), (3, .int x3)] [] P μ R T := by
  refine me_go (pc1 := 279) (lv1 := [(0, .ref P.1), (1, .int x1), (2, .int x2), (3, .int x3)]) (st1 := [.int x3]) 1 rfl ?_
  refine me_ifc rfl rfl (fun c => ?_) (fun c => ?_)
  · replace h := h.1 (ci_eq c)
    refine me_lv [(0, .ref P.1), (1, .int x1)] (fl_c rfl (fl_c rfl fl_0)) ?_
    exact h
  · replace h := h.2 (cn_eq c)
    refine me_go (pc1 := 284) (lv1 := [(0, .ref P.1), (1, .int x1), (2, .int x2), (3, .int x3)]) (st1 := [.ref P.1, .ref P.1]) 2 rfl ?_
    refine me_getf (v := .ref (P.2.1 23)) rfl rfl rfl ?_
    refine me_go (pc1 := 288) (lv1 := [(0, .ref P.1), (1, .int x1), (2, .int x2), (3, .int x3)]) (st1 := [.ref P.1, .ref (P.2.1 23), .ref P.1]) 1 rfl ?_
    refine me_getf (v := .ref (P.2.1 57)) rfl rfl rfl ?_
    refine me_go (pc1 := 292) (lv1 := [(0, .ref P.1), (1, .int x1), (2, .int x2), (3, .int x3)]) (st1 := [.int x2, .ref (P.2.1 57), .ref (P.2.1 23), .ref P.1]) 1 rfl ?_
    refine me_iald rfl (g := 57) rfl rfl h.1 ?_
    replace h := h.2
    refine me_iald rfl (g := 23) rfl rfl h.1 ?_
    replace h := h.2
    refine me_go (pc1 := 295) (lv1 := [(0, .ref P.1), (1, .int x1), (2, .int x2), (3, .int x3)]) (st1 := [.ref P.1, .int (μ.2.1 23 ((μ.2.1 57 x2.toNatClampNeg)).toNatClampNeg), .ref P.1]) 1 rfl ?_
    refine me_getf (v := .ref (P.2.1 23)) rfl rfl rfl ?_
    refine me_go (pc1 := 299) (lv1 := [(0, .ref P.1), (1, .int x1), (2, .int x2), (3, .int x3)]) (st1 := [.int x1, .ref (P.2.1 23), .int (μ.2.1 23 ((μ.2.1 57 x2.toNatClampNeg)).toNatClampNeg), .ref P.1]) 1 rfl ?_
    refine me_iald rfl (g := 23) rfl rfl h.1 ?_
    replace h := h.2
    refine me_callN rfl rfl rfl (h.mono (fun r1 μ1 h => ?_) (fun _ h => h))
    refine me_ifc rfl rfl (fun c => ?_) (fun c => ?_)
    · replace h := h.1 (ci_ne c)
      refine me_lv [(0, .ref P.1), (1, .int x1)] (fl_c rfl (fl_c rfl fl_0)) ?_
      exact h
    · replace h := h.2 (cn_ne c)
      refine me_go (pc1 := 310) (lv1 := [(0, .ref P.1), (1, .int x1), (2, .int x2), (3, .int x3)]) (st1 := [.ref P.1, .int 11, .ref P.1]) 3 rfl ?_
      refine me_getf (v := .ref (P.2.1 30)) rfl rfl rfl ?_
      refine me_go (pc1 := 314) (lv1 := [(0, .ref P.1), (1, .int x1), (2, .int x2), (3, .int x3)]) (st1 := [.int x1, .ref (P.2.1 30), .int 11, .ref P.1]) 1 rfl ?_
      refine me_iald rfl (g := 30) rfl rfl h.1 ?_
      replace h := h.2
      refine me_callN rfl rfl rfl (h.mono (fun r2 μ2 h => ?_) (fun _ h => h))
      refine me_go (pc1 := 321) (lv1 := [(0, .ref P.1), (1, .int x1), (2, .int x2), (3, .int x3)]) (st1 := []) 1 rfl ?_
      refine me_lv [(0, .ref P.1), (1, .int x1)] (fl_c rfl (fl_c rfl fl_0)) ?_
      exact h
theorem v_typeDeclaration_321 {X : ev_X} {W : Nat → Prop} {d : Nat} {P : MP} {μ : MS} {R : Int32 → MS → Prop} {T : MS → Prop} (x1 : Int32) (h : R 0 μ) : ME X W true d 400 321 [(0, .ref P.1), (1, .int x1)] [] P μ R T := by
  exact me_ret (v := none) (r := 0) rfl rfl rfl h
theorem v_alikeSignatures_0 {X : ev_X} {W : Nat → Prop} {d : Nat} {P : MP} {μ : MS} {R : Int32 → MS → Prop} {T : MS → Prop} (x1 : Int32) (x2 : Int32) (h : MC X W true d 382 [.ref P.1, .int x1, .int x2] P μ (fun r1 μ1 => ((r1 = 0 → R 0 μ1) ∧ (¬ r1 = 0 → (MI x1 (μ1.2.2 22) ∧ (MI x2 (μ1.2.2 22) ∧ MC X W true d 383 [.ref P.1, .int x1, .int x2, .int (μ1.2.1 22 x1.toNatClampNeg), .int (μ1.2.1 22 x2.toNatClampNeg)] P μ1 (fun r2 μ2 => ((r2 = 0 → R 0 μ2) ∧ (¬ r2 = 0 → R 1 μ2))) (fun _ => False)))))) (fun _ => False)) : ME X W true d 401 0 [(0, .ref P.1), (1, .int x1), (2, .int x2)] [] P μ R T := by
  refine me_go (pc1 := 3) (lv1 := [(0, .ref P.1), (1, .int x1), (2, .int x2)]) (st1 := [.int x2, .int x1, .ref P.1]) 3 rfl ?_
  refine me_callN rfl rfl rfl (h.mono (fun r1 μ1 h => ?_) (fun _ h => h))
  refine me_ifc rfl rfl (fun c => ?_) (fun c => ?_)
  · replace h := h.1 (ci_eq c)
    refine me_go (pc1 := 35) (lv1 := [(0, .ref P.1), (1, .int x1), (2, .int x2)]) (st1 := [.int 0]) 1 rfl ?_
    exact me_retB rfl rfl (by decide) h
  · replace h := h.2 (cn_eq c)
    refine me_go (pc1 := 13) (lv1 := [(0, .ref P.1), (1, .int x1), (2, .int x2)]) (st1 := [.ref P.1, .int x2, .int x1, .ref P.1]) 4 rfl ?_
    refine me_getf (v := .ref (P.2.1 22)) rfl rfl rfl ?_
    refine me_go (pc1 := 17) (lv1 := [(0, .ref P.1), (1, .int x1), (2, .int x2)]) (st1 := [.int x1, .ref (P.2.1 22), .int x2, .int x1, .ref P.1]) 1 rfl ?_
    refine me_iald rfl (g := 22) rfl rfl h.1 ?_
    replace h := h.2
    refine me_go (pc1 := 19) (lv1 := [(0, .ref P.1), (1, .int x1), (2, .int x2)]) (st1 := [.ref P.1, .int (μ1.2.1 22 x1.toNatClampNeg), .int x2, .int x1, .ref P.1]) 1 rfl ?_
    refine me_getf (v := .ref (P.2.1 22)) rfl rfl rfl ?_
    refine me_go (pc1 := 23) (lv1 := [(0, .ref P.1), (1, .int x1), (2, .int x2)]) (st1 := [.int x2, .ref (P.2.1 22), .int (μ1.2.1 22 x1.toNatClampNeg), .int x2, .int x1, .ref P.1]) 1 rfl ?_
    refine me_iald rfl (g := 22) rfl rfl h.1 ?_
    replace h := h.2
    refine me_callN rfl rfl rfl (h.mono (fun r2 μ2 h => ?_) (fun _ h => h))
    refine me_ifc rfl rfl (fun c => ?_) (fun c => ?_)
    · replace h := h.1 (ci_eq c)
      refine me_go (pc1 := 35) (lv1 := [(0, .ref P.1), (1, .int x1), (2, .int x2)]) (st1 := [.int 0]) 1 rfl ?_
      exact me_retB rfl rfl (by decide) h
    · replace h := h.2 (cn_eq c)
      refine me_go (pc1 := 35) (lv1 := [(0, .ref P.1), (1, .int x1), (2, .int x2)]) (st1 := [.int 1]) 2 rfl ?_
      exact me_retB rfl rfl (by decide) h
theorem v_tells_0 {X : ev_X} {W : Nat → Prop} {d : Nat} {P : MP} {μ : MS} {R : Int32 → MS → Prop} {T : MS → Prop} (x1 : Int32) (x2 : Int32) (h : (MI x1 (μ.2.2 23) ∧ MC X W true d 365 [.ref P.1, .int (μ.2.1 23 x1.toNatClampNeg)] P μ (fun r1 μ1 => MC X W true d 367 [.ref P.1, .int r1] P μ1 (fun r2 μ2 => ((r2 = 0 → (MI x1 (μ2.2.2 30) ∧ MC X W true d 290 [.ref P.1, .int 10, .int (μ2.2.1 30 x1.toNatClampNeg)] P μ2 (fun r3 μ3 => R 0 μ3) (fun _ => False))) ∧ (¬ r2 = 0 → MC X W true d 387 [.ref P.1, .int x2, .int r1] P μ2 (fun r4 μ4 => (((0 : Int) < r4.toInt → R 0 μ4) ∧ (r4.toInt ≤ (0 : Int) → (MI x1 (μ4.2.2 30) ∧ MC X W true d 290 [.ref P.1, .int 10, .int (μ4.2.1 30 x1.toNatClampNeg)] P μ4 (fun r5 μ5 => R 0 μ5) (fun _ => False))))) (fun _ => False)))) (fun _ => False)) (fun _ => False))) : ME X W true d 402 0 [(0, .ref P.1), (1, .int x1), (2, .int x2)] [] P μ R T := by
  refine me_go (pc1 := 2) (lv1 := [(0, .ref P.1), (1, .int x1), (2, .int x2)]) (st1 := [.ref P.1, .ref P.1]) 2 rfl ?_
  refine me_getf (v := .ref (P.2.1 23)) rfl rfl rfl ?_
  refine me_go (pc1 := 6) (lv1 := [(0, .ref P.1), (1, .int x1), (2, .int x2)]) (st1 := [.int x1, .ref (P.2.1 23), .ref P.1]) 1 rfl ?_
  refine me_iald rfl (g := 23) rfl rfl h.1 ?_
  replace h := h.2
  refine me_callN rfl rfl rfl (h.mono (fun r1 μ1 h => ?_) (fun _ h => h))
  refine me_go (pc1 := 13) (lv1 := [(3, .int r1), (0, .ref P.1), (1, .int x1), (2, .int x2)]) (st1 := [.int r1, .ref P.1]) 3 rfl ?_
  refine me_callN rfl rfl rfl (h.mono (fun r2 μ2 h => ?_) (fun _ h => h))
  refine me_ifc rfl rfl (fun c => ?_) (fun c => ?_)
  · replace h := h.1 (ci_eq c)
    refine me_go (pc1 := 32) (lv1 := [(3, .int r1), (0, .ref P.1), (1, .int x1), (2, .int x2)]) (st1 := [.ref P.1, .int 10, .ref P.1]) 3 rfl ?_
    refine me_getf (v := .ref (P.2.1 30)) rfl rfl rfl ?_
    refine me_go (pc1 := 36) (lv1 := [(3, .int r1), (0, .ref P.1), (1, .int x1), (2, .int x2)]) (st1 := [.int x1, .ref (P.2.1 30), .int 10, .ref P.1]) 1 rfl ?_
    refine me_iald rfl (g := 30) rfl rfl h.1 ?_
    replace h := h.2
    refine me_callN rfl rfl rfl (h.mono (fun r3 μ3 h => ?_) (fun _ h => h))
    exact me_ret (v := none) (r := 0) rfl rfl rfl h
  · replace h := h.2 (cn_eq c)
    refine me_go (pc1 := 22) (lv1 := [(3, .int r1), (0, .ref P.1), (1, .int x1), (2, .int x2)]) (st1 := [.int r1, .int x2, .ref P.1]) 3 rfl ?_
    refine me_callN rfl rfl rfl (h.mono (fun r4 μ4 h => ?_) (fun _ h => h))
    refine me_ifc rfl rfl (fun c => ?_) (fun c => ?_)
    · replace h := h.1 (ci_gt c)
      exact me_ret (v := none) (r := 0) rfl rfl rfl h
    · replace h := h.2 (cn_gt c)
      refine me_go (pc1 := 32) (lv1 := [(3, .int r1), (0, .ref P.1), (1, .int x1), (2, .int x2)]) (st1 := [.ref P.1, .int 10, .ref P.1]) 3 rfl ?_
      refine me_getf (v := .ref (P.2.1 30)) rfl rfl rfl ?_
      refine me_go (pc1 := 36) (lv1 := [(3, .int r1), (0, .ref P.1), (1, .int x1), (2, .int x2)]) (st1 := [.int x1, .ref (P.2.1 30), .int 10, .ref P.1]) 1 rfl ?_
      refine me_iald rfl (g := 30) rfl rfl h.1 ?_
      replace h := h.2
      refine me_callN rfl rfl rfl (h.mono (fun r5 μ5 h => ?_) (fun _ h => h))
      exact me_ret (v := none) (r := 0) rfl rfl rfl h
theorem v_memberRound_0 {X : ev_X} {W : Nat → Prop} {d : Nat} {P : MP} {μ : MS} {R : Int32 → MS → Prop} {T : MS → Prop} (x1 : Int32) (h : (MI x1 (μ.2.2 29) ∧ (MI x1 (μ.2.2 24) ∧ ME X W true d 403 14 [(0, .ref P.1), (1, .int x1), (2, .int (μ.2.1 29 x1.toNatClampNeg)), (3, .int (μ.2.1 24 x1.toNatClampNeg))] [] P μ R T))) : ME X W true d 403 0 [(0, .ref P.1), (1, .int x1)] [] P μ R T := by
  refine me_go (pc1 := 1) (lv1 := [(0, .ref P.1), (1, .int x1)]) (st1 := [.ref P.1]) 1 rfl ?_
  refine me_getf (v := .ref (P.2.1 29)) rfl rfl rfl ?_
  refine me_go (pc1 := 5) (lv1 := [(0, .ref P.1), (1, .int x1)]) (st1 := [.int x1, .ref (P.2.1 29)]) 1 rfl ?_
  refine me_iald rfl (g := 29) rfl rfl h.1 ?_
  replace h := h.2
  refine me_go (pc1 := 8) (lv1 := [(2, .int (μ.2.1 29 x1.toNatClampNeg)), (0, .ref P.1), (1, .int x1)]) (st1 := [.ref P.1]) 2 rfl ?_
  refine me_getf (v := .ref (P.2.1 24)) rfl rfl rfl ?_
  refine me_go (pc1 := 12) (lv1 := [(2, .int (μ.2.1 29 x1.toNatClampNeg)), (0, .ref P.1), (1, .int x1)]) (st1 := [.int x1, .ref (P.2.1 24)]) 1 rfl ?_
  refine me_iald rfl (g := 24) rfl rfl h.1 ?_
  replace h := h.2
  refine me_go (pc1 := 14) (lv1 := [(3, .int (μ.2.1 24 x1.toNatClampNeg)), (2, .int (μ.2.1 29 x1.toNatClampNeg)), (0, .ref P.1), (1, .int x1)]) (st1 := []) 1 rfl ?_
  refine me_lv [(0, .ref P.1), (1, .int x1), (2, .int (μ.2.1 29 x1.toNatClampNeg)), (3, .int (μ.2.1 24 x1.toNatClampNeg))] (fl_c rfl (fl_c rfl (fl_c rfl (fl_c rfl fl_0)))) ?_
  exact h
theorem v_memberRound_14 {X : ev_X} {W : Nat → Prop} {d : Nat} {P : MP} {μ : MS} {R : Int32 → MS → Prop} {T : MS → Prop} (x1 : Int32) (x2 : Int32) (x3 : Int32) (h : ((x3.toInt < (0 : Int) → MC X W true d 374 [.ref P.1, .int x1] P μ (fun r1 μ1 => MC X W true d 365 [.ref P.1, .int r1] P μ1 (fun r2 μ2 => (MI x1 (μ2.2.2 25) ∧ ME X W true d 403 93 [(0, .ref P.1), (1, .int x1), (2, .int x2), (3, .int r2), (4, .int (μ2.2.1 25 x1.toNatClampNeg))] [] P μ2 R T)) (fun _ => False)) (fun _ => False)) ∧ ((0 : Int) ≤ x3.toInt → (MI x3 (μ.2.2 24) ∧ (((μ.2.1 24 x3.toNatClampNeg).toInt < (0 : Int) → (MI x3 (μ.2.2 27) ∧ ME X W true d 403 14 [(0, .ref P.1), (1, .int x1), (2, .int x2), (3, .int (μ.2.1 27 x3.toNatClampNeg))] [] P μ R T)) ∧ ((0 : Int) ≤ (μ.2.1 24 x3.toNatClampNeg).toInt → (MI x1 (μ.2.2 73) ∧ (MI x3 (μ.2.2 24) ∧ (MI x3 (μ.2.2 23) ∧ MC X W true d 405 [.ref P.1, .int x2, .int (μ.2.1 73 x1.toNatClampNeg), .int (μ.2.1 24 x3.toNatClampNeg), .int (μ.2.1 23 x3.toNatClampNeg)] P μ (fun r3 μ3 => ((¬ r3 = 0 → (MI x3 (μ3.2.2 27) ∧ ME X W true d 403 14 [(0, .ref P.1), (1, .int x1), (2, .int x2), (3, .int (μ3.2.1 27 x3.toNatClampNeg))] [] P μ3 R T)) ∧ (r3 = 0 → (MI x3 (μ3.2.2 30) ∧ MC X W true d 290 [.ref P.1, .int 11, .int (μ3.2.1 30 x3.toNatClampNeg)] P μ3 (fun r4 μ4 => (MI x3 (μ4.2.2 27) ∧ ME X W true d 403 14 [(0, .ref P.1), (1, .int x1), (2, .int x2), (3, .int (μ4.2.1 27 x3.toNatClampNeg))] [] P μ4 R T)) (fun _ => False))))) (fun _ => False)))))))))) : ME X W true d 403 14 [(0, .ref P.1), (1, .int x1), (2, .int x2), (3, .int x3)] [] P μ R T := by
  refine me_go (pc1 := 15) (lv1 := [(0, .ref P.1), (1, .int x1), (2, .int x2), (3, .int x3)]) (st1 := [.int x3]) 1 rfl ?_
  refine me_ifc rfl rfl (fun c => ?_) (fun c => ?_)
  · replace h := h.1 (ci_lt c)
    refine me_go (pc1 := 78) (lv1 := [(0, .ref P.1), (1, .int x1), (2, .int x2), (3, .int x3)]) (st1 := [.int x1, .ref P.1, .ref P.1]) 3 rfl ?_
    refine me_callN rfl rfl rfl (h.mono (fun r1 μ1 h => ?_) (fun _ h => h))
    refine me_callN rfl rfl rfl (h.mono (fun r2 μ2 h => ?_) (fun _ h => h))
    refine me_go (pc1 := 86) (lv1 := [(3, .int r2), (0, .ref P.1), (1, .int x1), (2, .int x2)]) (st1 := [.ref P.1]) 2 rfl ?_
    refine me_getf (v := .ref (P.2.1 25)) rfl rfl rfl ?_
    refine me_go (pc1 := 90) (lv1 := [(3, .int r2), (0, .ref P.1), (1, .int x1), (2, .int x2)]) (st1 := [.int x1, .ref (P.2.1 25)]) 1 rfl ?_
    refine me_iald rfl (g := 25) rfl rfl h.1 ?_
    replace h := h.2
    refine me_go (pc1 := 93) (lv1 := [(4, .int (μ2.2.1 25 x1.toNatClampNeg)), (3, .int r2), (0, .ref P.1), (1, .int x1), (2, .int x2)]) (st1 := []) 1 rfl ?_
    refine me_lv [(0, .ref P.1), (1, .int x1), (2, .int x2), (3, .int r2), (4, .int (μ2.2.1 25 x1.toNatClampNeg))] (fl_c rfl (fl_c rfl (fl_c rfl (fl_c rfl (fl_c rfl fl_0))))) ?_
    exact h
  · replace h := h.2 (cn_lt c)
    refine me_go (pc1 := 19) (lv1 := [(0, .ref P.1), (1, .int x1), (2, .int x2), (3, .int x3)]) (st1 := [.ref P.1]) 1 rfl ?_
    refine me_getf (v := .ref (P.2.1 24)) rfl rfl rfl ?_
    refine me_go (pc1 := 23) (lv1 := [(0, .ref P.1), (1, .int x1), (2, .int x2), (3, .int x3)]) (st1 := [.int x3, .ref (P.2.1 24)]) 1 rfl ?_
    refine me_iald rfl (g := 24) rfl rfl h.1 ?_
    replace h := h.2
    refine me_ifc rfl rfl (fun c => ?_) (fun c => ?_)
    · replace h := h.1 (ci_lt c)
      refine me_go (pc1 := 66) (lv1 := [(0, .ref P.1), (1, .int x1), (2, .int x2), (3, .int x3)]) (st1 := [.ref P.1]) 1 rfl ?_
      refine me_getf (v := .ref (P.2.1 27)) rfl rfl rfl ?_
      refine me_go (pc1 := 70) (lv1 := [(0, .ref P.1), (1, .int x1), (2, .int x2), (3, .int x3)]) (st1 := [.int x3, .ref (P.2.1 27)]) 1 rfl ?_
      refine me_iald rfl (g := 27) rfl rfl h.1 ?_
      replace h := h.2
      refine me_go (pc1 := 14) (lv1 := [(3, .int (μ.2.1 27 x3.toNatClampNeg)), (0, .ref P.1), (1, .int x1), (2, .int x2)]) (st1 := []) 2 rfl ?_
      refine me_lv [(0, .ref P.1), (1, .int x1), (2, .int x2), (3, .int (μ.2.1 27 x3.toNatClampNeg))] (fl_c rfl (fl_c rfl (fl_c rfl (fl_c rfl fl_0)))) ?_
      exact h
    · replace h := h.2 (cn_lt c)
      refine me_go (pc1 := 30) (lv1 := [(0, .ref P.1), (1, .int x1), (2, .int x2), (3, .int x3)]) (st1 := [.ref P.1, .int x2, .ref P.1]) 3 rfl ?_
      refine me_getf (v := .ref (P.2.1 73)) rfl rfl rfl ?_
      refine me_go (pc1 := 34) (lv1 := [(0, .ref P.1), (1, .int x1), (2, .int x2), (3, .int x3)]) (st1 := [.int x1, .ref (P.2.1 73), .int x2, .ref P.1]) 1 rfl ?_
      refine me_iald rfl (g := 73) rfl rfl h.1 ?_
      replace h := h.2
      refine me_go (pc1 := 36) (lv1 := [(0, .ref P.1), (1, .int x1), (2, .int x2), (3, .int x3)]) (st1 := [.ref P.1, .int (μ.2.1 73 x1.toNatClampNeg), .int x2, .ref P.1]) 1 rfl ?_
      refine me_getf (v := .ref (P.2.1 24)) rfl rfl rfl ?_
      refine me_go (pc1 := 40) (lv1 := [(0, .ref P.1), (1, .int x1), (2, .int x2), (3, .int x3)]) (st1 := [.int x3, .ref (P.2.1 24), .int (μ.2.1 73 x1.toNatClampNeg), .int x2, .ref P.1]) 1 rfl ?_
      refine me_iald rfl (g := 24) rfl rfl h.1 ?_
      replace h := h.2
      refine me_go (pc1 := 42) (lv1 := [(0, .ref P.1), (1, .int x1), (2, .int x2), (3, .int x3)]) (st1 := [.ref P.1, .int (μ.2.1 24 x3.toNatClampNeg), .int (μ.2.1 73 x1.toNatClampNeg), .int x2, .ref P.1]) 1 rfl ?_
      refine me_getf (v := .ref (P.2.1 23)) rfl rfl rfl ?_
      refine me_go (pc1 := 46) (lv1 := [(0, .ref P.1), (1, .int x1), (2, .int x2), (3, .int x3)]) (st1 := [.int x3, .ref (P.2.1 23), .int (μ.2.1 24 x3.toNatClampNeg), .int (μ.2.1 73 x1.toNatClampNeg), .int x2, .ref P.1]) 1 rfl ?_
      refine me_iald rfl (g := 23) rfl rfl h.1 ?_
      replace h := h.2
      refine me_callN rfl rfl rfl (h.mono (fun r3 μ3 h => ?_) (fun _ h => h))
      refine me_ifc rfl rfl (fun c => ?_) (fun c => ?_)
      · replace h := h.1 (ci_ne c)
        refine me_go (pc1 := 66) (lv1 := [(0, .ref P.1), (1, .int x1), (2, .int x2), (3, .int x3)]) (st1 := [.ref P.1]) 1 rfl ?_
        refine me_getf (v := .ref (P.2.1 27)) rfl rfl rfl ?_
        refine me_go (pc1 := 70) (lv1 := [(0, .ref P.1), (1, .int x1), (2, .int x2), (3, .int x3)]) (st1 := [.int x3, .ref (P.2.1 27)]) 1 rfl ?_
        refine me_iald rfl (g := 27) rfl rfl h.1 ?_
        replace h := h.2
        refine me_go (pc1 := 14) (lv1 := [(3, .int (μ3.2.1 27 x3.toNatClampNeg)), (0, .ref P.1), (1, .int x1), (2, .int x2)]) (st1 := []) 2 rfl ?_
        refine me_lv [(0, .ref P.1), (1, .int x1), (2, .int x2), (3, .int (μ3.2.1 27 x3.toNatClampNeg))] (fl_c rfl (fl_c rfl (fl_c rfl (fl_c rfl fl_0)))) ?_
        exact h
      · replace h := h.2 (cn_ne c)
        refine me_go (pc1 := 57) (lv1 := [(0, .ref P.1), (1, .int x1), (2, .int x2), (3, .int x3)]) (st1 := [.ref P.1, .int 11, .ref P.1]) 3 rfl ?_
        refine me_getf (v := .ref (P.2.1 30)) rfl rfl rfl ?_
        refine me_go (pc1 := 61) (lv1 := [(0, .ref P.1), (1, .int x1), (2, .int x2), (3, .int x3)]) (st1 := [.int x3, .ref (P.2.1 30), .int 11, .ref P.1]) 1 rfl ?_
        refine me_iald rfl (g := 30) rfl rfl h.1 ?_
        replace h := h.2
        refine me_callN rfl rfl rfl (h.mono (fun r4 μ4 h => ?_) (fun _ h => h))
        refine me_go (pc1 := 66) (lv1 := [(0, .ref P.1), (1, .int x1), (2, .int x2), (3, .int x3)]) (st1 := [.ref P.1]) 1 rfl ?_
        refine me_getf (v := .ref (P.2.1 27)) rfl rfl rfl ?_
        refine me_go (pc1 := 70) (lv1 := [(0, .ref P.1), (1, .int x1), (2, .int x2), (3, .int x3)]) (st1 := [.int x3, .ref (P.2.1 27)]) 1 rfl ?_
        refine me_iald rfl (g := 27) rfl rfl h.1 ?_
        replace h := h.2
        refine me_go (pc1 := 14) (lv1 := [(3, .int (μ4.2.1 27 x3.toNatClampNeg)), (0, .ref P.1), (1, .int x1), (2, .int x2)]) (st1 := []) 2 rfl ?_
        refine me_lv [(0, .ref P.1), (1, .int x1), (2, .int x2), (3, .int (μ4.2.1 27 x3.toNatClampNeg))] (fl_c rfl (fl_c rfl (fl_c rfl (fl_c rfl fl_0)))) ?_
        exact h
theorem v_memberRound_93 {X : ev_X} {W : Nat → Prop} {d : Nat} {P : MP} {μ : MS} {R : Int32 → MS → Prop} {T : MS → Prop} (x1 : Int32) (x2 : Int32) (x3 : Int32) (x4 : Int32) (h : ((x4.toInt < (0 : Int) → R 0 μ) ∧ ((0 : Int) ≤ x4.toInt → MC X W true d 367 [.ref P.1, .int x3] P μ (fun r1 μ1 => ((r1 = 0 → (MI x4 (μ1.2.2 28) ∧ (MI x4 (μ1.2.2 30) ∧ MC X W true d 290 [.ref P.1, .int 11, .int (μ1.2.1 30 x4.toNatClampNeg)] P (mA1 μ1 28 x4.toNatClampNeg (μ1.1 80)) (fun r2 μ2 => (MI x4 (μ2.2.2 27) ∧ ME X W true d 403 93 [(0, .ref P.1), (1, .int x1), (2, .int x2), (3, .int x3), (4, .int (μ2.2.1 27 x4.toNatClampNeg))] [] P μ2 R T)) (fun _ => False)))) ∧ (¬ r1 = 0 → (MI x4 (μ1.2.2 22) ∧ MC X W true d 391 [.ref P.1, .int x2, .int x3, .int (μ1.2.1 22 x4.toNatClampNeg)] P μ1 (fun r3 μ3 => (MI x4 (μ3.2.2 28) ∧ ((r3.toInt < (0 : Int) → (MI x4 (μ3.2.2 30) ∧ MC X W true d 290 [.ref P.1, .int 11, .int (μ3.2.1 30 x4.toNatClampNeg)] P (mA1 μ3 28 x4.toNatClampNeg (μ3.1 80)) (fun r4 μ4 => (MI x4 (μ4.2.2 27) ∧ ME X W true d 403 93 [(0, .ref P.1), (1, .int x1), (2, .int x2), (3, .int x3), (4, .int (μ4.2.1 27 x4.toNatClampNeg))] [] P μ4 R T)) (fun _ => False))) ∧ ((0 : Int) ≤ r3.toInt → (MI r3 (μ3.2.2 20) ∧ ((¬ (μ3.2.1 20 r3.toNatClampNeg) = 34 → (MI x4 (μ3.2.2 30) ∧ MC X W true d 290 [.ref P.1, .int 11, .int (μ3.2.1 30 x4.toNatClampNeg)] P (mA1 μ3 28 x4.toNatClampNeg (μ3.1 80)) (fun r5 μ5 => (MI x4 (μ5.2.2 27) ∧ ME X W true d 403 93 [(0, .ref P.1), (1, .int x1), (2, .int x2), (3, .int x3), (4, .int (μ5.2.1 27 x4.toNatClampNeg))] [] P μ5 R T)) (fun _ => False))) ∧ ((μ3.2.1 20 r3.toNatClampNeg) = 34 → (MI x1 (μ3.2.2 73) ∧ (MI x4 (μ3.2.2 24) ∧ (MI r3 (μ3.2.2 23) ∧ MC X W true d 405 [.ref P.1, .int x2, .int (μ3.2.1 73 x1.toNatClampNeg), .int (μ3.2.1 24 x4.toNatClampNeg), .int (μ3.2.1 23 r3.toNatClampNeg)] P (mA1 μ3 28 x4.toNatClampNeg (μ3.1 80)) (fun r6 μ6 => ((¬ r6 = 0 → (MI x4 (μ6.2.2 27) ∧ ME X W true d 403 93 [(0, .ref P.1), (1, .int x1), (2, .int x2), (3, .int x3), (4, .int (μ6.2.1 27 x4.toNatClampNeg))] [] P μ6 R T)) ∧ (r6 = 0 → (MI x4 (μ6.2.2 30) ∧ MC X W true d 290 [.ref P.1, .int 11, .int (μ6.2.1 30 x4.toNatClampNeg)] P μ6 (fun r7 μ7 => (MI x4 (μ7.2.2 27) ∧ ME X W true d 403 93 [(0, .ref P.1), (1, .int x1), (2, .int x2), (3, .int x3), (4, .int (μ7.2.1 27 x4.toNatClampNeg))] [] P μ7 R T)) (fun _ => False))))) (fun _ => False))))))))))) (fun _ => False))))) (fun _ => False)))) : ME X W true d 403 93 [(0, .ref P.1), (1, .int x1), (2, .int x2), (3, .int x3), (4, .int x4)] [] P μ R T := by
  refine me_go (pc1 := 95) (lv1 := [(0, .ref P.1), (1, .int x1), (2, .int x2), (3, .int x3), (4, .int x4)]) (st1 := [.int x4]) 1 rfl ?_
  refine me_ifc rfl rfl (fun c => ?_) (fun c => ?_)
  · replace h := h.1 (ci_lt c)
    exact me_ret (v := none) (r := 0) rfl rfl rfl h
  · replace h := h.2 (cn_lt c)
    refine me_go (pc1 := 100) (lv1 := [(0, .ref P.1), (1, .int x1), (2, .int x2), (3, .int x3), (4, .int x4)]) (st1 := [.int x3, .ref P.1]) 2 rfl ?_
    refine me_callN rfl rfl rfl (h.mono (fun r1 μ1 h => ?_) (fun _ h => h))
    refine me_ifc rfl rfl (fun c => ?_) (fun c => ?_)
    · replace h := h.1 (ci_eq c)
      refine me_go (pc1 := 126) (lv1 := [(5, .int (-1)), (0, .ref P.1), (1, .int x1), (2, .int x2), (3, .int x3), (4, .int x4)]) (st1 := [.ref P.1]) 3 rfl ?_
      refine me_getf (v := .ref (P.2.1 28)) rfl rfl rfl ?_
      refine me_go (pc1 := 132) (lv1 := [(5, .int (-1)), (0, .ref P.1), (1, .int x1), (2, .int x2), (3, .int x3), (4, .int x4)]) (st1 := [.ref P.1, .int x4, .ref (P.2.1 28)]) 2 rfl ?_
      refine me_getf (v := .int (μ1.1 80)) rfl rfl rfl ?_
      have hi := h.1
      replace h := h.2
      refine me_iast rfl (g := 28) rfl rfl hi ?_
      refine me_go (pc1 := 138) (lv1 := [(5, .int (-1)), (0, .ref P.1), (1, .int x1), (2, .int x2), (3, .int x3), (4, .int x4)]) (st1 := [.int (-1)]) 1 rfl ?_
      refine me_ifc rfl rfl (fun _ => ?_) (fun c => absurd c (by decide))
      refine me_go (pc1 := 185) (lv1 := [(5, .int (-1)), (0, .ref P.1), (1, .int x1), (2, .int x2), (3, .int x3), (4, .int x4)]) (st1 := [.ref P.1, .int 11, .ref P.1]) 3 rfl ?_
      refine me_getf (v := .ref (P.2.1 30)) rfl rfl rfl ?_
      refine me_go (pc1 := 190) (lv1 := [(5, .int (-1)), (0, .ref P.1), (1, .int x1), (2, .int x2), (3, .int x3), (4, .int x4)]) (st1 := [.int x4, .ref (P.2.1 30), .int 11, .ref P.1]) 1 rfl ?_
      refine me_iald rfl (g := 30) rfl rfl h.1 ?_
      replace h := h.2
      refine me_callN rfl rfl rfl (h.mono (fun r2 μ2 h => ?_) (fun _ h => h))
      refine me_go (pc1 := 195) (lv1 := [(5, .int (-1)), (0, .ref P.1), (1, .int x1), (2, .int x2), (3, .int x3), (4, .int x4)]) (st1 := [.ref P.1]) 1 rfl ?_
      refine me_getf (v := .ref (P.2.1 27)) rfl rfl rfl ?_
      refine me_go (pc1 := 200) (lv1 := [(5, .int (-1)), (0, .ref P.1), (1, .int x1), (2, .int x2), (3, .int x3), (4, .int x4)]) (st1 := [.int x4, .ref (P.2.1 27)]) 1 rfl ?_
      refine me_iald rfl (g := 27) rfl rfl h.1 ?_
      replace h := h.2
      refine me_go (pc1 := 93) (lv1 := [(4, .int (μ2.2.1 27 x4.toNatClampNeg)), (5, .int (-1)), (0, .ref P.1), (1, .int x1), (2, .int x2), (3, .int x3)]) (st1 := []) 2 rfl ?_
      refine me_lv [(0, .ref P.1), (1, .int x1), (2, .int x2), (3, .int x3), (4, .int (μ2.2.1 27 x4.toNatClampNeg))] (fl_c rfl (fl_c rfl (fl_c rfl (fl_c rfl (fl_c rfl fl_0))))) ?_
      exact h
    · replace h := h.2 (cn_eq c)
      refine me_go (pc1 := 110) (lv1 := [(0, .ref P.1), (1, .int x1), (2, .int x2), (3, .int x3), (4, .int x4)]) (st1 := [.ref P.1, .int x3, .int x2, .ref P.1]) 4 rfl ?_
      refine me_getf (v := .ref (P.2.1 22)) rfl rfl rfl ?_
      refine me_go (pc1 := 115) (lv1 := [(0, .ref P.1), (1, .int x1), (2, .int x2), (3, .int x3), (4, .int x4)]) (st1 := [.int x4, .ref (P.2.1 22), .int x3, .int x2, .ref P.1]) 1 rfl ?_
      refine me_iald rfl (g := 22) rfl rfl h.1 ?_
      replace h := h.2
      refine me_callN rfl rfl rfl (h.mono (fun r3 μ3 h => ?_) (fun _ h => h))
      refine me_go (pc1 := 126) (lv1 := [(5, .int r3), (0, .ref P.1), (1, .int x1), (2, .int x2), (3, .int x3), (4, .int x4)]) (st1 := [.ref P.1]) 3 rfl ?_
      refine me_getf (v := .ref (P.2.1 28)) rfl rfl rfl ?_
      refine me_go (pc1 := 132) (lv1 := [(5, .int r3), (0, .ref P.1), (1, .int x1), (2, .int x2), (3, .int x3), (4, .int x4)]) (st1 := [.ref P.1, .int x4, .ref (P.2.1 28)]) 2 rfl ?_
      refine me_getf (v := .int (μ3.1 80)) rfl rfl rfl ?_
      have hi := h.1
      replace h := h.2
      refine me_iast rfl (g := 28) rfl rfl hi ?_
      refine me_go (pc1 := 138) (lv1 := [(5, .int r3), (0, .ref P.1), (1, .int x1), (2, .int x2), (3, .int x3), (4, .int x4)]) (st1 := [.int r3]) 1 rfl ?_
      refine me_ifc rfl rfl (fun c => ?_) (fun c => ?_)
      · replace h := h.1 (ci_lt c)
        refine me_go (pc1 := 185) (lv1 := [(5, .int r3), (0, .ref P.1), (1, .int x1), (2, .int x2), (3, .int x3), (4, .int x4)]) (st1 := [.ref P.1, .int 11, .ref P.1]) 3 rfl ?_
        refine me_getf (v := .ref (P.2.1 30)) rfl rfl rfl ?_
        refine me_go (pc1 := 190) (lv1 := [(5, .int r3), (0, .ref P.1), (1, .int x1), (2, .int x2), (3, .int x3), (4, .int x4)]) (st1 := [.int x4, .ref (P.2.1 30), .int 11, .ref P.1]) 1 rfl ?_
        refine me_iald rfl (g := 30) rfl rfl h.1 ?_
        replace h := h.2
        refine me_callN rfl rfl rfl (h.mono (fun r4 μ4 h => ?_) (fun _ h => h))
        refine me_go (pc1 := 195) (lv1 := [(5, .int r3), (0, .ref P.1), (1, .int x1), (2, .int x2), (3, .int x3), (4, .int x4)]) (st1 := [.ref P.1]) 1 rfl ?_
        refine me_getf (v := .ref (P.2.1 27)) rfl rfl rfl ?_
        refine me_go (pc1 := 200) (lv1 := [(5, .int r3), (0, .ref P.1), (1, .int x1), (2, .int x2), (3, .int x3), (4, .int x4)]) (st1 := [.int x4, .ref (P.2.1 27)]) 1 rfl ?_
        refine me_iald rfl (g := 27) rfl rfl h.1 ?_
        replace h := h.2
        refine me_go (pc1 := 93) (lv1 := [(4, .int (μ4.2.1 27 x4.toNatClampNeg)), (5, .int r3), (0, .ref P.1), (1, .int x1), (2, .int x2), (3, .int x3)]) (st1 := []) 2 rfl ?_
        refine me_lv [(0, .ref P.1), (1, .int x1), (2, .int x2), (3, .int x3), (4, .int (μ4.2.1 27 x4.toNatClampNeg))] (fl_c rfl (fl_c rfl (fl_c rfl (fl_c rfl (fl_c rfl fl_0))))) ?_
        exact h
      · replace h := h.2 (cn_lt c)
        refine me_go (pc1 := 142) (lv1 := [(5, .int r3), (0, .ref P.1), (1, .int x1), (2, .int x2), (3, .int x3), (4, .int x4)]) (st1 := [.ref P.1]) 1 rfl ?_
        refine me_getf (v := .ref (P.2.1 20)) rfl rfl rfl ?_
        refine me_go (pc1 := 147) (lv1 := [(5, .int r3), (0, .ref P.1), (1, .int x1), (2, .int x2), (3, .int x3), (4, .int x4)]) (st1 := [.int r3, .ref (P.2.1 20)]) 1 rfl ?_
        refine me_iald rfl (g := 20) rfl rfl h.1 ?_
        replace h := h.2
        refine me_go (pc1 := 150) (lv1 := [(5, .int r3), (0, .ref P.1), (1, .int x1), (2, .int x2), (3, .int x3), (4, .int x4)]) (st1 := [.int 34, .int (μ3.2.1 20 r3.toNatClampNeg)]) 1 rfl ?_
        refine me_icmp rfl rfl (fun c => ?_) (fun c => ?_)
        · replace h := h.1 (ci_ne c)
          refine me_go (pc1 := 185) (lv1 := [(5, .int r3), (0, .ref P.1), (1, .int x1), (2, .int x2), (3, .int x3), (4, .int x4)]) (st1 := [.ref P.1, .int 11, .ref P.1]) 3 rfl ?_
          refine me_getf (v := .ref (P.2.1 30)) rfl rfl rfl ?_
          refine me_go (pc1 := 190) (lv1 := [(5, .int r3), (0, .ref P.1), (1, .int x1), (2, .int x2), (3, .int x3), (4, .int x4)]) (st1 := [.int x4, .ref (P.2.1 30), .int 11, .ref P.1]) 1 rfl ?_
          refine me_iald rfl (g := 30) rfl rfl h.1 ?_
          replace h := h.2
          refine me_callN rfl rfl rfl (h.mono (fun r5 μ5 h => ?_) (fun _ h => h))
          refine me_go (pc1 := 195) (lv1 := [(5, .int r3), (0, .ref P.1), (1, .int x1), (2, .int x2), (3, .int x3), (4, .int x4)]) (st1 := [.ref P.1]) 1 rfl ?_
          refine me_getf (v := .ref (P.2.1 27)) rfl rfl rfl ?_
          refine me_go (pc1 := 200) (lv1 := [(5, .int r3), (0, .ref P.1), (1, .int x1), (2, .int x2), (3, .int x3), (4, .int x4)]) (st1 := [.int x4, .ref (P.2.1 27)]) 1 rfl ?_
          refine me_iald rfl (g := 27) rfl rfl h.1 ?_
          replace h := h.2
          refine me_go (pc1 := 93) (lv1 := [(4, .int (μ5.2.1 27 x4.toNatClampNeg)), (5, .int r3), (0, .ref P.1), (1, .int x1), (2, .int x2), (3, .int x3)]) (st1 := []) 2 rfl ?_
          refine me_lv [(0, .ref P.1), (1, .int x1), (2, .int x2), (3, .int x3), (4, .int (μ5.2.1 27 x4.toNatClampNeg))] (fl_c rfl (fl_c rfl (fl_c rfl (fl_c rfl (fl_c rfl fl_0))))) ?_
          exact h
        · replace h := h.2 (cn_ne c)
          refine me_go (pc1 := 156) (lv1 := [(5, .int r3), (0, .ref P.1), (1, .int x1), (2, .int x2), (3, .int x3), (4, .int x4)]) (st1 := [.ref P.1, .int x2, .ref P.1]) 3 rfl ?_
          refine me_getf (v := .ref (P.2.1 73)) rfl rfl rfl ?_
          refine me_go (pc1 := 160) (lv1 := [(5, .int r3), (0, .ref P.1), (1, .int x1), (2, .int x2), (3, .int x3), (4, .int x4)]) (st1 := [.int x1, .ref (P.2.1 73), .int x2, .ref P.1]) 1 rfl ?_
          refine me_iald rfl (g := 73) rfl rfl h.1 ?_
          replace h := h.2
          refine me_go (pc1 := 162) (lv1 := [(5, .int r3), (0, .ref P.1), (1, .int x1), (2, .int x2), (3, .int x3), (4, .int x4)]) (st1 := [.ref P.1, .int (μ3.2.1 73 x1.toNatClampNeg), .int x2, .ref P.1]) 1 rfl ?_
          refine me_getf (v := .ref (P.2.1 24)) rfl rfl rfl ?_
          refine me_go (pc1 := 167) (lv1 := [(5, .int r3), (0, .ref P.1), (1, .int x1), (2, .int x2), (3, .int x3), (4, .int x4)]) (st1 := [.int x4, .ref (P.2.1 24), .int (μ3.2.1 73 x1.toNatClampNeg), .int x2, .ref P.1]) 1 rfl ?_
          refine me_iald rfl (g := 24) rfl rfl h.1 ?_
          replace h := h.2
          refine me_go (pc1 := 169) (lv1 := [(5, .int r3), (0, .ref P.1), (1, .int x1), (2, .int x2), (3, .int x3), (4, .int x4)]) (st1 := [.ref P.1, .int (μ3.2.1 24 x4.toNatClampNeg), .int (μ3.2.1 73 x1.toNatClampNeg), .int x2, .ref P.1]) 1 rfl ?_
          refine me_getf (v := .ref (P.2.1 23)) rfl rfl rfl ?_
          refine me_go (pc1 := 174) (lv1 := [(5, .int r3), (0, .ref P.1), (1, .int x1), (2, .int x2), (3, .int x3), (4, .int x4)]) (st1 := [.int r3, .ref (P.2.1 23), .int (μ3.2.1 24 x4.toNatClampNeg), .int (μ3.2.1 73 x1.toNatClampNeg), .int x2, .ref P.1]) 1 rfl ?_
          refine me_iald rfl (g := 23) rfl rfl h.1 ?_
          replace h := h.2
          refine me_callN rfl rfl rfl (h.mono (fun r6 μ6 h => ?_) (fun _ h => h))
          refine me_ifc rfl rfl (fun c => ?_) (fun c => ?_)
          · replace h := h.1 (ci_ne c)
            refine me_go (pc1 := 195) (lv1 := [(5, .int r3), (0, .ref P.1), (1, .int x1), (2, .int x2), (3, .int x3), (4, .int x4)]) (st1 := [.ref P.1]) 1 rfl ?_
            refine me_getf (v := .ref (P.2.1 27)) rfl rfl rfl ?_
            refine me_go (pc1 := 200) (lv1 := [(5, .int r3), (0, .ref P.1), (1, .int x1), (2, .int x2), (3, .int x3), (4, .int x4)]) (st1 := [.int x4, .ref (P.2.1 27)]) 1 rfl ?_
            refine me_iald rfl (g := 27) rfl rfl h.1 ?_
            replace h := h.2
            refine me_go (pc1 := 93) (lv1 := [(4, .int (μ6.2.1 27 x4.toNatClampNeg)), (5, .int r3), (0, .ref P.1), (1, .int x1), (2, .int x2), (3, .int x3)]) (st1 := []) 2 rfl ?_
            refine me_lv [(0, .ref P.1), (1, .int x1), (2, .int x2), (3, .int x3), (4, .int (μ6.2.1 27 x4.toNatClampNeg))] (fl_c rfl (fl_c rfl (fl_c rfl (fl_c rfl (fl_c rfl fl_0))))) ?_
            exact h
          · replace h := h.2 (cn_ne c)
            refine me_go (pc1 := 185) (lv1 := [(5, .int r3), (0, .ref P.1), (1, .int x1), (2, .int x2), (3, .int x3), (4, .int x4)]) (st1 := [.ref P.1, .int 11, .ref P.1]) 3 rfl ?_
            refine me_getf (v := .ref (P.2.1 30)) rfl rfl rfl ?_
            refine me_go (pc1 := 190) (lv1 := [(5, .int r3), (0, .ref P.1), (1, .int x1), (2, .int x2), (3, .int x3), (4, .int x4)]) (st1 := [.int x4, .ref (P.2.1 30), .int 11, .ref P.1]) 1 rfl ?_
            refine me_iald rfl (g := 30) rfl rfl h.1 ?_
            replace h := h.2
            refine me_callN rfl rfl rfl (h.mono (fun r7 μ7 h => ?_) (fun _ h => h))
            refine me_go (pc1 := 195) (lv1 := [(5, .int r3), (0, .ref P.1), (1, .int x1), (2, .int x2), (3, .int x3), (4, .int x4)]) (st1 := [.ref P.1]) 1 rfl ?_
            refine me_getf (v := .ref (P.2.1 27)) rfl rfl rfl ?_
            refine me_go (pc1 := 200) (lv1 := [(5, .int r3), (0, .ref P.1), (1, .int x1), (2, .int x2), (3, .int x3), (4, .int x4)]) (st1 := [.int x4, .ref (P.2.1 27)]) 1 rfl ?_
            refine me_iald rfl (g := 27) rfl rfl h.1 ?_
            replace h := h.2
            refine me_go (pc1 := 93) (lv1 := [(4, .int (μ7.2.1 27 x4.toNatClampNeg)), (5, .int r3), (0, .ref P.1), (1, .int x1), (2, .int x2), (3, .int x3)]) (st1 := []) 2 rfl ?_
            refine me_lv [(0, .ref P.1), (1, .int x1), (2, .int x2), (3, .int x3), (4, .int (μ7.2.1 27 x4.toNatClampNeg))] (fl_c rfl (fl_c rfl (fl_c rfl (fl_c rfl (fl_c rfl fl_0))))) ?_
            exact h
theorem v_signatureOf_0 {X : ev_X} {W : Nat → Prop} {d : Nat} {P : MP} {μ : MS} {R : Int32 → MS → Prop} {T : MS → Prop} (x1 : Int32) (h : (MI x1 (μ.2.2 58) ∧ (((μ.2.1 58 x1.toNatClampNeg).toInt < (0 : Int) → (MI x1 (μ.2.2 57) ∧ (MI (μ.2.1 57 x1.toNatClampNeg) (μ.2.2 23) ∧ R (μ.2.1 23 ((μ.2.1 57 x1.toNatClampNeg)).toNatClampNeg) μ))) ∧ ((0 : Int) ≤ (μ.2.1 58 x1.toNatClampNeg).toInt → (MI x1 (μ.2.2 58) ∧ (MI (μ.2.1 58 x1.toNatClampNeg) (μ.2.2 23) ∧ R (μ.2.1 23 ((μ.2.1 58 x1.toNatClampNeg)).toNatClampNeg) μ)))))) : ME X W true d 404 0 [(0, .ref P.1), (1, .int x1)] [] P μ R T := by
  refine me_go (pc1 := 1) (lv1 := [(0, .ref P.1), (1, .int x1)]) (st1 := [.ref P.1]) 1 rfl ?_
  refine me_getf (v := .ref (P.2.1 23)) rfl rfl rfl ?_
  refine me_go (pc1 := 5) (lv1 := [(0, .ref P.1), (1, .int x1)]) (st1 := [.ref P.1, .ref (P.2.1 23)]) 1 rfl ?_
  refine me_getf (v := .ref (P.2.1 58)) rfl rfl rfl ?_
  refine me_go (pc1 := 9) (lv1 := [(0, .ref P.1), (1, .int x1)]) (st1 := [.int x1, .ref (P.2.1 58), .ref (P.2.1 23)]) 1 rfl ?_
  refine me_iald rfl (g := 58) rfl rfl h.1 ?_
  replace h := h.2
  refine me_ifc rfl rfl (fun c => ?_) (fun c => ?_)
  · replace h := h.1 (ci_lt c)
    refine me_go (pc1 := 23) (lv1 := [(0, .ref P.1), (1, .int x1)]) (st1 := [.ref P.1, .ref (P.2.1 23)]) 1 rfl ?_
    refine me_getf (v := .ref (P.2.1 57)) rfl rfl rfl ?_
    refine me_go (pc1 := 27) (lv1 := [(0, .ref P.1), (1, .int x1)]) (st1 := [.int x1, .ref (P.2.1 57), .ref (P.2.1 23)]) 1 rfl ?_
    refine me_iald rfl (g := 57) rfl rfl h.1 ?_
    replace h := h.2
    refine me_iald rfl (g := 23) rfl rfl h.1 ?_
    replace h := h.2
    exact me_ret rfl rfl rfl h
  · replace h := h.2 (cn_lt c)
    refine me_go (pc1 := 14) (lv1 := [(0, .ref P.1), (1, .int x1)]) (st1 := [.ref P.1, .ref (P.2.1 23)]) 1 rfl ?_
    refine me_getf (v := .ref (P.2.1 58)) rfl rfl rfl ?_
    refine me_go (pc1 := 18) (lv1 := [(0, .ref P.1), (1, .int x1)]) (st1 := [.int x1, .ref (P.2.1 58), .ref (P.2.1 23)]) 1 rfl ?_
    refine me_iald rfl (g := 58) rfl rfl h.1 ?_
    replace h := h.2
    refine me_go (pc1 := 28) (lv1 := [(0, .ref P.1), (1, .int x1)]) (st1 := [.int (μ.2.1 58 x1.toNatClampNeg), .ref (P.2.1 23)]) 1 rfl ?_
    refine me_iald rfl (g := 23) rfl rfl h.1 ?_
    replace h := h.2
    exact me_ret rfl rfl rfl h
theorem v_fits_0 {X : ev_X} {W : Nat → Prop} {d : Nat} {P : MP} {μ : MS} {R : Int32 → MS → Prop} {T : MS → Prop} (x1 : Int32) (x2 : Int32) (x3 : Int32) (x4 : Int32) (h : (MI x3 (μ.2.2 28) ∧ (MI (μ.2.1 28 x3.toNatClampNeg) (μ.2.2 46) ∧ (MI (μ.2.1 46 ((μ.2.1 28 x3.toNatClampNeg)).toNatClampNeg) (μ.2.2 23) ∧ (MI (μ.2.1 23 ((μ.2.1 46 ((μ.2.1 28 x3.toNatClampNeg)).toNatClampNeg)).toNatClampNeg) (μ.2.2 22) ∧ (((μ.2.1 22 ((μ.2.1 23 ((μ.2.1 46 ((μ.2.1 28 x3.toNatClampNeg)).toNatClampNeg)).toNatClampNeg)).toNatClampNeg).toInt < (0 : Int) → R 0 μ) ∧ ((0 : Int) ≤ (μ.2.1 22 ((μ.2.1 23 ((μ.2.1 46 ((μ.2.1 28 x3.toNatClampNeg)).toNatClampNeg)).toNatClampNeg)).toNatClampNeg).toInt → (MI (μ.2.1 22 ((μ.2.1 23 ((μ.2.1 46 ((μ.2.1 28 x3.toNatClampNeg)).toNatClampNeg)).toNatClampNeg)).toNatClampNeg) (μ.2.2 24) ∧ (((μ.2.1 24 ((μ.2.1 22 ((μ.2.1 23 ((μ.2.1 46 ((μ.2.1 28 x3.toNatClampNeg)).toNatClampNeg)).toNatClampNeg)).toNatClampNeg)).toNatClampNeg) = 1 → R 0 μ) ∧ (¬ (μ.2.1 24 ((μ.2.1 22 ((μ.2.1 23 ((μ.2.1 46 ((μ.2.1 28 x3.toNatClampNeg)).toNatClampNeg)).toNatClampNeg)).toNatClampNeg)).toNatClampNeg) = 1 → (MI (μ.2.1 22 ((μ.2.1 23 ((μ.2.1 46 ((μ.2.1 28 x3.toNatClampNeg)).toNatClampNeg)).toNatClampNeg)).toNatClampNeg) (μ.2.2 23) ∧ MC X W true d 390 [.ref P.1, .int x1, .int x2, .int (μ.2.1 23 ((μ.2.1 22 ((μ.2.1 23 ((μ.2.1 46 ((μ.2.1 28 x3.toNatClampNeg)).toNatClampNeg)).toNatClampNeg)).toNatClampNeg)).toNatClampNeg)] P μ (fun r1 μ1 => ((¬ r1 = 0 → MC X W true d 381 [.ref P.1, .int (μ.2.1 23 ((μ.2.1 46 ((μ.2.1 28 x3.toNatClampNeg)).toNatClampNeg)).toNatClampNeg), .int x4] P μ1 (fun r2 μ2 => ((r2 = 0 → R 0 μ2) ∧ (¬ r2 = 0 → (MI (μ.2.1 22 ((μ.2.1 23 ((μ.2.1 46 ((μ.2.1 28 x3.toNatClampNeg)).toNatClampNeg)).toNatClampNeg)).toNatClampNeg) (μ2.2.2 27) ∧ (MI x4 (μ2.2.2 22) ∧ MC X W true d 383 [.ref P.1, .int (μ.2.1 23 ((μ.2.1 46 ((μ.2.1 28 x3.toNatClampNeg)).toNatClampNeg)).toNatClampNeg), .int x4, .int (μ2.2.1 27 ((μ.2.1 22 ((μ.2.1 23 ((μ.2.1 46 ((μ.2.1 28 x3.toNatClampNeg)).toNatClampNeg)).toNatClampNeg)).toNatClampNeg)).toNatClampNeg), .int (μ2.2.1 22 x4.toNatClampNeg)] P μ2 (fun r3 μ3 => ((r3 = 0 → R 0 μ3) ∧ (¬ r3 = 0 → R 1 μ3))) (fun _ => False)))))) (fun _ => False)) ∧ (r1 = 0 → R 0 μ1))) (fun _ => False)))))))))))) : ME X W true d 405 0 [(0, .ref P.1), (1, .int x1), (2, .int x2), (3, .int x3), (4, .int x4)] [] P μ R T := by
  refine me_go (pc1 := 1) (lv1 := [(0, .ref P.1), (1, .int x1), (2, .int x2), (3, .int x3), (4, .int x4)]) (st1 := [.ref P.1]) 1 rfl ?_
  refine me_getf (v := .ref (P.2.1 23)) rfl rfl rfl ?_
  refine me_go (pc1 := 5) (lv1 := [(0, .ref P.1), (1, .int x1), (2, .int x2), (3, .int x3), (4, .int x4)]) (st1 := [.ref P.1, .ref (P.2.1 23)]) 1 rfl ?_
  refine me_getf (v := .ref (P.2.1 46)) rfl rfl rfl ?_
  refine me_go (pc1 := 9) (lv1 := [(0, .ref P.1), (1, .int x1), (2, .int x2), (3, .int x3), (4, .int x4)]) (st1 := [.ref P.1, .ref (P.2.1 46), .ref (P.2.1 23)]) 1 rfl ?_
  refine me_getf (v := .ref (P.2.1 28)) rfl rfl rfl ?_
  refine me_go (pc1 := 13) (lv1 := [(0, .ref P.1), (1, .int x1), (2, .int x2), (3, .int x3), (4, .int x4)]) (st1 := [.int x3, .ref (P.2.1 28), .ref (P.2.1 46), .ref (P.2.1 23)]) 1 rfl ?_
  refine me_iald rfl (g := 28) rfl rfl h.1 ?_
  replace h := h.2
  refine me_iald rfl (g := 46) rfl rfl h.1 ?_
  replace h := h.2
  refine me_iald rfl (g := 23) rfl rfl h.1 ?_
  replace h := h.2
  refine me_go (pc1 := 19) (lv1 := [(5, .int (μ.2.1 23 ((μ.2.1 46 ((μ.2.1 28 x3.toNatClampNeg)).toNatClampNeg)).toNatClampNeg)), (0, .ref P.1), (1, .int x1), (2, .int x2), (3, .int x3), (4, .int x4)]) (st1 := [.ref P.1]) 2 rfl ?_
  refine me_getf (v := .ref (P.2.1 22)) rfl rfl rfl ?_
  refine me_go (pc1 := 24) (lv1 := [(5, .int (μ.2.1 23 ((μ.2.1 46 ((μ.2.1 28 x3.toNatClampNeg)).toNatClampNeg)).toNatClampNeg)), (0, .ref P.1), (1, .int x1), (2, .int x2), (3, .int x3), (4, .int x4)]) (st1 := [.int (μ.2.1 23 ((μ.2.1 46 ((μ.2.1 28 x3.toNatClampNeg)).toNatClampNeg)).toNatClampNeg), .ref (P.2.1 22)]) 1 rfl ?_
  refine me_iald rfl (g := 22) rfl rfl h.1 ?_
  replace h := h.2
  refine me_go (pc1 := 29) (lv1 := [(6, .int (μ.2.1 22 ((μ.2.1 23 ((μ.2.1 46 ((μ.2.1 28 x3.toNatClampNeg)).toNatClampNeg)).toNatClampNeg)).toNatClampNeg)), (5, .int (μ.2.1 23 ((μ.2.1 46 ((μ.2.1 28 x3.toNatClampNeg)).toNatClampNeg)).toNatClampNeg)), (0, .ref P.1), (1, .int x1), (2, .int x2), (3, .int x3), (4, .int x4)]) (st1 := [.int (μ.2.1 22 ((μ.2.1 23 ((μ.2.1 46 ((μ.2.1 28 x3.toNatClampNeg)).toNatClampNeg)).toNatClampNeg)).toNatClampNeg)]) 2 rfl ?_
  refine me_ifc rfl rfl (fun c => ?_) (fun c => ?_)
  · replace h := h.1 (ci_lt c)
    refine me_go (pc1 := 60) (lv1 := [(6, .int (μ.2.1 22 ((μ.2.1 23 ((μ.2.1 46 ((μ.2.1 28 x3.toNatClampNeg)).toNatClampNeg)).toNatClampNeg)).toNatClampNeg)), (5, .int (μ.2.1 23 ((μ.2.1 46 ((μ.2.1 28 x3.toNatClampNeg)).toNatClampNeg)).toNatClampNeg)), (0, .ref P.1), (1, .int x1), (2, .int x2), (3, .int x3), (4, .int x4)]) (st1 := [.int 0]) 1 rfl ?_
    exact me_retB rfl rfl (by decide) h
  · replace h := h.2 (cn_lt c)
    refine me_go (pc1 := 33) (lv1 := [(6, .int (μ.2.1 22 ((μ.2.1 23 ((μ.2.1 46 ((μ.2.1 28 x3.toNatClampNeg)).toNatClampNeg)).toNatClampNeg)).toNatClampNeg)), (5, .int (μ.2.1 23 ((μ.2.1 46 ((μ.2.1 28 x3.toNatClampNeg)).toNatClampNeg)).toNatClampNeg)), (0, .ref P.1), (1, .int x1), (2, .int x2), (3, .int x3), (4, .int x4)]) (st1 := [.ref P.1]) 1 rfl ?_
    refine me_getf (v := .ref (P.2.1 24)) rfl rfl rfl ?_
    refine me_go (pc1 := 38) (lv1 := [(6, .int (μ.2.1 22 ((μ.2.1 23 ((μ.2.1 46 ((μ.2.1 28 x3.toNatClampNeg)).toNatClampNeg)).toNatClampNeg)).toNatClampNeg)), (5, .int (μ.2.1 23 ((μ.2.1 46 ((μ.2.1 28 x3.toNatClampNeg)).toNatClampNeg)).toNatClampNeg)), (0, .ref P.1), (1, .int x1), (2, .int x2), (3, .int x3), (4, .int x4)]) (st1 := [.int (μ.2.1 22 ((μ.2.1 23 ((μ.2.1 46 ((μ.2.1 28 x3.toNatClampNeg)).toNatClampNeg)).toNatClampNeg)).toNatClampNeg), .ref (P.2.1 24)]) 1 rfl ?_
    refine me_iald rfl (g := 24) rfl rfl h.1 ?_
    replace h := h.2
    refine me_go (pc1 := 40) (lv1 := [(6, .int (μ.2.1 22 ((μ.2.1 23 ((μ.2.1 46 ((μ.2.1 28 x3.toNatClampNeg)).toNatClampNeg)).toNatClampNeg)).toNatClampNeg)), (5, .int (μ.2.1 23 ((μ.2.1 46 ((μ.2.1 28 x3.toNatClampNeg)).toNatClampNeg)).toNatClampNeg)), (0, .ref P.1), (1, .int x1), (2, .int x2), (3, .int x3), (4, .int x4)]) (st1 := [.int 1, .int (μ.2.1 24 ((μ.2.1 22 ((μ.2.1 23 ((μ.2.1 46 ((μ.2.1 28 x3.toNatClampNeg)).toNatClampNeg)).toNatClampNeg)).toNatClampNeg)).toNatClampNeg)]) 1 rfl ?_
    refine me_icmp rfl rfl (fun c => ?_) (fun c => ?_)
    · replace h := h.1 (ci_eq c)
      refine me_go (pc1 := 60) (lv1 := [(6, .int (μ.2.1 22 ((μ.2.1 23 ((μ.2.1 46 ((μ.2.1 28 x3.toNatClampNeg)).toNatClampNeg)).toNatClampNeg)).toNatClampNeg)), (5, .int (μ.2.1 23 ((μ.2.1 46 ((μ.2.1 28 x3.toNatClampNeg)).toNatClampNeg)).toNatClampNeg)), (0, .ref P.1), (1, .int x1), (2, .int x2), (3, .int x3), (4, .int x4)]) (st1 := [.int 0]) 1 rfl ?_
      exact me_retB rfl rfl (by decide) h
    · replace h := h.2 (cn_eq c)
      refine me_go (pc1 := 47) (lv1 := [(6, .int (μ.2.1 22 ((μ.2.1 23 ((μ.2.1 46 ((μ.2.1 28 x3.toNatClampNeg)).toNatClampNeg)).toNatClampNeg)).toNatClampNeg)), (5, .int (μ.2.1 23 ((μ.2.1 46 ((μ.2.1 28 x3.toNatClampNeg)).toNatClampNeg)).toNatClampNeg)), (0, .ref P.1), (1, .int x1), (2, .int x2), (3, .int x3), (4, .int x4)]) (st1 := [.ref P.1, .int x2, .int x1, .ref P.1]) 4 rfl ?_
      refine me_getf (v := .ref (P.2.1 23)) rfl rfl rfl ?_
      refine me_go (pc1 := 52) (lv1 := [(6, .int (μ.2.1 22 ((μ.2.1 23 ((μ.2.1 46 ((μ.2.1 28 x3.toNatClampNeg)).toNatClampNeg)).toNatClampNeg)).toNatClampNeg)), (5, .int (μ.2.1 23 ((μ.2.1 46 ((μ.2.1 28 x3.toNatClampNeg)).toNatClampNeg)).toNatClampNeg)), (0, .ref P.1), (1, .int x1), (2, .int x2), (3, .int x3), (4, .int x4)]) (st1 := [.int (μ.2.1 22 ((μ.2.1 23 ((μ.2.1 46 ((μ.2.1 28 x3.toNatClampNeg)).toNatClampNeg)).toNatClampNeg)).toNatClampNeg), .ref (P.2.1 23), .int x2, .int x1, .ref P.1]) 1 rfl ?_
      refine me_iald rfl (g := 23) rfl rfl h.1 ?_
      replace h := h.2
      refine me_callN rfl rfl rfl (h.mono (fun r1 μ1 h => ?_) (fun _ h => h))
      refine me_ifc rfl rfl (fun c => ?_) (fun c => ?_)
      · replace h := h.1 (ci_ne c)
        refine me_go (pc1 := 66) (lv1 := [(6, .int (μ.2.1 22 ((μ.2.1 23 ((μ.2.1 46 ((μ.2.1 28 x3.toNatClampNeg)).toNatClampNeg)).toNatClampNeg)).toNatClampNeg)), (5, .int (μ.2.1 23 ((μ.2.1 46 ((μ.2.1 28 x3.toNatClampNeg)).toNatClampNeg)).toNatClampNeg)), (0, .ref P.1), (1, .int x1), (2, .int x2), (3, .int x3), (4, .int x4)]) (st1 := [.int x4, .int (μ.2.1 23 ((μ.2.1 46 ((μ.2.1 28 x3.toNatClampNeg)).toNatClampNeg)).toNatClampNeg), .ref P.1]) 3 rfl ?_
        refine me_callN rfl rfl rfl (h.mono (fun r2 μ2 h => ?_) (fun _ h => h))
        refine me_ifc rfl rfl (fun c => ?_) (fun c => ?_)
        · replace h := h.1 (ci_eq c)
          refine me_go (pc1 := 102) (lv1 := [(6, .int (μ.2.1 22 ((μ.2.1 23 ((μ.2.1 46 ((μ.2.1 28 x3.toNatClampNeg)).toNatClampNeg)).toNatClampNeg)).toNatClampNeg)), (5, .int (μ.2.1 23 ((μ.2.1 46 ((μ.2.1 28 x3.toNatClampNeg)).toNatClampNeg)).toNatClampNeg)), (0, .ref P.1), (1, .int x1), (2, .int x2), (3, .int x3), (4, .int x4)]) (st1 := [.int 0]) 1 rfl ?_
          exact me_retB rfl rfl (by decide) h
        · replace h := h.2 (cn_eq c)
          refine me_go (pc1 := 78) (lv1 := [(6, .int (μ.2.1 22 ((μ.2.1 23 ((μ.2.1 46 ((μ.2.1 28 x3.toNatClampNeg)).toNatClampNeg)).toNatClampNeg)).toNatClampNeg)), (5, .int (μ.2.1 23 ((μ.2.1 46 ((μ.2.1 28 x3.toNatClampNeg)).toNatClampNeg)).toNatClampNeg)), (0, .ref P.1), (1, .int x1), (2, .int x2), (3, .int x3), (4, .int x4)]) (st1 := [.ref P.1, .int x4, .int (μ.2.1 23 ((μ.2.1 46 ((μ.2.1 28 x3.toNatClampNeg)).toNatClampNeg)).toNatClampNeg), .ref P.1]) 4 rfl ?_
          refine me_getf (v := .ref (P.2.1 27)) rfl rfl rfl ?_
          refine me_go (pc1 := 83) (lv1 := [(6, .int (μ.2.1 22 ((μ.2.1 23 ((μ.2.1 46 ((μ.2.1 28 x3.toNatClampNeg)).toNatClampNeg)).toNatClampNeg)).toNatClampNeg)), (5, .int (μ.2.1 23 ((μ.2.1 46 ((μ.2.1 28 x3.toNatClampNeg)).toNatClampNeg)).toNatClampNeg)), (0, .ref P.1), (1, .int x1), (2, .int x2), (3, .int x3), (4, .int x4)]) (st1 := [.int (μ.2.1 22 ((μ.2.1 23 ((μ.2.1 46 ((μ.2.1 28 x3.toNatClampNeg)).toNatClampNeg)).toNatClampNeg)).toNatClampNeg), .ref (P.2.1 27), .int x4, .int (μ.2.1 23 ((μ.2.1 46 ((μ.2.1 28 x3.toNatClampNeg)).toNatClampNeg)).toNatClampNeg), .ref P.1]) 1 rfl ?_
          refine me_iald rfl (g := 27) rfl rfl h.1 ?_
          replace h := h.2
          refine me_go (pc1 := 85) (lv1 := [(6, .int (μ.2.1 22 ((μ.2.1 23 ((μ.2.1 46 ((μ.2.1 28 x3.toNatClampNeg)).toNatClampNeg)).toNatClampNeg)).toNatClampNeg)), (5, .int (μ.2.1 23 ((μ.2.1 46 ((μ.2.1 28 x3.toNatClampNeg)).toNatClampNeg)).toNatClampNeg)), (0, .ref P.1), (1, .int x1), (2, .int x2), (3, .int x3), (4, .int x4)]) (st1 := [.ref P.1, .int (μ2.2.1 27 ((μ.2.1 22 ((μ.2.1 23 ((μ.2.1 46 ((μ.2.1 28 x3.toNatClampNeg)).toNatClampNeg)).toNatClampNeg)).toNatClampNeg)).toNatClampNeg), .int x4, .int (μ.2.1 23 ((μ.2.1 46 ((μ.2.1 28 x3.toNatClampNeg)).toNatClampNeg)).toNatClampNeg), .ref P.1]) 1 rfl ?_
          refine me_getf (v := .ref (P.2.1 22)) rfl rfl rfl ?_
          refine me_go (pc1 := 90) (lv1 := [(6, .int (μ.2.1 22 ((μ.2.1 23 ((μ.2.1 46 ((μ.2.1 28 x3.toNatClampNeg)).toNatClampNeg)).toNatClampNeg)).toNatClampNeg)), (5, .int (μ.2.1 23 ((μ.2.1 46 ((μ.2.1 28 x3.toNatClampNeg)).toNatClampNeg)).toNatClampNeg)), (0, .ref P.1), (1, .int x1), (2, .int x2), (3, .int x3), (4, .int x4)]) (st1 := [.int x4, .ref (P.2.1 22), .int (μ2.2.1 27 ((μ.2.1 22 ((μ.2.1 23 ((μ.2.1 46 ((μ.2.1 28 x3.toNatClampNeg)).toNatClampNeg)).toNatClampNeg)).toNatClampNeg)).toNatClampNeg), .int x4, .int (μ.2.1 23 ((μ.2.1 46 ((μ.2.1 28 x3.toNatClampNeg)).toNatClampNeg)).toNatClampNeg), .ref P.1]) 1 rfl ?_
          refine me_iald rfl (g := 22) rfl rfl h.1 ?_
          replace h := h.2
          refine me_callN rfl rfl rfl (h.mono (fun r3 μ3 h => ?_) (fun _ h => h))
          refine me_ifc rfl rfl (fun c => ?_) (fun c => ?_)
          · replace h := h.1 (ci_eq c)
            refine me_go (pc1 := 102) (lv1 := [(6, .int (μ.2.1 22 ((μ.2.1 23 ((μ.2.1 46 ((μ.2.1 28 x3.toNatClampNeg)).toNatClampNeg)).toNatClampNeg)).toNatClampNeg)), (5, .int (μ.2.1 23 ((μ.2.1 46 ((μ.2.1 28 x3.toNatClampNeg)).toNatClampNeg)).toNatClampNeg)), (0, .ref P.1), (1, .int x1), (2, .int x2), (3, .int x3), (4, .int x4)]) (st1 := [.int 0]) 1 rfl ?_
            exact me_retB rfl rfl (by decide) h
          · replace h := h.2 (cn_eq c)
            refine me_go (pc1 := 102) (lv1 := [(6, .int (μ.2.1 22 ((μ.2.1 23 ((μ.2.1 46 ((μ.2.1 28 x3.toNatClampNeg)).toNatClampNeg)).toNatClampNeg)).toNatClampNeg)), (5, .int (μ.2.1 23 ((μ.2.1 46 ((μ.2.1 28 x3.toNatClampNeg)).toNatClampNeg)).toNatClampNeg)), (0, .ref P.1), (1, .int x1), (2, .int x2), (3, .int x3), (4, .int x4)]) (st1 := [.int 1]) 2 rfl ?_
            exact me_retB rfl rfl (by decide) h
      · replace h := h.2 (cn_ne c)
        refine me_go (pc1 := 60) (lv1 := [(6, .int (μ.2.1 22 ((μ.2.1 23 ((μ.2.1 46 ((μ.2.1 28 x3.toNatClampNeg)).toNatClampNeg)).toNatClampNeg)).toNatClampNeg)), (5, .int (μ.2.1 23 ((μ.2.1 46 ((μ.2.1 28 x3.toNatClampNeg)).toNatClampNeg)).toNatClampNeg)), (0, .ref P.1), (1, .int x1), (2, .int x2), (3, .int x3), (4, .int x4)]) (st1 := [.int 0]) 1 rfl ?_
        exact me_retB rfl rfl (by decide) h
