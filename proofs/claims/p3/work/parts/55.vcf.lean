theorem v_read_0 {X : ev_X} {W : Nat → Prop} {d : Nat} {P : MP} {μ : MS} {R : Int32 → MS → Prop} {T : MS → Prop}  (h : ME X W true d 438 25 [(0, .ref P.1), (1, .int 0)] [] P (mS1 (mS1 (mS1 (mS1 μ 0 0) 98 0) 100 0) 5 (μ.1 3)) R T) : ME X W true d 438 0 [(0, .ref P.1)] [] P μ R T := by
  refine me_go (pc1 := 2) (lv1 := [(0, .ref P.1)]) (st1 := [.int 0, .ref P.1]) 2 rfl ?_
  refine me_put rfl rfl rfl ?_
  refine me_go (pc1 := 7) (lv1 := [(0, .ref P.1)]) (st1 := [.int 0, .ref P.1]) 2 rfl ?_
  refine me_put rfl rfl rfl ?_
  refine me_go (pc1 := 12) (lv1 := [(0, .ref P.1)]) (st1 := [.int 0, .ref P.1]) 2 rfl ?_
  refine me_put rfl rfl rfl ?_
  refine me_go (pc1 := 17) (lv1 := [(0, .ref P.1)]) (st1 := [.ref P.1, .ref P.1]) 2 rfl ?_
  refine me_getf (v := .int (μ.1 3)) rfl rfl rfl ?_
  refine me_put rfl rfl rfl ?_
  refine me_go (pc1 := 25) (lv1 := [(1, .int 0), (0, .ref P.1)]) (st1 := []) 2 rfl ?_
  refine me_lv [(0, .ref P.1), (1, .int 0)] (fl_c rfl (fl_c rfl fl_0)) ?_
  exact h
theorem v_read_25 {X : ev_X} {W : Nat → Prop} {d : Nat} {P : MP} {μ : MS} {R : Int32 → MS → Prop} {T : MS → Prop} (x1 : Int32) (h : (((μ.1 5).toInt ≤ x1.toInt → MC X W true d 285 [.ref P.1] P (mS1 (mS1 μ 3 0) 17 0) (fun r1 μ1 => MC X W true d 301 [.ref P.1] P μ1 (fun r2 μ2 => MC X W true d 292 [.ref P.1, .int 26, .int (-1), .int (-1)] P μ2 (fun r3 μ3 => MC X W true d 292 [.ref P.1, .int 21, .int (-1), .int (-1)] P (mS1 μ3 65 r3) (fun r4 μ4 => MC X W true d 292 [.ref P.1, .int 22, .int (-1), .int (-1)] P (mS1 μ4 85 r4) (fun r5 μ5 => MC X W true d 349 [.ref P.1] P (mS1 μ5 86 r5) (fun r6 μ6 => ((¬ (μ6.1 17) = 0 → ME X W true d 438 137 [(0, .ref P.1), (1, .int x1)] [] P μ6 R T) ∧ ((μ6.1 17) = 0 → MC X W true d 394 [.ref P.1] P μ6 (fun r7 μ7 => ME X W true d 438 137 [(0, .ref P.1), (1, .int x1)] [] P μ7 R T) (fun _ => False)))) (fun _ => False)) (fun _ => False)) (fun _ => False)) (fun _ => False)) (fun μ2 => R ((μ2.1 17) + (16 * (μ2.1 18))) μ2)) (fun _ => False)) ∧ (x1.toInt < (μ.1 5).toInt → (MI x1 (μ.2.2 2) ∧ (MI x1 (μ.2.2 4) ∧ ME X W true d 438 25 [(0, .ref P.1), (1, .int (x1 + 1))] [] P (mA1 μ 4 x1.toNatClampNeg ((μ.2.1 2 x1.toNatClampNeg).toInt8.toInt32)) R T))))) : ME X W true d 438 25 [(0, .ref P.1), (1, .int x1)] [] P μ R T := by
  refine me_go (pc1 := 27) (lv1 := [(0, .ref P.1), (1, .int x1)]) (st1 := [.ref P.1, .int x1]) 2 rfl ?_
  refine me_getf (v := .int (μ.1 5)) rfl rfl rfl ?_
  refine me_icmp rfl rfl (fun c => ?_) (fun c => ?_)
  · replace h := h.1 (ci_ge c)
    refine me_go (pc1 := 53) (lv1 := [(0, .ref P.1), (1, .int x1)]) (st1 := [.int 0, .ref P.1]) 2 rfl ?_
    refine me_put rfl rfl rfl ?_
    refine me_go (pc1 := 58) (lv1 := [(0, .ref P.1), (1, .int x1)]) (st1 := [.int 0, .ref P.1]) 2 rfl ?_
    refine me_put rfl rfl rfl ?_
    refine me_go (pc1 := 62) (lv1 := [(0, .ref P.1), (1, .int x1)]) (st1 := [.ref P.1]) 1 rfl ?_
    refine me_callN rfl rfl rfl (h.mono (fun r1 μ1 h => ?_) (fun _ h => h))
    refine me_go (pc1 := 66) (lv1 := [(0, .ref P.1), (1, .int x1)]) (st1 := [.ref P.1]) 1 rfl ?_
    refine me_callHT (i := 1) (lv1 := [(0, .ref P.1)]) rfl rfl rfl rfl rfl rfl rfl rfl rfl rfl rfl (h.mono (fun r2 μ2 h => ?_) (fun μ2 h => ?_))
    · skip
      refine me_go (pc1 := 75) (lv1 := [(0, .ref P.1), (1, .int x1)]) (st1 := [.int (-1), .int (-1), .int 26, .ref P.1, .ref P.1]) 5 rfl ?_
      refine me_callN rfl rfl rfl (h.mono (fun r3 μ3 h => ?_) (fun _ h => h))
      refine me_put rfl rfl rfl ?_
      refine me_go (pc1 := 87) (lv1 := [(0, .ref P.1), (1, .int x1)]) (st1 := [.int (-1), .int (-1), .int 21, .ref P.1, .ref P.1]) 5 rfl ?_
      refine me_callN rfl rfl rfl (h.mono (fun r4 μ4 h => ?_) (fun _ h => h))
      refine me_put rfl rfl rfl ?_
      refine me_go (pc1 := 99) (lv1 := [(0, .ref P.1), (1, .int x1)]) (st1 := [.int (-1), .int (-1), .int 22, .ref P.1, .ref P.1]) 5 rfl ?_
      refine me_callN rfl rfl rfl (h.mono (fun r5 μ5 h => ?_) (fun _ h => h))
      refine me_put rfl rfl rfl ?_
      refine me_go (pc1 := 123) (lv1 := [(0, .ref P.1), (1, .int x1)]) (st1 := [.ref P.1]) 2 rfl ?_
      refine me_callN rfl rfl rfl (h.mono (fun r6 μ6 h => ?_) (fun _ h => h))
      refine me_go (pc1 := 127) (lv1 := [(0, .ref P.1), (1, .int x1)]) (st1 := [.ref P.1]) 1 rfl ?_
      refine me_getf (v := .int (μ6.1 17)) rfl rfl rfl ?_
      refine me_ifc rfl rfl (fun c => ?_) (fun c => ?_)
      · replace h := h.1 (ci_ne c)
        exact h
      · replace h := h.2 (cn_ne c)
        refine me_go (pc1 := 134) (lv1 := [(0, .ref P.1), (1, .int x1)]) (st1 := [.ref P.1]) 1 rfl ?_
        refine me_callN rfl rfl rfl (h.mono (fun r7 μ7 h => ?_) (fun _ h => h))
        exact h
    · skip
      refine me_go (pc1 := 110) (lv1 := [(0, .ref P.1)]) (st1 := [.ref P.1]) 1 rfl ?_
      refine me_getf (v := .int (μ2.1 17)) rfl rfl rfl ?_
      refine me_go (pc1 := 116) (lv1 := [(0, .ref P.1)]) (st1 := [.ref P.1, .int 16, .int (μ2.1 17)]) 2 rfl ?_
      refine me_getf (v := .int (μ2.1 18)) rfl rfl rfl ?_
      refine me_go (pc1 := 121) (lv1 := [(0, .ref P.1)]) (st1 := [.int ((μ2.1 17) + (16 * (μ2.1 18)))]) 2 rfl ?_
      exact me_ret rfl rfl rfl h
  · replace h := h.2 (cn_ge c)
    refine me_go (pc1 := 34) (lv1 := [(0, .ref P.1), (1, .int x1)]) (st1 := [.ref P.1]) 1 rfl ?_
    refine me_getf (v := .ref (P.2.1 4)) rfl rfl rfl ?_
    refine me_go (pc1 := 39) (lv1 := [(0, .ref P.1), (1, .int x1)]) (st1 := [.ref P.1, .int x1, .ref (P.2.1 4)]) 2 rfl ?_
    refine me_getf (v := .ref (P.2.1 2)) rfl rfl rfl ?_
    refine me_go (pc1 := 43) (lv1 := [(0, .ref P.1), (1, .int x1)]) (st1 := [.int x1, .ref (P.2.1 2), .int x1, .ref (P.2.1 4)]) 1 rfl ?_
    refine me_bald rfl (g := 2) rfl (Or.inl rfl) h.1 ?_
    replace h := h.2
    have hi := h.1
    replace h := h.2
    refine me_bast rfl (g := 4) rfl rfl hi ?_
    refine me_go (pc1 := 25) (lv1 := [(1, .int (x1 + 1)), (0, .ref P.1)]) (st1 := []) 2 rfl ?_
    refine me_lv [(0, .ref P.1), (1, .int (x1 + 1))] (fl_c rfl (fl_c rfl fl_0)) ?_
    exact h
theorem v_read_137 {X : ev_X} {W : Nat → Prop} {d : Nat} {P : MP} {μ : MS} {R : Int32 → MS → Prop} {T : MS → Prop} (x1 : Int32) (h : ((¬ (μ.1 17) = 0 → ME X W true d 438 148 [(0, .ref P.1), (1, .int x1)] [] P μ R T) ∧ ((μ.1 17) = 0 → MC X W true d 406 [.ref P.1] P μ (fun r1 μ1 => ME X W true d 438 148 [(0, .ref P.1), (1, .int x1)] [] P μ1 R T) (fun _ => False)))) : ME X W true d 438 137 [(0, .ref P.1), (1, .int x1)] [] P μ R T := by
  refine me_go (pc1 := 138) (lv1 := [(0, .ref P.1), (1, .int x1)]) (st1 := [.ref P.1]) 1 rfl ?_
  refine me_getf (v := .int (μ.1 17)) rfl rfl rfl ?_
  refine me_ifc rfl rfl (fun c => ?_) (fun c => ?_)
  · replace h := h.1 (ci_ne c)
    exact h
  · replace h := h.2 (cn_ne c)
    refine me_go (pc1 := 145) (lv1 := [(0, .ref P.1), (1, .int x1)]) (st1 := [.ref P.1]) 1 rfl ?_
    refine me_callN rfl rfl rfl (h.mono (fun r1 μ1 h => ?_) (fun _ h => h))
    exact h
theorem v_read_148 {X : ev_X} {W : Nat → Prop} {d : Nat} {P : MP} {μ : MS} {R : Int32 → MS → Prop} {T : MS → Prop} (x1 : Int32) (h : ((¬ (μ.1 17) = 0 → ME X W true d 438 159 [(0, .ref P.1), (1, .int x1)] [] P μ R T) ∧ ((μ.1 17) = 0 → MC X W true d 430 [.ref P.1] P μ (fun r1 μ1 => ME X W true d 438 159 [(0, .ref P.1), (1, .int x1)] [] P μ1 R T) (fun _ => False)))) : ME X W true d 438 148 [(0, .ref P.1), (1, .int x1)] [] P μ R T := by
  refine me_go (pc1 := 149) (lv1 := [(0, .ref P.1), (1, .int x1)]) (st1 := [.ref P.1]) 1 rfl ?_
  refine me_getf (v := .int (μ.1 17)) rfl rfl rfl ?_
  refine me_ifc rfl rfl (fun c => ?_) (fun c => ?_)
  · replace h := h.1 (ci_ne c)
    exact h
  · replace h := h.2 (cn_ne c)
    refine me_go (pc1 := 156) (lv1 := [(0, .ref P.1), (1, .int x1)]) (st1 := [.ref P.1]) 1 rfl ?_
    refine me_callN rfl rfl rfl (h.mono (fun r1 μ1 h => ?_) (fun _ h => h))
    exact h
theorem v_read_159 {X : ev_X} {W : Nat → Prop} {d : Nat} {P : MP} {μ : MS} {R : Int32 → MS → Prop} {T : MS → Prop} (x1 : Int32) (h : (((μ.1 17) = 0 → MC X W true d 435 [.ref P.1] P μ (fun r1 μ1 => R 0 (mS1 μ1 98 1)) (fun _ => False)) ∧ (¬ (μ.1 17) = 0 → R ((μ.1 17) + (16 * (μ.1 18))) μ))) : ME X W true d 438 159 [(0, .ref P.1), (1, .int x1)] [] P μ R T := by
  refine me_go (pc1 := 160) (lv1 := [(0, .ref P.1), (1, .int x1)]) (st1 := [.ref P.1]) 1 rfl ?_
  refine me_getf (v := .int (μ.1 17)) rfl rfl rfl ?_
  refine me_ifc rfl rfl (fun c => ?_) (fun c => ?_)
  · replace h := h.1 (ci_eq c)
    refine me_go (pc1 := 180) (lv1 := [(0, .ref P.1), (1, .int x1)]) (st1 := [.ref P.1]) 1 rfl ?_
    refine me_callN rfl rfl rfl (h.mono (fun r1 μ1 h => ?_) (fun _ h => h))
    refine me_go (pc1 := 185) (lv1 := [(0, .ref P.1), (1, .int x1)]) (st1 := [.int 1, .ref P.1]) 2 rfl ?_
    refine me_put rfl rfl rfl ?_
    refine me_go (pc1 := 189) (lv1 := [(0, .ref P.1), (1, .int x1)]) (st1 := [.int 0]) 1 rfl ?_
    exact me_ret rfl rfl rfl h
  · replace h := h.2 (cn_eq c)
    refine me_go (pc1 := 167) (lv1 := [(0, .ref P.1), (1, .int x1)]) (st1 := [.ref P.1]) 1 rfl ?_
    refine me_getf (v := .int (μ.1 17)) rfl rfl rfl ?_
    refine me_go (pc1 := 173) (lv1 := [(0, .ref P.1), (1, .int x1)]) (st1 := [.ref P.1, .int 16, .int (μ.1 17)]) 2 rfl ?_
    refine me_getf (v := .int (μ.1 18)) rfl rfl rfl ?_
    refine me_go (pc1 := 178) (lv1 := [(0, .ref P.1), (1, .int x1)]) (st1 := [.int ((μ.1 17) + (16 * (μ.1 18)))]) 2 rfl ?_
    exact me_ret rfl rfl rfl h
theorem v_isTold_0 {X : ev_X} {W : Nat → Prop} {d : Nat} {P : MP} {μ : MS} {R : Int32 → MS → Prop} {T : MS → Prop} (x1 : Int32) (h : (((μ.1 98) = 0 → R 0 μ) ∧ (¬ (μ.1 98) = 0 → ((x1.toInt < (0 : Int) → R 0 μ) ∧ ((0 : Int) ≤ x1.toInt → (((μ.1 60).toInt ≤ x1.toInt → R 0 μ) ∧ (x1.toInt < (μ.1 60).toInt → R 1 μ))))))) : ME X W true d 439 0 [(0, .ref P.1), (1, .int x1)] [] P μ R T := by
  refine me_go (pc1 := 1) (lv1 := [(0, .ref P.1), (1, .int x1)]) (st1 := [.ref P.1]) 1 rfl ?_
  refine me_getf (v := .int (μ.1 98)) rfl rfl rfl ?_
  refine me_ifc rfl rfl (fun c => ?_) (fun c => ?_)
  · replace h := h.1 (ci_eq c)
    refine me_go (pc1 := 24) (lv1 := [(0, .ref P.1), (1, .int x1)]) (st1 := [.int 0]) 1 rfl ?_
    exact me_retB rfl rfl (by decide) h
  · replace h := h.2 (cn_eq c)
    refine me_go (pc1 := 8) (lv1 := [(0, .ref P.1), (1, .int x1)]) (st1 := [.int x1]) 1 rfl ?_
    refine me_ifc rfl rfl (fun c => ?_) (fun c => ?_)
    · replace h := h.1 (ci_lt c)
      refine me_go (pc1 := 24) (lv1 := [(0, .ref P.1), (1, .int x1)]) (st1 := [.int 0]) 1 rfl ?_
      exact me_retB rfl rfl (by decide) h
    · replace h := h.2 (cn_lt c)
      refine me_go (pc1 := 13) (lv1 := [(0, .ref P.1), (1, .int x1)]) (st1 := [.ref P.1, .int x1]) 2 rfl ?_
      refine me_getf (v := .int (μ.1 60)) rfl rfl rfl ?_
      refine me_icmp rfl rfl (fun c => ?_) (fun c => ?_)
      · replace h := h.1 (ci_ge c)
        refine me_go (pc1 := 24) (lv1 := [(0, .ref P.1), (1, .int x1)]) (st1 := [.int 0]) 1 rfl ?_
        exact me_retB rfl rfl (by decide) h
      · replace h := h.2 (cn_ge c)
        refine me_go (pc1 := 24) (lv1 := [(0, .ref P.1), (1, .int x1)]) (st1 := [.int 1]) 2 rfl ?_
        exact me_retB rfl rfl (by decide) h
theorem v_toldType_0 {X : ev_X} {W : Nat → Prop} {d : Nat} {P : MP} {μ : MS} {R : Int32 → MS → Prop} {T : MS → Prop} (x1 : Int32) (h : (MI x1 (μ.2.2 61) ∧ (MI (μ.2.1 61 x1.toNatClampNeg) (μ.2.2 20) ∧ ((¬ (μ.2.1 20 ((μ.2.1 61 x1.toNatClampNeg)).toNatClampNeg) = 4 → (MI (μ.2.1 61 x1.toNatClampNeg) (μ.2.2 23) ∧ MC X W true d 365 [.ref P.1, .int (μ.2.1 23 ((μ.2.1 61 x1.toNatClampNeg)).toNatClampNeg)] P μ (fun r1 μ1 => R r1 μ1) (fun _ => False))) ∧ ((μ.2.1 20 ((μ.2.1 61 x1.toNatClampNeg)).toNatClampNeg) = 4 → R (μ.2.1 61 x1.toNatClampNeg) μ))))) : ME X W true d 440 0 [(0, .ref P.1), (1, .int x1)] [] P μ R T := by
  refine me_go (pc1 := 1) (lv1 := [(0, .ref P.1), (1, .int x1)]) (st1 := [.ref P.1]) 1 rfl ?_
  refine me_getf (v := .ref (P.2.1 61)) rfl rfl rfl ?_
  refine me_go (pc1 := 5) (lv1 := [(0, .ref P.1), (1, .int x1)]) (st1 := [.int x1, .ref (P.2.1 61)]) 1 rfl ?_
  refine me_iald rfl (g := 61) rfl rfl h.1 ?_
  replace h := h.2
  refine me_go (pc1 := 8) (lv1 := [(2, .int (μ.2.1 61 x1.toNatClampNeg)), (0, .ref P.1), (1, .int x1)]) (st1 := [.ref P.1]) 2 rfl ?_
  refine me_getf (v := .ref (P.2.1 20)) rfl rfl rfl ?_
  refine me_go (pc1 := 12) (lv1 := [(2, .int (μ.2.1 61 x1.toNatClampNeg)), (0, .ref P.1), (1, .int x1)]) (st1 := [.int (μ.2.1 61 x1.toNatClampNeg), .ref (P.2.1 20)]) 1 rfl ?_
  refine me_iald rfl (g := 20) rfl rfl h.1 ?_
  replace h := h.2
  refine me_go (pc1 := 14) (lv1 := [(2, .int (μ.2.1 61 x1.toNatClampNeg)), (0, .ref P.1), (1, .int x1)]) (st1 := [.int 4, .int (μ.2.1 20 ((μ.2.1 61 x1.toNatClampNeg)).toNatClampNeg)]) 1 rfl ?_
  refine me_icmp rfl rfl (fun c => ?_) (fun c => ?_)
  · replace h := h.1 (ci_ne c)
    refine me_go (pc1 := 23) (lv1 := [(2, .int (μ.2.1 61 x1.toNatClampNeg)), (0, .ref P.1), (1, .int x1)]) (st1 := [.ref P.1, .ref P.1]) 2 rfl ?_
    refine me_getf (v := .ref (P.2.1 23)) rfl rfl rfl ?_
    refine me_go (pc1 := 27) (lv1 := [(2, .int (μ.2.1 61 x1.toNatClampNeg)), (0, .ref P.1), (1, .int x1)]) (st1 := [.int (μ.2.1 61 x1.toNatClampNeg), .ref (P.2.1 23), .ref P.1]) 1 rfl ?_
    refine me_iald rfl (g := 23) rfl rfl h.1 ?_
    replace h := h.2
    refine me_callN rfl rfl rfl (h.mono (fun r1 μ1 h => ?_) (fun _ h => h))
    exact me_ret rfl rfl rfl h
  · replace h := h.2 (cn_ne c)
    refine me_go (pc1 := 31) (lv1 := [(2, .int (μ.2.1 61 x1.toNatClampNeg)), (0, .ref P.1), (1, .int x1)]) (st1 := [.int (μ.2.1 61 x1.toNatClampNeg)]) 2 rfl ?_
    exact me_ret rfl rfl rfl h
theorem v_alike_0 {X : ev_X} {W : Nat → Prop} {d : Nat} {P : MP} {μ : MS} {R : Int32 → MS → Prop} {T : MS → Prop} (x1 : Int32) (x2 : Int32) (h : MC X W true d 439 [.ref P.1, .int x1] P (mS1 μ 0 0) (fun r1 μ1 => ((r1 = 0 → R (-1) μ1) ∧ (¬ r1 = 0 → MC X W true d 439 [.ref P.1, .int x2] P μ1 (fun r2 μ2 => ((¬ r2 = 0 → MC X W true d 440 [.ref P.1, .int x1] P μ2 (fun r3 μ3 => MC X W true d 440 [.ref P.1, .int x2] P μ3 (fun r4 μ4 => MC X W true d 371 [.ref P.1, .int r3, .int r4] P μ4 (fun r5 μ5 => ((r5 = 0 → R 0 μ5) ∧ (¬ r5 = 0 → R 1 μ5))) (fun _ => False)) (fun _ => False)) (fun _ => False)) ∧ (r2 = 0 → R (-1) μ2))) (fun _ => False)))) (fun _ => False)) : ME X W true d 441 0 [(0, .ref P.1), (1, .int x1), (2, .int x2)] [] P μ R T := by
  refine me_go (pc1 := 2) (lv1 := [(0, .ref P.1), (1, .int x1), (2, .int x2)]) (st1 := [.int 0, .ref P.1]) 2 rfl ?_
  refine me_put rfl rfl rfl ?_
  refine me_go (pc1 := 7) (lv1 := [(0, .ref P.1), (1, .int x1), (2, .int x2)]) (st1 := [.int x1, .ref P.1]) 2 rfl ?_
  refine me_callN rfl rfl rfl (h.mono (fun r1 μ1 h => ?_) (fun _ h => h))
  refine me_ifc rfl rfl (fun c => ?_) (fun c => ?_)
  · replace h := h.1 (ci_eq c)
    refine me_go (pc1 := 22) (lv1 := [(0, .ref P.1), (1, .int x1), (2, .int x2)]) (st1 := [.int (-1)]) 1 rfl ?_
    exact me_ret rfl rfl rfl h
  · replace h := h.2 (cn_eq c)
    refine me_go (pc1 := 15) (lv1 := [(0, .ref P.1), (1, .int x1), (2, .int x2)]) (st1 := [.int x2, .ref P.1]) 2 rfl ?_
    refine me_callN rfl rfl rfl (h.mono (fun r2 μ2 h => ?_) (fun _ h => h))
    refine me_ifc rfl rfl (fun c => ?_) (fun c => ?_)
    · replace h := h.1 (ci_ne c)
      refine me_go (pc1 := 26) (lv1 := [(0, .ref P.1), (1, .int x1), (2, .int x2)]) (st1 := [.int x1, .ref P.1, .ref P.1]) 3 rfl ?_
      refine me_callN rfl rfl rfl (h.mono (fun r3 μ3 h => ?_) (fun _ h => h))
      refine me_go (pc1 := 31) (lv1 := [(0, .ref P.1), (1, .int x1), (2, .int x2)]) (st1 := [.int x2, .ref P.1, .int r3, .ref P.1]) 2 rfl ?_
      refine me_callN rfl rfl rfl (h.mono (fun r4 μ4 h => ?_) (fun _ h => h))
      refine me_callN rfl rfl rfl (h.mono (fun r5 μ5 h => ?_) (fun _ h => h))
      refine me_ifc rfl rfl (fun c => ?_) (fun c => ?_)
      · replace h := h.1 (ci_eq c)
        refine me_go (pc1 := 45) (lv1 := [(0, .ref P.1), (1, .int x1), (2, .int x2)]) (st1 := [.int 0]) 1 rfl ?_
        exact me_ret rfl rfl rfl h
      · replace h := h.2 (cn_eq c)
        refine me_go (pc1 := 45) (lv1 := [(0, .ref P.1), (1, .int x1), (2, .int x2)]) (st1 := [.int 1]) 2 rfl ?_
        exact me_ret rfl rfl rfl h
    · replace h := h.2 (cn_ne c)
      refine me_go (pc1 := 22) (lv1 := [(0, .ref P.1), (1, .int x1), (2, .int x2)]) (st1 := [.int (-1)]) 1 rfl ?_
      exact me_ret rfl rfl rfl h
theorem v_below_0 {X : ev_X} {W : Nat → Prop} {d : Nat} {P : MP} {μ : MS} {R : Int32 → MS → Prop} {T : MS → Prop} (x1 : Int32) (x2 : Int32) (x3 : Int32) (h : MC X W true d 439 [.ref P.1, .int x2] P (mS1 μ 0 0) (fun r1 μ1 => ((r1 = 0 → R (-1) μ1) ∧ (¬ r1 = 0 → MC X W true d 439 [.ref P.1, .int x3] P μ1 (fun r2 μ2 => ((r2 = 0 → R (-1) μ2) ∧ (¬ r2 = 0 → ((x1.toInt < (0 : Int) → R (-1) μ2) ∧ ((0 : Int) ≤ x1.toInt → ((x1.toInt < (μ2.1 41).toInt → MC X W true d 440 [.ref P.1, .int x2] P μ2 (fun r3 μ3 => MC X W true d 440 [.ref P.1, .int x3] P μ3 (fun r4 μ4 => MC X W true d 390 [.ref P.1, .int x1, .int r3, .int r4] P μ4 (fun r5 μ5 => ((r5 = 0 → R 0 μ5) ∧ (¬ r5 = 0 → R 1 μ5))) (fun _ => False)) (fun _ => False)) (fun _ => False)) ∧ ((μ2.1 41).toInt ≤ x1.toInt → R (-1) μ2))))))) (fun _ => False)))) (fun _ => False)) : ME X W true d 442 0 [(0, .ref P.1), (1, .int x1), (2, .int x2), (3, .int x3)] [] P μ R T := by
  refine me_go (pc1 := 2) (lv1 := [(0, .ref P.1), (1, .int x1), (2, .int x2), (3, .int x3)]) (st1 := [.int 0, .ref P.1]) 2 rfl ?_
  refine me_put rfl rfl rfl ?_
  refine me_go (pc1 := 7) (lv1 := [(0, .ref P.1), (1, .int x1), (2, .int x2), (3, .int x3)]) (st1 := [.int x2, .ref P.1]) 2 rfl ?_
  refine me_callN rfl rfl rfl (h.mono (fun r1 μ1 h => ?_) (fun _ h => h))
  refine me_ifc rfl rfl (fun c => ?_) (fun c => ?_)
  · replace h := h.1 (ci_eq c)
    refine me_go (pc1 := 34) (lv1 := [(0, .ref P.1), (1, .int x1), (2, .int x2), (3, .int x3)]) (st1 := [.int (-1)]) 1 rfl ?_
    exact me_ret rfl rfl rfl h
  · replace h := h.2 (cn_eq c)
    refine me_go (pc1 := 15) (lv1 := [(0, .ref P.1), (1, .int x1), (2, .int x2), (3, .int x3)]) (st1 := [.int x3, .ref P.1]) 2 rfl ?_
    refine me_callN rfl rfl rfl (h.mono (fun r2 μ2 h => ?_) (fun _ h => h))
    refine me_ifc rfl rfl (fun c => ?_) (fun c => ?_)
    · replace h := h.1 (ci_eq c)
      refine me_go (pc1 := 34) (lv1 := [(0, .ref P.1), (1, .int x1), (2, .int x2), (3, .int x3)]) (st1 := [.int (-1)]) 1 rfl ?_
      exact me_ret rfl rfl rfl h
    · replace h := h.2 (cn_eq c)
      refine me_go (pc1 := 22) (lv1 := [(0, .ref P.1), (1, .int x1), (2, .int x2), (3, .int x3)]) (st1 := [.int x1]) 1 rfl ?_
      refine me_ifc rfl rfl (fun c => ?_) (fun c => ?_)
      · replace h := h.1 (ci_lt c)
        refine me_go (pc1 := 34) (lv1 := [(0, .ref P.1), (1, .int x1), (2, .int x2), (3, .int x3)]) (st1 := [.int (-1)]) 1 rfl ?_
        exact me_ret rfl rfl rfl h
      · replace h := h.2 (cn_lt c)
        refine me_go (pc1 := 27) (lv1 := [(0, .ref P.1), (1, .int x1), (2, .int x2), (3, .int x3)]) (st1 := [.ref P.1, .int x1]) 2 rfl ?_
        refine me_getf (v := .int (μ2.1 41)) rfl rfl rfl ?_
        refine me_icmp rfl rfl (fun c => ?_) (fun c => ?_)
        · replace h := h.1 (ci_lt c)
          refine me_go (pc1 := 39) (lv1 := [(0, .ref P.1), (1, .int x1), (2, .int x2), (3, .int x3)]) (st1 := [.int x2, .ref P.1, .int x1, .ref P.1]) 4 rfl ?_
          refine me_callN rfl rfl rfl (h.mono (fun r3 μ3 h => ?_) (fun _ h => h))
          refine me_go (pc1 := 44) (lv1 := [(0, .ref P.1), (1, .int x1), (2, .int x2), (3, .int x3)]) (st1 := [.int x3, .ref P.1, .int r3, .int x1, .ref P.1]) 2 rfl ?_
          refine me_callN rfl rfl rfl (h.mono (fun r4 μ4 h => ?_) (fun _ h => h))
          refine me_callN rfl rfl rfl (h.mono (fun r5 μ5 h => ?_) (fun _ h => h))
          refine me_ifc rfl rfl (fun c => ?_) (fun c => ?_)
          · replace h := h.1 (ci_eq c)
            refine me_go (pc1 := 58) (lv1 := [(0, .ref P.1), (1, .int x1), (2, .int x2), (3, .int x3)]) (st1 := [.int 0]) 1 rfl ?_
            exact me_ret rfl rfl rfl h
          · replace h := h.2 (cn_eq c)
            refine me_go (pc1 := 58) (lv1 := [(0, .ref P.1), (1, .int x1), (2, .int x2), (3, .int x3)]) (st1 := [.int 1]) 2 rfl ?_
            exact me_ret rfl rfl rfl h
        · replace h := h.2 (cn_lt c)
          refine me_go (pc1 := 34) (lv1 := [(0, .ref P.1), (1, .int x1), (2, .int x2), (3, .int x3)]) (st1 := [.int (-1)]) 1 rfl ?_
          exact me_ret rfl rfl rfl h
theorem v_leastAlike_0 {X : ev_X} {W : Nat → Prop} {d : Nat} {P : MP} {μ : MS} {R : Int32 → MS → Prop} {T : MS → Prop} (x1 : Int32) (h : ME X W true d 443 2 [(0, .ref P.1), (1, .int x1), (2, .int 0)] [] P μ R T) : ME X W true d 443 0 [(0, .ref P.1), (1, .int x1)] [] P μ R T := by
  refine me_go (pc1 := 2) (lv1 := [(2, .int 0), (0, .ref P.1), (1, .int x1)]) (st1 := []) 2 rfl ?_
  refine me_lv [(0, .ref P.1), (1, .int x1), (2, .int 0)] (fl_c rfl (fl_c rfl (fl_c rfl fl_0))) ?_
  exact h
theorem v_leastAlike_2 {X : ev_X} {W : Nat → Prop} {d : Nat} {P : MP} {μ : MS} {R : Int32 → MS → Prop} {T : MS → Prop} (x1 : Int32) (x2 : Int32) (h : (((μ.1 60).toInt ≤ x2.toInt → R (-1) μ) ∧ (x2.toInt < (μ.1 60).toInt → MC X W true d 440 [.ref P.1, .int x2] P μ (fun r1 μ1 => MC X W true d 371 [.ref P.1, .int r1, .int x1] P μ1 (fun r2 μ2 => ((r2 = 0 → ME X W true d 443 2 [(0, .ref P.1), (1, .int x1), (2, .int (x2 + 1))] [] P μ2 R T) ∧ (¬ r2 = 0 → R x2 μ2))) (fun _ => False)) (fun _ => False)))) : ME X W true d 443 2 [(0, .ref P.1), (1, .int x1), (2, .int x2)] [] P μ R T := by
  refine me_go (pc1 := 4) (lv1 := [(0, .ref P.1), (1, .int x1), (2, .int x2)]) (st1 := [.ref P.1, .int x2]) 2 rfl ?_
  refine me_getf (v := .int (μ.1 60)) rfl rfl rfl ?_
  refine me_icmp rfl rfl (fun c => ?_) (fun c => ?_)
  · replace h := h.1 (ci_ge c)
    refine me_go (pc1 := 32) (lv1 := [(0, .ref P.1), (1, .int x1), (2, .int x2)]) (st1 := [.int (-1)]) 1 rfl ?_
    exact me_ret rfl rfl rfl h
  · replace h := h.2 (cn_ge c)
    refine me_go (pc1 := 13) (lv1 := [(0, .ref P.1), (1, .int x1), (2, .int x2)]) (st1 := [.int x2, .ref P.1, .ref P.1]) 3 rfl ?_
    refine me_callN rfl rfl rfl (h.mono (fun r1 μ1 h => ?_) (fun _ h => h))
    refine me_go (pc1 := 17) (lv1 := [(0, .ref P.1), (1, .int x1), (2, .int x2)]) (st1 := [.int x1, .int r1, .ref P.1]) 1 rfl ?_
    refine me_callN rfl rfl rfl (h.mono (fun r2 μ2 h => ?_) (fun _ h => h))
    refine me_ifc rfl rfl (fun c => ?_) (fun c => ?_)
    · replace h := h.1 (ci_eq c)
      refine me_go (pc1 := 2) (lv1 := [(2, .int (x2 + 1)), (0, .ref P.1), (1, .int x1)]) (st1 := []) 2 rfl ?_
      refine me_lv [(0, .ref P.1), (1, .int x1), (2, .int (x2 + 1))] (fl_c rfl (fl_c rfl (fl_c rfl fl_0))) ?_
      exact h
    · replace h := h.2 (cn_eq c)
      refine me_go (pc1 := 24) (lv1 := [(0, .ref P.1), (1, .int x1), (2, .int x2)]) (st1 := [.int x2]) 1 rfl ?_
      exact me_ret rfl rfl rfl h
theorem v_type__0 {X : ev_X} {W : Nat → Prop} {d : Nat} {P : MP} {μ : MS} {R : Int32 → MS → Prop} {T : MS → Prop} (x1 : Int32) (x2 : Int32) (h : MC X W true d 439 [.ref P.1, .int x1] P (mS1 μ 0 0) (fun r1 μ1 => ((¬ r1 = 0 → MC X W true d 440 [.ref P.1, .int x1] P μ1 (fun r2 μ2 => (((x2 = 0) → (MI x1 (μ2.2.2 61) ∧ (MI (μ2.2.1 61 x1.toNatClampNeg) (μ2.2.2 29) ∧ R (μ2.2.1 29 ((μ2.2.1 61 x1.toNatClampNeg)).toNatClampNeg) μ2))) ∧ ((x2 = 1) → (MI x1 (μ2.2.2 61) ∧ (MI (μ2.2.1 61 x1.toNatClampNeg) (μ2.2.2 21) ∧ R (μ2.2.1 21 ((μ2.2.1 61 x1.toNatClampNeg)).toNatClampNeg) μ2))) ∧ ((x2 = 2) → ME X W true d 444 87 [(0, .ref P.1), (1, .int x1), (2, .int x2), (3, .int r2), (4, .int 0)] [] P μ2 R T) ∧ ((x2 = 3) → MC X W true d 393 [.ref P.1, .int r2] P μ2 (fun r3 μ3 => R r3 μ3) (fun _ => False)) ∧ ((x2 = 4) → MC X W true d 367 [.ref P.1, .int r2] P μ2 (fun r4 μ4 => ((¬ r4 = 0 → MC X W true d 386 [.ref P.1, .int r2] P μ4 (fun r5 μ5 => R (μ5.1 74) μ5) (fun _ => False)) ∧ (r4 = 0 → R 0 μ4))) (fun _ => False)) ∧ ((x2 = 5) → MC X W true d 443 [.ref P.1, .int r2] P μ2 (fun r6 μ6 => R r6 μ6) (fun _ => False)) ∧ ((∀ v ∈ [(0 : Int32), (1 : Int32), (2 : Int32), (3 : Int32), (4 : Int32), (5 : Int32)], ¬ x2 = v) → R (-1) μ2))) (fun _ => False)) ∧ (r1 = 0 → R (-1) μ1))) (fun _ => False)) : ME X W true d 444 0 [(0, .ref P.1), (1, .int x1), (2, .int x2)] [] P μ R T := by
  refine me_go (pc1 := 2) (lv1 := [(0, .ref P.1), (1, .int x1), (2, .int x2)]) (st1 := [.int 0, .ref P.1]) 2 rfl ?_
  refine me_put rfl rfl rfl ?_
  refine me_go (pc1 := 7) (lv1 := [(0, .ref P.1), (1, .int x1), (2, .int x2)]) (st1 := [.int x1, .ref P.1]) 2 rfl ?_
  refine me_callN rfl rfl rfl (h.mono (fun r1 μ1 h => ?_) (fun _ h => h))
  refine me_ifc rfl rfl (fun c => ?_) (fun c => ?_)
  · replace h := h.1 (ci_ne c)
    refine me_go (pc1 := 17) (lv1 := [(0, .ref P.1), (1, .int x1), (2, .int x2)]) (st1 := [.int x1, .ref P.1]) 2 rfl ?_
    refine me_callN rfl rfl rfl (h.mono (fun r2 μ2 h => ?_) (fun _ h => h))
    refine me_go (pc1 := 22) (lv1 := [(3, .int r2), (0, .ref P.1), (1, .int x1), (2, .int x2)]) (st1 := [.int x2]) 2 rfl ?_
    have hD := h
    have q22_0 : (x2 = 0) → ME X W true d 444 60 [(3, .int r2), (0, .ref P.1), (1, .int x1), (2, .int x2)] [] P μ2 R T := fun c => by
        replace h := hD.1 c
        refine me_go (pc1 := 61) (lv1 := [(3, .int r2), (0, .ref P.1), (1, .int x1), (2, .int x2)]) (st1 := [.ref P.1]) 1 rfl ?_
        refine me_getf (v := .ref (P.2.1 29)) rfl rfl rfl ?_
        refine me_go (pc1 := 65) (lv1 := [(3, .int r2), (0, .ref P.1), (1, .int x1), (2, .int x2)]) (st1 := [.ref P.1, .ref (P.2.1 29)]) 1 rfl ?_
        refine me_getf (v := .ref (P.2.1 61)) rfl rfl rfl ?_
        refine me_go (pc1 := 69) (lv1 := [(3, .int r2), (0, .ref P.1), (1, .int x1), (2, .int x2)]) (st1 := [.int x1, .ref (P.2.1 61), .ref (P.2.1 29)]) 1 rfl ?_
        refine me_iald rfl (g := 61) rfl rfl h.1 ?_
        replace h := h.2
        refine me_iald rfl (g := 29) rfl rfl h.1 ?_
        replace h := h.2
        exact me_ret rfl rfl rfl h
    have q22_1 : (x2 = 1) → ME X W true d 444 72 [(3, .int r2), (0, .ref P.1), (1, .int x1), (2, .int x2)] [] P μ2 R T := fun c => by
        replace h := hD.2.1 c
        refine me_go (pc1 := 73) (lv1 := [(3, .int r2), (0, .ref P.1), (1, .int x1), (2, .int x2)]) (st1 := [.ref P.1]) 1 rfl ?_
        refine me_getf (v := .ref (P.2.1 21)) rfl rfl rfl ?_
        refine me_go (pc1 := 77) (lv1 := [(3, .int r2), (0, .ref P.1), (1, .int x1), (2, .int x2)]) (st1 := [.ref P.1, .ref (P.2.1 21)]) 1 rfl ?_
        refine me_getf (v := .ref (P.2.1 61)) rfl rfl rfl ?_
        refine me_go (pc1 := 81) (lv1 := [(3, .int r2), (0, .ref P.1), (1, .int x1), (2, .int x2)]) (st1 := [.int x1, .ref (P.2.1 61), .ref (P.2.1 21)]) 1 rfl ?_
        refine me_iald rfl (g := 61) rfl rfl h.1 ?_
        replace h := h.2
        refine me_iald rfl (g := 21) rfl rfl h.1 ?_
        replace h := h.2
        exact me_ret rfl rfl rfl h
    have q22_2 : (x2 = 2) → ME X W true d 444 84 [(3, .int r2), (0, .ref P.1), (1, .int x1), (2, .int x2)] [] P μ2 R T := fun c => by
        replace h := hD.2.2.1 c
        refine me_go (pc1 := 87) (lv1 := [(4, .int 0), (3, .int r2), (0, .ref P.1), (1, .int x1), (2, .int x2)]) (st1 := []) 2 rfl ?_
        refine me_lv [(0, .ref P.1), (1, .int x1), (2, .int x2), (3, .int r2), (4, .int 0)] (fl_c rfl (fl_c rfl (fl_c rfl (fl_c rfl (fl_c rfl fl_0))))) ?_
        exact h
    have q22_3 : (x2 = 3) → ME X W true d 444 122 [(3, .int r2), (0, .ref P.1), (1, .int x1), (2, .int x2)] [] P μ2 R T := fun c => by
        replace h := hD.2.2.2.1 c
        refine me_go (pc1 := 124) (lv1 := [(3, .int r2), (0, .ref P.1), (1, .int x1), (2, .int x2)]) (st1 := [.int r2, .ref P.1]) 2 rfl ?_
        refine me_callN rfl rfl rfl (h.mono (fun r3 μ3 h => ?_) (fun _ h => h))
        exact me_ret rfl rfl rfl h
    have q22_4 : (x2 = 4) → ME X W true d 444 128 [(3, .int r2), (0, .ref P.1), (1, .int x1), (2, .int x2)] [] P μ2 R T := fun c => by
        replace h := hD.2.2.2.2.1 c
        refine me_go (pc1 := 130) (lv1 := [(3, .int r2), (0, .ref P.1), (1, .int x1), (2, .int x2)]) (st1 := [.int r2, .ref P.1]) 2 rfl ?_
        refine me_callN rfl rfl rfl (h.mono (fun r4 μ4 h => ?_) (fun _ h => h))
        refine me_ifc rfl rfl (fun c => ?_) (fun c => ?_)
        · replace h := h.1 (ci_ne c)
          refine me_go (pc1 := 140) (lv1 := [(3, .int r2), (0, .ref P.1), (1, .int x1), (2, .int x2)]) (st1 := [.int r2, .ref P.1]) 2 rfl ?_
          refine me_callN rfl rfl rfl (h.mono (fun r5 μ5 h => ?_) (fun _ h => h))
          refine me_go (pc1 := 144) (lv1 := [(3, .int r2), (0, .ref P.1), (1, .int x1), (2, .int x2)]) (st1 := [.ref P.1]) 1 rfl ?_
          refine me_getf (v := .int (μ5.1 74)) rfl rfl rfl ?_
          exact me_ret rfl rfl rfl h
        · replace h := h.2 (cn_ne c)
          refine me_go (pc1 := 137) (lv1 := [(3, .int r2), (0, .ref P.1), (1, .int x1), (2, .int x2)]) (st1 := [.int 0]) 1 rfl ?_
          exact me_ret rfl rfl rfl h
    have q22_5 : (x2 = 5) → ME X W true d 444 148 [(3, .int r2), (0, .ref P.1), (1, .int x1), (2, .int x2)] [] P μ2 R T := fun c => by
        replace h := hD.2.2.2.2.2.1 c
        refine me_go (pc1 := 150) (lv1 := [(3, .int r2), (0, .ref P.1), (1, .int x1), (2, .int x2)]) (st1 := [.int r2, .ref P.1]) 2 rfl ?_
        refine me_callN rfl rfl rfl (h.mono (fun r6 μ6 h => ?_) (fun _ h => h))
        exact me_ret rfl rfl rfl h
    by_cases c : x2 = 0
    · exact me_sw rfl c (t := 60) rfl (q22_0 (c))
    rename ¬ x2 = 0 => n0
    by_cases c : x2 = 1
    · exact me_sw rfl c (t := 72) rfl (q22_1 (c))
    rename ¬ x2 = 1 => n1
    by_cases c : x2 = 2
    · exact me_sw rfl c (t := 84) rfl (q22_2 (c))
    rename ¬ x2 = 2 => n2
    by_cases c : x2 = 3
    · exact me_sw rfl c (t := 122) rfl (q22_3 (c))
    rename ¬ x2 = 3 => n3
    by_cases c : x2 = 4
    · exact me_sw rfl c (t := 128) rfl (q22_4 (c))
    rename ¬ x2 = 4 => n4
    by_cases c : x2 = 5
    · exact me_sw rfl c (t := 148) rfl (q22_5 (c))
    rename ¬ x2 = 5 => n5
    have hk : ∀ v ∈ [(0 : Int32), (1 : Int32), (2 : Int32), (3 : Int32), (4 : Int32), (5 : Int32)], ¬ x2 = v := fun v hv => by
      simp only [List.mem_cons, List.not_mem_nil, or_false] at hv
      rcases hv with rfl | rfl | rfl | rfl | rfl | rfl <;> assumption
    refine me_tsD (t := 154) rfl _ rfl rfl hk ?_
    replace h := hD.2.2.2.2.2.2 hk
    refine me_go (pc1 := 155) (lv1 := [(3, .int r2), (0, .ref P.1), (1, .int x1), (2, .int x2)]) (st1 := [.int (-1)]) 1 rfl ?_
    exact me_ret rfl rfl rfl h
  · replace h := h.2 (cn_ne c)
    refine me_go (pc1 := 14) (lv1 := [(0, .ref P.1), (1, .int x1), (2, .int x2)]) (st1 := [.int (-1)]) 1 rfl ?_
    exact me_ret rfl rfl rfl h
theorem v_type__87 {X : ev_X} {W : Nat → Prop} {d : Nat} {P : MP} {μ : MS} {R : Int32 → MS → Prop} {T : MS → Prop} (x1 : Int32) (x2 : Int32) (x3 : Int32) (x4 : Int32) (h : (((13 : Int) ≤ x4.toInt → R (-1) μ) ∧ (x4.toInt < (13 : Int) → (MI x4 13 ∧ (MI x3 (μ.2.2 20) ∧ ((¬ (kdB x4.toNatClampNeg) = (μ.2.1 20 x3.toNatClampNeg) → ME X W true d 444 87 [(0, .ref P.1), (1, .int x1), (2, .int x2), (3, .int x3), (4, .int (x4 + 1))] [] P μ R T) ∧ ((kdB x4.toNatClampNeg) = (μ.2.1 20 x3.toNatClampNeg) → R x4 μ))))))) : ME X W true d 444 87 [(0, .ref P.1), (1, .int x1), (2, .int x2), (3, .int x3), (4, .int x4)] [] P μ R T := by
  refine me_go (pc1 := 89) (lv1 := [(0, .ref P.1), (1, .int x1), (2, .int x2), (3, .int x3), (4, .int x4)]) (st1 := [.int x4]) 1 rfl ?_
  refine me_gks rfl ?_
  refine me_klen rfl ?_
  refine me_icmp rfl rfl (fun c => ?_) (fun c => ?_)
  · replace h := h.1 (ci_ge c)
    refine me_go (pc1 := 121) (lv1 := [(0, .ref P.1), (1, .int x1), (2, .int x2), (3, .int x3), (4, .int x4)]) (st1 := [.int (-1)]) 1 rfl ?_
    exact me_ret rfl rfl rfl h
  · replace h := h.2 (cn_ge c)
    refine me_gks rfl ?_
    refine me_go (pc1 := 101) (lv1 := [(0, .ref P.1), (1, .int x1), (2, .int x2), (3, .int x3), (4, .int x4)]) (st1 := [.int x4, .retAddr 3]) 1 rfl ?_
    refine me_kld rfl h.1 ?_
    replace h := h.2
    refine me_go (pc1 := 103) (lv1 := [(0, .ref P.1), (1, .int x1), (2, .int x2), (3, .int x3), (4, .int x4)]) (st1 := [.ref P.1, .int (kdB x4.toNatClampNeg)]) 1 rfl ?_
    refine me_getf (v := .ref (P.2.1 20)) rfl rfl rfl ?_
    refine me_go (pc1 := 107) (lv1 := [(0, .ref P.1), (1, .int x1), (2, .int x2), (3, .int x3), (4, .int x4)]) (st1 := [.int x3, .ref (P.2.1 20), .int (kdB x4.toNatClampNeg)]) 1 rfl ?_
    refine me_iald rfl (g := 20) rfl rfl h.1 ?_
    replace h := h.2
    refine me_icmp rfl rfl (fun c => ?_) (fun c => ?_)
    · replace h := h.1 (ci_ne c)
      refine me_go (pc1 := 87) (lv1 := [(4, .int (x4 + 1)), (0, .ref P.1), (1, .int x1), (2, .int x2), (3, .int x3)]) (st1 := []) 2 rfl ?_
      refine me_lv [(0, .ref P.1), (1, .int x1), (2, .int x2), (3, .int x3), (4, .int (x4 + 1))] (fl_c rfl (fl_c rfl (fl_c rfl (fl_c rfl (fl_c rfl fl_0))))) ?_
      exact h
    · replace h := h.2 (cn_ne c)
      refine me_go (pc1 := 113) (lv1 := [(0, .ref P.1), (1, .int x1), (2, .int x2), (3, .int x3), (4, .int x4)]) (st1 := [.int x4]) 1 rfl ?_
      exact me_ret rfl rfl rfl h
theorem v_sees_0 {X : ev_X} {W : Nat → Prop} {d : Nat} {P : MP} {μ : MS} {R : Int32 → MS → Prop} {T : MS → Prop} (x1 : Int32) (x2 : Int32) (h : MC X W true d 439 [.ref P.1, .int x2] P (mS1 μ 0 0) (fun r1 μ1 => ((r1 = 0 → R (-1) μ1) ∧ (¬ r1 = 0 → ((x1.toInt < (0 : Int) → R (-1) μ1) ∧ ((0 : Int) ≤ x1.toInt → (((μ1.1 41).toInt ≤ x1.toInt → R (-1) μ1) ∧ (x1.toInt < (μ1.1 41).toInt → MC X W true d 440 [.ref P.1, .int x2] P μ1 (fun r2 μ2 => MC X W true d 367 [.ref P.1, .int r2] P μ2 (fun r3 μ3 => ((¬ r3 = 0 → MC X W true d 440 [.ref P.1, .int x2] P μ3 (fun r4 μ4 => ME X W true d 445 48 [(0, .ref P.1), (1, .int x1), (2, .int x2), (3, .int 0), (4, .int r4)] [] P μ4 R T) (fun _ => False)) ∧ (r3 = 0 → R (-1) μ3))) (fun _ => False)) (fun _ => False)))))))) (fun _ => False)) : ME X W true d 445 0 [(0, .ref P.1), (1, .int x1), (2, .int x2)] [] P μ R T := by
  refine me_go (pc1 := 2) (lv1 := [(0, .ref P.1), (1, .int x1), (2, .int x2)]) (st1 := [.int 0, .ref P.1]) 2 rfl ?_
  refine me_put rfl rfl rfl ?_
  refine me_go (pc1 := 7) (lv1 := [(0, .ref P.1), (1, .int x1), (2, .int x2)]) (st1 := [.int x2, .ref P.1]) 2 rfl ?_
  refine me_callN rfl rfl rfl (h.mono (fun r1 μ1 h => ?_) (fun _ h => h))
  refine me_ifc rfl rfl (fun c => ?_) (fun c => ?_)
  · replace h := h.1 (ci_eq c)
    refine me_go (pc1 := 38) (lv1 := [(0, .ref P.1), (1, .int x1), (2, .int x2)]) (st1 := [.int (-1)]) 1 rfl ?_
    exact me_ret rfl rfl rfl h
  · replace h := h.2 (cn_eq c)
    refine me_go (pc1 := 14) (lv1 := [(0, .ref P.1), (1, .int x1), (2, .int x2)]) (st1 := [.int x1]) 1 rfl ?_
    refine me_ifc rfl rfl (fun c => ?_) (fun c => ?_)
    · replace h := h.1 (ci_lt c)
      refine me_go (pc1 := 38) (lv1 := [(0, .ref P.1), (1, .int x1), (2, .int x2)]) (st1 := [.int (-1)]) 1 rfl ?_
      exact me_ret rfl rfl rfl h
    · replace h := h.2 (cn_lt c)
      refine me_go (pc1 := 19) (lv1 := [(0, .ref P.1), (1, .int x1), (2, .int x2)]) (st1 := [.ref P.1, .int x1]) 2 rfl ?_
      refine me_getf (v := .int (μ1.1 41)) rfl rfl rfl ?_
      refine me_icmp rfl rfl (fun c => ?_) (fun c => ?_)
      · replace h := h.1 (ci_ge c)
        refine me_go (pc1 := 38) (lv1 := [(0, .ref P.1), (1, .int x1), (2, .int x2)]) (st1 := [.int (-1)]) 1 rfl ?_
        exact me_ret rfl rfl rfl h
      · replace h := h.2 (cn_ge c)
        refine me_go (pc1 := 28) (lv1 := [(0, .ref P.1), (1, .int x1), (2, .int x2)]) (st1 := [.int x2, .ref P.1, .ref P.1]) 3 rfl ?_
        refine me_callN rfl rfl rfl (h.mono (fun r2 μ2 h => ?_) (fun _ h => h))
        refine me_callN rfl rfl rfl (h.mono (fun r3 μ3 h => ?_) (fun _ h => h))
        refine me_ifc rfl rfl (fun c => ?_) (fun c => ?_)
        · replace h := h.1 (ci_ne c)
          refine me_go (pc1 := 43) (lv1 := [(3, .int 0), (0, .ref P.1), (1, .int x1), (2, .int x2)]) (st1 := [.int x2, .ref P.1]) 4 rfl ?_
          refine me_callN rfl rfl rfl (h.mono (fun r4 μ4 h => ?_) (fun _ h => h))
          refine me_go (pc1 := 48) (lv1 := [(4, .int r4), (3, .int 0), (0, .ref P.1), (1, .int x1), (2, .int x2)]) (st1 := []) 1 rfl ?_
          refine me_lv [(0, .ref P.1), (1, .int x1), (2, .int x2), (3, .int 0), (4, .int r4)] (fl_c rfl (fl_c rfl (fl_c rfl (fl_c rfl (fl_c rfl fl_0))))) ?_
          exact h
        · replace h := h.2 (cn_ne c)
          refine me_go (pc1 := 38) (lv1 := [(0, .ref P.1), (1, .int x1), (2, .int x2)]) (st1 := [.int (-1)]) 1 rfl ?_
          exact me_ret rfl rfl rfl h
theorem v_sees_48 {X : ev_X} {W : Nat → Prop} {d : Nat} {P : MP} {μ : MS} {R : Int32 → MS → Prop} {T : MS → Prop} (x1 : Int32) (x2 : Int32) (x3 : Int32) (x4 : Int32) (h : ((x4.toInt < (0 : Int) → R x3 μ) ∧ ((0 : Int) ≤ x4.toInt → MC X W true d 388 [.ref P.1, .int x1, .int x4] P μ (fun r1 μ1 => ME X W true d 445 48 [(0, .ref P.1), (1, .int x1), (2, .int x2), (3, .int (x3 + 1)), (4, .int r1)] [] P μ1 R T) (fun _ => False)))) : ME X W true d 445 48 [(0, .ref P.1), (1, .int x1), (2, .int x2), (3, .int x3), (4, .int x4)] [] P μ R T := by
  refine me_go (pc1 := 50) (lv1 := [(0, .ref P.1), (1, .int x1), (2, .int x2), (3, .int x3), (4, .int x4)]) (st1 := [.int x4]) 1 rfl ?_
  refine me_ifc rfl rfl (fun c => ?_) (fun c => ?_)
  · replace h := h.1 (ci_lt c)
    refine me_go (pc1 := 69) (lv1 := [(0, .ref P.1), (1, .int x1), (2, .int x2), (3, .int x3), (4, .int x4)]) (st1 := [.int x3]) 1 rfl ?_
    exact me_ret rfl rfl rfl h
  · replace h := h.2 (cn_lt c)
    refine me_go (pc1 := 60) (lv1 := [(3, .int (x3 + 1)), (0, .ref P.1), (1, .int x1), (2, .int x2), (4, .int x4)]) (st1 := [.int x4, .int x1, .ref P.1]) 4 rfl ?_
    refine me_callN rfl rfl rfl (h.mono (fun r1 μ1 h => ?_) (fun _ h => h))
    refine me_go (pc1 := 48) (lv1 := [(4, .int r1), (3, .int (x3 + 1)), (0, .ref P.1), (1, .int x1), (2, .int x2)]) (st1 := []) 2 rfl ?_
    refine me_lv [(0, .ref P.1), (1, .int x1), (2, .int x2), (3, .int (x3 + 1)), (4, .int r1)] (fl_c rfl (fl_c rfl (fl_c rfl (fl_c rfl (fl_c rfl fl_0))))) ?_
    exact h
theorem v_count_0 {X : ev_X} {W : Nat → Prop} {d : Nat} {P : MP} {μ : MS} {R : Int32 → MS → Prop} {T : MS → Prop} (x1 : Int32) (h : (((x1 = 0) → (((μ.1 98) = 0 → R 0 (mS1 μ 0 0)) ∧ (¬ (μ.1 98) = 0 → R ((μ.1 8) - 1) (mS1 μ 0 0)))) ∧ ((x1 = 1) → (((μ.1 98) = 0 → R 0 (mS1 μ 0 0)) ∧ (¬ (μ.1 98) = 0 → R (μ.1 41) (mS1 μ 0 0)))) ∧ ((x1 = 2) → (((μ.1 98) = 0 → R 0 (mS1 μ 0 0)) ∧ (¬ (μ.1 98) = 0 → R (μ.1 60) (mS1 μ 0 0)))) ∧ ((x1 = 3) → R (μ.1 3) (mS1 μ 0 0)) ∧ ((x1 = 4) → (((μ.1 98) = 0 → R 0 (mS1 μ 0 0)) ∧ (¬ (μ.1 98) = 0 → R (μ.1 83) (mS1 μ 0 0)))) ∧ ((x1 = 5) → ((¬ (μ.1 100) = 0 → ME X W true d 498 130 [(0, .ref P.1), (1, .int x1), (2, .int 0), (3, .int 0)] [] P (mS1 μ 0 0) R T) ∧ ((μ.1 100) = 0 → R 0 (mS1 μ 0 0)))) ∧ ((∀ v ∈ [(0 : Int32), (1 : Int32), (2 : Int32), (3 : Int32), (4 : Int32), (5 : Int32)], ¬ x1 = v) → ((x1.toInt < (6 : Int) → R (-1) (mS1 μ 0 0)) ∧ ((6 : Int) ≤ x1.toInt → ((x1.toInt ≤ (13 : Int) → (((μ.1 100) = 0 → R 0 (mS1 μ 0 0)) ∧ (¬ (μ.1 100) = 0 → MC X W true d 499 [.ref P.1, .int x1] P (mS1 μ 0 0) (fun r1 μ1 => R r1 μ1) (fun _ => False)))) ∧ ((13 : Int) < x1.toInt → R (-1) (mS1 μ 0 0)))))))) : ME X W true d 498 0 [(0, .ref P.1), (1, .int x1)] [] P μ R T := by
  refine me_go (pc1 := 2) (lv1 := [(0, .ref P.1), (1, .int x1)]) (st1 := [.int 0, .ref P.1]) 2 rfl ?_
  refine me_put rfl rfl rfl ?_
  refine me_go (pc1 := 8) (lv1 := [(2, .int 0), (0, .ref P.1), (1, .int x1)]) (st1 := [.int x1]) 3 rfl ?_
  have hD := h
  have q8_0 : (x1 = 0) → ME X W true d 498 48 [(2, .int 0), (0, .ref P.1), (1, .int x1)] [] P (mS1 μ 0 0) R T := fun c => by
      replace h := hD.1 c
      refine me_go (pc1 := 49) (lv1 := [(2, .int 0), (0, .ref P.1), (1, .int x1)]) (st1 := [.ref P.1]) 1 rfl ?_
      refine me_getf (v := .int (μ.1 98)) rfl rfl rfl ?_
      refine me_ifc rfl rfl (fun c => ?_) (fun c => ?_)
      · replace h := h.1 (ci_eq c)
        refine me_go (pc1 := 65) (lv1 := [(2, .int 0), (0, .ref P.1), (1, .int x1)]) (st1 := [.int 0]) 1 rfl ?_
        exact me_ret rfl rfl rfl h
      · replace h := h.2 (cn_eq c)
        refine me_go (pc1 := 56) (lv1 := [(2, .int 0), (0, .ref P.1), (1, .int x1)]) (st1 := [.ref P.1]) 1 rfl ?_
        refine me_getf (v := .int (μ.1 8)) rfl rfl rfl ?_
        refine me_go (pc1 := 65) (lv1 := [(2, .int 0), (0, .ref P.1), (1, .int x1)]) (st1 := [.int ((μ.1 8) - 1)]) 3 rfl ?_
        exact me_ret rfl rfl rfl h
  have q8_1 : (x1 = 1) → ME X W true d 498 66 [(2, .int 0), (0, .ref P.1), (1, .int x1)] [] P (mS1 μ 0 0) R T := fun c => by
      replace h := hD.2.1 c
      refine me_go (pc1 := 67) (lv1 := [(2, .int 0), (0, .ref P.1), (1, .int x1)]) (st1 := [.ref P.1]) 1 rfl ?_
      refine me_getf (v := .int (μ.1 98)) rfl rfl rfl ?_
      refine me_ifc rfl rfl (fun c => ?_) (fun c => ?_)
      · replace h := h.1 (ci_eq c)
        refine me_go (pc1 := 81) (lv1 := [(2, .int 0), (0, .ref P.1), (1, .int x1)]) (st1 := [.int 0]) 1 rfl ?_
        exact me_ret rfl rfl rfl h
      · replace h := h.2 (cn_eq c)
        refine me_go (pc1 := 74) (lv1 := [(2, .int 0), (0, .ref P.1), (1, .int x1)]) (st1 := [.ref P.1]) 1 rfl ?_
        refine me_getf (v := .int (μ.1 41)) rfl rfl rfl ?_
        refine me_go (pc1 := 81) (lv1 := [(2, .int 0), (0, .ref P.1), (1, .int x1)]) (st1 := [.int (μ.1 41)]) 1 rfl ?_
        exact me_ret rfl rfl rfl h
  have q8_2 : (x1 = 2) → ME X W true d 498 82 [(2, .int 0), (0, .ref P.1), (1, .int x1)] [] P (mS1 μ 0 0) R T := fun c => by
      replace h := hD.2.2.1 c
      refine me_go (pc1 := 83) (lv1 := [(2, .int 0), (0, .ref P.1), (1, .int x1)]) (st1 := [.ref P.1]) 1 rfl ?_
      refine me_getf (v := .int (μ.1 98)) rfl rfl rfl ?_
      refine me_ifc rfl rfl (fun c => ?_) (fun c => ?_)
      · replace h := h.1 (ci_eq c)
        refine me_go (pc1 := 97) (lv1 := [(2, .int 0), (0, .ref P.1), (1, .int x1)]) (st1 := [.int 0]) 1 rfl ?_
        exact me_ret rfl rfl rfl h
      · replace h := h.2 (cn_eq c)
        refine me_go (pc1 := 90) (lv1 := [(2, .int 0), (0, .ref P.1), (1, .int x1)]) (st1 := [.ref P.1]) 1 rfl ?_
        refine me_getf (v := .int (μ.1 60)) rfl rfl rfl ?_
        refine me_go (pc1 := 97) (lv1 := [(2, .int 0), (0, .ref P.1), (1, .int x1)]) (st1 := [.int (μ.1 60)]) 1 rfl ?_
        exact me_ret rfl rfl rfl h
  have q8_3 : (x1 = 3) → ME X W true d 498 98 [(2, .int 0), (0, .ref P.1), (1, .int x1)] [] P (mS1 μ 0 0) R T := fun c => by
      replace h := hD.2.2.2.1 c
      refine me_go (pc1 := 99) (lv1 := [(2, .int 0), (0, .ref P.1), (1, .int x1)]) (st1 := [.ref P.1]) 1 rfl ?_
      refine me_getf (v := .int (μ.1 3)) rfl rfl rfl ?_
      exact me_ret rfl rfl rfl h
  have q8_4 : (x1 = 4) → ME X W true d 498 103 [(2, .int 0), (0, .ref P.1), (1, .int x1)] [] P (mS1 μ 0 0) R T := fun c => by
      replace h := hD.2.2.2.2.1 c
      refine me_go (pc1 := 104) (lv1 := [(2, .int 0), (0, .ref P.1), (1, .int x1)]) (st1 := [.ref P.1]) 1 rfl ?_
      refine me_getf (v := .int (μ.1 98)) rfl rfl rfl ?_
      refine me_ifc rfl rfl (fun c => ?_) (fun c => ?_)
      · replace h := h.1 (ci_eq c)
        refine me_go (pc1 := 118) (lv1 := [(2, .int 0), (0, .ref P.1), (1, .int x1)]) (st1 := [.int 0]) 1 rfl ?_
        exact me_ret rfl rfl rfl h
      · replace h := h.2 (cn_eq c)
        refine me_go (pc1 := 111) (lv1 := [(2, .int 0), (0, .ref P.1), (1, .int x1)]) (st1 := [.ref P.1]) 1 rfl ?_
        refine me_getf (v := .int (μ.1 83)) rfl rfl rfl ?_
        refine me_go (pc1 := 118) (lv1 := [(2, .int 0), (0, .ref P.1), (1, .int x1)]) (st1 := [.int (μ.1 83)]) 1 rfl ?_
        exact me_ret rfl rfl rfl h
  have q8_5 : (x1 = 5) → ME X W true d 498 119 [(2, .int 0), (0, .ref P.1), (1, .int x1)] [] P (mS1 μ 0 0) R T := fun c => by
      replace h := hD.2.2.2.2.2.1 c
      refine me_go (pc1 := 120) (lv1 := [(2, .int 0), (0, .ref P.1), (1, .int x1)]) (st1 := [.ref P.1]) 1 rfl ?_
      refine me_getf (v := .int (μ.1 100)) rfl rfl rfl ?_
      refine me_ifc rfl rfl (fun c => ?_) (fun c => ?_)
      · replace h := h.1 (ci_ne c)
        refine me_go (pc1 := 130) (lv1 := [(3, .int 0), (2, .int 0), (0, .ref P.1), (1, .int x1)]) (st1 := []) 2 rfl ?_
        refine me_lv [(0, .ref P.1), (1, .int x1), (2, .int 0), (3, .int 0)] (fl_c rfl (fl_c rfl (fl_c rfl (fl_c rfl fl_0)))) ?_
        exact h
      · replace h := h.2 (cn_ne c)
        refine me_go (pc1 := 127) (lv1 := [(2, .int 0), (0, .ref P.1), (1, .int x1)]) (st1 := [.int 0]) 1 rfl ?_
        exact me_ret rfl rfl rfl h
  by_cases c : x1 = 0
  · exact me_sw rfl c (t := 48) rfl (q8_0 (c))
  rename ¬ x1 = 0 => n0
  by_cases c : x1 = 1
  · exact me_sw rfl c (t := 66) rfl (q8_1 (c))
  rename ¬ x1 = 1 => n1
  by_cases c : x1 = 2
  · exact me_sw rfl c (t := 82) rfl (q8_2 (c))
  rename ¬ x1 = 2 => n2
  by_cases c : x1 = 3
  · exact me_sw rfl c (t := 98) rfl (q8_3 (c))
  rename ¬ x1 = 3 => n3
  by_cases c : x1 = 4
  · exact me_sw rfl c (t := 103) rfl (q8_4 (c))
  rename ¬ x1 = 4 => n4
  by_cases c : x1 = 5
  · exact me_sw rfl c (t := 119) rfl (q8_5 (c))
  rename ¬ x1 = 5 => n5
  have hk : ∀ v ∈ [(0 : Int32), (1 : Int32), (2 : Int32), (3 : Int32), (4 : Int32), (5 : Int32)], ¬ x1 = v := fun v hv => by
    simp only [List.mem_cons, List.not_mem_nil, or_false] at hv
    rcases hv with rfl | rfl | rfl | rfl | rfl | rfl <;> assumption
  refine me_tsD (t := 186) rfl _ rfl rfl hk ?_
  replace h := hD.2.2.2.2.2.2 hk
  refine me_go (pc1 := 189) (lv1 := [(2, .int 0), (0, .ref P.1), (1, .int x1)]) (st1 := [.int 6, .int x1]) 2 rfl ?_
  refine me_icmp rfl rfl (fun c => ?_) (fun c => ?_)
  · replace h := h.1 (ci_lt c)
    refine me_go (pc1 := 199) (lv1 := [(2, .int 0), (0, .ref P.1), (1, .int x1)]) (st1 := [.int (-1)]) 1 rfl ?_
    exact me_ret rfl rfl rfl h
  · replace h := h.2 (cn_lt c)
    refine me_go (pc1 := 195) (lv1 := [(2, .int 0), (0, .ref P.1), (1, .int x1)]) (st1 := [.int 13, .int x1]) 2 rfl ?_
    refine me_icmp rfl rfl (fun c => ?_) (fun c => ?_)
    · replace h := h.1 (ci_le c)
      refine me_go (pc1 := 201) (lv1 := [(2, .int 0), (0, .ref P.1), (1, .int x1)]) (st1 := [.ref P.1]) 1 rfl ?_
      refine me_getf (v := .int (μ.1 100)) rfl rfl rfl ?_
      refine me_ifc rfl rfl (fun c => ?_) (fun c => ?_)
      · replace h := h.1 (ci_eq c)
        refine me_go (pc1 := 216) (lv1 := [(2, .int 0), (0, .ref P.1), (1, .int x1)]) (st1 := [.int 0]) 1 rfl ?_
        exact me_ret rfl rfl rfl h
      · replace h := h.2 (cn_eq c)
        refine me_go (pc1 := 209) (lv1 := [(2, .int 0), (0, .ref P.1), (1, .int x1)]) (st1 := [.int x1, .ref P.1]) 2 rfl ?_
        refine me_callN rfl rfl rfl (h.mono (fun r1 μ1 h => ?_) (fun _ h => h))
        refine me_go (pc1 := 216) (lv1 := [(2, .int 0), (0, .ref P.1), (1, .int x1)]) (st1 := [.int r1]) 1 rfl ?_
        exact me_ret rfl rfl rfl h
    · replace h := h.2 (cn_le c)
      refine me_go (pc1 := 199) (lv1 := [(2, .int 0), (0, .ref P.1), (1, .int x1)]) (st1 := [.int (-1)]) 1 rfl ?_
      exact me_ret rfl rfl rfl h
theorem v_count_130 {X : ev_X} {W : Nat → Prop} {d : Nat} {P : MP} {μ : MS} {R : Int32 → MS → Prop} {T : MS → Prop} (x1 : Int32) (x2 : Int32) (x3 : Int32) (h : (((μ.1 110).toInt ≤ x3.toInt → ((¬ x2 = (μ.1 110) → MC X W true d 484 [.ref P.1] P μ (fun r1 μ1 => ((r1.toInt ≤ (0 : Int) → R 3 μ1) ∧ ((0 : Int) < r1.toInt → R 1 μ1))) (fun _ => False)) ∧ (x2 = (μ.1 110) → R 2 μ))) ∧ (x3.toInt < (μ.1 110).toInt → (MI x3 (μ.2.2 116) ∧ (((μ.2.1 116 x3.toNatClampNeg) = 0 → ME X W true d 498 130 [(0, .ref P.1), (1, .int x1), (2, .int x2), (3, .int (x3 + 1))] [] P μ R T) ∧ (¬ (μ.2.1 116 x3.toNatClampNeg) = 0 → ME X W true d 498 130 [(0, .ref P.1), (1, .int x1), (2, .int (x2 + 1)), (3, .int (x3 + 1))] [] P μ R T)))))) : ME X W true d 498 130 [(0, .ref P.1), (1, .int x1), (2, .int x2), (3, .int x3)] [] P μ R T := by
  refine me_go (pc1 := 132) (lv1 := [(0, .ref P.1), (1, .int x1), (2, .int x2), (3, .int x3)]) (st1 := [.ref P.1, .int x3]) 2 rfl ?_
  refine me_getf (v := .int (μ.1 110)) rfl rfl rfl ?_
  refine me_icmp rfl rfl (fun c => ?_) (fun c => ?_)
  · replace h := h.1 (ci_ge c)
    refine me_go (pc1 := 163) (lv1 := [(0, .ref P.1), (1, .int x1), (2, .int x2), (3, .int x3)]) (st1 := [.ref P.1, .int x2]) 2 rfl ?_
    refine me_getf (v := .int (μ.1 110)) rfl rfl rfl ?_
    refine me_icmp rfl rfl (fun c => ?_) (fun c => ?_)
    · replace h := h.1 (ci_ne c)
      refine me_go (pc1 := 174) (lv1 := [(0, .ref P.1), (1, .int x1), (2, .int x2), (3, .int x3)]) (st1 := [.ref P.1]) 1 rfl ?_
      refine me_callN rfl rfl rfl (h.mono (fun r1 μ1 h => ?_) (fun _ h => h))
      refine me_ifc rfl rfl (fun c => ?_) (fun c => ?_)
      · replace h := h.1 (ci_le c)
        refine me_go (pc1 := 185) (lv1 := [(0, .ref P.1), (1, .int x1), (2, .int x2), (3, .int x3)]) (st1 := [.int 3]) 1 rfl ?_
        exact me_ret rfl rfl rfl h
      · replace h := h.2 (cn_le c)
        refine me_go (pc1 := 185) (lv1 := [(0, .ref P.1), (1, .int x1), (2, .int x2), (3, .int x3)]) (st1 := [.int 1]) 2 rfl ?_
        exact me_ret rfl rfl rfl h
    · replace h := h.2 (cn_ne c)
      refine me_go (pc1 := 185) (lv1 := [(0, .ref P.1), (1, .int x1), (2, .int x2), (3, .int x3)]) (st1 := [.int 2]) 2 rfl ?_
      exact me_ret rfl rfl rfl h
  · replace h := h.2 (cn_ge c)
    refine me_go (pc1 := 139) (lv1 := [(0, .ref P.1), (1, .int x1), (2, .int x2), (3, .int x3)]) (st1 := [.ref P.1]) 1 rfl ?_
    refine me_getf (v := .ref (P.2.1 116)) rfl rfl rfl ?_
    refine me_go (pc1 := 143) (lv1 := [(0, .ref P.1), (1, .int x1), (2, .int x2), (3, .int x3)]) (st1 := [.int x3, .ref (P.2.1 116)]) 1 rfl ?_
    refine me_iald rfl (g := 116) rfl rfl h.1 ?_
    replace h := h.2
    refine me_ifc rfl rfl (fun c => ?_) (fun c => ?_)
    · replace h := h.1 (ci_eq c)
      refine me_go (pc1 := 130) (lv1 := [(3, .int (x3 + 1)), (2, .int x2), (0, .ref P.1), (1, .int x1)]) (st1 := []) 4 rfl ?_
      refine me_lv [(0, .ref P.1), (1, .int x1), (2, .int x2), (3, .int (x3 + 1))] (fl_c rfl (fl_c rfl (fl_c rfl (fl_c rfl fl_0)))) ?_
      exact h
    · replace h := h.2 (cn_eq c)
      refine me_go (pc1 := 130) (lv1 := [(3, .int (x3 + 1)), (2, .int (x2 + 1)), (0, .ref P.1), (1, .int x1)]) (st1 := []) 7 rfl ?_
      refine me_lv [(0, .ref P.1), (1, .int x1), (2, .int (x2 + 1)), (3, .int (x3 + 1))] (fl_c rfl (fl_c rfl (fl_c rfl (fl_c rfl fl_0)))) ?_
      exact h
theorem v_counted_0 {X : ev_X} {W : Nat → Prop} {d : Nat} {P : MP} {μ : MS} {R : Int32 → MS → Prop} {T : MS → Prop} (x1 : Int32) (h : (((x1 = 6) → R (μ.1 102) μ) ∧ ((x1 = 7) → R (μ.1 110) μ) ∧ ((x1 = 8) → ME X W true d 499 56 [(0, .ref P.1), (1, .int x1), (2, .int 0), (3, .int 0)] [] P μ R T) ∧ ((x1 = 9) → R (μ.1 103) μ) ∧ ((x1 = 10) → R (μ.1 104) μ) ∧ ((x1 = 11) → ME X W true d 499 101 [(0, .ref P.1), (1, .int x1), (2, .int 0), (3, .int 0)] [] P μ R T) ∧ ((x1 = 12) → R (μ.1 127) μ) ∧ ((∀ v ∈ [(6 : Int32), (7 : Int32), (8 : Int32), (9 : Int32), (10 : Int32), (11 : Int32), (12 : Int32)], ¬ x1 = v) → ME X W true d 499 133 [(0, .ref P.1), (1, .int x1), (2, .int 0), (3, .int 1)] [] P μ R T))) : ME X W true d 499 0 [(0, .ref P.1), (1, .int x1)] [] P μ R T := by
  refine me_go (pc1 := 3) (lv1 := [(2, .int 0), (0, .ref P.1), (1, .int x1)]) (st1 := [.int x1]) 3 rfl ?_
  have hD := h
  have q3_0 : (x1 = 6) → ME X W true d 499 44 [(2, .int 0), (0, .ref P.1), (1, .int x1)] [] P μ R T := fun c => by
      replace h := hD.1 c
      refine me_go (pc1 := 45) (lv1 := [(2, .int 0), (0, .ref P.1), (1, .int x1)]) (st1 := [.ref P.1]) 1 rfl ?_
      refine me_getf (v := .int (μ.1 102)) rfl rfl rfl ?_
      exact me_ret rfl rfl rfl h
  have q3_1 : (x1 = 7) → ME X W true d 499 49 [(2, .int 0), (0, .ref P.1), (1, .int x1)] [] P μ R T := fun c => by
      replace h := hD.2.1 c
      refine me_go (pc1 := 50) (lv1 := [(2, .int 0), (0, .ref P.1), (1, .int x1)]) (st1 := [.ref P.1]) 1 rfl ?_
      refine me_getf (v := .int (μ.1 110)) rfl rfl rfl ?_
      exact me_ret rfl rfl rfl h
  have q3_2 : (x1 = 8) → ME X W true d 499 54 [(2, .int 0), (0, .ref P.1), (1, .int x1)] [] P μ R T := fun c => by
      replace h := hD.2.2.1 c
      refine me_go (pc1 := 56) (lv1 := [(3, .int 0), (2, .int 0), (0, .ref P.1), (1, .int x1)]) (st1 := []) 2 rfl ?_
      refine me_lv [(0, .ref P.1), (1, .int x1), (2, .int 0), (3, .int 0)] (fl_c rfl (fl_c rfl (fl_c rfl (fl_c rfl fl_0)))) ?_
      exact h
  have q3_3 : (x1 = 9) → ME X W true d 499 89 [(2, .int 0), (0, .ref P.1), (1, .int x1)] [] P μ R T := fun c => by
      replace h := hD.2.2.2.1 c
      refine me_go (pc1 := 90) (lv1 := [(2, .int 0), (0, .ref P.1), (1, .int x1)]) (st1 := [.ref P.1]) 1 rfl ?_
      refine me_getf (v := .int (μ.1 103)) rfl rfl rfl ?_
      exact me_ret rfl rfl rfl h
  have q3_4 : (x1 = 10) → ME X W true d 499 94 [(2, .int 0), (0, .ref P.1), (1, .int x1)] [] P μ R T := fun c => by
      replace h := hD.2.2.2.2.1 c
      refine me_go (pc1 := 95) (lv1 := [(2, .int 0), (0, .ref P.1), (1, .int x1)]) (st1 := [.ref P.1]) 1 rfl ?_
      refine me_getf (v := .int (μ.1 104)) rfl rfl rfl ?_
      exact me_ret rfl rfl rfl h
  have q3_5 : (x1 = 11) → ME X W true d 499 99 [(2, .int 0), (0, .ref P.1), (1, .int x1)] [] P μ R T := fun c => by
      replace h := hD.2.2.2.2.2.1 c
      refine me_go (pc1 := 101) (lv1 := [(3, .int 0), (2, .int 0), (0, .ref P.1), (1, .int x1)]) (st1 := []) 2 rfl ?_
      refine me_lv [(0, .ref P.1), (1, .int x1), (2, .int 0), (3, .int 0)] (fl_c rfl (fl_c rfl (fl_c rfl (fl_c rfl fl_0)))) ?_
      exact h
  have q3_6 : (x1 = 12) → ME X W true d 499 126 [(2, .int 0), (0, .ref P.1), (1, .int x1)] [] P μ R T := fun c => by
      replace h := hD.2.2.2.2.2.2.1 c
      refine me_go (pc1 := 127) (lv1 := [(2, .int 0), (0, .ref P.1), (1, .int x1)]) (st1 := [.ref P.1]) 1 rfl ?_
      refine me_getf (v := .int (μ.1 127)) rfl rfl rfl ?_
      exact me_ret rfl rfl rfl h
  by_cases c : x1 = 6
  · exact me_sw rfl c (t := 44) rfl (q3_0 (c))
  rename ¬ x1 = 6 => n0
  by_cases c : x1 = 7
  · exact me_sw rfl c (t := 49) rfl (q3_1 (c))
  rename ¬ x1 = 7 => n1
  by_cases c : x1 = 8
  · exact me_sw rfl c (t := 54) rfl (q3_2 (c))
  rename ¬ x1 = 8 => n2
  by_cases c : x1 = 9
  · exact me_sw rfl c (t := 89) rfl (q3_3 (c))
  rename ¬ x1 = 9 => n3
  by_cases c : x1 = 10
  · exact me_sw rfl c (t := 94) rfl (q3_4 (c))
  rename ¬ x1 = 10 => n4
  by_cases c : x1 = 11
  · exact me_sw rfl c (t := 99) rfl (q3_5 (c))
  rename ¬ x1 = 11 => n5
  by_cases c : x1 = 12
  · exact me_sw rfl c (t := 126) rfl (q3_6 (c))
  rename ¬ x1 = 12 => n6
  have hk : ∀ v ∈ [(6 : Int32), (7 : Int32), (8 : Int32), (9 : Int32), (10 : Int32), (11 : Int32), (12 : Int32)], ¬ x1 = v := fun v hv => by
    simp only [List.mem_cons, List.not_mem_nil, or_false] at hv
    rcases hv with rfl | rfl | rfl | rfl | rfl | rfl | rfl <;> assumption
  refine me_tsD (t := 131) rfl _ rfl rfl hk ?_
  replace h := hD.2.2.2.2.2.2.2 hk
  refine me_go (pc1 := 133) (lv1 := [(3, .int 1), (2, .int 0), (0, .ref P.1), (1, .int x1)]) (st1 := []) 2 rfl ?_
  refine me_lv [(0, .ref P.1), (1, .int x1), (2, .int 0), (3, .int 1)] (fl_c rfl (fl_c rfl (fl_c rfl (fl_c rfl fl_0)))) ?_
  exact h
theorem v_counted_56 {X : ev_X} {W : Nat → Prop} {d : Nat} {P : MP} {μ : MS} {R : Int32 → MS → Prop} {T : MS → Prop} (x1 : Int32) (x2 : Int32) (x3 : Int32) (h : (((μ.1 110).toInt ≤ x3.toInt → R x2 μ) ∧ (x3.toInt < (μ.1 110).toInt → (MI x3 (μ.2.2 116) ∧ (((μ.2.1 116 x3.toNatClampNeg) = 0 → ME X W true d 499 56 [(0, .ref P.1), (1, .int x1), (2, .int x2), (3, .int (x3 + 1))] [] P μ R T) ∧ (¬ (μ.2.1 116 x3.toNatClampNeg) = 0 → ME X W true d 499 56 [(0, .ref P.1), (1, .int x1), (2, .int (x2 + 1)), (3, .int (x3 + 1))] [] P μ R T)))))) : ME X W true d 499 56 [(0, .ref P.1), (1, .int x1), (2, .int x2), (3, .int x3)] [] P μ R T := by
  refine me_go (pc1 := 58) (lv1 := [(0, .ref P.1), (1, .int x1), (2, .int x2), (3, .int x3)]) (st1 := [.ref P.1, .int x3]) 2 rfl ?_
  refine me_getf (v := .int (μ.1 110)) rfl rfl rfl ?_
  refine me_icmp rfl rfl (fun c => ?_) (fun c => ?_)
  · replace h := h.1 (ci_ge c)
    refine me_go (pc1 := 88) (lv1 := [(0, .ref P.1), (1, .int x1), (2, .int x2), (3, .int x3)]) (st1 := [.int x2]) 1 rfl ?_
    exact me_ret rfl rfl rfl h
  · replace h := h.2 (cn_ge c)
    refine me_go (pc1 := 65) (lv1 := [(0, .ref P.1), (1, .int x1), (2, .int x2), (3, .int x3)]) (st1 := [.ref P.1]) 1 rfl ?_
    refine me_getf (v := .ref (P.2.1 116)) rfl rfl rfl ?_
    refine me_go (pc1 := 69) (lv1 := [(0, .ref P.1), (1, .int x1), (2, .int x2), (3, .int x3)]) (st1 := [.int x3, .ref (P.2.1 116)]) 1 rfl ?_
    refine me_iald rfl (g := 116) rfl rfl h.1 ?_
    replace h := h.2
    refine me_ifc rfl rfl (fun c => ?_) (fun c => ?_)
    · replace h := h.1 (ci_eq c)
      refine me_go (pc1 := 56) (lv1 := [(3, .int (x3 + 1)), (2, .int x2), (0, .ref P.1), (1, .int x1)]) (st1 := []) 4 rfl ?_
      refine me_lv [(0, .ref P.1), (1, .int x1), (2, .int x2), (3, .int (x3 + 1))] (fl_c rfl (fl_c rfl (fl_c rfl (fl_c rfl fl_0)))) ?_
      exact h
    · replace h := h.2 (cn_eq c)
      refine me_go (pc1 := 56) (lv1 := [(3, .int (x3 + 1)), (2, .int (x2 + 1)), (0, .ref P.1), (1, .int x1)]) (st1 := []) 7 rfl ?_
      refine me_lv [(0, .ref P.1), (1, .int x1), (2, .int (x2 + 1)), (3, .int (x3 + 1))] (fl_c rfl (fl_c rfl (fl_c rfl (fl_c rfl fl_0)))) ?_
      exact h
theorem v_counted_101 {X : ev_X} {W : Nat → Prop} {d : Nat} {P : MP} {μ : MS} {R : Int32 → MS → Prop} {T : MS → Prop} (x1 : Int32) (x2 : Int32) (x3 : Int32) (h : (((μ.1 110).toInt ≤ x3.toInt → R x2 μ) ∧ (x3.toInt < (μ.1 110).toInt → (MI x3 (μ.2.2 121) ∧ ME X W true d 499 101 [(0, .ref P.1), (1, .int x1), (2, .int (x2 + (μ.2.1 121 x3.toNatClampNeg))), (3, .int (x3 + 1))] [] P μ R T)))) : ME X W true d 499 101 [(0, .ref P.1), (1, .int x1), (2, .int x2), (3, .int x3)] [] P μ R T := by
  refine me_go (pc1 := 103) (lv1 := [(0, .ref P.1), (1, .int x1), (2, .int x2), (3, .int x3)]) (st1 := [.ref P.1, .int x3]) 2 rfl ?_
  refine me_getf (v := .int (μ.1 110)) rfl rfl rfl ?_
  refine me_icmp rfl rfl (fun c => ?_) (fun c => ?_)
  · replace h := h.1 (ci_ge c)
    refine me_go (pc1 := 125) (lv1 := [(0, .ref P.1), (1, .int x1), (2, .int x2), (3, .int x3)]) (st1 := [.int x2]) 1 rfl ?_
    exact me_ret rfl rfl rfl h
  · replace h := h.2 (cn_ge c)
    refine me_go (pc1 := 111) (lv1 := [(0, .ref P.1), (1, .int x1), (2, .int x2), (3, .int x3)]) (st1 := [.ref P.1, .int x2]) 2 rfl ?_
    refine me_getf (v := .ref (P.2.1 121)) rfl rfl rfl ?_
    refine me_go (pc1 := 115) (lv1 := [(0, .ref P.1), (1, .int x1), (2, .int x2), (3, .int x3)]) (st1 := [.int x3, .ref (P.2.1 121), .int x2]) 1 rfl ?_
    refine me_iald rfl (g := 121) rfl rfl h.1 ?_
    replace h := h.2
    refine me_go (pc1 := 101) (lv1 := [(3, .int (x3 + 1)), (2, .int (x2 + (μ.2.1 121 x3.toNatClampNeg))), (0, .ref P.1), (1, .int x1)]) (st1 := []) 4 rfl ?_
    refine me_lv [(0, .ref P.1), (1, .int x1), (2, .int (x2 + (μ.2.1 121 x3.toNatClampNeg))), (3, .int (x3 + 1))] (fl_c rfl (fl_c rfl (fl_c rfl (fl_c rfl fl_0)))) ?_
    exact h
theorem v_counted_133 {X : ev_X} {W : Nat → Prop} {d : Nat} {P : MP} {μ : MS} {R : Int32 → MS → Prop} {T : MS → Prop} (x1 : Int32) (x2 : Int32) (x3 : Int32) (h : (((μ.1 103).toInt < x3.toInt → R x2 μ) ∧ (x3.toInt ≤ (μ.1 103).toInt → (MI x3 (μ.2.2 108) ∧ (((μ.2.1 108 x3.toNatClampNeg).toInt < (0 : Int) → ME X W true d 499 133 [(0, .ref P.1), (1, .int x1), (2, .int x2), (3, .int (x3 + 1))] [] P μ R T) ∧ ((0 : Int) ≤ (μ.2.1 108 x3.toNatClampNeg).toInt → ME X W true d 499 133 [(0, .ref P.1), (1, .int x1), (2, .int (x2 + 1)), (3, .int (x3 + 1))] [] P μ R T)))))) : ME X W true d 499 133 [(0, .ref P.1), (1, .int x1), (2, .int x2), (3, .int x3)] [] P μ R T := by
  refine me_go (pc1 := 135) (lv1 := [(0, .ref P.1), (1, .int x1), (2, .int x2), (3, .int x3)]) (st1 := [.ref P.1, .int x3]) 2 rfl ?_
  refine me_getf (v := .int (μ.1 103)) rfl rfl rfl ?_
  refine me_icmp rfl rfl (fun c => ?_) (fun c => ?_)
  · replace h := h.1 (ci_gt c)
    refine me_go (pc1 := 165) (lv1 := [(0, .ref P.1), (1, .int x1), (2, .int x2), (3, .int x3)]) (st1 := [.int x2]) 1 rfl ?_
    exact me_ret rfl rfl rfl h
  · replace h := h.2 (cn_gt c)
    refine me_go (pc1 := 142) (lv1 := [(0, .ref P.1), (1, .int x1), (2, .int x2), (3, .int x3)]) (st1 := [.ref P.1]) 1 rfl ?_
    refine me_getf (v := .ref (P.2.1 108)) rfl rfl rfl ?_
    refine me_go (pc1 := 146) (lv1 := [(0, .ref P.1), (1, .int x1), (2, .int x2), (3, .int x3)]) (st1 := [.int x3, .ref (P.2.1 108)]) 1 rfl ?_
    refine me_iald rfl (g := 108) rfl rfl h.1 ?_
    replace h := h.2
    refine me_ifc rfl rfl (fun c => ?_) (fun c => ?_)
    · replace h := h.1 (ci_lt c)
      refine me_go (pc1 := 133) (lv1 := [(3, .int (x3 + 1)), (2, .int x2), (0, .ref P.1), (1, .int x1)]) (st1 := []) 4 rfl ?_
      refine me_lv [(0, .ref P.1), (1, .int x1), (2, .int x2), (3, .int (x3 + 1))] (fl_c rfl (fl_c rfl (fl_c rfl (fl_c rfl fl_0)))) ?_
      exact h
    · replace h := h.2 (cn_lt c)
      refine me_go (pc1 := 133) (lv1 := [(3, .int (x3 + 1)), (2, .int (x2 + 1)), (0, .ref P.1), (1, .int x1)]) (st1 := []) 7 rfl ?_
      refine me_lv [(0, .ref P.1), (1, .int x1), (2, .int (x2 + 1)), (3, .int (x3 + 1))] (fl_c rfl (fl_c rfl (fl_c rfl (fl_c rfl fl_0)))) ?_
      exact h
theorem v_output_0 {X : ev_X} {W : Nat → Prop} {d : Nat} {P : MP} {μ : MS} {R : Int32 → MS → Prop} {T : MS → Prop} (x1 : Int32) (h : (((μ.1 100) = 0 → R 0 (mS1 μ 0 0)) ∧ (¬ (μ.1 100) = 0 → ((x1.toInt < (0 : Int) → R 0 (mS1 μ 0 0)) ∧ ((0 : Int) ≤ x1.toInt → (((μ.1 127).toInt ≤ x1.toInt → R 0 (mS1 μ 0 0)) ∧ (x1.toInt < (μ.1 127).toInt → (MI x1 (μ.2.2 126) ∧ R (μ.2.1 126 x1.toNatClampNeg) (mS1 μ 0 0))))))))) : ME X W true d 500 0 [(0, .ref P.1), (1, .int x1)] [] P μ R T := by
  refine me_go (pc1 := 2) (lv1 := [(0, .ref P.1), (1, .int x1)]) (st1 := [.int 0, .ref P.1]) 2 rfl ?_
  refine me_put rfl rfl rfl ?_
  refine me_go (pc1 := 6) (lv1 := [(0, .ref P.1), (1, .int x1)]) (st1 := [.ref P.1]) 1 rfl ?_
  refine me_getf (v := .int (μ.1 100)) rfl rfl rfl ?_
  refine me_ifc rfl rfl (fun c => ?_) (fun c => ?_)
  · replace h := h.1 (ci_eq c)
    refine me_go (pc1 := 34) (lv1 := [(0, .ref P.1), (1, .int x1)]) (st1 := [.int 0]) 1 rfl ?_
    exact me_ret rfl rfl rfl h
  · replace h := h.2 (cn_eq c)
    refine me_go (pc1 := 13) (lv1 := [(0, .ref P.1), (1, .int x1)]) (st1 := [.int x1]) 1 rfl ?_
    refine me_ifc rfl rfl (fun c => ?_) (fun c => ?_)
    · replace h := h.1 (ci_lt c)
      refine me_go (pc1 := 34) (lv1 := [(0, .ref P.1), (1, .int x1)]) (st1 := [.int 0]) 1 rfl ?_
      exact me_ret rfl rfl rfl h
    · replace h := h.2 (cn_lt c)
      refine me_go (pc1 := 18) (lv1 := [(0, .ref P.1), (1, .int x1)]) (st1 := [.ref P.1, .int x1]) 2 rfl ?_
      refine me_getf (v := .int (μ.1 127)) rfl rfl rfl ?_
      refine me_icmp rfl rfl (fun c => ?_) (fun c => ?_)
      · replace h := h.1 (ci_ge c)
        refine me_go (pc1 := 34) (lv1 := [(0, .ref P.1), (1, .int x1)]) (st1 := [.int 0]) 1 rfl ?_
        exact me_ret rfl rfl rfl h
      · replace h := h.2 (cn_ge c)
        refine me_go (pc1 := 25) (lv1 := [(0, .ref P.1), (1, .int x1)]) (st1 := [.ref P.1]) 1 rfl ?_
        refine me_getf (v := .ref (P.2.1 126)) rfl rfl rfl ?_
        refine me_go (pc1 := 29) (lv1 := [(0, .ref P.1), (1, .int x1)]) (st1 := [.int x1, .ref (P.2.1 126)]) 1 rfl ?_
        refine me_iald rfl (g := 126) rfl rfl h.1 ?_
        replace h := h.2
        refine me_go (pc1 := 34) (lv1 := [(0, .ref P.1), (1, .int x1)]) (st1 := [.int (μ.2.1 126 x1.toNatClampNeg)]) 1 rfl ?_
        exact me_ret rfl rfl rfl h
theorem v_cell_0 {X : ev_X} {W : Nat → Prop} {d : Nat} {P : MP} {μ : MS} {R : Int32 → MS → Prop} {T : MS → Prop} (x1 : Int32) (h : (((μ.1 100) = 0 → R 0 (mS1 μ 0 0)) ∧ (¬ (μ.1 100) = 0 → ((x1.toInt < (0 : Int) → R 0 (mS1 μ 0 0)) ∧ ((0 : Int) ≤ x1.toInt → (((μ.1 83).toInt ≤ x1.toInt → R 0 (mS1 μ 0 0)) ∧ (x1.toInt < (μ.1 83).toInt → (MI x1 (μ.2.2 99) ∧ R (μ.2.1 99 x1.toNatClampNeg) (mS1 μ 0 0))))))))) : ME X W true d 501 0 [(0, .ref P.1), (1, .int x1)] [] P μ R T := by
  refine me_go (pc1 := 2) (lv1 := [(0, .ref P.1), (1, .int x1)]) (st1 := [.int 0, .ref P.1]) 2 rfl ?_
  refine me_put rfl rfl rfl ?_
  refine me_go (pc1 := 6) (lv1 := [(0, .ref P.1), (1, .int x1)]) (st1 := [.ref P.1]) 1 rfl ?_
  refine me_getf (v := .int (μ.1 100)) rfl rfl rfl ?_
  refine me_ifc rfl rfl (fun c => ?_) (fun c => ?_)
  · replace h := h.1 (ci_eq c)
    refine me_go (pc1 := 34) (lv1 := [(0, .ref P.1), (1, .int x1)]) (st1 := [.int 0]) 1 rfl ?_
    exact me_ret rfl rfl rfl h
  · replace h := h.2 (cn_eq c)
    refine me_go (pc1 := 13) (lv1 := [(0, .ref P.1), (1, .int x1)]) (st1 := [.int x1]) 1 rfl ?_
    refine me_ifc rfl rfl (fun c => ?_) (fun c => ?_)
    · replace h := h.1 (ci_lt c)
      refine me_go (pc1 := 34) (lv1 := [(0, .ref P.1), (1, .int x1)]) (st1 := [.int 0]) 1 rfl ?_
      exact me_ret rfl rfl rfl h
    · replace h := h.2 (cn_lt c)
      refine me_go (pc1 := 18) (lv1 := [(0, .ref P.1), (1, .int x1)]) (st1 := [.ref P.1, .int x1]) 2 rfl ?_
      refine me_getf (v := .int (μ.1 83)) rfl rfl rfl ?_
      refine me_icmp rfl rfl (fun c => ?_) (fun c => ?_)
      · replace h := h.1 (ci_ge c)
        refine me_go (pc1 := 34) (lv1 := [(0, .ref P.1), (1, .int x1)]) (st1 := [.int 0]) 1 rfl ?_
        exact me_ret rfl rfl rfl h
      · replace h := h.2 (cn_ge c)
        refine me_go (pc1 := 25) (lv1 := [(0, .ref P.1), (1, .int x1)]) (st1 := [.ref P.1]) 1 rfl ?_
        refine me_getf (v := .ref (P.2.1 99)) rfl rfl rfl ?_
        refine me_go (pc1 := 29) (lv1 := [(0, .ref P.1), (1, .int x1)]) (st1 := [.int x1, .ref (P.2.1 99)]) 1 rfl ?_
        refine me_iald rfl (g := 99) rfl rfl h.1 ?_
        replace h := h.2
        refine me_go (pc1 := 34) (lv1 := [(0, .ref P.1), (1, .int x1)]) (st1 := [.int (μ.2.1 99 x1.toNatClampNeg)]) 1 rfl ?_
        exact me_ret rfl rfl rfl h
theorem v_thread_0 {X : ev_X} {W : Nat → Prop} {d : Nat} {P : MP} {μ : MS} {R : Int32 → MS → Prop} {T : MS → Prop} (x1 : Int32) (x2 : Int32) (h : (((μ.1 100) = 0 → ME X W true d 502 24 [(0, .ref P.1), (1, .int x1), (2, .int x2)] [] P (mS1 μ 0 0) R T) ∧ (¬ (μ.1 100) = 0 → ((x1.toInt < (0 : Int) → ME X W true d 502 24 [(0, .ref P.1), (1, .int x1), (2, .int x2)] [] P (mS1 μ 0 0) R T) ∧ ((0 : Int) ≤ x1.toInt → ((x1.toInt < (μ.1 110).toInt → (MI x1 (μ.2.2 116) ∧ ((¬ (μ.2.1 116 x1.toNatClampNeg) = 0 → ME X W true d 502 41 [(0, .ref P.1), (1, .int x1), (2, .int x2), (3, .int 0)] [] P (mS1 μ 0 0) R T) ∧ ((μ.2.1 116 x1.toNatClampNeg) = 0 → ME X W true d 502 41 [(0, .ref P.1), (1, .int x1), (2, .int x2), (3, .int 1)] [] P (mS1 μ 0 0) R T)))) ∧ ((μ.1 110).toInt ≤ x1.toInt → ME X W true d 502 24 [(0, .ref P.1), (1, .int x1), (2, .int x2)] [] P (mS1 μ 0 0) R T))))))) : ME X W true d 502 0 [(0, .ref P.1), (1, .int x1), (2, .int x2)] [] P μ R T := by
  refine me_go (pc1 := 2) (lv1 := [(0, .ref P.1), (1, .int x1), (2, .int x2)]) (st1 := [.int 0, .ref P.1]) 2 rfl ?_
  refine me_put rfl rfl rfl ?_
  refine me_go (pc1 := 6) (lv1 := [(0, .ref P.1), (1, .int x1), (2, .int x2)]) (st1 := [.ref P.1]) 1 rfl ?_
  refine me_getf (v := .int (μ.1 100)) rfl rfl rfl ?_
  refine me_ifc rfl rfl (fun c => ?_) (fun c => ?_)
  · replace h := h.1 (ci_eq c)
    exact h
  · replace h := h.2 (cn_eq c)
    refine me_go (pc1 := 13) (lv1 := [(0, .ref P.1), (1, .int x1), (2, .int x2)]) (st1 := [.int x1]) 1 rfl ?_
    refine me_ifc rfl rfl (fun c => ?_) (fun c => ?_)
    · replace h := h.1 (ci_lt c)
      exact h
    · replace h := h.2 (cn_lt c)
      refine me_go (pc1 := 18) (lv1 := [(0, .ref P.1), (1, .int x1), (2, .int x2)]) (st1 := [.ref P.1, .int x1]) 2 rfl ?_
      refine me_getf (v := .int (μ.1 110)) rfl rfl rfl ?_
      refine me_icmp rfl rfl (fun c => ?_) (fun c => ?_)
      · replace h := h.1 (ci_lt c)
        refine me_go (pc1 := 27) (lv1 := [(0, .ref P.1), (1, .int x1), (2, .int x2)]) (st1 := [.ref P.1]) 1 rfl ?_
        refine me_getf (v := .ref (P.2.1 116)) rfl rfl rfl ?_
        refine me_go (pc1 := 31) (lv1 := [(0, .ref P.1), (1, .int x1), (2, .int x2)]) (st1 := [.int x1, .ref (P.2.1 116)]) 1 rfl ?_
        refine me_iald rfl (g := 116) rfl rfl h.1 ?_
        replace h := h.2
        refine me_ifc rfl rfl (fun c => ?_) (fun c => ?_)
        · replace h := h.1 (ci_ne c)
          refine me_go (pc1 := 41) (lv1 := [(3, .int 0), (0, .ref P.1), (1, .int x1), (2, .int x2)]) (st1 := []) 2 rfl ?_
          refine me_lv [(0, .ref P.1), (1, .int x1), (2, .int x2), (3, .int 0)] (fl_c rfl (fl_c rfl (fl_c rfl (fl_c rfl fl_0)))) ?_
          exact h
        · replace h := h.2 (cn_ne c)
          refine me_go (pc1 := 41) (lv1 := [(3, .int 1), (0, .ref P.1), (1, .int x1), (2, .int x2)]) (st1 := []) 3 rfl ?_
          refine me_lv [(0, .ref P.1), (1, .int x1), (2, .int x2), (3, .int 1)] (fl_c rfl (fl_c rfl (fl_c rfl (fl_c rfl fl_0)))) ?_
          exact h
      · replace h := h.2 (cn_lt c)
        exact h
theorem v_thread_24 {X : ev_X} {W : Nat → Prop} {d : Nat} {P : MP} {μ : MS} {R : Int32 → MS → Prop} {T : MS → Prop} (x1 : Int32) (x2 : Int32) (h : R (-1) μ) : ME X W true d 502 24 [(0, .ref P.1), (1, .int x1), (2, .int x2)] [] P μ R T := by
  refine me_go (pc1 := 25) (lv1 := [(0, .ref P.1), (1, .int x1), (2, .int x2)]) (st1 := [.int (-1)]) 1 rfl ?_
  exact me_ret rfl rfl rfl h
theorem v_thread_41 {X : ev_X} {W : Nat → Prop} {d : Nat} {P : MP} {μ : MS} {R : Int32 → MS → Prop} {T : MS → Prop} (x1 : Int32) (x2 : Int32) (x3 : Int32) (h : ((x3 = 0 → ME X W true d 502 57 [(0, .ref P.1), (1, .int x1), (2, .int x2), (3, .int x3)] [] P μ R T) ∧ (¬ x3 = 0 → MC X W true d 483 [.ref P.1, .int x1] P μ (fun r1 μ1 => ((¬ r1 = 0 → ME X W true d 502 57 [(0, .ref P.1), (1, .int x1), (2, .int x2), (3, .int x3)] [] P μ1 R T) ∧ (r1 = 0 → ME X W true d 502 60 [(0, .ref P.1), (1, .int x1), (2, .int x2), (3, .int x3), (4, .int 1)] [] P μ1 R T))) (fun _ => False)))) : ME X W true d 502 41 [(0, .ref P.1), (1, .int x1), (2, .int x2), (3, .int x3)] [] P μ R T := by
  refine me_go (pc1 := 42) (lv1 := [(0, .ref P.1), (1, .int x1), (2, .int x2), (3, .int x3)]) (st1 := [.int x3]) 1 rfl ?_
  refine me_ifc rfl rfl (fun c => ?_) (fun c => ?_)
  · replace h := h.1 (ci_eq c)
    exact h
  · replace h := h.2 (cn_eq c)
    refine me_go (pc1 := 47) (lv1 := [(0, .ref P.1), (1, .int x1), (2, .int x2), (3, .int x3)]) (st1 := [.int x1, .ref P.1]) 2 rfl ?_
    refine me_callN rfl rfl rfl (h.mono (fun r1 μ1 h => ?_) (fun _ h => h))
    refine me_ifc rfl rfl (fun c => ?_) (fun c => ?_)
    · replace h := h.1 (ci_ne c)
      exact h
    · replace h := h.2 (cn_ne c)
      refine me_go (pc1 := 60) (lv1 := [(4, .int 1), (0, .ref P.1), (1, .int x1), (2, .int x2), (3, .int x3)]) (st1 := []) 3 rfl ?_
      refine me_lv [(0, .ref P.1), (1, .int x1), (2, .int x2), (3, .int x3), (4, .int 1)] (fl_c rfl (fl_c rfl (fl_c rfl (fl_c rfl (fl_c rfl fl_0))))) ?_
      exact h
theorem v_thread_57 {X : ev_X} {W : Nat → Prop} {d : Nat} {P : MP} {μ : MS} {R : Int32 → MS → Prop} {T : MS → Prop} (x1 : Int32) (x2 : Int32) (x3 : Int32) (h : ME X W true d 502 60 [(0, .ref P.1), (1, .int x1), (2, .int x2), (3, .int x3), (4, .int 0)] [] P μ R T) : ME X W true d 502 57 [(0, .ref P.1), (1, .int x1), (2, .int x2), (3, .int x3)] [] P μ R T := by
  refine me_go (pc1 := 60) (lv1 := [(4, .int 0), (0, .ref P.1), (1, .int x1), (2, .int x2), (3, .int x3)]) (st1 := []) 2 rfl ?_
  refine me_lv [(0, .ref P.1), (1, .int x1), (2, .int x2), (3, .int x3), (4, .int 0)] (fl_c rfl (fl_c rfl (fl_c rfl (fl_c rfl (fl_c rfl fl_0))))) ?_
  exact h
theorem v_thread_60 {X : ev_X} {W : Nat → Prop} {d : Nat} {P : MP} {μ : MS} {R : Int32 → MS → Prop} {T : MS → Prop} (x1 : Int32) (x2 : Int32) (x3 : Int32) (x4 : Int32) (h : (((x2 = 0) → ((¬ x3 = 0 → ((x4 = 0 → R 0 μ) ∧ (¬ x4 = 0 → (MI x1 (μ.2.2 111) ∧ R (μ.2.1 111 x1.toNatClampNeg) μ)))) ∧ (x3 = 0 → (MI x1 (μ.2.2 116) ∧ R (μ.2.1 116 x1.toNatClampNeg) μ)))) ∧ ((x2 = 1) → ((x3 = 0 → (MI x1 (μ.2.2 117) ∧ R (μ.2.1 117 x1.toNatClampNeg) μ)) ∧ (¬ x3 = 0 → (MI x1 (μ.2.2 124) ∧ (MI (((((x1 * 3000) + (μ.2.1 124 x1.toNatClampNeg)) - 1) * 6) + 1) (μ.2.2 125) ∧ (MI (μ.2.1 125 ((((((x1 * 3000) + (μ.2.1 124 x1.toNatClampNeg)) - 1) * 6) + 1)).toNatClampNeg) (μ.2.2 21) ∧ R (μ.2.1 21 ((μ.2.1 125 ((((((x1 * 3000) + (μ.2.1 124 x1.toNatClampNeg)) - 1) * 6) + 1)).toNatClampNeg)).toNatClampNeg) μ)))))) ∧ ((x2 = 2) → (MI x1 (μ.2.2 120) ∧ R (μ.2.1 120 x1.toNatClampNeg) μ)) ∧ ((x2 = 3) → ((¬ x4 = 0 → (MI x1 (μ.2.2 111) ∧ ((¬ (μ.2.1 111 x1.toNatClampNeg) = 3 → (MI x1 (μ.2.2 112) ∧ R (μ.2.1 112 x1.toNatClampNeg) μ)) ∧ ((μ.2.1 111 x1.toNatClampNeg) = 3 → (MI x1 (μ.2.2 112) ∧ R ((μ.2.1 112 x1.toNatClampNeg) + 1) μ))))) ∧ (x4 = 0 → R 0 μ))) ∧ ((x2 = 4) → (MI x1 (μ.2.2 118) ∧ R (μ.2.1 118 x1.toNatClampNeg) μ)) ∧ ((x2 = 5) → (MI x1 (μ.2.2 119) ∧ R (μ.2.1 119 x1.toNatClampNeg) μ)) ∧ ((∀ v ∈ [(0 : Int32), (1 : Int32), (2 : Int32), (3 : Int32), (4 : Int32), (5 : Int32)], ¬ x2 = v) → R (-1) μ))) : ME X W true d 502 60 [(0, .ref P.1), (1, .int x1), (2, .int x2), (3, .int x3), (4, .int x4)] [] P μ R T := by
  refine me_go (pc1 := 61) (lv1 := [(0, .ref P.1), (1, .int x1), (2, .int x2), (3, .int x3), (4, .int x4)]) (st1 := [.int x2]) 1 rfl ?_
  have hD := h
  have q61_0 : (x2 = 0) → ME X W true d 502 100 [(0, .ref P.1), (1, .int x1), (2, .int x2), (3, .int x3), (4, .int x4)] [] P μ R T := fun c => by
      replace h := hD.1 c
      refine me_go (pc1 := 101) (lv1 := [(0, .ref P.1), (1, .int x1), (2, .int x2), (3, .int x3), (4, .int x4)]) (st1 := [.int x3]) 1 rfl ?_
      refine me_ifc rfl rfl (fun c => ?_) (fun c => ?_)
      · replace h := h.1 (ci_ne c)
        refine me_go (pc1 := 115) (lv1 := [(0, .ref P.1), (1, .int x1), (2, .int x2), (3, .int x3), (4, .int x4)]) (st1 := [.int x4]) 1 rfl ?_
        refine me_ifc rfl rfl (fun c => ?_) (fun c => ?_)
        · replace h := h.1 (ci_eq c)
          refine me_go (pc1 := 128) (lv1 := [(0, .ref P.1), (1, .int x1), (2, .int x2), (3, .int x3), (4, .int x4)]) (st1 := [.int 0]) 1 rfl ?_
          exact me_ret rfl rfl rfl h
        · replace h := h.2 (cn_eq c)
          refine me_go (pc1 := 119) (lv1 := [(0, .ref P.1), (1, .int x1), (2, .int x2), (3, .int x3), (4, .int x4)]) (st1 := [.ref P.1]) 1 rfl ?_
          refine me_getf (v := .ref (P.2.1 111)) rfl rfl rfl ?_
          refine me_go (pc1 := 123) (lv1 := [(0, .ref P.1), (1, .int x1), (2, .int x2), (3, .int x3), (4, .int x4)]) (st1 := [.int x1, .ref (P.2.1 111)]) 1 rfl ?_
          refine me_iald rfl (g := 111) rfl rfl h.1 ?_
          replace h := h.2
          refine me_go (pc1 := 128) (lv1 := [(0, .ref P.1), (1, .int x1), (2, .int x2), (3, .int x3), (4, .int x4)]) (st1 := [.int (μ.2.1 111 x1.toNatClampNeg)]) 1 rfl ?_
          exact me_ret rfl rfl rfl h
      · replace h := h.2 (cn_ne c)
        refine me_go (pc1 := 105) (lv1 := [(0, .ref P.1), (1, .int x1), (2, .int x2), (3, .int x3), (4, .int x4)]) (st1 := [.ref P.1]) 1 rfl ?_
        refine me_getf (v := .ref (P.2.1 116)) rfl rfl rfl ?_
        refine me_go (pc1 := 109) (lv1 := [(0, .ref P.1), (1, .int x1), (2, .int x2), (3, .int x3), (4, .int x4)]) (st1 := [.int x1, .ref (P.2.1 116)]) 1 rfl ?_
        refine me_iald rfl (g := 116) rfl rfl h.1 ?_
        replace h := h.2
        refine me_go (pc1 := 128) (lv1 := [(0, .ref P.1), (1, .int x1), (2, .int x2), (3, .int x3), (4, .int x4)]) (st1 := [.int (μ.2.1 116 x1.toNatClampNeg)]) 1 rfl ?_
        exact me_ret rfl rfl rfl h
  have q61_1 : (x2 = 1) → ME X W true d 502 129 [(0, .ref P.1), (1, .int x1), (2, .int x2), (3, .int x3), (4, .int x4)] [] P μ R T := fun c => by
      replace h := hD.2.1 c
      refine me_go (pc1 := 130) (lv1 := [(0, .ref P.1), (1, .int x1), (2, .int x2), (3, .int x3), (4, .int x4)]) (st1 := [.int x3]) 1 rfl ?_
      refine me_ifc rfl rfl (fun c => ?_) (fun c => ?_)
      · replace h := h.1 (ci_eq c)
        refine me_go (pc1 := 166) (lv1 := [(0, .ref P.1), (1, .int x1), (2, .int x2), (3, .int x3), (4, .int x4)]) (st1 := [.ref P.1]) 1 rfl ?_
        refine me_getf (v := .ref (P.2.1 117)) rfl rfl rfl ?_
        refine me_go (pc1 := 170) (lv1 := [(0, .ref P.1), (1, .int x1), (2, .int x2), (3, .int x3), (4, .int x4)]) (st1 := [.int x1, .ref (P.2.1 117)]) 1 rfl ?_
        refine me_iald rfl (g := 117) rfl rfl h.1 ?_
        replace h := h.2
        exact me_ret rfl rfl rfl h
      · replace h := h.2 (cn_eq c)
        refine me_go (pc1 := 134) (lv1 := [(0, .ref P.1), (1, .int x1), (2, .int x2), (3, .int x3), (4, .int x4)]) (st1 := [.ref P.1]) 1 rfl ?_
        refine me_getf (v := .ref (P.2.1 21)) rfl rfl rfl ?_
        refine me_go (pc1 := 138) (lv1 := [(0, .ref P.1), (1, .int x1), (2, .int x2), (3, .int x3), (4, .int x4)]) (st1 := [.ref P.1, .ref (P.2.1 21)]) 1 rfl ?_
        refine me_getf (v := .ref (P.2.1 125)) rfl rfl rfl ?_
        refine me_go (pc1 := 147) (lv1 := [(0, .ref P.1), (1, .int x1), (2, .int x2), (3, .int x3), (4, .int x4)]) (st1 := [.ref P.1, .int (x1 * 3000), .ref (P.2.1 125), .ref (P.2.1 21)]) 4 rfl ?_
        refine me_getf (v := .ref (P.2.1 124)) rfl rfl rfl ?_
        refine me_go (pc1 := 151) (lv1 := [(0, .ref P.1), (1, .int x1), (2, .int x2), (3, .int x3), (4, .int x4)]) (st1 := [.int x1, .ref (P.2.1 124), .int (x1 * 3000), .ref (P.2.1 125), .ref (P.2.1 21)]) 1 rfl ?_
        refine me_iald rfl (g := 124) rfl rfl h.1 ?_
        replace h := h.2
        refine me_go (pc1 := 160) (lv1 := [(0, .ref P.1), (1, .int x1), (2, .int x2), (3, .int x3), (4, .int x4)]) (st1 := [.int (((((x1 * 3000) + (μ.2.1 124 x1.toNatClampNeg)) - 1) * 6) + 1), .ref (P.2.1 125), .ref (P.2.1 21)]) 7 rfl ?_
        refine me_iald rfl (g := 125) rfl rfl h.1 ?_
        replace h := h.2
        refine me_iald rfl (g := 21) rfl rfl h.1 ?_
        replace h := h.2
        refine me_go (pc1 := 171) (lv1 := [(0, .ref P.1), (1, .int x1), (2, .int x2), (3, .int x3), (4, .int x4)]) (st1 := [.int (μ.2.1 21 ((μ.2.1 125 ((((((x1 * 3000) + (μ.2.1 124 x1.toNatClampNeg)) - 1) * 6) + 1)).toNatClampNeg)).toNatClampNeg)]) 1 rfl ?_
        exact me_ret rfl rfl rfl h
  have q61_2 : (x2 = 2) → ME X W true d 502 172 [(0, .ref P.1), (1, .int x1), (2, .int x2), (3, .int x3), (4, .int x4)] [] P μ R T := fun c => by
      replace h := hD.2.2.1 c
      refine me_go (pc1 := 173) (lv1 := [(0, .ref P.1), (1, .int x1), (2, .int x2), (3, .int x3), (4, .int x4)]) (st1 := [.ref P.1]) 1 rfl ?_
      refine me_getf (v := .ref (P.2.1 120)) rfl rfl rfl ?_
      refine me_go (pc1 := 177) (lv1 := [(0, .ref P.1), (1, .int x1), (2, .int x2), (3, .int x3), (4, .int x4)]) (st1 := [.int x1, .ref (P.2.1 120)]) 1 rfl ?_
      refine me_iald rfl (g := 120) rfl rfl h.1 ?_
      replace h := h.2
      exact me_ret rfl rfl rfl h
  have q61_3 : (x2 = 3) → ME X W true d 502 179 [(0, .ref P.1), (1, .int x1), (2, .int x2), (3, .int x3), (4, .int x4)] [] P μ R T := fun c => by
      replace h := hD.2.2.2.1 c
      refine me_go (pc1 := 181) (lv1 := [(0, .ref P.1), (1, .int x1), (2, .int x2), (3, .int x3), (4, .int x4)]) (st1 := [.int x4]) 1 rfl ?_
      refine me_ifc rfl rfl (fun c => ?_) (fun c => ?_)
      · replace h := h.1 (ci_ne c)
        refine me_go (pc1 := 189) (lv1 := [(0, .ref P.1), (1, .int x1), (2, .int x2), (3, .int x3), (4, .int x4)]) (st1 := [.ref P.1]) 1 rfl ?_
        refine me_getf (v := .ref (P.2.1 111)) rfl rfl rfl ?_
        refine me_go (pc1 := 193) (lv1 := [(0, .ref P.1), (1, .int x1), (2, .int x2), (3, .int x3), (4, .int x4)]) (st1 := [.int x1, .ref (P.2.1 111)]) 1 rfl ?_
        refine me_iald rfl (g := 111) rfl rfl h.1 ?_
        replace h := h.2
        refine me_go (pc1 := 195) (lv1 := [(0, .ref P.1), (1, .int x1), (2, .int x2), (3, .int x3), (4, .int x4)]) (st1 := [.int 3, .int (μ.2.1 111 x1.toNatClampNeg)]) 1 rfl ?_
        refine me_icmp rfl rfl (fun c => ?_) (fun c => ?_)
        · replace h := h.1 (ci_ne c)
          refine me_go (pc1 := 210) (lv1 := [(0, .ref P.1), (1, .int x1), (2, .int x2), (3, .int x3), (4, .int x4)]) (st1 := [.ref P.1]) 1 rfl ?_
          refine me_getf (v := .ref (P.2.1 112)) rfl rfl rfl ?_
          refine me_go (pc1 := 214) (lv1 := [(0, .ref P.1), (1, .int x1), (2, .int x2), (3, .int x3), (4, .int x4)]) (st1 := [.int x1, .ref (P.2.1 112)]) 1 rfl ?_
          refine me_iald rfl (g := 112) rfl rfl h.1 ?_
          replace h := h.2
          exact me_ret rfl rfl rfl h
        · replace h := h.2 (cn_ne c)
          refine me_go (pc1 := 199) (lv1 := [(0, .ref P.1), (1, .int x1), (2, .int x2), (3, .int x3), (4, .int x4)]) (st1 := [.ref P.1]) 1 rfl ?_
          refine me_getf (v := .ref (P.2.1 112)) rfl rfl rfl ?_
          refine me_go (pc1 := 203) (lv1 := [(0, .ref P.1), (1, .int x1), (2, .int x2), (3, .int x3), (4, .int x4)]) (st1 := [.int x1, .ref (P.2.1 112)]) 1 rfl ?_
          refine me_iald rfl (g := 112) rfl rfl h.1 ?_
          replace h := h.2
          refine me_go (pc1 := 215) (lv1 := [(0, .ref P.1), (1, .int x1), (2, .int x2), (3, .int x3), (4, .int x4)]) (st1 := [.int ((μ.2.1 112 x1.toNatClampNeg) + 1)]) 3 rfl ?_
          exact me_ret rfl rfl rfl h
      · replace h := h.2 (cn_ne c)
        refine me_go (pc1 := 215) (lv1 := [(0, .ref P.1), (1, .int x1), (2, .int x2), (3, .int x3), (4, .int x4)]) (st1 := [.int 0]) 2 rfl ?_
        exact me_ret rfl rfl rfl h
  have q61_4 : (x2 = 4) → ME X W true d 502 216 [(0, .ref P.1), (1, .int x1), (2, .int x2), (3, .int x3), (4, .int x4)] [] P μ R T := fun c => by
      replace h := hD.2.2.2.2.1 c
      refine me_go (pc1 := 217) (lv1 := [(0, .ref P.1), (1, .int x1), (2, .int x2), (3, .int x3), (4, .int x4)]) (st1 := [.ref P.1]) 1 rfl ?_
      refine me_getf (v := .ref (P.2.1 118)) rfl rfl rfl ?_
      refine me_go (pc1 := 221) (lv1 := [(0, .ref P.1), (1, .int x1), (2, .int x2), (3, .int x3), (4, .int x4)]) (st1 := [.int x1, .ref (P.2.1 118)]) 1 rfl ?_
      refine me_iald rfl (g := 118) rfl rfl h.1 ?_
      replace h := h.2
      exact me_ret rfl rfl rfl h
  have q61_5 : (x2 = 5) → ME X W true d 502 223 [(0, .ref P.1), (1, .int x1), (2, .int x2), (3, .int x3), (4, .int x4)] [] P μ R T := fun c => by
      replace h := hD.2.2.2.2.2.1 c
      refine me_go (pc1 := 224) (lv1 := [(0, .ref P.1), (1, .int x1), (2, .int x2), (3, .int x3), (4, .int x4)]) (st1 := [.ref P.1]) 1 rfl ?_
      refine me_getf (v := .ref (P.2.1 119)) rfl rfl rfl ?_
      refine me_go (pc1 := 228) (lv1 := [(0, .ref P.1), (1, .int x1), (2, .int x2), (3, .int x3), (4, .int x4)]) (st1 := [.int x1, .ref (P.2.1 119)]) 1 rfl ?_
      refine me_iald rfl (g := 119) rfl rfl h.1 ?_
      replace h := h.2
      exact me_ret rfl rfl rfl h
  by_cases c : x2 = 0
  · exact me_sw rfl c (t := 100) rfl (q61_0 (c))
  rename ¬ x2 = 0 => n0
  by_cases c : x2 = 1
  · exact me_sw rfl c (t := 129) rfl (q61_1 (c))
  rename ¬ x2 = 1 => n1
  by_cases c : x2 = 2
  · exact me_sw rfl c (t := 172) rfl (q61_2 (c))
  rename ¬ x2 = 2 => n2
  by_cases c : x2 = 3
  · exact me_sw rfl c (t := 179) rfl (q61_3 (c))
  rename ¬ x2 = 3 => n3
  by_cases c : x2 = 4
  · exact me_sw rfl c (t := 216) rfl (q61_4 (c))
  rename ¬ x2 = 4 => n4
  by_cases c : x2 = 5
  · exact me_sw rfl c (t := 223) rfl (q61_5 (c))
  rename ¬ x2 = 5 => n5
  have hk : ∀ v ∈ [(0 : Int32), (1 : Int32), (2 : Int32), (3 : Int32), (4 : Int32), (5 : Int32)], ¬ x2 = v := fun v hv => by
    simp only [List.mem_cons, List.not_mem_nil, or_false] at hv
    rcases hv with rfl | rfl | rfl | rfl | rfl | rfl <;> assumption
  refine me_tsD (t := 230) rfl _ rfl rfl hk ?_
  replace h := hD.2.2.2.2.2.2 hk
  refine me_go (pc1 := 231) (lv1 := [(0, .ref P.1), (1, .int x1), (2, .int x2), (3, .int x3), (4, .int x4)]) (st1 := [.int (-1)]) 1 rfl ?_
  exact me_ret rfl rfl rfl h
theorem v_thing_0 {X : ev_X} {W : Nat → Prop} {d : Nat} {P : MP} {μ : MS} {R : Int32 → MS → Prop} {T : MS → Prop} (x1 : Int32) (x2 : Int32) (h : (((μ.1 100) = 0 → R (-1) (mS1 μ 0 0)) ∧ (¬ (μ.1 100) = 0 → ((x1.toInt < (1 : Int) → R (-1) (mS1 μ 0 0)) ∧ ((1 : Int) ≤ x1.toInt → ((x1.toInt ≤ (μ.1 103).toInt → ((¬ x2 = 0 → ((¬ x2 = 1 → ((x2 = 2 → (MI x1 (μ.2.2 108) ∧ (((μ.2.1 108 x1.toNatClampNeg) = (-2) → (MI x1 (μ.2.2 109) ∧ ((¬ (μ.2.1 109 x1.toNatClampNeg) = 0 → ME X W true d 503 108 [(0, .ref P.1), (1, .int x1), (2, .int x2), (3, .int 0), (4, .int 0)] [] P (mS1 μ 0 0) R T) ∧ ((μ.2.1 109 x1.toNatClampNeg) = 0 → R (-1) (mS1 μ 0 0))))) ∧ (¬ (μ.2.1 108 x1.toNatClampNeg) = (-2) → (MI x1 (μ.2.2 108) ∧ R (μ.2.1 108 x1.toNatClampNeg) (mS1 μ 0 0)))))) ∧ (¬ x2 = 2 → R (-1) (mS1 μ 0 0)))) ∧ (x2 = 1 → (MI x1 (μ.2.2 107) ∧ R (μ.2.1 107 x1.toNatClampNeg) (mS1 μ 0 0))))) ∧ (x2 = 0 → (MI x1 (μ.2.2 105) ∧ (((0 : Int) ≤ (μ.2.1 105 x1.toNatClampNeg).toInt → (MI x1 (μ.2.2 105) ∧ MC X W true d 443 [.ref P.1, .int (μ.2.1 105 x1.toNatClampNeg)] P (mS1 μ 0 0) (fun r1 μ1 => R r1 μ1) (fun _ => False))) ∧ ((μ.2.1 105 x1.toNatClampNeg).toInt < (0 : Int) → R (-1) (mS1 μ 0 0))))))) ∧ ((μ.1 103).toInt < x1.toInt → R (-1) (mS1 μ 0 0)))))))) : ME X W true d 503 0 [(0, .ref P.1), (1, .int x1), (2, .int x2)] [] P μ R T := by
  refine me_go (pc1 := 2) (lv1 := [(0, .ref P.1), (1, .int x1), (2, .int x2)]) (st1 := [.int 0, .ref P.1]) 2 rfl ?_
  refine me_put rfl rfl rfl ?_
  refine me_go (pc1 := 6) (lv1 := [(0, .ref P.1), (1, .int x1), (2, .int x2)]) (st1 := [.ref P.1]) 1 rfl ?_
  refine me_getf (v := .int (μ.1 100)) rfl rfl rfl ?_
  refine me_ifc rfl rfl (fun c => ?_) (fun c => ?_)
  · replace h := h.1 (ci_eq c)
    refine me_go (pc1 := 26) (lv1 := [(0, .ref P.1), (1, .int x1), (2, .int x2)]) (st1 := [.int (-1)]) 1 rfl ?_
    exact me_ret rfl rfl rfl h
  · replace h := h.2 (cn_eq c)
    refine me_go (pc1 := 14) (lv1 := [(0, .ref P.1), (1, .int x1), (2, .int x2)]) (st1 := [.int 1, .int x1]) 2 rfl ?_
    refine me_icmp rfl rfl (fun c => ?_) (fun c => ?_)
    · replace h := h.1 (ci_lt c)
      refine me_go (pc1 := 26) (lv1 := [(0, .ref P.1), (1, .int x1), (2, .int x2)]) (st1 := [.int (-1)]) 1 rfl ?_
      exact me_ret rfl rfl rfl h
    · replace h := h.2 (cn_lt c)
      refine me_go (pc1 := 19) (lv1 := [(0, .ref P.1), (1, .int x1), (2, .int x2)]) (st1 := [.ref P.1, .int x1]) 2 rfl ?_
      refine me_getf (v := .int (μ.1 103)) rfl rfl rfl ?_
      refine me_icmp rfl rfl (fun c => ?_) (fun c => ?_)
      · replace h := h.1 (ci_le c)
        refine me_go (pc1 := 28) (lv1 := [(0, .ref P.1), (1, .int x1), (2, .int x2)]) (st1 := [.int x2]) 1 rfl ?_
        refine me_ifc rfl rfl (fun c => ?_) (fun c => ?_)
        · replace h := h.1 (ci_ne c)
          refine me_go (pc1 := 57) (lv1 := [(0, .ref P.1), (1, .int x1), (2, .int x2)]) (st1 := [.int 1, .int x2]) 2 rfl ?_
          refine me_icmp rfl rfl (fun c => ?_) (fun c => ?_)
          · replace h := h.1 (ci_ne c)
            refine me_go (pc1 := 69) (lv1 := [(0, .ref P.1), (1, .int x1), (2, .int x2)]) (st1 := [.int 2, .int x2]) 2 rfl ?_
            refine me_icmp rfl rfl (fun c => ?_) (fun c => ?_)
            · replace h := h.1 (ci_eq c)
              refine me_go (pc1 := 75) (lv1 := [(0, .ref P.1), (1, .int x1), (2, .int x2)]) (st1 := [.ref P.1]) 1 rfl ?_
              refine me_getf (v := .ref (P.2.1 108)) rfl rfl rfl ?_
              refine me_go (pc1 := 79) (lv1 := [(0, .ref P.1), (1, .int x1), (2, .int x2)]) (st1 := [.int x1, .ref (P.2.1 108)]) 1 rfl ?_
              refine me_iald rfl (g := 108) rfl rfl h.1 ?_
              replace h := h.2
              refine me_go (pc1 := 82) (lv1 := [(0, .ref P.1), (1, .int x1), (2, .int x2)]) (st1 := [.int (-2), .int (μ.2.1 108 x1.toNatClampNeg)]) 1 rfl ?_
              refine me_icmp rfl rfl (fun c => ?_) (fun c => ?_)
              · replace h := h.1 (ci_eq c)
                refine me_go (pc1 := 93) (lv1 := [(0, .ref P.1), (1, .int x1), (2, .int x2)]) (st1 := [.ref P.1]) 1 rfl ?_
                refine me_getf (v := .ref (P.2.1 109)) rfl rfl rfl ?_
                refine me_go (pc1 := 97) (lv1 := [(0, .ref P.1), (1, .int x1), (2, .int x2)]) (st1 := [.int x1, .ref (P.2.1 109)]) 1 rfl ?_
                refine me_bald rfl (g := 109) rfl (Or.inr rfl) h.1 ?_
                replace h := h.2
                refine me_ifc rfl rfl (fun c => ?_) (fun c => ?_)
                · replace h := h.1 (ci_ne c)
                  refine me_go (pc1 := 108) (lv1 := [(4, .int 0), (3, .int 0), (0, .ref P.1), (1, .int x1), (2, .int x2)]) (st1 := []) 4 rfl ?_
                  refine me_lv [(0, .ref P.1), (1, .int x1), (2, .int x2), (3, .int 0), (4, .int 0)] (fl_c rfl (fl_c rfl (fl_c rfl (fl_c rfl (fl_c rfl fl_0))))) ?_
                  exact h
                · replace h := h.2 (cn_ne c)
                  refine me_go (pc1 := 102) (lv1 := [(0, .ref P.1), (1, .int x1), (2, .int x2)]) (st1 := [.int (-1)]) 1 rfl ?_
                  exact me_ret rfl rfl rfl h
              · replace h := h.2 (cn_eq c)
                refine me_go (pc1 := 86) (lv1 := [(0, .ref P.1), (1, .int x1), (2, .int x2)]) (st1 := [.ref P.1]) 1 rfl ?_
                refine me_getf (v := .ref (P.2.1 108)) rfl rfl rfl ?_
                refine me_go (pc1 := 90) (lv1 := [(0, .ref P.1), (1, .int x1), (2, .int x2)]) (st1 := [.int x1, .ref (P.2.1 108)]) 1 rfl ?_
                refine me_iald rfl (g := 108) rfl rfl h.1 ?_
                replace h := h.2
                exact me_ret rfl rfl rfl h
            · replace h := h.2 (cn_eq c)
              refine me_go (pc1 := 73) (lv1 := [(0, .ref P.1), (1, .int x1), (2, .int x2)]) (st1 := [.int (-1)]) 1 rfl ?_
              exact me_ret rfl rfl rfl h
          · replace h := h.2 (cn_ne c)
            refine me_go (pc1 := 61) (lv1 := [(0, .ref P.1), (1, .int x1), (2, .int x2)]) (st1 := [.ref P.1]) 1 rfl ?_
            refine me_getf (v := .ref (P.2.1 107)) rfl rfl rfl ?_
            refine me_go (pc1 := 65) (lv1 := [(0, .ref P.1), (1, .int x1), (2, .int x2)]) (st1 := [.int x1, .ref (P.2.1 107)]) 1 rfl ?_
            refine me_iald rfl (g := 107) rfl rfl h.1 ?_
            replace h := h.2
            exact me_ret rfl rfl rfl h
        · replace h := h.2 (cn_ne c)
          refine me_go (pc1 := 32) (lv1 := [(0, .ref P.1), (1, .int x1), (2, .int x2)]) (st1 := [.ref P.1]) 1 rfl ?_
          refine me_getf (v := .ref (P.2.1 105)) rfl rfl rfl ?_
          refine me_go (pc1 := 36) (lv1 := [(0, .ref P.1), (1, .int x1), (2, .int x2)]) (st1 := [.int x1, .ref (P.2.1 105)]) 1 rfl ?_
          refine me_iald rfl (g := 105) rfl rfl h.1 ?_
          replace h := h.2
          refine me_ifc rfl rfl (fun c => ?_) (fun c => ?_)
          · replace h := h.1 (ci_ge c)
            refine me_go (pc1 := 46) (lv1 := [(0, .ref P.1), (1, .int x1), (2, .int x2)]) (st1 := [.ref P.1, .ref P.1]) 2 rfl ?_
            refine me_getf (v := .ref (P.2.1 105)) rfl rfl rfl ?_
            refine me_go (pc1 := 50) (lv1 := [(0, .ref P.1), (1, .int x1), (2, .int x2)]) (st1 := [.int x1, .ref (P.2.1 105), .ref P.1]) 1 rfl ?_
            refine me_iald rfl (g := 105) rfl rfl h.1 ?_
            replace h := h.2
            refine me_callN rfl rfl rfl (h.mono (fun r1 μ1 h => ?_) (fun _ h => h))
            exact me_ret rfl rfl rfl h
          · replace h := h.2 (cn_ge c)
            refine me_go (pc1 := 54) (lv1 := [(0, .ref P.1), (1, .int x1), (2, .int x2)]) (st1 := [.int (-1)]) 2 rfl ?_
            exact me_ret rfl rfl rfl h
      · replace h := h.2 (cn_le c)
        refine me_go (pc1 := 26) (lv1 := [(0, .ref P.1), (1, .int x1), (2, .int x2)]) (st1 := [.int (-1)]) 1 rfl ?_
        exact me_ret rfl rfl rfl h
theorem v_thing_108 {X : ev_X} {W : Nat → Prop} {d : Nat} {P : MP} {μ : MS} {R : Int32 → MS → Prop} {T : MS → Prop} (x1 : Int32) (x2 : Int32) (x3 : Int32) (x4 : Int32) (h : (((μ.1 110).toInt ≤ x4.toInt → R x3 μ) ∧ (x4.toInt < (μ.1 110).toInt → (MI x4 (μ.2.2 116) ∧ ((¬ (μ.2.1 116 x4.toNatClampNeg) = 0 → ME X W true d 503 108 [(0, .ref P.1), (1, .int x1), (2, .int x2), (3, .int x3), (4, .int (x4 + 1))] [] P μ R T) ∧ ((μ.2.1 116 x4.toNatClampNeg) = 0 → (MI x4 (μ.2.2 111) ∧ ((¬ (μ.2.1 111 x4.toNatClampNeg) = 2 → ME X W true d 503 108 [(0, .ref P.1), (1, .int x1), (2, .int x2), (3, .int x3), (4, .int (x4 + 1))] [] P μ R T) ∧ ((μ.2.1 111 x4.toNatClampNeg) = 2 → (MI x4 (μ.2.2 112) ∧ ((¬ (μ.2.1 112 x4.toNatClampNeg) = x1 → ME X W true d 503 108 [(0, .ref P.1), (1, .int x1), (2, .int x2), (3, .int x3), (4, .int (x4 + 1))] [] P μ R T) ∧ ((μ.2.1 112 x4.toNatClampNeg) = x1 → ME X W true d 503 108 [(0, .ref P.1), (1, .int x1), (2, .int x2), (3, .int (x3 + 1)), (4, .int (x4 + 1))] [] P μ R T)))))))))))) : ME X W true d 503 108 [(0, .ref P.1), (1, .int x1), (2, .int x2), (3, .int x3), (4, .int x4)] [] P μ R T := by
  refine me_go (pc1 := 111) (lv1 := [(0, .ref P.1), (1, .int x1), (2, .int x2), (3, .int x3), (4, .int x4)]) (st1 := [.ref P.1, .int x4]) 2 rfl ?_
  refine me_getf (v := .int (μ.1 110)) rfl rfl rfl ?_
  refine me_icmp rfl rfl (fun c => ?_) (fun c => ?_)
  · replace h := h.1 (ci_ge c)
    refine me_go (pc1 := 164) (lv1 := [(0, .ref P.1), (1, .int x1), (2, .int x2), (3, .int x3), (4, .int x4)]) (st1 := [.int x3]) 1 rfl ?_
    exact me_ret rfl rfl rfl h
  · replace h := h.2 (cn_ge c)
    refine me_go (pc1 := 118) (lv1 := [(0, .ref P.1), (1, .int x1), (2, .int x2), (3, .int x3), (4, .int x4)]) (st1 := [.ref P.1]) 1 rfl ?_
    refine me_getf (v := .ref (P.2.1 116)) rfl rfl rfl ?_
    refine me_go (pc1 := 123) (lv1 := [(0, .ref P.1), (1, .int x1), (2, .int x2), (3, .int x3), (4, .int x4)]) (st1 := [.int x4, .ref (P.2.1 116)]) 1 rfl ?_
    refine me_iald rfl (g := 116) rfl rfl h.1 ?_
    replace h := h.2
    refine me_ifc rfl rfl (fun c => ?_) (fun c => ?_)
    · replace h := h.1 (ci_ne c)
      refine me_go (pc1 := 108) (lv1 := [(4, .int (x4 + 1)), (3, .int x3), (0, .ref P.1), (1, .int x1), (2, .int x2)]) (st1 := []) 4 rfl ?_
      refine me_lv [(0, .ref P.1), (1, .int x1), (2, .int x2), (3, .int x3), (4, .int (x4 + 1))] (fl_c rfl (fl_c rfl (fl_c rfl (fl_c rfl (fl_c rfl fl_0))))) ?_
      exact h
    · replace h := h.2 (cn_ne c)
      refine me_go (pc1 := 128) (lv1 := [(0, .ref P.1), (1, .int x1), (2, .int x2), (3, .int x3), (4, .int x4)]) (st1 := [.ref P.1]) 1 rfl ?_
      refine me_getf (v := .ref (P.2.1 111)) rfl rfl rfl ?_
      refine me_go (pc1 := 133) (lv1 := [(0, .ref P.1), (1, .int x1), (2, .int x2), (3, .int x3), (4, .int x4)]) (st1 := [.int x4, .ref (P.2.1 111)]) 1 rfl ?_
      refine me_iald rfl (g := 111) rfl rfl h.1 ?_
      replace h := h.2
      refine me_go (pc1 := 135) (lv1 := [(0, .ref P.1), (1, .int x1), (2, .int x2), (3, .int x3), (4, .int x4)]) (st1 := [.int 2, .int (μ.2.1 111 x4.toNatClampNeg)]) 1 rfl ?_
      refine me_icmp rfl rfl (fun c => ?_) (fun c => ?_)
      · replace h := h.1 (ci_ne c)
        refine me_go (pc1 := 108) (lv1 := [(4, .int (x4 + 1)), (3, .int x3), (0, .ref P.1), (1, .int x1), (2, .int x2)]) (st1 := []) 4 rfl ?_
        refine me_lv [(0, .ref P.1), (1, .int x1), (2, .int x2), (3, .int x3), (4, .int (x4 + 1))] (fl_c rfl (fl_c rfl (fl_c rfl (fl_c rfl (fl_c rfl fl_0))))) ?_
        exact h
      · replace h := h.2 (cn_ne c)
        refine me_go (pc1 := 139) (lv1 := [(0, .ref P.1), (1, .int x1), (2, .int x2), (3, .int x3), (4, .int x4)]) (st1 := [.ref P.1]) 1 rfl ?_
        refine me_getf (v := .ref (P.2.1 112)) rfl rfl rfl ?_
        refine me_go (pc1 := 144) (lv1 := [(0, .ref P.1), (1, .int x1), (2, .int x2), (3, .int x3), (4, .int x4)]) (st1 := [.int x4, .ref (P.2.1 112)]) 1 rfl ?_
        refine me_iald rfl (g := 112) rfl rfl h.1 ?_
        replace h := h.2
        refine me_go (pc1 := 146) (lv1 := [(0, .ref P.1), (1, .int x1), (2, .int x2), (3, .int x3), (4, .int x4)]) (st1 := [.int x1, .int (μ.2.1 112 x4.toNatClampNeg)]) 1 rfl ?_
        refine me_icmp rfl rfl (fun c => ?_) (fun c => ?_)
        · replace h := h.1 (ci_ne c)
          refine me_go (pc1 := 108) (lv1 := [(4, .int (x4 + 1)), (3, .int x3), (0, .ref P.1), (1, .int x1), (2, .int x2)]) (st1 := []) 4 rfl ?_
          refine me_lv [(0, .ref P.1), (1, .int x1), (2, .int x2), (3, .int x3), (4, .int (x4 + 1))] (fl_c rfl (fl_c rfl (fl_c rfl (fl_c rfl (fl_c rfl fl_0))))) ?_
          exact h
        · replace h := h.2 (cn_ne c)
          refine me_go (pc1 := 108) (lv1 := [(4, .int (x4 + 1)), (3, .int (x3 + 1)), (0, .ref P.1), (1, .int x1), (2, .int x2)]) (st1 := []) 7 rfl ?_
          refine me_lv [(0, .ref P.1), (1, .int x1), (2, .int x2), (3, .int (x3 + 1)), (4, .int (x4 + 1))] (fl_c rfl (fl_c rfl (fl_c rfl (fl_c rfl (fl_c rfl fl_0))))) ?_
          exact h
theorem v_inside_0 {X : ev_X} {W : Nat → Prop} {d : Nat} {P : MP} {μ : MS} {R : Int32 → MS → Prop} {T : MS → Prop} (x1 : Int32) (x2 : Int32) (h : (((μ.1 100) = 0 → R 0 (mS1 μ 0 0)) ∧ (¬ (μ.1 100) = 0 → ((x1.toInt < (1 : Int) → R 0 (mS1 μ 0 0)) ∧ ((1 : Int) ≤ x1.toInt → (((μ.1 103).toInt < x1.toInt → R 0 (mS1 μ 0 0)) ∧ (x1.toInt ≤ (μ.1 103).toInt → ((x2.toInt < (0 : Int) → R 0 (mS1 μ 0 0)) ∧ ((0 : Int) ≤ x2.toInt → (MI x1 (μ.2.2 107) ∧ (((μ.2.1 107 x1.toNatClampNeg).toInt ≤ x2.toInt → R 0 (mS1 μ 0 0)) ∧ (x2.toInt < (μ.2.1 107 x1.toNatClampNeg).toInt → (MI x1 (μ.2.2 106) ∧ (MI ((μ.2.1 106 x1.toNatClampNeg) + x2) (μ.2.2 99) ∧ R (μ.2.1 99 (((μ.2.1 106 x1.toNatClampNeg) + x2)).toNatClampNeg) (mS1 μ 0 0))))))))))))))) : ME X W true d 504 0 [(0, .ref P.1), (1, .int x1), (2, .int x2)] [] P μ R T := by
  refine me_go (pc1 := 2) (lv1 := [(0, .ref P.1), (1, .int x1), (2, .int x2)]) (st1 := [.int 0, .ref P.1]) 2 rfl ?_
  refine me_put rfl rfl rfl ?_
  refine me_go (pc1 := 6) (lv1 := [(0, .ref P.1), (1, .int x1), (2, .int x2)]) (st1 := [.ref P.1]) 1 rfl ?_
  refine me_getf (v := .int (μ.1 100)) rfl rfl rfl ?_
  refine me_ifc rfl rfl (fun c => ?_) (fun c => ?_)
  · replace h := h.1 (ci_eq c)
    refine me_go (pc1 := 56) (lv1 := [(0, .ref P.1), (1, .int x1), (2, .int x2)]) (st1 := [.int 0]) 1 rfl ?_
    exact me_ret rfl rfl rfl h
  · replace h := h.2 (cn_eq c)
    refine me_go (pc1 := 14) (lv1 := [(0, .ref P.1), (1, .int x1), (2, .int x2)]) (st1 := [.int 1, .int x1]) 2 rfl ?_
    refine me_icmp rfl rfl (fun c => ?_) (fun c => ?_)
    · replace h := h.1 (ci_lt c)
      refine me_go (pc1 := 56) (lv1 := [(0, .ref P.1), (1, .int x1), (2, .int x2)]) (st1 := [.int 0]) 1 rfl ?_
      exact me_ret rfl rfl rfl h
    · replace h := h.2 (cn_lt c)
      refine me_go (pc1 := 19) (lv1 := [(0, .ref P.1), (1, .int x1), (2, .int x2)]) (st1 := [.ref P.1, .int x1]) 2 rfl ?_
      refine me_getf (v := .int (μ.1 103)) rfl rfl rfl ?_
      refine me_icmp rfl rfl (fun c => ?_) (fun c => ?_)
      · replace h := h.1 (ci_gt c)
        refine me_go (pc1 := 56) (lv1 := [(0, .ref P.1), (1, .int x1), (2, .int x2)]) (st1 := [.int 0]) 1 rfl ?_
        exact me_ret rfl rfl rfl h
      · replace h := h.2 (cn_gt c)
        refine me_go (pc1 := 26) (lv1 := [(0, .ref P.1), (1, .int x1), (2, .int x2)]) (st1 := [.int x2]) 1 rfl ?_
        refine me_ifc rfl rfl (fun c => ?_) (fun c => ?_)
        · replace h := h.1 (ci_lt c)
          refine me_go (pc1 := 56) (lv1 := [(0, .ref P.1), (1, .int x1), (2, .int x2)]) (st1 := [.int 0]) 1 rfl ?_
          exact me_ret rfl rfl rfl h
        · replace h := h.2 (cn_lt c)
          refine me_go (pc1 := 31) (lv1 := [(0, .ref P.1), (1, .int x1), (2, .int x2)]) (st1 := [.ref P.1, .int x2]) 2 rfl ?_
          refine me_getf (v := .ref (P.2.1 107)) rfl rfl rfl ?_
          refine me_go (pc1 := 35) (lv1 := [(0, .ref P.1), (1, .int x1), (2, .int x2)]) (st1 := [.int x1, .ref (P.2.1 107), .int x2]) 1 rfl ?_
          refine me_iald rfl (g := 107) rfl rfl h.1 ?_
          replace h := h.2
          refine me_icmp rfl rfl (fun c => ?_) (fun c => ?_)
          · replace h := h.1 (ci_ge c)
            refine me_go (pc1 := 56) (lv1 := [(0, .ref P.1), (1, .int x1), (2, .int x2)]) (st1 := [.int 0]) 1 rfl ?_
            exact me_ret rfl rfl rfl h
          · replace h := h.2 (cn_ge c)
            refine me_go (pc1 := 40) (lv1 := [(0, .ref P.1), (1, .int x1), (2, .int x2)]) (st1 := [.ref P.1]) 1 rfl ?_
            refine me_getf (v := .ref (P.2.1 99)) rfl rfl rfl ?_
            refine me_go (pc1 := 44) (lv1 := [(0, .ref P.1), (1, .int x1), (2, .int x2)]) (st1 := [.ref P.1, .ref (P.2.1 99)]) 1 rfl ?_
            refine me_getf (v := .ref (P.2.1 106)) rfl rfl rfl ?_
            refine me_go (pc1 := 48) (lv1 := [(0, .ref P.1), (1, .int x1), (2, .int x2)]) (st1 := [.int x1, .ref (P.2.1 106), .ref (P.2.1 99)]) 1 rfl ?_
            refine me_iald rfl (g := 106) rfl rfl h.1 ?_
            replace h := h.2
            refine me_go (pc1 := 51) (lv1 := [(0, .ref P.1), (1, .int x1), (2, .int x2)]) (st1 := [.int ((μ.2.1 106 x1.toNatClampNeg) + x2), .ref (P.2.1 99)]) 2 rfl ?_
            refine me_iald rfl (g := 99) rfl rfl h.1 ?_
            replace h := h.2
            refine me_go (pc1 := 56) (lv1 := [(0, .ref P.1), (1, .int x1), (2, .int x2)]) (st1 := [.int (μ.2.1 99 (((μ.2.1 106 x1.toNatClampNeg) + x2)).toNatClampNeg)]) 1 rfl ?_
            exact me_ret rfl rfl rfl h
