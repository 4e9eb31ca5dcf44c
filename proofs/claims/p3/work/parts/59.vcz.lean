theorem v_knowWords_0 {X : ev_X} {W : Nat → Prop} {d : Nat} {P : MP} {μ : MS} {R : Int32 → MS → Prop} {T : MS → Prop}  (h : ME X W true d 281 14 [(0, .ref P.1), (1, .int 0), (2, .int 0)] [] P (mS1 (mS1 μ 12 0) 16 0) R T) : ME X W true d 281 0 [(0, .ref P.1)] [] P μ R T := by
  refine me_go (pc1 := 2) (lv1 := [(0, .ref P.1)]) (st1 := [.int 0, .ref P.1]) 2 rfl ?_
  refine me_put rfl rfl rfl ?_
  refine me_go (pc1 := 7) (lv1 := [(0, .ref P.1)]) (st1 := [.int 0, .ref P.1]) 2 rfl ?_
  refine me_put rfl rfl rfl ?_
  refine me_go (pc1 := 14) (lv1 := [(2, .int 0), (1, .int 0), (0, .ref P.1)]) (st1 := []) 4 rfl ?_
  refine me_lv [(0, .ref P.1), (1, .int 0), (2, .int 0)] (fl_c rfl (fl_c rfl (fl_c rfl fl_0))) ?_
  exact h
theorem v_knowWords_14 {X : ev_X} {W : Nat → Prop} {d : Nat} {P : MP} {μ : MS} {R : Int32 → MS → Prop} {T : MS → Prop} (x1 : Int32) (x2 : Int32) (h : (((345 : Int) ≤ x2.toInt → R 0 μ) ∧ (x2.toInt < (345 : Int) → (MI x2 345 ∧ ((¬ (nI (kwB x2.toNatClampNeg)) = 32 → (MI x2 345 ∧ (MI ((μ.1 16) + x1) (μ.2.2 15) ∧ ME X W true d 281 14 [(0, .ref P.1), (1, .int (x1 + 1)), (2, .int (x2 + 1))] [] P (mA1 μ 15 ((((μ.1 16) + x1)).toNatClampNeg) (((nI (kwB x2.toNatClampNeg)).toInt8.toInt32).toInt8.toInt32)) R T))) ∧ ((nI (kwB x2.toNatClampNeg)) = 32 → MC X W true d 280 [.ref P.1, .int x1] P μ (fun r1 μ1 => ME X W true d 281 14 [(0, .ref P.1), (1, .int 0), (2, .int (x2 + 1))] [] P μ1 R T) (fun _ => False))))))) : ME X W true d 281 14 [(0, .ref P.1), (1, .int x1), (2, .int x2)] [] P μ R T := by
  refine me_go (pc1 := 15) (lv1 := [(0, .ref P.1), (1, .int x1), (2, .int x2)]) (st1 := [.int x2]) 1 rfl ?_
  refine me_ldcT rfl ?_
  refine me_xm (st1 := [.int 345, .int x2]) rfl rfl ?_
  refine me_icmp rfl rfl (fun c => ?_) (fun c => ?_)
  · replace h := h.1 (ci_ge c)
    exact me_ret (v := none) (r := 0) rfl rfl rfl h
  · replace h := h.2 (cn_ge c)
    refine me_ldcT rfl ?_
    refine me_go (pc1 := 28) (lv1 := [(0, .ref P.1), (1, .int x1), (2, .int x2)]) (st1 := [.int x2, .retAddr 2]) 1 rfl ?_
    refine me_chr rfl rfl h.1 ?_
    replace h := h.2
    refine me_go (pc1 := 33) (lv1 := [(0, .ref P.1), (1, .int x1), (2, .int x2)]) (st1 := [.int 32, .int (nI (kwB x2.toNatClampNeg))]) 1 rfl ?_
    refine me_icmp rfl rfl (fun c => ?_) (fun c => ?_)
    · replace h := h.1 (ci_ne c)
      refine me_go (pc1 := 48) (lv1 := [(0, .ref P.1), (1, .int x1), (2, .int x2)]) (st1 := [.ref P.1]) 1 rfl ?_
      refine me_getf (v := .ref (P.2.1 15)) rfl rfl rfl ?_
      refine me_go (pc1 := 52) (lv1 := [(0, .ref P.1), (1, .int x1), (2, .int x2)]) (st1 := [.ref P.1, .ref (P.2.1 15)]) 1 rfl ?_
      refine me_getf (v := .int (μ.1 16)) rfl rfl rfl ?_
      refine me_go (pc1 := 57) (lv1 := [(0, .ref P.1), (1, .int x1), (2, .int x2)]) (st1 := [.int ((μ.1 16) + x1), .ref (P.2.1 15)]) 2 rfl ?_
      refine me_ldcT rfl ?_
      refine me_go (pc1 := 61) (lv1 := [(0, .ref P.1), (1, .int x1), (2, .int x2)]) (st1 := [.int x2, .retAddr 2, .int ((μ.1 16) + x1), .ref (P.2.1 15)]) 1 rfl ?_
      refine me_chr rfl rfl h.1 ?_
      replace h := h.2
      refine me_go (pc1 := 65) (lv1 := [(0, .ref P.1), (1, .int x1), (2, .int x2)]) (st1 := [.int ((nI (kwB x2.toNatClampNeg)).toInt8.toInt32), .int ((μ.1 16) + x1), .ref (P.2.1 15)]) 1 rfl ?_
      have hi := h.1
      replace h := h.2
      refine me_bast rfl (g := 15) rfl rfl hi ?_
      refine me_go (pc1 := 14) (lv1 := [(2, .int (x2 + 1)), (1, .int (x1 + 1)), (0, .ref P.1)]) (st1 := []) 3 rfl ?_
      refine me_lv [(0, .ref P.1), (1, .int (x1 + 1)), (2, .int (x2 + 1))] (fl_c rfl (fl_c rfl (fl_c rfl fl_0))) ?_
      exact h
    · replace h := h.2 (cn_ne c)
      refine me_go (pc1 := 38) (lv1 := [(0, .ref P.1), (1, .int x1), (2, .int x2)]) (st1 := [.int x1, .ref P.1]) 2 rfl ?_
      refine me_callN rfl rfl rfl (h.mono (fun r1 μ1 h => ?_) (fun _ h => h))
      refine me_go (pc1 := 14) (lv1 := [(2, .int (x2 + 1)), (1, .int 0), (3, .int r1), (0, .ref P.1)]) (st1 := []) 6 rfl ?_
      refine me_lv [(0, .ref P.1), (1, .int 0), (2, .int (x2 + 1))] (fl_c rfl (fl_c rfl (fl_c rfl fl_0))) ?_
      exact h
