/-! CELLS of a type -/
theorem t_cells_1 {X : ev_X} {d : Nat} {t : ev_T} {sz a : Nat} {fa : List Value} {k : Int32} (ga : ev_g t a = some (.inr (4, fa))) (hk : ev_nth fa 0 = some (.int k)) (k3 : ¬ k = 3) (k4 : ¬ k = 4) : Cd X (d + 1) 97 [.ref a] sz t (some (.int 1)) (sz, t, 0, 0) := by
  refine e_meth rfl ?_
  refine e_go (pc1 := 1) (lv1 := [(0, .ref a)]) (st1 := [.ref a]) 1 rfl ?_
  refine e_getf rfl ga hk ?_
  refine e_go (pc1 := 5) (lv1 := [(0, .ref a)]) (st1 := [.int 3, .int k]) 1 rfl ?_
  refine e_icmp (t := 64) rfl rfl true (ic_ne k3) ?_
  refine e_go (pc1 := 65) (lv1 := [(0, .ref a)]) (st1 := [.ref a]) 1 rfl ?_
  refine e_getf rfl ga hk ?_
  refine e_go (pc1 := 69) (lv1 := [(0, .ref a)]) (st1 := [.int 4, .int k]) 1 rfl ?_
  refine e_icmp (t := 74) rfl rfl false (ic_eqn k4) ?_
  refine e_go (pc1 := 73) (lv1 := [(0, .ref a)]) (st1 := [.int 1]) 1 rfl ?_
  exact e_rt rfl rfl
/-- an ARRAY whose part has none yet -/
theorem t_cells_no {X : ev_X} {d : Nat} {t : ev_T} {sz a p q : Nat} {fa fp fq : List Value} {lo hi : Int32} (ga : ev_g t a = some (.inr (4, fa))) (hk : ev_nth fa 0 = some (.int 3)) (h6 : ev_nth fa 6 = some (.ref p)) (gp : ev_g t p = some (.inr (4, fp))) (h11 : ev_nth fp 11 = some (.ref q)) (gq : ev_g t q = some (.inr (4, fq))) (hlo : ev_nth fa 4 = some (.int lo)) (hhi : ev_nth fa 5 = some (.int hi)) (hle : ev_ic .gt lo hi = false) (hc : ev_nth fq 15 = some (.int (-1))) : Cd X (d + 1) 97 [.ref a] sz t (some (.int (-1))) (sz, t, 0, 0) := by
  refine e_meth rfl ?_
  refine e_go (pc1 := 1) (lv1 := [(0, .ref a)]) (st1 := [.ref a]) 1 rfl ?_
  refine e_getf rfl ga hk ?_
  refine e_go (pc1 := 9) (lv1 := [(0, .ref a)]) (st1 := [.ref a]) 3 rfl ?_
  refine e_getf rfl ga h6 ?_
  refine e_getf rfl gp h11 ?_
  refine e_go (pc1 := 17) (lv1 := [(1, .ref q), (0, .ref a)]) (st1 := [.ref a]) 2 rfl ?_
  refine e_getf rfl ga hlo ?_
  refine e_go (pc1 := 21) (lv1 := [(1, .ref q), (0, .ref a)]) (st1 := [.ref a, .int lo]) 1 rfl ?_
  refine e_getf rfl ga hhi ?_
  refine e_icmp (t := 35) rfl rfl false hle ?_
  refine e_go (pc1 := 28) (lv1 := [(1, .ref q), (0, .ref a)]) (st1 := [.ref q]) 1 rfl ?_
  refine e_getf rfl gq hc ?_
  refine e_go (pc1 := 36) (lv1 := [(1, .ref q), (0, .ref a)]) (st1 := [.int (-1)]) 3 rfl ?_
  exact e_rt rfl rfl
theorem t_cells_2 {X : ev_X} {d : Nat} {t : ev_T} {sz a p q : Nat} {fa fp fq : List Value} (ga : ev_g t a = some (.inr (4, fa))) (hk : ev_nth fa 0 = some (.int 3)) (h6 : ev_nth fa 6 = some (.ref p)) (gp : ev_g t p = some (.inr (4, fp))) (h11 : ev_nth fp 11 = some (.ref q)) (gq : ev_g t q = some (.inr (4, fq))) (hlo : ev_nth fa 4 = some (.int 0)) (hhi : ev_nth fa 5 = some (.int 1)) (hc : ev_nth fq 15 = some (.int 1)) : Cd X (d + 1) 97 [.ref a] sz t (some (.int 2)) (sz, t, 0, 0) := by
  refine e_meth rfl ?_
  refine e_go (pc1 := 1) (lv1 := [(0, .ref a)]) (st1 := [.ref a]) 1 rfl ?_
  refine e_getf rfl ga hk ?_
  refine e_go (pc1 := 9) (lv1 := [(0, .ref a)]) (st1 := [.ref a]) 3 rfl ?_
  refine e_getf rfl ga h6 ?_
  refine e_getf rfl gp h11 ?_
  refine e_go (pc1 := 17) (lv1 := [(1, .ref q), (0, .ref a)]) (st1 := [.ref a]) 2 rfl ?_
  refine e_getf rfl ga hlo ?_
  refine e_go (pc1 := 21) (lv1 := [(1, .ref q), (0, .ref a)]) (st1 := [.ref a, .int 0]) 1 rfl ?_
  refine e_getf rfl ga hhi ?_
  refine e_go (pc1 := 28) (lv1 := [(1, .ref q), (0, .ref a)]) (st1 := [.ref q]) 2 rfl ?_
  refine e_getf rfl gq hc ?_
  refine e_go (pc1 := 37) (lv1 := [(1, .ref q), (0, .ref a)]) (st1 := []) 2 rfl ?_
  refine e_xh (pc1 := 40) (st1 := [.long (Int64.ofInt 1000000000)]) (σ1 := (sz, t, 0, 0)) rfl rfl ?_
  refine e_go (pc1 := 41) (lv1 := [(1, .ref q), (0, .ref a)]) (st1 := [.ref a, .long (Int64.ofInt 1000000000)]) 1 rfl ?_
  refine e_getf rfl ga hhi ?_
  refine e_go (pc1 := 46) (lv1 := [(1, .ref q), (0, .ref a)]) (st1 := [.ref a, .long (Int32.toInt64 1), .long (Int64.ofInt 1000000000)]) 2 rfl ?_
  refine e_getf rfl ga hlo ?_
  refine e_go (pc1 := 54) (lv1 := [(1, .ref q), (0, .ref a)]) (st1 := [.ref q, .long (Int32.toInt64 1 - Int32.toInt64 0 + Int64.ofNat 1), .long (Int64.ofInt 1000000000)]) 5 rfl ?_
  refine e_getf rfl gq hc ?_
  refine e_go (pc1 := 59) (lv1 := [(1, .ref q), (0, .ref a)]) (st1 := [.long 2, .long 1000000000]) 2 rfl ?_
  refine e_xm (st1 := [.long 2]) rfl rfl ?_
  refine e_go (pc1 := 63) (lv1 := [(1, .ref q), (0, .ref a)]) (st1 := [.int 2]) 1 rfl ?_
  exact e_rt rfl rfl
theorem t_cells_3 {X : ev_X} {d : Nat} {t : ev_T} {sz a p q : Nat} {fa fp fq : List Value} (ga : ev_g t a = some (.inr (4, fa))) (hk : ev_nth fa 0 = some (.int 3)) (h6 : ev_nth fa 6 = some (.ref p)) (gp : ev_g t p = some (.inr (4, fp))) (h11 : ev_nth fp 11 = some (.ref q)) (gq : ev_g t q = some (.inr (4, fq))) (hlo : ev_nth fa 4 = some (.int 0)) (hhi : ev_nth fa 5 = some (.int 2)) (hc : ev_nth fq 15 = some (.int 1)) : Cd X (d + 1) 97 [.ref a] sz t (some (.int 3)) (sz, t, 0, 0) := by
  refine e_meth rfl ?_
  refine e_go (pc1 := 1) (lv1 := [(0, .ref a)]) (st1 := [.ref a]) 1 rfl ?_
  refine e_getf rfl ga hk ?_
  refine e_go (pc1 := 9) (lv1 := [(0, .ref a)]) (st1 := [.ref a]) 3 rfl ?_
  refine e_getf rfl ga h6 ?_
  refine e_getf rfl gp h11 ?_
  refine e_go (pc1 := 17) (lv1 := [(1, .ref q), (0, .ref a)]) (st1 := [.ref a]) 2 rfl ?_
  refine e_getf rfl ga hlo ?_
  refine e_go (pc1 := 21) (lv1 := [(1, .ref q), (0, .ref a)]) (st1 := [.ref a, .int 0]) 1 rfl ?_
  refine e_getf rfl ga hhi ?_
  refine e_go (pc1 := 28) (lv1 := [(1, .ref q), (0, .ref a)]) (st1 := [.ref q]) 2 rfl ?_
  refine e_getf rfl gq hc ?_
  refine e_go (pc1 := 37) (lv1 := [(1, .ref q), (0, .ref a)]) (st1 := []) 2 rfl ?_
  refine e_xh (pc1 := 40) (st1 := [.long (Int64.ofInt 1000000000)]) (σ1 := (sz, t, 0, 0)) rfl rfl ?_
  refine e_go (pc1 := 41) (lv1 := [(1, .ref q), (0, .ref a)]) (st1 := [.ref a, .long (Int64.ofInt 1000000000)]) 1 rfl ?_
  refine e_getf rfl ga hhi ?_
  refine e_go (pc1 := 46) (lv1 := [(1, .ref q), (0, .ref a)]) (st1 := [.ref a, .long (Int32.toInt64 2), .long (Int64.ofInt 1000000000)]) 2 rfl ?_
  refine e_getf rfl ga hlo ?_
  refine e_go (pc1 := 54) (lv1 := [(1, .ref q), (0, .ref a)]) (st1 := [.ref q, .long (Int32.toInt64 2 - Int32.toInt64 0 + Int64.ofNat 1), .long (Int64.ofInt 1000000000)]) 5 rfl ?_
  refine e_getf rfl gq hc ?_
  refine e_go (pc1 := 59) (lv1 := [(1, .ref q), (0, .ref a)]) (st1 := [.long 3, .long 1000000000]) 2 rfl ?_
  refine e_xm (st1 := [.long 3]) rfl rfl ?_
  refine e_go (pc1 := 63) (lv1 := [(1, .ref q), (0, .ref a)]) (st1 := [.int 3]) 1 rfl ?_
  exact e_rt rfl rfl
