/-! types that differ at one look -/
/-- two of the same kind (no OPAQUE one, no name) and the same lower bound, whose upper bounds differ -/
theorem t_isLike_hi {X : ev_X} {d : Nat} {t : ev_T} {sz a b : Nat} {fa fb : List Value} {ka la ha hb : Int32} (hab : ¬ a = b) (ga : ev_g t a = some (.inr (4, fa))) (gb : ev_g t b = some (.inr (4, fb))) (ka0 : ev_nth fa 0 = some (.int ka)) (kb0 : ev_nth fb 0 = some (.int ka)) (k12 : ¬ ka = 12) (k13 : ¬ ka = 13) (la0 : ev_nth fa 4 = some (.int la)) (lb0 : ev_nth fb 4 = some (.int la)) (ha0 : ev_nth fa 5 = some (.int ha)) (hb0 : ev_nth fb 5 = some (.int hb)) (hne : ¬ ha = hb) :
    Cd X (d + 1) 90 [.ref a, .ref b] sz t (some (.int 0)) (sz, t, 0, 0) := by
  refine e_meth rfl ?_
  refine e_go (pc1 := 2) (lv1 := [(0, .ref a), (1, .ref b)]) (st1 := [.ref b, .ref a]) 2 rfl ?_
  refine e_acmp (t := 7) rfl rfl true (by simp [hab]) ?_
  refine e_go (pc1 := 8) (lv1 := [(0, .ref a), (1, .ref b)]) (st1 := [.ref a]) 1 rfl ?_
  refine e_getf rfl ga ka0 ?_
  refine e_go (pc1 := 12) (lv1 := [(0, .ref a), (1, .ref b)]) (st1 := [.ref b, .int ka]) 1 rfl ?_
  refine e_getf rfl gb kb0 ?_
  refine e_icmp (t := 58) rfl rfl false (ic_nen rfl) ?_
  refine e_go (pc1 := 19) (lv1 := [(0, .ref a), (1, .ref b)]) (st1 := [.ref a]) 1 rfl ?_
  refine e_getf rfl ga ka0 ?_
  refine e_go (pc1 := 24) (lv1 := [(0, .ref a), (1, .ref b)]) (st1 := [.int 12, .int ka]) 1 rfl ?_
  refine e_icmp (t := 58) rfl rfl false (ic_eqn k12) ?_
  refine e_go (pc1 := 28) (lv1 := [(0, .ref a), (1, .ref b)]) (st1 := [.ref a]) 1 rfl ?_
  refine e_getf rfl ga ka0 ?_
  refine e_go (pc1 := 33) (lv1 := [(0, .ref a), (1, .ref b)]) (st1 := [.int 13, .int ka]) 1 rfl ?_
  refine e_icmp (t := 58) rfl rfl false (ic_eqn k13) ?_
  refine e_go (pc1 := 37) (lv1 := [(0, .ref a), (1, .ref b)]) (st1 := [.ref a]) 1 rfl ?_
  refine e_getf rfl ga la0 ?_
  refine e_go (pc1 := 41) (lv1 := [(0, .ref a), (1, .ref b)]) (st1 := [.ref b, .int la]) 1 rfl ?_
  refine e_getf rfl gb lb0 ?_
  refine e_icmp (t := 58) rfl rfl false (ic_nen rfl) ?_
  refine e_go (pc1 := 48) (lv1 := [(0, .ref a), (1, .ref b)]) (st1 := [.ref a]) 1 rfl ?_
  refine e_getf rfl ga ha0 ?_
  refine e_go (pc1 := 52) (lv1 := [(0, .ref a), (1, .ref b)]) (st1 := [.ref b, .int ha]) 1 rfl ?_
  refine e_getf rfl gb hb0 ?_
  refine e_icmp (t := 60) rfl rfl false (ic_eqn hne) ?_
  refine e_go (pc1 := 59) (lv1 := [(0, .ref a), (1, .ref b)]) (st1 := [.int 0]) 1 rfl ?_
  exact e_rt rfl rfl
