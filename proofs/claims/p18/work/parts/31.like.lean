/-! types that differ at one look -/
/-- two of the same kind (no OPAQUE one, no name) and the same lower bound, whose upper bounds differ -/
theorem t_isLike_hi {X : ev_X} {d : Nat} {t : ev_T} {sz a b : Nat} {fa fb : List Value} {ka la ha hb : Int32} (hab : ¬ a = b) (ga : ev_g t a = some (.inr (4, fa))) (gb : ev_g t b = some (.inr (4, fb))) (ka0 : ev_nth fa 0 = some (.int ka)) (kb0 : ev_nth fb 0 = some (.int ka)) (k12 : ¬ ka = 12) (k13 : ¬ ka = 13) (la0 : ev_nth fa 4 = some (.int la)) (lb0 : ev_nth fb 4 = some (.int la)) (ha0 : ev_nth fa 5 = some (.int ha)) (hb0 : ev_nth fb 5 = some (.int hb)) (hne : ¬ ha = hb) :
    Cd X (d + 1) 90 [.ref a, .ref b] sz t (some (.int 0)) (sz, t, 0, 0) := by
  refine e_meth rfl ?_
  refine e_go (pc1 := 2) (lv1 := [(0, .ref a), (1, .ref b)]) (st1 := [.ref b, .ref a]) 2 rfl ?_
  refine e_acmp (t := 7) rfl rfl true (by simp [hab]) ?_
  refine e_go (pc1 := 8) (lv1 := [(0, .ref a), (1, .ref b)]) (st1 := [.ref a]) 1 rfl ?_
  refine e_getf rfl ga ka0 ?_
  refine e_go (pc1 := 12) (lv1 := [(0, .ref a), (1, .ref b)]) (st1 := [.ref b, .int ka]) 1 rfl ?_
  refine e_getf rfl gb kb0 ?_
  refine e_icmp (t := 58) rfl rfl false (ic_nen rfl) ?_
  refine e_go (pc1 := 19) (lv1 := [(0, .ref a), (1, .ref b)]) (st1 := [.ref a]) 1 rfl ?_
  refine e_getf rfl ga ka0 ?_
  refine e_go (pc1 := 24) (lv1 := [(0, .ref a), (1, .ref b)]) (st1 := [.int 12, .int ka]) 1 rfl ?_
  refine e_icmp (t := 58) rfl rfl false (ic_eqn k12) ?_
  refine e_go (pc1 := 28) (lv1 := [(0, .ref a), (1, .ref b)]) (st1 := [.ref a]) 1 rfl ?_
  refine e_getf rfl ga ka0 ?_
  refine e_go (pc1 := 33) (lv1 := [(0, .ref a), (1, .ref b)]) (st1 := [.int 13, .int ka]) 1 rfl ?_
  refine e_icmp (t := 58) rfl rfl false (ic_eqn k13) ?_
  refine e_go (pc1 := 37) (lv1 := [(0, .ref a), (1, .ref b)]) (st1 := [.ref a]) 1 rfl ?_
  refine e_getf rfl ga la0 ?_
  refine e_go (pc1 := 41) (lv1 := [(0, .ref a), (1, .ref b)]) (st1 := [.ref b, .int la]) 1 rfl ?_
  refine e_getf rfl gb lb0 ?_
  refine e_icmp (t := 58) rfl rfl false (ic_nen rfl) ?_
  refine e_go (pc1 := 48) (lv1 := [(0, .ref a), (1, .ref b)]) (st1 := [.ref a]) 1 rfl ?_
  refine e_getf rfl ga ha0 ?_
  refine e_go (pc1 := 52) (lv1 := [(0, .ref a), (1, .ref b)]) (st1 := [.ref b, .int ha]) 1 rfl ?_
  refine e_getf rfl gb hb0 ?_
  refine e_icmp (t := 60) rfl rfl false (ic_eqn hne) ?_
  refine e_go (pc1 := 59) (lv1 := [(0, .ref a), (1, .ref b)]) (st1 := [.int 0]) 1 rfl ?_
  exact e_rt rfl rfl
theorem t_hasOv0 {X : ev_X} {d : Nat} {t : ev_T} {sz : Nat} : Cd X (d + 1) 93 [.null, .null] sz t (some (.int 1)) (sz, t, 0, 0) := by
  refine e_meth rfl ?_
  refine e_go (pc1 := 60) (lv1 := [(2, .null), (0, .null), (1, .null)]) (st1 := [.int 1]) 5 rfl ?_
  exact e_rt rfl rfl
theorem t_isWithin0 {X : ev_X} {d : Nat} {t : ev_T} {sz : Nat} : Cd X (d + 1) 94 [.null, .null] sz t (some (.int 1)) (sz, t, 0, 0) := by
  refine e_meth rfl ?_
  refine e_go (pc1 := 46) (lv1 := [(2, .null), (0, .null), (1, .null)]) (st1 := [.int 1]) 5 rfl ?_
  exact e_rt rfl rfl
/-- a node whose part is real, with its shape -/
def nd_el (t : ev_T) (fa : List Value) (x : Int32) : Prop := ∃ (p q : Nat) (fp fq : List Value), ev_nth fa 6 = some (.ref p) ∧ ev_g t p = some (.inr (4, fp)) ∧ ev_nth fp 11 = some (.ref q) ∧ ev_g t q = some (.inr (4, fq)) ∧ ev_nth fq 14 = some (.int x)
theorem t_sameElem_1 {X : ev_X} {d : Nat} {t : ev_T} {sz a b : Nat} {fa fb : List Value} {x y : Int32} (ga : ev_g t a = some (.inr (4, fa))) (gb : ev_g t b = some (.inr (4, fb))) (ea : nd_el t fa x) (eb : nd_el t fb y) (h : x = y) : Cd X (d + 1) 91 [.ref a, .ref b] sz t (some (.int 1)) (sz, t, 0, 0) := by
  obtain ⟨p, q, fp, fq, a1, a2, a3, a4, a5⟩ := ea
  obtain ⟨p', q', fp', fq', b1, b2, b3, b4, b5⟩ := eb
  refine e_meth rfl ?_
  refine e_go (pc1 := 1) (lv1 := [(0, .ref a), (1, .ref b)]) (st1 := [.ref a]) 1 rfl ?_
  refine e_getf rfl ga a1 ?_
  refine e_go (pc1 := 8) (lv1 := [(0, .ref a), (1, .ref b)]) (st1 := [.ref b]) 2 rfl ?_
  refine e_getf rfl gb b1 ?_
  refine e_go (pc1 := 32) (lv1 := [(0, .ref a), (1, .ref b)]) (st1 := [.ref a]) 2 rfl ?_
  refine e_getf rfl ga a1 ?_
  refine e_getf rfl a2 a3 ?_
  refine e_getf rfl a4 a5 ?_
  refine e_go (pc1 := 42) (lv1 := [(0, .ref a), (1, .ref b)]) (st1 := [.ref b, .int x]) 1 rfl ?_
  refine e_getf rfl gb b1 ?_
  refine e_getf rfl b2 b3 ?_
  refine e_getf rfl b4 b5 ?_
  refine e_icmp (t := 58) rfl rfl false (ic_nen h) ?_
  refine e_go (pc1 := 59) (lv1 := [(0, .ref a), (1, .ref b)]) (st1 := [.int 1]) 2 rfl ?_
  exact e_rt rfl rfl
theorem t_sameElem_0 {X : ev_X} {d : Nat} {t : ev_T} {sz a b : Nat} {fa fb : List Value} {x y : Int32} (ga : ev_g t a = some (.inr (4, fa))) (gb : ev_g t b = some (.inr (4, fb))) (ea : nd_el t fa x) (eb : nd_el t fb y) (h : ¬ x = y) : Cd X (d + 1) 91 [.ref a, .ref b] sz t (some (.int 0)) (sz, t, 0, 0) := by
  obtain ⟨p, q, fp, fq, a1, a2, a3, a4, a5⟩ := ea
  obtain ⟨p', q', fp', fq', b1, b2, b3, b4, b5⟩ := eb
  refine e_meth rfl ?_
  refine e_go (pc1 := 1) (lv1 := [(0, .ref a), (1, .ref b)]) (st1 := [.ref a]) 1 rfl ?_
  refine e_getf rfl ga a1 ?_
  refine e_go (pc1 := 8) (lv1 := [(0, .ref a), (1, .ref b)]) (st1 := [.ref b]) 2 rfl ?_
  refine e_getf rfl gb b1 ?_
  refine e_go (pc1 := 32) (lv1 := [(0, .ref a), (1, .ref b)]) (st1 := [.ref a]) 2 rfl ?_
  refine e_getf rfl ga a1 ?_
  refine e_getf rfl a2 a3 ?_
  refine e_getf rfl a4 a5 ?_
  refine e_go (pc1 := 42) (lv1 := [(0, .ref a), (1, .ref b)]) (st1 := [.ref b, .int x]) 1 rfl ?_
  refine e_getf rfl gb b1 ?_
  refine e_getf rfl b2 b3 ?_
  refine e_getf rfl b4 b5 ?_
  refine e_icmp (t := 58) rfl rfl true (ic_ne h) ?_
  refine e_go (pc1 := 59) (lv1 := [(0, .ref a), (1, .ref b)]) (st1 := [.int 0]) 1 rfl ?_
  exact e_rt rfl rfl
/-- two of the same kind and bounds, with a part and nothing else -/
theorem t_isLike_1 {X : ev_X} {d : Nat} {t : ev_T} {sz a b : Nat} {fa fb : List Value} {ka la ha x y : Int32} (hab : ¬ a = b) (ga : ev_g t a = some (.inr (4, fa))) (gb : ev_g t b = some (.inr (4, fb))) (ka0 : ev_nth fa 0 = some (.int ka)) (kb0 : ev_nth fb 0 = some (.int ka)) (k12 : ¬ ka = 12) (k13 : ¬ ka = 13) (la0 : ev_nth fa 4 = some (.int la)) (lb0 : ev_nth fb 4 = some (.int la)) (ha0 : ev_nth fa 5 = some (.int ha)) (hb0 : ev_nth fb 5 = some (.int ha)) (ia : ev_nth fa 7 = some .null) (ib : ev_nth fb 7 = some .null) (ra : ev_nth fa 8 = some .null) (rb : ev_nth fb 8 = some .null) (ea : nd_el t fa x) (eb : nd_el t fb y) (h : x = y) :
    Cd X (d + 2) 90 [.ref a, .ref b] sz t (some (.int 1)) (sz, t, 0, 0) := by
  refine e_meth rfl ?_
  refine e_go (pc1 := 2) (lv1 := [(0, .ref a), (1, .ref b)]) (st1 := [.ref b, .ref a]) 2 rfl ?_
  refine e_acmp (t := 7) rfl rfl true (by simp [hab]) ?_
  refine e_go (pc1 := 8) (lv1 := [(0, .ref a), (1, .ref b)]) (st1 := [.ref a]) 1 rfl ?_
  refine e_getf rfl ga ka0 ?_
  refine e_go (pc1 := 12) (lv1 := [(0, .ref a), (1, .ref b)]) (st1 := [.ref b, .int ka]) 1 rfl ?_
  refine e_getf rfl gb kb0 ?_
  refine e_icmp (t := 58) rfl rfl false (ic_nen rfl) ?_
  refine e_go (pc1 := 19) (lv1 := [(0, .ref a), (1, .ref b)]) (st1 := [.ref a]) 1 rfl ?_
  refine e_getf rfl ga ka0 ?_
  refine e_go (pc1 := 24) (lv1 := [(0, .ref a), (1, .ref b)]) (st1 := [.int 12, .int ka]) 1 rfl ?_
  refine e_icmp (t := 58) rfl rfl false (ic_eqn k12) ?_
  refine e_go (pc1 := 28) (lv1 := [(0, .ref a), (1, .ref b)]) (st1 := [.ref a]) 1 rfl ?_
  refine e_getf rfl ga ka0 ?_
  refine e_go (pc1 := 33) (lv1 := [(0, .ref a), (1, .ref b)]) (st1 := [.int 13, .int ka]) 1 rfl ?_
  refine e_icmp (t := 58) rfl rfl false (ic_eqn k13) ?_
  refine e_go (pc1 := 37) (lv1 := [(0, .ref a), (1, .ref b)]) (st1 := [.ref a]) 1 rfl ?_
  refine e_getf rfl ga la0 ?_
  refine e_go (pc1 := 41) (lv1 := [(0, .ref a), (1, .ref b)]) (st1 := [.ref b, .int la]) 1 rfl ?_
  refine e_getf rfl gb lb0 ?_
  refine e_icmp (t := 58) rfl rfl false (ic_nen rfl) ?_
  refine e_go (pc1 := 48) (lv1 := [(0, .ref a), (1, .ref b)]) (st1 := [.ref a]) 1 rfl ?_
  refine e_getf rfl ga ha0 ?_
  refine e_go (pc1 := 52) (lv1 := [(0, .ref a), (1, .ref b)]) (st1 := [.ref b, .int ha]) 1 rfl ?_
  refine e_getf rfl gb hb0 ?_
  refine e_icmp (t := 60) rfl rfl true (ic_eq rfl) ?_
  refine e_go (pc1 := 62) (lv1 := [(0, .ref a), (1, .ref b)]) (st1 := [.ref b, .ref a]) 2 rfl ?_
  refine e_st rfl rfl rfl rfl (t_sameElem_1 ga gb ea eb h) ?_
  refine e_go (pc1 := 71) (lv1 := [(0, .ref a), (1, .ref b)]) (st1 := [.ref a]) 2 rfl ?_
  refine e_getf rfl ga ia ?_
  refine e_go (pc1 := 76) (lv1 := [(2, .null), (0, .ref a), (1, .ref b)]) (st1 := [.ref b]) 2 rfl ?_
  refine e_getf rfl gb ib ?_
  refine e_go (pc1 := 212) (lv1 := [(3, .null), (2, .null), (0, .ref a), (1, .ref b)]) (st1 := [.null, .null]) 9 rfl ?_
  refine e_st rfl rfl rfl rfl t_hasOv0 ?_
  refine e_go (pc1 := 220) (lv1 := [(3, .null), (2, .null), (0, .ref a), (1, .ref b)]) (st1 := [.null, .null]) 3 rfl ?_
  refine e_st rfl rfl rfl rfl t_hasOv0 ?_
  refine e_go (pc1 := 227) (lv1 := [(3, .null), (2, .null), (0, .ref a), (1, .ref b)]) (st1 := [.ref a]) 2 rfl ?_
  refine e_getf rfl ga ra ?_
  refine e_go (pc1 := 231) (lv1 := [(3, .null), (2, .null), (0, .ref a), (1, .ref b)]) (st1 := [.ref b, .null]) 1 rfl ?_
  refine e_getf rfl gb rb ?_
  refine e_st rfl rfl rfl rfl t_isWithin0 ?_
  refine e_go (pc1 := 241) (lv1 := [(3, .null), (2, .null), (0, .ref a), (1, .ref b)]) (st1 := [.ref b]) 2 rfl ?_
  refine e_getf rfl gb rb ?_
  refine e_go (pc1 := 245) (lv1 := [(3, .null), (2, .null), (0, .ref a), (1, .ref b)]) (st1 := [.ref a, .null]) 1 rfl ?_
  refine e_getf rfl ga ra ?_
  refine e_st rfl rfl rfl rfl t_isWithin0 ?_
  refine e_go (pc1 := 259) (lv1 := [(3, .null), (2, .null), (0, .ref a), (1, .ref b)]) (st1 := [.int 1]) 3 rfl ?_
  exact e_rt rfl rfl
/-- two of the same kind and bounds, with a part and nothing else -/
theorem t_isLike_0 {X : ev_X} {d : Nat} {t : ev_T} {sz a b : Nat} {fa fb : List Value} {ka la ha x y : Int32} (hab : ¬ a = b) (ga : ev_g t a = some (.inr (4, fa))) (gb : ev_g t b = some (.inr (4, fb))) (ka0 : ev_nth fa 0 = some (.int ka)) (kb0 : ev_nth fb 0 = some (.int ka)) (k12 : ¬ ka = 12) (k13 : ¬ ka = 13) (la0 : ev_nth fa 4 = some (.int la)) (lb0 : ev_nth fb 4 = some (.int la)) (ha0 : ev_nth fa 5 = some (.int ha)) (hb0 : ev_nth fb 5 = some (.int ha)) (ia : ev_nth fa 7 = some .null) (ib : ev_nth fb 7 = some .null) (ra : ev_nth fa 8 = some .null) (rb : ev_nth fb 8 = some .null) (ea : nd_el t fa x) (eb : nd_el t fb y) (h : ¬ x = y) :
    Cd X (d + 2) 90 [.ref a, .ref b] sz t (some (.int 0)) (sz, t, 0, 0) := by
  refine e_meth rfl ?_
  refine e_go (pc1 := 2) (lv1 := [(0, .ref a), (1, .ref b)]) (st1 := [.ref b, .ref a]) 2 rfl ?_
  refine e_acmp (t := 7) rfl rfl true (by simp [hab]) ?_
  refine e_go (pc1 := 8) (lv1 := [(0, .ref a), (1, .ref b)]) (st1 := [.ref a]) 1 rfl ?_
  refine e_getf rfl ga ka0 ?_
  refine e_go (pc1 := 12) (lv1 := [(0, .ref a), (1, .ref b)]) (st1 := [.ref b, .int ka]) 1 rfl ?_
  refine e_getf rfl gb kb0 ?_
  refine e_icmp (t := 58) rfl rfl false (ic_nen rfl) ?_
  refine e_go (pc1 := 19) (lv1 := [(0, .ref a), (1, .ref b)]) (st1 := [.ref a]) 1 rfl ?_
  refine e_getf rfl ga ka0 ?_
  refine e_go (pc1 := 24) (lv1 := [(0, .ref a), (1, .ref b)]) (st1 := [.int 12, .int ka]) 1 rfl ?_
  refine e_icmp (t := 58) rfl rfl false (ic_eqn k12) ?_
  refine e_go (pc1 := 28) (lv1 := [(0, .ref a), (1, .ref b)]) (st1 := [.ref a]) 1 rfl ?_
  refine e_getf rfl ga ka0 ?_
  refine e_go (pc1 := 33) (lv1 := [(0, .ref a), (1, .ref b)]) (st1 := [.int 13, .int ka]) 1 rfl ?_
  refine e_icmp (t := 58) rfl rfl false (ic_eqn k13) ?_
  refine e_go (pc1 := 37) (lv1 := [(0, .ref a), (1, .ref b)]) (st1 := [.ref a]) 1 rfl ?_
  refine e_getf rfl ga la0 ?_
  refine e_go (pc1 := 41) (lv1 := [(0, .ref a), (1, .ref b)]) (st1 := [.ref b, .int la]) 1 rfl ?_
  refine e_getf rfl gb lb0 ?_
  refine e_icmp (t := 58) rfl rfl false (ic_nen rfl) ?_
  refine e_go (pc1 := 48) (lv1 := [(0, .ref a), (1, .ref b)]) (st1 := [.ref a]) 1 rfl ?_
  refine e_getf rfl ga ha0 ?_
  refine e_go (pc1 := 52) (lv1 := [(0, .ref a), (1, .ref b)]) (st1 := [.ref b, .int ha]) 1 rfl ?_
  refine e_getf rfl gb hb0 ?_
  refine e_icmp (t := 60) rfl rfl true (ic_eq rfl) ?_
  refine e_go (pc1 := 62) (lv1 := [(0, .ref a), (1, .ref b)]) (st1 := [.ref b, .ref a]) 2 rfl ?_
  refine e_st rfl rfl rfl rfl (t_sameElem_0 ga gb ea eb h) ?_
  refine e_go (pc1 := 69) (lv1 := [(0, .ref a), (1, .ref b)]) (st1 := [.int 0]) 2 rfl ?_
  exact e_rt rfl rfl
theorem t_isLike_eq {X : ev_X} {d : Nat} {t : ev_T} {sz a : Nat} : Cd X (d + 1) 90 [.ref a, .ref a] sz t (some (.int 1)) (sz, t, 0, 0) := by
  refine e_meth rfl ?_
  refine e_go (pc1 := 2) (lv1 := [(0, .ref a), (1, .ref a)]) (st1 := [.ref a, .ref a]) 2 rfl ?_
  refine e_acmp (t := 7) rfl rfl false (by simp) ?_
  refine e_go (pc1 := 6) (lv1 := [(0, .ref a), (1, .ref a)]) (st1 := [.int 1]) 1 rfl ?_
  exact e_rt rfl rfl
theorem t_isLike_kd {X : ev_X} {d : Nat} {t : ev_T} {sz a b : Nat} {fa fb : List Value} {ka kb : Int32} (hab : ¬ a = b) (ga : ev_g t a = some (.inr (4, fa))) (gb : ev_g t b = some (.inr (4, fb))) (ka0 : ev_nth fa 0 = some (.int ka)) (kb0 : ev_nth fb 0 = some (.int kb)) (h : ¬ ka = kb) : Cd X (d + 1) 90 [.ref a, .ref b] sz t (some (.int 0)) (sz, t, 0, 0) := by
  refine e_meth rfl ?_
  refine e_go (pc1 := 2) (lv1 := [(0, .ref a), (1, .ref b)]) (st1 := [.ref b, .ref a]) 2 rfl ?_
  refine e_acmp (t := 7) rfl rfl true (by simp [hab]) ?_
  refine e_go (pc1 := 8) (lv1 := [(0, .ref a), (1, .ref b)]) (st1 := [.ref a]) 1 rfl ?_
  refine e_getf rfl ga ka0 ?_
  refine e_go (pc1 := 12) (lv1 := [(0, .ref a), (1, .ref b)]) (st1 := [.ref b, .int ka]) 1 rfl ?_
  refine e_getf rfl gb kb0 ?_
  refine e_icmp (t := 58) rfl rfl true (ic_ne h) ?_
  refine e_go (pc1 := 59) (lv1 := [(0, .ref a), (1, .ref b)]) (st1 := [.int 0]) 1 rfl ?_
  exact e_rt rfl rfl
theorem t_isLike_12 {X : ev_X} {d : Nat} {t : ev_T} {sz a b : Nat} {fa fb : List Value} (hab : ¬ a = b) (ga : ev_g t a = some (.inr (4, fa))) (gb : ev_g t b = some (.inr (4, fb))) (ka0 : ev_nth fa 0 = some (.int 12)) (kb0 : ev_nth fb 0 = some (.int 12)) : Cd X (d + 1) 90 [.ref a, .ref b] sz t (some (.int 0)) (sz, t, 0, 0) := by
  refine e_meth rfl ?_
  refine e_go (pc1 := 2) (lv1 := [(0, .ref a), (1, .ref b)]) (st1 := [.ref b, .ref a]) 2 rfl ?_
  refine e_acmp (t := 7) rfl rfl true (by simp [hab]) ?_
  refine e_go (pc1 := 8) (lv1 := [(0, .ref a), (1, .ref b)]) (st1 := [.ref a]) 1 rfl ?_
  refine e_getf rfl ga ka0 ?_
  refine e_go (pc1 := 12) (lv1 := [(0, .ref a), (1, .ref b)]) (st1 := [.ref b, .int 12]) 1 rfl ?_
  refine e_getf rfl gb kb0 ?_
  refine e_go (pc1 := 19) (lv1 := [(0, .ref a), (1, .ref b)]) (st1 := [.ref a]) 2 rfl ?_
  refine e_getf rfl ga ka0 ?_
  refine e_go (pc1 := 59) (lv1 := [(0, .ref a), (1, .ref b)]) (st1 := [.int 0]) 3 rfl ?_
  exact e_rt rfl rfl
