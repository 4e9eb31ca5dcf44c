/-! the second round -/
theorem g_revealed {X : ev_X} {d : Nat} {σ : fl_S} (hd : 1 ≤ d) {a op d0 n p : Nat} (c_a : sC σ 1 a = true) (a_use : sF σ a 40 = .ref op) (c_op : sC σ 5 op = true) (op_decl : sF σ op 165 = .ref d0) (c_d0 : sC σ 1 d0 = true) (d0_type : sF σ d0 38 = .ref n) (c_n : sC σ 4 n = true) (n_real : sF σ n 139 = .ref p) : CF X d 78 [.ref a] σ (some (.ref p)) σ := by
  refine f_meth (by omega) rfl ?_
  refine f_go (pc1 := 1) (lv1 := [(0, .ref a)]) (st1 := [.ref a]) 1 rfl ?_
  refine f_getf rfl rfl (g := 40) rfl c_a a_use ?_
  refine f_getf rfl rfl (g := 165) rfl c_op op_decl ?_
  refine f_getf rfl rfl (g := 38) rfl c_d0 d0_type ?_
  refine f_getf rfl rfl (g := 139) rfl c_n n_real ?_
  exact f_rt rfl rfl
theorem g_abn_ref {X : ev_X} {d : Nat} {σ : fl_S} (hd : 1 ≤ d) {ty a n : Nat} (c_a : sC σ 1 a = true) (a_kind : sF σ a 32 = .int 3) (a_type : sF σ a 38 = .ref n) (c_n : sC σ 4 n = true) (n_kind : sF σ n 128 = .int 5) : CF X d 104 [.ref ty, .ref a] σ (some .null) σ := by
  refine f_meth (by omega) rfl ?_
  refine f_go (pc1 := 1) (lv1 := [(0, .ref ty), (1, .ref a)]) (st1 := [.ref a]) 1 rfl ?_
  refine f_getf rfl rfl (g := 32) rfl c_a a_kind ?_
  refine f_go (pc1 := 21) (lv1 := [(0, .ref ty), (1, .ref a)]) (st1 := [.ref a]) 3 rfl ?_
  refine f_getf rfl rfl (g := 38) rfl c_a a_type ?_
  refine f_go (pc1 := 30) (lv1 := [(2, .ref n), (0, .ref ty), (1, .ref a)]) (st1 := [.ref n]) 4 rfl ?_
  refine f_getf rfl rfl (g := 128) rfl c_n n_kind ?_
  refine f_go (pc1 := 48) (lv1 := [(2, .ref n), (0, .ref ty), (1, .ref a)]) (st1 := [.ref n]) 5 rfl ?_
  refine f_getf rfl rfl (g := 128) rfl c_n n_kind ?_
  refine f_go (pc1 := 67) (lv1 := [(2, .ref n), (0, .ref ty), (1, .ref a)]) (st1 := [.null]) 3 rfl ?_
  exact f_rt rfl rfl
theorem g_abn_l0 {X : ev_X} {d : Nat} {σ : fl_S} (hd : 1 ≤ d) {ty a n e : Nat} (c_a : sC σ 1 a = true) (a_kind : sF σ a 32 = .int 3) (a_type : sF σ a 38 = .ref n) (c_n : sC σ 4 n = true) (n_kind : sF σ n 128 = .int 11) (n_elem : sF σ n 134 = .ref e) (c_e : sC σ 4 e = true) (e_kind : sF σ e 128 = .int 10) : CF X d 104 [.ref ty, .ref a] σ (some .null) σ := by
  refine f_meth (by omega) rfl ?_
  refine f_go (pc1 := 1) (lv1 := [(0, .ref ty), (1, .ref a)]) (st1 := [.ref a]) 1 rfl ?_
  refine f_getf rfl rfl (g := 32) rfl c_a a_kind ?_
  refine f_go (pc1 := 21) (lv1 := [(0, .ref ty), (1, .ref a)]) (st1 := [.ref a]) 3 rfl ?_
  refine f_getf rfl rfl (g := 38) rfl c_a a_type ?_
  refine f_go (pc1 := 30) (lv1 := [(2, .ref n), (0, .ref ty), (1, .ref a)]) (st1 := [.ref n]) 4 rfl ?_
  refine f_getf rfl rfl (g := 128) rfl c_n n_kind ?_
  refine f_go (pc1 := 39) (lv1 := [(2, .ref n), (0, .ref ty), (1, .ref a)]) (st1 := [.ref n]) 3 rfl ?_
  refine f_getf rfl rfl (g := 134) rfl c_n n_elem ?_
  refine f_go (pc1 := 48) (lv1 := [(2, .ref e), (0, .ref ty), (1, .ref a)]) (st1 := [.ref e]) 4 rfl ?_
  refine f_getf rfl rfl (g := 128) rfl c_e e_kind ?_
  refine f_go (pc1 := 67) (lv1 := [(2, .ref e), (0, .ref ty), (1, .ref a)]) (st1 := [.null]) 3 rfl ?_
  exact f_rt rfl rfl
theorem g_abn_lk {X : ev_X} {d : Nat} {σ : fl_S} (hd : 1 ≤ d) {ty a n e op d0 : Nat} (c_a : sC σ 1 a = true) (a_kind : sF σ a 32 = .int 3) (a_type : sF σ a 38 = .ref n) (c_n : sC σ 4 n = true) (n_kind : sF σ n 128 = .int 11) (n_elem : sF σ n 134 = .ref e) (c_e : sC σ 4 e = true) (e_kind : sF σ e 128 = .int 13) (e_use : sF σ e 137 = .ref op) (c_op : sC σ 5 op = true) (op_decl : sF σ op 165 = .ref d0) : CF X d 104 [.ref ty, .ref a] σ (some (.ref d0)) σ := by
  refine f_meth (by omega) rfl ?_
  refine f_go (pc1 := 1) (lv1 := [(0, .ref ty), (1, .ref a)]) (st1 := [.ref a]) 1 rfl ?_
  refine f_getf rfl rfl (g := 32) rfl c_a a_kind ?_
  refine f_go (pc1 := 21) (lv1 := [(0, .ref ty), (1, .ref a)]) (st1 := [.ref a]) 3 rfl ?_
  refine f_getf rfl rfl (g := 38) rfl c_a a_type ?_
  refine f_go (pc1 := 30) (lv1 := [(2, .ref n), (0, .ref ty), (1, .ref a)]) (st1 := [.ref n]) 4 rfl ?_
  refine f_getf rfl rfl (g := 128) rfl c_n n_kind ?_
  refine f_go (pc1 := 39) (lv1 := [(2, .ref n), (0, .ref ty), (1, .ref a)]) (st1 := [.ref n]) 3 rfl ?_
  refine f_getf rfl rfl (g := 134) rfl c_n n_elem ?_
  refine f_go (pc1 := 48) (lv1 := [(2, .ref e), (0, .ref ty), (1, .ref a)]) (st1 := [.ref e]) 4 rfl ?_
  refine f_getf rfl rfl (g := 128) rfl c_e e_kind ?_
  refine f_go (pc1 := 57) (lv1 := [(2, .ref e), (0, .ref ty), (1, .ref a)]) (st1 := [.ref e]) 3 rfl ?_
  refine f_getf rfl rfl (g := 137) rfl c_e e_use ?_
  refine f_getf rfl rfl (g := 165) rfl c_op op_decl ?_
  refine f_go (pc1 := 67) (lv1 := [(2, .ref e), (0, .ref ty), (1, .ref a)]) (st1 := [.ref d0]) 1 rfl ?_
  exact f_rt rfl rfl
theorem g_abn_o {X : ev_X} {d : Nat} {σ : fl_S} (hd : 2 ≤ d) {ty e op d0 : Nat} {P dO nb sb dh nh mb dr uh ur RL : Nat} (cty : sC σ 9 ty = true) (hO : OW σ P dO nb sb dh nh mb dr uh ur RL) (dO_kind : sF σ dO 32 = .int 4) (dO_type : sF σ dO 38 = .ref P) (RL_kind : sF σ RL 128 = .int 11) (RL_elem : sF σ RL 134 = .ref e) (c_e : sC σ 4 e = true) (e_kind : sF σ e 128 = .int 13) (e_use : sF σ e 137 = .ref op) (c_op : sC σ 5 op = true) (op_decl : sF σ op 165 = .ref d0) : CF X d 104 [.ref ty, .ref dO] σ (some (.ref d0)) σ := by
  have hO9 := hO
  obtain ⟨P1, P2, P3, O1, O2, O3, b1, b2, b3, h1, h2, h3, h4, h5, h6, h7, h8, r1, r2, r3, r4, r5, uh1, uh2, ur1, ur2, RL1⟩ := hO
  refine f_meth (by omega) rfl ?_
  refine f_go (pc1 := 1) (lv1 := [(0, .ref ty), (1, .ref dO)]) (st1 := [.ref dO]) 1 rfl ?_
  refine f_getf rfl rfl (g := 32) rfl O1 dO_kind ?_
  refine f_go (pc1 := 11) (lv1 := [(0, .ref ty), (1, .ref dO)]) (st1 := [.ref dO, .null, .ref ty]) 5 rfl ?_
  refine f_getf rfl rfl (g := 38) rfl O1 dO_type ?_
  refine f_vt rfl rfl cty rfl (g_levelOf_O0 (by omega) hO9) ?_
  refine f_go (pc1 := 30) (lv1 := [(2, .ref RL), (0, .ref ty), (1, .ref dO)]) (st1 := [.ref RL]) 5 rfl ?_
  refine f_getf rfl rfl (g := 128) rfl RL1 RL_kind ?_
  refine f_go (pc1 := 39) (lv1 := [(2, .ref RL), (0, .ref ty), (1, .ref dO)]) (st1 := [.ref RL]) 3 rfl ?_
  refine f_getf rfl rfl (g := 134) rfl RL1 RL_elem ?_
  refine f_go (pc1 := 48) (lv1 := [(2, .ref e), (0, .ref ty), (1, .ref dO)]) (st1 := [.ref e]) 4 rfl ?_
  refine f_getf rfl rfl (g := 128) rfl c_e e_kind ?_
  refine f_go (pc1 := 57) (lv1 := [(2, .ref e), (0, .ref ty), (1, .ref dO)]) (st1 := [.ref e]) 3 rfl ?_
  refine f_getf rfl rfl (g := 137) rfl c_e e_use ?_
  refine f_getf rfl rfl (g := 165) rfl c_op op_decl ?_
  refine f_go (pc1 := 67) (lv1 := [(2, .ref e), (0, .ref ty), (1, .ref dO)]) (st1 := [.ref d0]) 1 rfl ?_
  exact f_rt rfl rfl
theorem g_isInRing {X : ev_X} {d : Nat} {σ : fl_S} (hd : 2 ≤ d) {ty a tr T : Nat} {TR : Nat → Option Nat} {g : Nat → Option Nat} {l : List Nat} (cty : sC σ 9 ty = true) (ty_row : sF σ ty 290 = .ref tr) (htr : sR σ tr = some (2, T, TR)) (hT : T < 100000) (ha : CF X (d - 1) 104 [.ref ty, .ref a] σ (some (va_rf (g a))) σ) (hl : Chn g (g a) l) (hg : ∀ e ∈ l, CF X (d - 1) 104 [.ref ty, .ref e] σ (some (va_rf (g e))) σ) (hn : a ∉ l) (hlen : l.length ≤ T) : CF X d 103 [.ref ty, .ref a] σ (some (.int 0)) σ := by
  refine f_meth (by omega) rfl ?_
  refine f_go (pc1 := 2) (lv1 := [(0, .ref ty), (1, .ref a)]) (st1 := [.ref a, .ref ty]) 2 rfl ?_
  refine f_vt rfl rfl cty rfl ha ?_
  refine f_astn rfl (g a) rfl ?_
  refine f_go (pc1 := 7) (lv1 := [(2, va_rf (g a)), (0, .ref ty), (1, .ref a)]) (st1 := [.int 0]) 1 rfl ?_
  refine f_istn [(2, va_rf (g a)), (0, .ref ty), (1, .ref a)] rfl rfl (fj_v rfl rfl (fj_c rfl rfl rfl (fj_c rfl rfl rfl fj_0))) ?_
  have key : ∀ (l : List Nat) (c : Option Nat) (i : Nat), Chn g c l → (∀ e ∈ l, CF X (d - 1) 104 [.ref ty, .ref e] σ (some (va_rf (g e))) σ) → a ∉ l → i + l.length ≤ T → EF X (d - 1) 103 8 [(3, .int (Int32.ofNat i)), (2, va_rf c), (0, .ref ty), (1, .ref a)] [] σ (some (.int 0)) σ := by
    intro l
    induction l with
    | nil =>
      intro c i hc hg hn hlen
      have hc : c = none := hc
      subst hc
      have hlen : i ≤ T := hlen
      show EF X (d - 1) 103 8 [(3, .int (Int32.ofNat i)), (2, .null), (0, .ref ty), (1, .ref a)] [] σ _ _
      refine f_go (pc1 := 10) (lv1 := [(3, .int (Int32.ofNat i)), (2, .null), (0, .ref ty), (1, .ref a)]) (st1 := [.ref ty, .int (Int32.ofNat i)]) 2 rfl ?_
      refine f_getf rfl rfl (g := 290) rfl cty ty_row ?_
      refine f_alR rfl htr rfl ?_
      refine f_icmp (t := 40) rfl rfl false (nat_gtF (by omega) (by omega) hlen) ?_
      refine f_go (pc1 := 41) (lv1 := [(3, .int (Int32.ofNat i)), (2, .null), (0, .ref ty), (1, .ref a)]) (st1 := [.int 0]) 3 rfl ?_
      exact f_rt rfl rfl
    | cons q r ih =>
      intro c i hc hg hn hlen
      obtain ⟨hc1, hc2⟩ := hc
      subst hc1
      have hC := hg q List.mem_cons_self
      have hn2 : i + (r.length + 1) ≤ T := hlen
      have hqa : q ≠ a := fun e => hn (by rw [e]; exact List.mem_cons_self)
      have ih := ih (g q) (i + 1) hc2 (fun a ha => hg a (List.mem_cons_of_mem _ ha)) (fun h => hn (List.mem_cons_of_mem _ h)) (by omega)
      show EF X (d - 1) 103 8 [(3, .int (Int32.ofNat i)), (2, .ref q), (0, .ref ty), (1, .ref a)] [] σ _ _
      refine f_go (pc1 := 10) (lv1 := [(3, .int (Int32.ofNat i)), (2, .ref q), (0, .ref ty), (1, .ref a)]) (st1 := [.ref ty, .int (Int32.ofNat i)]) 2 rfl ?_
      refine f_getf rfl rfl (g := 290) rfl cty ty_row ?_
      refine f_alR rfl htr rfl ?_
      refine f_icmp (t := 40) rfl rfl false (nat_gtF (by omega) (by omega) (by omega)) ?_
      refine f_go (pc1 := 23) (lv1 := [(3, .int (Int32.ofNat i)), (2, .ref q), (0, .ref ty), (1, .ref a)]) (st1 := [.ref a, .ref q]) 4 rfl ?_
      refine f_acmp (t := 28) rfl rfl true (by simp [hqa]) ?_
      refine f_go (pc1 := 30) (lv1 := [(3, .int (Int32.ofNat i)), (2, .ref q), (0, .ref ty), (1, .ref a)]) (st1 := [.ref q, .ref ty]) 2 rfl ?_
      refine f_vt rfl rfl cty rfl hC ?_
      refine f_astn rfl (g q) rfl ?_
      refine f_inc [(2, va_rf (g q)), (0, .ref ty), (1, .ref a)] rfl rfl rfl (fj_v rfl rfl (fj_c rfl rfl rfl (fj_c rfl rfl rfl fj_0))) ?_
      refine f_go (pc1 := 8) (lv1 := [(3, .int ((Int32.ofNat i) + 1)), (2, va_rf (g q)), (0, .ref ty), (1, .ref a)]) (st1 := []) 1 rfl ?_
      rw [nat_s i]
      refine f_lv [(3, .int (Int32.ofNat (i + 1))), (2, va_rf (g q)), (0, .ref ty), (1, .ref a)] (fl_c rfl (fl_c rfl (fl_c rfl (fl_c rfl fl_0)))) ?_
      exact ih
  have h := key l (g a) 0 hl hg hn (by omega)
  exact f_lv _ (fl_c rfl (fl_c rfl (fl_c rfl (fl_c rfl fl_0)))) h
theorem g_hasParts {X : ev_X} {d : Nat} {σ : fl_S} (hd : 1 ≤ d) {a : Nat} {k : Int32} (c_a : sC σ 4 a = true) (a_kind : sF σ a 128 = .int k) : CF X d 12 [.ref a] σ (some (.int (if k = 3 ∨ k = 4 then 1 else 0))) σ := by
  refine f_meth hd rfl ?_
  refine f_go (pc1 := 1) (lv1 := [(0, .ref a)]) (st1 := [.ref a]) 1 rfl ?_
  refine f_getf rfl rfl (g := 128) rfl c_a a_kind ?_
  refine f_go (pc1 := 5) (lv1 := [(0, .ref a)]) (st1 := [.int 3, .int k]) 1 rfl ?_
  by_cases x1 : k = 3
  ·
    refine f_icmp (t := 16) rfl rfl true (ic_eq x1) ?_
    refine f_go (pc1 := 21) (lv1 := [(0, .ref a)]) (st1 := [.int 1]) 2 rfl ?_
    rw [if_pos (Or.inl x1)]
    exact f_rt rfl rfl
  ·
    refine f_icmp (t := 16) rfl rfl false (ic_eqn x1) ?_
    refine f_go (pc1 := 9) (lv1 := [(0, .ref a)]) (st1 := [.ref a]) 1 rfl ?_
    refine f_getf rfl rfl (g := 128) rfl c_a a_kind ?_
    refine f_go (pc1 := 13) (lv1 := [(0, .ref a)]) (st1 := [.int 4, .int k]) 1 rfl ?_
    by_cases x2 : k = 4
    ·
      refine f_icmp (t := 20) rfl rfl false (ic_nen x2) ?_
      refine f_go (pc1 := 21) (lv1 := [(0, .ref a)]) (st1 := [.int 1]) 2 rfl ?_
      rw [if_pos (Or.inr x2)]
      exact f_rt rfl rfl
    ·
      refine f_icmp (t := 20) rfl rfl true (ic_ne x2) ?_
      refine f_go (pc1 := 21) (lv1 := [(0, .ref a)]) (st1 := [.int 0]) 1 rfl ?_
      rw [if_neg (fun h => h.elim x1 x2)]
      exact f_rt rfl rfl
theorem g_judgeNode_n {X : ev_X} {d : Nat} {σ : fl_S} (hd : 2 ≤ d) {ty a : Nat} {k : Int32} (c_a : sC σ 4 a = true) (a_kind : sF σ a 128 = .int k) (k2 : ¬ k = 2) (k3 : ¬ k = 3) (k4 : ¬ k = 4) (k6 : ¬ k = 6) (k11 : ¬ k = 11) : CF X d 105 [.ref ty, .ref a] σ none σ := by
  refine f_meth (by omega) rfl ?_
  refine f_go (pc1 := 1) (lv1 := [(0, .ref ty), (1, .ref a)]) (st1 := [.ref a]) 1 rfl ?_
  refine f_getf rfl rfl (g := 128) rfl c_a a_kind ?_
  refine f_go (pc1 := 5) (lv1 := [(0, .ref ty), (1, .ref a)]) (st1 := [.int 2, .int k]) 1 rfl ?_
  refine f_icmp (t := 16) rfl rfl false (ic_eqn k2) ?_
  refine f_go (pc1 := 9) (lv1 := [(0, .ref ty), (1, .ref a)]) (st1 := [.ref a]) 1 rfl ?_
  refine f_getf rfl rfl (g := 128) rfl c_a a_kind ?_
  refine f_go (pc1 := 13) (lv1 := [(0, .ref ty), (1, .ref a)]) (st1 := [.int 3, .int k]) 1 rfl ?_
  refine f_icmp (t := 37) rfl rfl true (ic_ne k3) ?_
  refine f_go (pc1 := 38) (lv1 := [(0, .ref ty), (1, .ref a)]) (st1 := [.ref a]) 1 rfl ?_
  refine f_getf rfl rfl (g := 128) rfl c_a a_kind ?_
  refine f_go (pc1 := 42) (lv1 := [(0, .ref ty), (1, .ref a)]) (st1 := [.int 3, .int k]) 1 rfl ?_
  refine f_icmp (t := 73) rfl rfl true (ic_ne k3) ?_
  refine f_go (pc1 := 74) (lv1 := [(0, .ref ty), (1, .ref a)]) (st1 := [.ref a]) 1 rfl ?_
  refine f_st rfl rfl rfl rfl (g_hasParts (by omega) c_a a_kind) ?_
  rw [if_neg (fun h => h.elim k3 k4)]
  refine f_go (pc1 := 101) (lv1 := [(0, .ref ty), (1, .ref a)]) (st1 := [.ref a]) 2 rfl ?_
  refine f_getf rfl rfl (g := 128) rfl c_a a_kind ?_
  refine f_go (pc1 := 106) (lv1 := [(0, .ref ty), (1, .ref a)]) (st1 := [.int 6, .int k]) 1 rfl ?_
  refine f_icmp (t := 139) rfl rfl true (ic_ne k6) ?_
  refine f_go (pc1 := 140) (lv1 := [(0, .ref ty), (1, .ref a)]) (st1 := [.ref a]) 1 rfl ?_
  refine f_getf rfl rfl (g := 128) rfl c_a a_kind ?_
  refine f_go (pc1 := 145) (lv1 := [(0, .ref ty), (1, .ref a)]) (st1 := [.int 11, .int k]) 1 rfl ?_
  refine f_icmp (t := 171) rfl rfl true (ic_ne k11) ?_
  exact f_rt rfl rfl
theorem g_judgeNode_L {X : ev_X} {d : Nat} {σ : fl_S} (hd : 2 ≤ d) {ty a e p : Nat} {kp : Int32} (c_a : sC σ 4 a = true) (a_kind : sF σ a 128 = .int 11) (a_elem : sF σ a 134 = .ref e) (c_e : sC σ 4 e = true) (e_real : sF σ e 139 = .ref p) (c_p : sC σ 4 p = true) (p_kind : sF σ p 128 = .int kp) (hk : kp = 10 ∨ kp = 11 ∨ kp = 12) : CF X d 105 [.ref ty, .ref a] σ none σ := by
  refine f_meth (by omega) rfl ?_
  refine f_go (pc1 := 1) (lv1 := [(0, .ref ty), (1, .ref a)]) (st1 := [.ref a]) 1 rfl ?_
  refine f_getf rfl rfl (g := 128) rfl c_a a_kind ?_
  refine f_go (pc1 := 9) (lv1 := [(0, .ref ty), (1, .ref a)]) (st1 := [.ref a]) 3 rfl ?_
  refine f_getf rfl rfl (g := 128) rfl c_a a_kind ?_
  refine f_go (pc1 := 38) (lv1 := [(0, .ref ty), (1, .ref a)]) (st1 := [.ref a]) 3 rfl ?_
  refine f_getf rfl rfl (g := 128) rfl c_a a_kind ?_
  refine f_go (pc1 := 74) (lv1 := [(0, .ref ty), (1, .ref a)]) (st1 := [.ref a]) 3 rfl ?_
  refine f_st rfl rfl rfl rfl (g_hasParts (by omega) c_a a_kind) ?_
  rw [if_neg (by decide)]
  refine f_go (pc1 := 101) (lv1 := [(0, .ref ty), (1, .ref a)]) (st1 := [.ref a]) 2 rfl ?_
  refine f_getf rfl rfl (g := 128) rfl c_a a_kind ?_
  refine f_go (pc1 := 140) (lv1 := [(0, .ref ty), (1, .ref a)]) (st1 := [.ref a]) 3 rfl ?_
  refine f_getf rfl rfl (g := 128) rfl c_a a_kind ?_
  refine f_go (pc1 := 149) (lv1 := [(0, .ref ty), (1, .ref a)]) (st1 := [.ref a]) 3 rfl ?_
  refine f_getf rfl rfl (g := 134) rfl c_a a_elem ?_
  refine f_getf rfl rfl (g := 139) rfl c_e e_real ?_
  refine f_st rfl rfl rfl rfl (g_isObject (by omega) c_p p_kind) ?_
  rw [if_pos hk]
  refine f_go (pc1 := 171) (lv1 := [(0, .ref ty), (1, .ref a)]) (st1 := []) 1 rfl ?_
  exact f_rt rfl rfl
theorem g_judgeNode_A1 {X : ev_X} {d : Nat} {σ : fl_S} (hd : 2 ≤ d) {ty a : Nat} {cl : Int32} (c_a : sC σ 4 a = true) (a_kind : sF σ a 128 = .int 3) (a_lo : sF σ a 132 = .int 0) (a_hi : sF σ a 133 = .int 1) (a_cells : sF σ a 143 = .int cl) (hc : ev_ic .le cl 2000 = true) : CF X d 105 [.ref ty, .ref a] σ none σ := by
  refine f_meth (by omega) rfl ?_
  refine f_go (pc1 := 1) (lv1 := [(0, .ref ty), (1, .ref a)]) (st1 := [.ref a]) 1 rfl ?_
  refine f_getf rfl rfl (g := 128) rfl c_a a_kind ?_
  refine f_go (pc1 := 9) (lv1 := [(0, .ref ty), (1, .ref a)]) (st1 := [.ref a]) 3 rfl ?_
  refine f_getf rfl rfl (g := 128) rfl c_a a_kind ?_
  refine f_go (pc1 := 17) (lv1 := [(0, .ref ty), (1, .ref a)]) (st1 := [.ref a]) 3 rfl ?_
  refine f_getf rfl rfl (g := 132) rfl c_a a_lo ?_
  refine f_go (pc1 := 21) (lv1 := [(0, .ref ty), (1, .ref a)]) (st1 := [.ref a, .int 0]) 1 rfl ?_
  refine f_getf rfl rfl (g := 133) rfl c_a a_hi ?_
  refine f_go (pc1 := 38) (lv1 := [(0, .ref ty), (1, .ref a)]) (st1 := [.ref a]) 2 rfl ?_
  refine f_getf rfl rfl (g := 128) rfl c_a a_kind ?_
  refine f_go (pc1 := 46) (lv1 := [(0, .ref ty), (1, .ref a)]) (st1 := [.ref a]) 3 rfl ?_
  refine f_getf rfl rfl (g := 133) rfl c_a a_hi ?_
  refine f_go (pc1 := 50) (lv1 := [(0, .ref ty), (1, .ref a)]) (st1 := [.long (Int32.toInt64 1)]) 1 rfl ?_
  refine f_go (pc1 := 51) (lv1 := [(0, .ref ty), (1, .ref a)]) (st1 := [.ref a, .long (Int32.toInt64 1)]) 1 rfl ?_
  refine f_getf rfl rfl (g := 132) rfl c_a a_lo ?_
  refine f_go (pc1 := 55) (lv1 := [(0, .ref ty), (1, .ref a)]) (st1 := [.long (Int32.toInt64 0), .long (Int32.toInt64 1)]) 1 rfl ?_
  refine f_go (pc1 := 56) (lv1 := [(0, .ref ty), (1, .ref a)]) (st1 := [.long ((Int32.toInt64 1) - (Int32.toInt64 0))]) 1 rfl ?_
  refine f_ldc2 rfl ?_
  refine f_go (pc1 := 60) (lv1 := [(0, .ref ty), (1, .ref a)]) (st1 := [.int (-1)]) 1 rfl ?_
  refine f_go (pc1 := 74) (lv1 := [(0, .ref ty), (1, .ref a)]) (st1 := [.ref a]) 2 rfl ?_
  refine f_st rfl rfl rfl rfl (g_hasParts (by omega) c_a a_kind) ?_
  rw [if_pos (by decide)]
  refine f_go (pc1 := 81) (lv1 := [(0, .ref ty), (1, .ref a)]) (st1 := [.ref a]) 2 rfl ?_
  refine f_getf rfl rfl (g := 143) rfl c_a a_cells ?_
  refine f_go (pc1 := 87) (lv1 := [(0, .ref ty), (1, .ref a)]) (st1 := [.int 2000, .int cl]) 1 rfl ?_
  refine f_icmp (t := 100) rfl rfl true hc ?_
  refine f_go (pc1 := 101) (lv1 := [(0, .ref ty), (1, .ref a)]) (st1 := [.ref a]) 1 rfl ?_
  refine f_getf rfl rfl (g := 128) rfl c_a a_kind ?_
  refine f_go (pc1 := 140) (lv1 := [(0, .ref ty), (1, .ref a)]) (st1 := [.ref a]) 3 rfl ?_
  refine f_getf rfl rfl (g := 128) rfl c_a a_kind ?_
  refine f_go (pc1 := 171) (lv1 := [(0, .ref ty), (1, .ref a)]) (st1 := []) 2 rfl ?_
  exact f_rt rfl rfl
theorem g_judgeNode_A2 {X : ev_X} {d : Nat} {σ : fl_S} (hd : 2 ≤ d) {ty a : Nat} {cl : Int32} (c_a : sC σ 4 a = true) (a_kind : sF σ a 128 = .int 3) (a_lo : sF σ a 132 = .int 0) (a_hi : sF σ a 133 = .int 2) (a_cells : sF σ a 143 = .int cl) (hc : ev_ic .le cl 2000 = true) : CF X d 105 [.ref ty, .ref a] σ none σ := by
  refine f_meth (by omega) rfl ?_
  refine f_go (pc1 := 1) (lv1 := [(0, .ref ty), (1, .ref a)]) (st1 := [.ref a]) 1 rfl ?_
  refine f_getf rfl rfl (g := 128) rfl c_a a_kind ?_
  refine f_go (pc1 := 9) (lv1 := [(0, .ref ty), (1, .ref a)]) (st1 := [.ref a]) 3 rfl ?_
  refine f_getf rfl rfl (g := 128) rfl c_a a_kind ?_
  refine f_go (pc1 := 17) (lv1 := [(0, .ref ty), (1, .ref a)]) (st1 := [.ref a]) 3 rfl ?_
  refine f_getf rfl rfl (g := 132) rfl c_a a_lo ?_
  refine f_go (pc1 := 21) (lv1 := [(0, .ref ty), (1, .ref a)]) (st1 := [.ref a, .int 0]) 1 rfl ?_
  refine f_getf rfl rfl (g := 133) rfl c_a a_hi ?_
  refine f_go (pc1 := 38) (lv1 := [(0, .ref ty), (1, .ref a)]) (st1 := [.ref a]) 2 rfl ?_
  refine f_getf rfl rfl (g := 128) rfl c_a a_kind ?_
  refine f_go (pc1 := 46) (lv1 := [(0, .ref ty), (1, .ref a)]) (st1 := [.ref a]) 3 rfl ?_
  refine f_getf rfl rfl (g := 133) rfl c_a a_hi ?_
  refine f_go (pc1 := 50) (lv1 := [(0, .ref ty), (1, .ref a)]) (st1 := [.long (Int32.toInt64 2)]) 1 rfl ?_
  refine f_go (pc1 := 51) (lv1 := [(0, .ref ty), (1, .ref a)]) (st1 := [.ref a, .long (Int32.toInt64 2)]) 1 rfl ?_
  refine f_getf rfl rfl (g := 132) rfl c_a a_lo ?_
  refine f_go (pc1 := 55) (lv1 := [(0, .ref ty), (1, .ref a)]) (st1 := [.long (Int32.toInt64 0), .long (Int32.toInt64 2)]) 1 rfl ?_
  refine f_go (pc1 := 56) (lv1 := [(0, .ref ty), (1, .ref a)]) (st1 := [.long ((Int32.toInt64 2) - (Int32.toInt64 0))]) 1 rfl ?_
  refine f_ldc2 rfl ?_
  refine f_go (pc1 := 60) (lv1 := [(0, .ref ty), (1, .ref a)]) (st1 := [.int (-1)]) 1 rfl ?_
  refine f_go (pc1 := 74) (lv1 := [(0, .ref ty), (1, .ref a)]) (st1 := [.ref a]) 2 rfl ?_
  refine f_st rfl rfl rfl rfl (g_hasParts (by omega) c_a a_kind) ?_
  rw [if_pos (by decide)]
  refine f_go (pc1 := 81) (lv1 := [(0, .ref ty), (1, .ref a)]) (st1 := [.ref a]) 2 rfl ?_
  refine f_getf rfl rfl (g := 143) rfl c_a a_cells ?_
  refine f_go (pc1 := 87) (lv1 := [(0, .ref ty), (1, .ref a)]) (st1 := [.int 2000, .int cl]) 1 rfl ?_
  refine f_icmp (t := 100) rfl rfl true hc ?_
  refine f_go (pc1 := 101) (lv1 := [(0, .ref ty), (1, .ref a)]) (st1 := [.ref a]) 1 rfl ?_
  refine f_getf rfl rfl (g := 128) rfl c_a a_kind ?_
  refine f_go (pc1 := 140) (lv1 := [(0, .ref ty), (1, .ref a)]) (st1 := [.ref a]) 3 rfl ?_
  refine f_getf rfl rfl (g := 128) rfl c_a a_kind ?_
  refine f_go (pc1 := 171) (lv1 := [(0, .ref ty), (1, .ref a)]) (st1 := []) 2 rfl ?_
  exact f_rt rfl rfl
theorem g_judgeMethods {X : ev_X} {d : Nat} {σ : fl_S} (hd : 1 ≤ d) {ty a un it : Nat} (c_a : sC σ 4 a = true) (a_own : sF σ a 138 = .null) (a_unit : sF σ a 131 = .ref un) (a_items : sF σ a 135 = .ref it) (c_it : sC σ 1 it = true) (it_kind : sF σ it 32 = .int 10) (it_next : sF σ it 37 = .null) : CF X d 106 [.ref ty, .ref a] σ none σ := by
  refine f_meth (by omega) rfl ?_
  refine f_go (pc1 := 1) (lv1 := [(0, .ref ty), (1, .ref a)]) (st1 := [.ref a]) 1 rfl ?_
  refine f_getf rfl rfl (g := 138) rfl c_a a_own ?_
  refine f_go (pc1 := 20) (lv1 := [(2, .ref a), (0, .ref ty), (1, .ref a)]) (st1 := [.ref a]) 5 rfl ?_
  refine f_getf rfl rfl (g := 131) rfl c_a a_unit ?_
  refine f_go (pc1 := 25) (lv1 := [(3, .ref un), (2, .ref a), (0, .ref ty), (1, .ref a)]) (st1 := [.ref a]) 2 rfl ?_
  refine f_getf rfl rfl (g := 135) rfl c_a a_items ?_
  refine f_go (pc1 := 37) (lv1 := [(4, .ref it), (3, .ref un), (2, .ref a), (0, .ref ty), (1, .ref a)]) (st1 := [.ref it]) 4 rfl ?_
  refine f_getf rfl rfl (g := 32) rfl c_it it_kind ?_
  refine f_go (pc1 := 100) (lv1 := [(4, .ref it), (3, .ref un), (2, .ref a), (0, .ref ty), (1, .ref a)]) (st1 := [.ref it]) 3 rfl ?_
  refine f_getf rfl rfl (g := 32) rfl c_it it_kind ?_
  refine f_go (pc1 := 189) (lv1 := [(4, .ref it), (3, .ref un), (2, .ref a), (0, .ref ty), (1, .ref a)]) (st1 := [.ref it]) 3 rfl ?_
  refine f_getf rfl rfl (g := 37) rfl c_it it_next ?_
  refine f_go (pc1 := 197) (lv1 := [(4, .null), (3, .ref un), (2, .ref a), (0, .ref ty), (1, .ref a)]) (st1 := []) 4 rfl ?_
  exact f_rt rfl rfl
theorem g_judgeMethodsR {X : ev_X} {d : Nat} {σ : fl_S} (hd : 1 ≤ d) {ty a un it dr p : Nat} (c_a : sC σ 4 a = true) (a_own : sF σ a 138 = .ref dr) (a_unit : sF σ a 131 = .ref un) (a_items : sF σ a 135 = .ref it) (c_it : sC σ 1 it = true) (it_kind : sF σ it 32 = .int 10) (it_next : sF σ it 37 = .null) (hr : CF X (d - 1) 78 [.ref dr] σ (some (.ref p)) σ) : CF X d 106 [.ref ty, .ref a] σ none σ := by
  refine f_meth (by omega) rfl ?_
  refine f_go (pc1 := 1) (lv1 := [(0, .ref ty), (1, .ref a)]) (st1 := [.ref a]) 1 rfl ?_
  refine f_getf rfl rfl (g := 138) rfl c_a a_own ?_
  refine f_go (pc1 := 12) (lv1 := [(0, .ref ty), (1, .ref a)]) (st1 := [.ref a]) 2 rfl ?_
  refine f_getf rfl rfl (g := 138) rfl c_a a_own ?_
  refine f_st rfl rfl rfl rfl hr ?_
  refine f_go (pc1 := 20) (lv1 := [(2, .ref p), (0, .ref ty), (1, .ref a)]) (st1 := [.ref a]) 2 rfl ?_
  refine f_getf rfl rfl (g := 131) rfl c_a a_unit ?_
  refine f_go (pc1 := 25) (lv1 := [(3, .ref un), (2, .ref p), (0, .ref ty), (1, .ref a)]) (st1 := [.ref a]) 2 rfl ?_
  refine f_getf rfl rfl (g := 135) rfl c_a a_items ?_
  refine f_go (pc1 := 37) (lv1 := [(4, .ref it), (3, .ref un), (2, .ref p), (0, .ref ty), (1, .ref a)]) (st1 := [.ref it]) 4 rfl ?_
  refine f_getf rfl rfl (g := 32) rfl c_it it_kind ?_
  refine f_go (pc1 := 100) (lv1 := [(4, .ref it), (3, .ref un), (2, .ref p), (0, .ref ty), (1, .ref a)]) (st1 := [.ref it]) 3 rfl ?_
  refine f_getf rfl rfl (g := 32) rfl c_it it_kind ?_
  refine f_go (pc1 := 189) (lv1 := [(4, .ref it), (3, .ref un), (2, .ref p), (0, .ref ty), (1, .ref a)]) (st1 := [.ref it]) 3 rfl ?_
  refine f_getf rfl rfl (g := 37) rfl c_it it_next ?_
  refine f_go (pc1 := 197) (lv1 := [(4, .null), (3, .ref un), (2, .ref p), (0, .ref ty), (1, .ref a)]) (st1 := []) 4 rfl ?_
  exact f_rt rfl rfl
theorem g_judgeRevealH {X : ev_X} {d : Nat} {σ : fl_S} (hd : 2 ≤ d) {ty : Nat} {P dO nb sb dh nh mb dr uh ur RL : Nat} (hr : CF X (d - 1) 78 [.ref dh] σ (some (.ref P)) σ) (hO : OW σ P dO nb sb dh nh mb dr uh ur RL) (ha : CF X (d - 1) 102 [.ref ty, .ref P, .ref mb] σ (some (.int 1)) σ) (cty : sC σ 9 ty = true) : CF X d 101 [.ref ty, .ref dh] σ none σ := by
  obtain ⟨P1, P2, P3, O1, O2, O3, b1, b2, b3, h1, h2, h3, h4, h5, h6, h7, h8, r1, r2, r3, r4, r5, uh1, uh2, ur1, ur2, RL1⟩ := hO
  refine f_meth (by omega) rfl ?_
  refine f_go (pc1 := 1) (lv1 := [(0, .ref ty), (1, .ref dh)]) (st1 := [.ref dh]) 1 rfl ?_
  refine f_st rfl rfl rfl rfl hr ?_
  refine f_go (pc1 := 6) (lv1 := [(2, .ref P), (0, .ref ty), (1, .ref dh)]) (st1 := [.ref P]) 2 rfl ?_
  refine f_getf rfl rfl (g := 128) rfl P1 P2 ?_
  refine f_go (pc1 := 28) (lv1 := [(2, .ref P), (0, .ref ty), (1, .ref dh)]) (st1 := [.ref dh]) 3 rfl ?_
  refine f_getf rfl rfl (g := 32) rfl h1 h2 ?_
  refine f_go (pc1 := 39) (lv1 := [(2, .ref P), (0, .ref ty), (1, .ref dh)]) (st1 := [.ref dh, .ref P, .ref ty]) 5 rfl ?_
  refine f_getf rfl rfl (g := 39) rfl h1 h5 ?_
  refine f_getf rfl rfl (g := 139) rfl h6 h7 ?_
  refine f_vt rfl rfl cty rfl ha ?_
  refine f_go (pc1 := 111) (lv1 := [(2, .ref P), (0, .ref ty), (1, .ref dh)]) (st1 := []) 1 rfl ?_
  exact f_rt rfl rfl
theorem g_judgeRevealR {X : ev_X} {d : Nat} {σ : fl_S} (hd : 2 ≤ d) {ty : Nat} {P dO nb sb dh nh mb dr uh ur RL : Nat} (hr : CF X (d - 1) 78 [.ref dr] σ (some (.ref P)) σ) (hO : OW σ P dO nb sb dh nh mb dr uh ur RL) (ha : CF X (d - 1) 103 [.ref ty, .ref dO] σ (some (.int 0)) σ) (cty : sC σ 9 ty = true) : CF X d 101 [.ref ty, .ref dr] σ none σ := by
  have hO9 := hO
  obtain ⟨P1, P2, P3, O1, O2, O3, b1, b2, b3, h1, h2, h3, h4, h5, h6, h7, h8, r1, r2, r3, r4, r5, uh1, uh2, ur1, ur2, RL1⟩ := hO
  refine f_meth (by omega) rfl ?_
  refine f_go (pc1 := 1) (lv1 := [(0, .ref ty), (1, .ref dr)]) (st1 := [.ref dr]) 1 rfl ?_
  refine f_st rfl rfl rfl rfl hr ?_
  refine f_go (pc1 := 6) (lv1 := [(2, .ref P), (0, .ref ty), (1, .ref dr)]) (st1 := [.ref P]) 2 rfl ?_
  refine f_getf rfl rfl (g := 128) rfl P1 P2 ?_
  refine f_go (pc1 := 28) (lv1 := [(2, .ref P), (0, .ref ty), (1, .ref dr)]) (st1 := [.ref dr]) 3 rfl ?_
  refine f_getf rfl rfl (g := 32) rfl r1 r2 ?_
  refine f_go (pc1 := 67) (lv1 := [(2, .ref P), (0, .ref ty), (1, .ref dr)]) (st1 := [.ref P, .null, .ref ty]) 5 rfl ?_
  refine f_vt rfl rfl cty rfl (g_levelOf_O0 (by omega) hO9) ?_
  refine f_go (pc1 := 71) (lv1 := [(2, .ref P), (0, .ref ty), (1, .ref dr)]) (st1 := [.ref dr, .ref RL]) 1 rfl ?_
  refine f_getf rfl rfl (g := 38) rfl r1 r5 ?_
  refine f_acmp (t := 90) rfl rfl true (by simp) ?_
  refine f_go (pc1 := 92) (lv1 := [(2, .ref P), (0, .ref ty), (1, .ref dr)]) (st1 := [.ref P, .ref ty]) 2 rfl ?_
  refine f_getf rfl rfl (g := 138) rfl P1 P3 ?_
  refine f_vt rfl rfl cty rfl ha ?_
  refine f_go (pc1 := 111) (lv1 := [(2, .ref P), (0, .ref ty), (1, .ref dr)]) (st1 := []) 1 rfl ?_
  exact f_rt rfl rfl
theorem g_judgeDecl_I {X : ev_X} {d : Nat} {σ : fl_S} (hd : 1 ≤ d) {ty a : Nat} (c_a : sC σ 1 a = true) (a_kind : sF σ a 32 = .int 2) : CF X d 100 [.ref ty, .ref a] σ none σ := by
  refine f_meth (by omega) rfl ?_
  refine f_go (pc1 := 1) (lv1 := [(0, .ref ty), (1, .ref a)]) (st1 := [.ref a]) 1 rfl ?_
  refine f_getf rfl rfl (g := 32) rfl c_a a_kind ?_
  refine f_go (pc1 := 211) (lv1 := [(0, .ref ty), (1, .ref a)]) (st1 := []) 1 rfl ?_
  exact f_rt rfl rfl
theorem g_judgeDecl_T {X : ev_X} {d : Nat} {σ : fl_S} (hd : 1 ≤ d) {ty a n p : Nat} {cl : Int32} (c_a : sC σ 1 a = true) (a_kind : sF σ a 32 = .int 3) (a_type : sF σ a 38 = .ref n) (c_n : sC σ 4 n = true) (n_real : sF σ n 139 = .ref p) (c_p : sC σ 4 p = true) (p_cells : sF σ p 143 = .int cl) (hcl : ¬ cl = -1) (hr : CF X (d - 1) 103 [.ref ty, .ref a] σ (some (.int 0)) σ) (cty : sC σ 9 ty = true) : CF X d 100 [.ref ty, .ref a] σ none σ := by
  refine f_meth (by omega) rfl ?_
  refine f_go (pc1 := 1) (lv1 := [(0, .ref ty), (1, .ref a)]) (st1 := [.ref a]) 1 rfl ?_
  refine f_getf rfl rfl (g := 32) rfl c_a a_kind ?_
  refine f_go (pc1 := 50) (lv1 := [(0, .ref ty), (1, .ref a)]) (st1 := [.ref a, .ref ty]) 3 rfl ?_
  refine f_vt rfl rfl cty rfl hr ?_
  refine f_go (pc1 := 57) (lv1 := [(0, .ref ty), (1, .ref a)]) (st1 := [.ref a]) 2 rfl ?_
  refine f_getf rfl rfl (g := 38) rfl c_a a_type ?_
  refine f_getf rfl rfl (g := 139) rfl c_n n_real ?_
  refine f_getf rfl rfl (g := 143) rfl c_p p_cells ?_
  refine f_go (pc1 := 67) (lv1 := [(0, .ref ty), (1, .ref a)]) (st1 := [.int (-1), .int cl]) 1 rfl ?_
  refine f_icmp (t := 211) rfl rfl true (ic_ne hcl) ?_
  exact f_rt rfl rfl
theorem g_judgeDecl_O {X : ev_X} {d : Nat} {σ : fl_S} (hd : 2 ≤ d) {ty : Nat} {P dO nb sb dh nh mb dr uh ur RL : Nat} (hO : OW σ P dO nb sb dh nh mb dr uh ur RL) (dO_kind : sF σ dO 32 = .int 4) (dO_type : sF σ dO 38 = .ref P) (ha : CF X (d - 1) 102 [.ref ty, .ref P, .ref sb] σ (some (.int 1)) σ) (cty : sC σ 9 ty = true) : CF X d 100 [.ref ty, .ref dO] σ none σ := by
  have hO9 := hO
  obtain ⟨P1, P2, P3, O1, O2, O3, b1, b2, b3, h1, h2, h3, h4, h5, h6, h7, h8, r1, r2, r3, r4, r5, uh1, uh2, ur1, ur2, RL1⟩ := hO
  refine f_meth (by omega) rfl ?_
  refine f_go (pc1 := 1) (lv1 := [(0, .ref ty), (1, .ref dO)]) (st1 := [.ref dO]) 1 rfl ?_
  refine f_getf rfl rfl (g := 32) rfl O1 dO_kind ?_
  refine f_go (pc1 := 94) (lv1 := [(0, .ref ty), (1, .ref dO)]) (st1 := [.ref dO, .null, .ref ty]) 4 rfl ?_
  refine f_getf rfl rfl (g := 38) rfl O1 dO_type ?_
  refine f_vt rfl rfl cty rfl (g_levelOf_O0 (by omega) hO9) ?_
  refine f_go (pc1 := 105) (lv1 := [(0, .ref ty), (1, .ref dO)]) (st1 := [.ref dO, .ref ty]) 3 rfl ?_
  refine f_getf rfl rfl (g := 38) rfl O1 dO_type ?_
  refine f_go (pc1 := 109) (lv1 := [(0, .ref ty), (1, .ref dO)]) (st1 := [.ref dO, .ref P, .ref ty]) 1 rfl ?_
  refine f_getf rfl rfl (g := 39) rfl O1 O3 ?_
  refine f_getf rfl rfl (g := 139) rfl b1 b2 ?_
  refine f_vt rfl rfl cty rfl ha ?_
  refine f_go (pc1 := 211) (lv1 := [(0, .ref ty), (1, .ref dO)]) (st1 := []) 1 rfl ?_
  exact f_rt rfl rfl
theorem g_judgeDecl_5 {X : ev_X} {d : Nat} {σ : fl_S} (hd : 1 ≤ d) {ty a : Nat} (c_a : sC σ 1 a = true) (a_kind : sF σ a 32 = .int 5) (hr : CF X (d - 1) 101 [.ref ty, .ref a] σ none σ) (cty : sC σ 9 ty = true) : CF X d 100 [.ref ty, .ref a] σ none σ := by
  refine f_meth (by omega) rfl ?_
  refine f_go (pc1 := 1) (lv1 := [(0, .ref ty), (1, .ref a)]) (st1 := [.ref a]) 1 rfl ?_
  refine f_getf rfl rfl (g := 32) rfl c_a a_kind ?_
  refine f_go (pc1 := 136) (lv1 := [(0, .ref ty), (1, .ref a)]) (st1 := [.ref a, .ref ty]) 3 rfl ?_
  refine f_vt rfl rfl cty rfl hr ?_
  refine f_go (pc1 := 211) (lv1 := [(0, .ref ty), (1, .ref a)]) (st1 := []) 1 rfl ?_
  exact f_rt rfl rfl
theorem g_judgeDecl_6 {X : ev_X} {d : Nat} {σ : fl_S} (hd : 1 ≤ d) {ty a : Nat} (c_a : sC σ 1 a = true) (a_kind : sF σ a 32 = .int 6) (hr : CF X (d - 1) 101 [.ref ty, .ref a] σ none σ) (cty : sC σ 9 ty = true) : CF X d 100 [.ref ty, .ref a] σ none σ := by
  refine f_meth (by omega) rfl ?_
  refine f_go (pc1 := 1) (lv1 := [(0, .ref ty), (1, .ref a)]) (st1 := [.ref a]) 1 rfl ?_
  refine f_getf rfl rfl (g := 32) rfl c_a a_kind ?_
  refine f_go (pc1 := 136) (lv1 := [(0, .ref ty), (1, .ref a)]) (st1 := [.ref a, .ref ty]) 3 rfl ?_
  refine f_vt rfl rfl cty rfl hr ?_
  refine f_go (pc1 := 211) (lv1 := [(0, .ref ty), (1, .ref a)]) (st1 := []) 1 rfl ?_
  exact f_rt rfl rfl
/-- units in their row, their declarations -/
def UW (σ : fl_S) (ty ur U : Nat) (us : Nat → Nat) (ds : Nat → List Nat) : Prop := sC σ 9 ty = true ∧ sF σ ty 289 = .ref ur ∧ (∃ UR, sR σ ur = some (2, U, UR) ∧ ∀ i, i < U → UR i = some (us i)) ∧ U < 100000 ∧ ∀ i, i < U → sC σ 1 (us i) = true ∧ Ll (fun a => sF σ a 37) (sF σ (us i) 43) (ds i) ∧ ∀ a ∈ ds i, sC σ 1 a = true
theorem g_judge {X : ev_X} {d : Nat} {σ : fl_S} (hd : 2 ≤ d) {ty ur U : Nat} {us : Nat → Nat} {ds : Nat → List Nat} {ns : List Nat} {kd : Nat → Int32} (hU : UW σ ty ur U us ds) (ty_nodes : sF σ ty 297 = va_rf ns.head?) (hll : Ll (fun a => sF σ a 146) (va_rf ns.head?) ns) (ty_found : sF σ ty 300 = .int 2147483647) (hN : ∀ n ∈ ns, sC σ 4 n = true ∧ sF σ n 128 = .int (kd n) ∧ CF X (d - 1) 105 [.ref ty, .ref n] σ none σ ∧ (kd n = 11 → CF X (d - 1) 106 [.ref ty, .ref n] σ none σ)) (hD : ∀ i, i < U → ∀ a ∈ ds i, CF X (d - 1) 100 [.ref ty, .ref a] σ none σ) : CF X d 99 [.ref ty] σ (some (.int 0)) σ := by
  obtain ⟨cty, ty_ur, ⟨UR, hur, hUR⟩, hU1, hus⟩ := hU
  refine f_meth (by omega) rfl ?_
  refine f_go (pc1 := 2) (lv1 := [(1, .int 0), (0, .ref ty)]) (st1 := []) 2 rfl ?_
  have nodes : ∀ (l : List Nat) (c : Option Nat), Ll (fun a => sF σ a 146) (va_rf c) l → (∀ n ∈ l, n ∈ ns) → EF X (d - 1) 99 49 [(1, va_rf c), (0, .ref ty)] [] σ (some (.int 0)) σ := by
    intro l
    induction l with
    | nil =>
      intro c hc hs
      have hc : va_rf c = .null := hc
      rw [hc]
      refine f_go (pc1 := 81) (lv1 := [(1, .null), (0, .ref ty)]) (st1 := [.ref ty]) 3 rfl ?_
      refine f_getf rfl rfl (g := 300) rfl cty ty_found ?_
      refine f_ldc rfl ?_
      refine f_go (pc1 := 97) (lv1 := [(1, .null), (0, .ref ty)]) (st1 := [.int 0]) 3 rfl ?_
      exact f_rt rfl rfl
    | cons n r ih =>
      intro c hc hs
      obtain ⟨hc1, hc2⟩ := hc
      rw [hc1]
      have hc2 : Ll (fun a => sF σ a 146) (sF σ n 146) r := hc2
      have n_next := hc2.hd
      rw [n_next] at hc2
      obtain ⟨c_n, n_kind, hC, hM⟩ := hN n (hs n List.mem_cons_self)
      have ih := ih r.head? hc2 (fun x hx => hs x (List.mem_cons_of_mem _ hx))
      refine f_go (pc1 := 55) (lv1 := [(1, .ref n), (0, .ref ty)]) (st1 := [.ref n, .ref ty]) 4 rfl ?_
      refine f_vt rfl rfl cty rfl hC ?_
      refine f_go (pc1 := 59) (lv1 := [(1, .ref n), (0, .ref ty)]) (st1 := [.ref n]) 1 rfl ?_
      refine f_getf rfl rfl (g := 128) rfl c_n n_kind ?_
      refine f_go (pc1 := 64) (lv1 := [(1, .ref n), (0, .ref ty)]) (st1 := [.int 11, .int (kd n)]) 1 rfl ?_
      by_cases x1 : kd n = 11
      ·
        refine f_icmp (t := 72) rfl rfl false (ic_nen x1) ?_
        refine f_go (pc1 := 69) (lv1 := [(1, .ref n), (0, .ref ty)]) (st1 := [.ref n, .ref ty]) 2 rfl ?_
        refine f_vt rfl rfl cty rfl (hM x1) ?_
        refine f_go (pc1 := 73) (lv1 := [(1, .ref n), (0, .ref ty)]) (st1 := [.ref n]) 1 rfl ?_
        refine f_getf rfl rfl (g := 146) rfl c_n n_next ?_
        refine f_astn rfl r.head? rfl ?_
        refine f_go (pc1 := 49) (lv1 := [(1, va_rf r.head?), (0, .ref ty)]) (st1 := []) 1 rfl ?_
        refine f_lv [(1, va_rf r.head?), (0, .ref ty)] (fl_c rfl (fl_c rfl fl_0)) ?_
        exact ih
      ·
        refine f_icmp (t := 72) rfl rfl true (ic_ne x1) ?_
        refine f_go (pc1 := 73) (lv1 := [(1, .ref n), (0, .ref ty)]) (st1 := [.ref n]) 1 rfl ?_
        refine f_getf rfl rfl (g := 146) rfl c_n n_next ?_
        refine f_astn rfl r.head? rfl ?_
        refine f_go (pc1 := 49) (lv1 := [(1, va_rf r.head?), (0, .ref ty)]) (st1 := []) 1 rfl ?_
        refine f_lv [(1, va_rf r.head?), (0, .ref ty)] (fl_c rfl (fl_c rfl fl_0)) ?_
        exact ih
  have units : ∀ m i, m + i = U → EF X (d - 1) 99 2 [(1, .int (Int32.ofNat i)), (0, .ref ty)] [] σ (some (.int 0)) σ := by
    intro m
    induction m with
    | zero =>
      intro i hi
      have hi : i = U := by omega
      subst hi
      refine f_go (pc1 := 4) (lv1 := [(1, .int (Int32.ofNat i)), (0, .ref ty)]) (st1 := [.ref ty, .int (Int32.ofNat i)]) 2 rfl ?_
      refine f_getf rfl rfl (g := 289) rfl cty ty_ur ?_
      refine f_alR rfl hur rfl ?_
      refine f_icmp (t := 44) rfl rfl true (nat_geT (by omega) (by omega) (Nat.le_refl _)) ?_
      refine f_go (pc1 := 45) (lv1 := [(1, .int (Int32.ofNat i)), (0, .ref ty)]) (st1 := [.ref ty]) 1 rfl ?_
      refine f_getf rfl rfl (g := 297) rfl cty ty_nodes ?_
      refine f_astn rfl ns.head? rfl ?_
      refine f_lv [(1, va_rf ns.head?), (0, .ref ty)] (fl_c rfl (fl_c rfl fl_0)) ?_
      exact nodes ns ns.head? hll (fun _ h => h)
    | succ m ih =>
      intro i hi
      have hi2 : i < U := by omega
      have ih := ih (i + 1) (by omega)
      obtain ⟨c_u, hl, hcs⟩ := hus i hi2
      have hDi := hD i hi2
      have decls : ∀ (l : List Nat) (c : Option Nat), Ll (fun a => sF σ a 37) (va_rf c) l → (∀ n ∈ l, n ∈ ds i) → EF X (d - 1) 99 21 [(2, va_rf c), (1, .int (Int32.ofNat i)), (0, .ref ty)] [] σ (some (.int 0)) σ := by
        intro l
        induction l with
        | nil =>
          intro c hc hs
          have hc : va_rf c = .null := hc
          rw [hc]
          refine f_go (pc1 := 2) (lv1 := [(1, .int ((Int32.ofNat i) + 1)), (2, .null), (0, .ref ty)]) (st1 := []) 4 rfl ?_
          rw [nat_s i]
          refine f_lv [(1, .int (Int32.ofNat (i + 1))), (0, .ref ty)] (fl_c rfl (fl_c rfl fl_0)) ?_
          exact ih
        | cons n r ih2 =>
          intro c hc hs
          obtain ⟨hc1, hc2⟩ := hc
          rw [hc1]
          have hc2 : Ll (fun a => sF σ a 37) (sF σ n 37) r := hc2
          have n_next := hc2.hd
          rw [n_next] at hc2
          have c_n := hcs n (hs n List.mem_cons_self)
          have hC := hDi n (hs n List.mem_cons_self)
          have ih2 := ih2 r.head? hc2 (fun x hx => hs x (List.mem_cons_of_mem _ hx))
          refine f_go (pc1 := 27) (lv1 := [(2, .ref n), (1, .int (Int32.ofNat i)), (0, .ref ty)]) (st1 := [.ref n, .ref ty]) 4 rfl ?_
          refine f_vt rfl rfl cty rfl hC ?_
          refine f_go (pc1 := 31) (lv1 := [(2, .ref n), (1, .int (Int32.ofNat i)), (0, .ref ty)]) (st1 := [.ref n]) 1 rfl ?_
          refine f_getf rfl rfl (g := 37) rfl c_n n_next ?_
          refine f_astn rfl r.head? rfl ?_
          refine f_go (pc1 := 21) (lv1 := [(2, va_rf r.head?), (1, .int (Int32.ofNat i)), (0, .ref ty)]) (st1 := []) 1 rfl ?_
          refine f_lv [(2, va_rf r.head?), (1, .int (Int32.ofNat i)), (0, .ref ty)] (fl_c rfl (fl_c rfl (fl_c rfl fl_0))) ?_
          exact ih2
      have hlh := hl.hd
      rw [hlh] at hl
      refine f_go (pc1 := 4) (lv1 := [(1, .int (Int32.ofNat i)), (0, .ref ty)]) (st1 := [.ref ty, .int (Int32.ofNat i)]) 2 rfl ?_
      refine f_getf rfl rfl (g := 289) rfl cty ty_ur ?_
      refine f_alR rfl hur rfl ?_
      refine f_icmp (t := 44) rfl rfl false (nat_lt (by omega) (by omega) hi2) ?_
      refine f_go (pc1 := 12) (lv1 := [(1, .int (Int32.ofNat i)), (0, .ref ty)]) (st1 := [.ref ty]) 1 rfl ?_
      refine f_getf rfl rfl (g := 289) rfl cty ty_ur ?_
      refine f_go (pc1 := 16) (lv1 := [(1, .int (Int32.ofNat i)), (0, .ref ty)]) (st1 := [.int (Int32.ofNat i), .ref ur]) 1 rfl ?_
      refine f_aald rfl hur (i := i) (o := (some (us i))) rfl hi2 (by omega) (hUR i hi2) ?_
      show EF _ _ 99 17 [(1, .int (Int32.ofNat i)), (0, .ref ty)] [.ref (us i)] _ _ _
      refine f_getf rfl rfl (g := 43) rfl c_u hlh ?_
      refine f_astn rfl (ds i).head? rfl ?_
      refine f_lv [(2, va_rf (ds i).head?), (1, .int (Int32.ofNat i)), (0, .ref ty)] (fl_c rfl (fl_c rfl (fl_c rfl fl_0))) ?_
      exact decls (ds i) _ hl (fun _ h => h)
  exact f_lv _ (fl_c rfl (fl_c rfl fl_0)) (units U 0 (by omega))
