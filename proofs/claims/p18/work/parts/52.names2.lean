/-! the first round: what names mean -/
theorem g_knownIn_f {X : ev_X} {d : Nat} {σ : fl_S} (hd : 1 ≤ d) {u : Nat} {name : Int32} {nm : Nat → Int32} {ds : List Nat} {q : Nat} (cu : sC σ 1 u = true) (hf : Ll (fun a => sF σ a 37) (sF σ u 43) ds) (hn : ∀ a ∈ ds, sC σ 1 a = true ∧ sF σ a 33 = .int (nm a)) (hq : kn_find nm name ds = some q) : CF X d 67 [.ref u, .int name] σ (some (.ref q)) σ := by
  refine f_meth hd rfl ?_
  refine f_go (pc1 := 1) (lv1 := [(0, .ref u), (1, .int name)]) (st1 := [.ref u]) 1 rfl ?_
  refine f_getf rfl rfl (g := 43) rfl cu hf.hd ?_
  refine f_astn rfl ds.head? rfl ?_
  have hf2 := hf
  rw [hf.hd] at hf2
  have key : ∀ (l : List Nat) (c : Option Nat), Ll (fun a => sF σ a 37) (va_rf c) l → (∀ a ∈ l, sC σ 1 a = true ∧ sF σ a 33 = .int (nm a)) → kn_find nm name l = some q → EF X (d - 1) 67 5 [(2, va_rf c), (0, .ref u), (1, .int name)] [] σ (some (.ref q)) σ := by
    intro l
    induction l with
    | nil =>
      intro c hc hs hq
      have hc : va_rf c = .null := hc
      rw [hc]
      cases hq
    | cons n r ih =>
      intro c hc hs hq
      obtain ⟨hc1, hc2⟩ := hc
      rw [hc1]
      have hc2 : Ll (fun a => sF σ a 37) (sF σ n 37) r := hc2
      have n_next := hc2.hd
      rw [n_next] at hc2
      obtain ⟨c_n, n_name⟩ := hs n List.mem_cons_self
      refine f_go (pc1 := 10) (lv1 := [(2, .ref n), (0, .ref u), (1, .int name)]) (st1 := [.ref n]) 3 rfl ?_
      refine f_getf rfl rfl (g := 33) rfl c_n n_name ?_
      refine f_go (pc1 := 14) (lv1 := [(2, .ref n), (0, .ref u), (1, .int name)]) (st1 := [.int name, .int (nm n)]) 1 rfl ?_
      by_cases x1 : nm n = name
      ·
        refine f_icmp (t := 19) rfl rfl false (ic_nen x1) ?_
        refine f_go (pc1 := 18) (lv1 := [(2, .ref n), (0, .ref u), (1, .int name)]) (st1 := [.ref n]) 1 rfl ?_
        have e : n = q := by simpa [kn_find, x1] using hq
        subst e
        exact f_rt rfl rfl
      ·
        refine f_icmp (t := 19) rfl rfl true (ic_ne x1) ?_
        refine f_go (pc1 := 20) (lv1 := [(2, .ref n), (0, .ref u), (1, .int name)]) (st1 := [.ref n]) 1 rfl ?_
        refine f_getf rfl rfl (g := 37) rfl c_n n_next ?_
        refine f_astn rfl r.head? rfl ?_
        refine f_go (pc1 := 5) (lv1 := [(2, va_rf r.head?), (0, .ref u), (1, .int name)]) (st1 := []) 1 rfl ?_
        refine f_lv [(2, va_rf r.head?), (0, .ref u), (1, .int name)] (fl_c rfl (fl_c rfl (fl_c rfl fl_0))) ?_
        exact ih _ hc2 (fun x hx => hs x (List.mem_cons_of_mem _ hx)) (by simpa [kn_find, x1] using hq)
  exact key ds _ hf2 hn hq
theorem g_knownIn_o {X : ev_X} {d : Nat} {σ : fl_S} (hd : 1 ≤ d) {u : Nat} {name : Int32} {nm : Nat → Int32} {ds : List Nat} {q v : Nat} (cu : sC σ 1 u = true) (hf : Ll (fun a => sF σ a 37) (sF σ u 43) ds) (hn : ∀ a ∈ ds, sC σ 1 a = true ∧ sF σ a 33 = .int (nm a)) (hq : kn_find nm name ds = none) (u_other : sF σ u 46 = .ref v) (hC : CF X (d - 1) 66 [.ref v, .int name] σ (some (.ref q)) σ) : CF X d 67 [.ref u, .int name] σ (some (.ref q)) σ := by
  refine f_meth hd rfl ?_
  refine f_go (pc1 := 1) (lv1 := [(0, .ref u), (1, .int name)]) (st1 := [.ref u]) 1 rfl ?_
  refine f_getf rfl rfl (g := 43) rfl cu hf.hd ?_
  refine f_astn rfl ds.head? rfl ?_
  have hf2 := hf
  rw [hf.hd] at hf2
  have key : ∀ (l : List Nat) (c : Option Nat), Ll (fun a => sF σ a 37) (va_rf c) l → (∀ a ∈ l, sC σ 1 a = true ∧ sF σ a 33 = .int (nm a)) → kn_find nm name l = none → EF X (d - 1) 67 5 [(2, va_rf c), (0, .ref u), (1, .int name)] [] σ (some (.ref q)) σ := by
    intro l
    induction l with
    | nil =>
      intro c hc hs hq
      have hc : va_rf c = .null := hc
      rw [hc]
      refine f_go (pc1 := 28) (lv1 := [(2, .null), (0, .ref u), (1, .int name)]) (st1 := [.ref u]) 3 rfl ?_
      refine f_getf rfl rfl (g := 46) rfl cu u_other ?_
      refine f_go (pc1 := 39) (lv1 := [(2, .null), (0, .ref u), (1, .int name)]) (st1 := [.ref u]) 2 rfl ?_
      refine f_getf rfl rfl (g := 46) rfl cu u_other ?_
      refine f_go (pc1 := 43) (lv1 := [(2, .null), (0, .ref u), (1, .int name)]) (st1 := [.int name, .ref v]) 1 rfl ?_
      refine f_st rfl rfl rfl rfl hC ?_
      exact f_rt rfl rfl
    | cons n r ih =>
      intro c hc hs hq
      obtain ⟨hc1, hc2⟩ := hc
      rw [hc1]
      have hc2 : Ll (fun a => sF σ a 37) (sF σ n 37) r := hc2
      have n_next := hc2.hd
      rw [n_next] at hc2
      obtain ⟨c_n, n_name⟩ := hs n List.mem_cons_self
      refine f_go (pc1 := 10) (lv1 := [(2, .ref n), (0, .ref u), (1, .int name)]) (st1 := [.ref n]) 3 rfl ?_
      refine f_getf rfl rfl (g := 33) rfl c_n n_name ?_
      refine f_go (pc1 := 14) (lv1 := [(2, .ref n), (0, .ref u), (1, .int name)]) (st1 := [.int name, .int (nm n)]) 1 rfl ?_
      by_cases x1 : nm n = name
      ·
        refine f_icmp (t := 19) rfl rfl false (ic_nen x1) ?_
        refine f_go (pc1 := 18) (lv1 := [(2, .ref n), (0, .ref u), (1, .int name)]) (st1 := [.ref n]) 1 rfl ?_
        simp [kn_find, x1] at hq
      ·
        refine f_icmp (t := 19) rfl rfl true (ic_ne x1) ?_
        refine f_go (pc1 := 20) (lv1 := [(2, .ref n), (0, .ref u), (1, .int name)]) (st1 := [.ref n]) 1 rfl ?_
        refine f_getf rfl rfl (g := 37) rfl c_n n_next ?_
        refine f_astn rfl r.head? rfl ?_
        refine f_go (pc1 := 5) (lv1 := [(2, va_rf r.head?), (0, .ref u), (1, .int name)]) (st1 := []) 1 rfl ?_
        refine f_lv [(2, va_rf r.head?), (0, .ref u), (1, .int name)] (fl_c rfl (fl_c rfl (fl_c rfl fl_0))) ?_
        exact ih _ hc2 (fun x hx => hs x (List.mem_cons_of_mem _ hx)) (by simpa [kn_find, x1] using hq)
  exact key ds _ hf2 hn hq
theorem g_isThere {X : ev_X} {d : Nat} {σ : fl_S} (hd : 1 ≤ d) {h a : Nat} {nm : Nat → Int32} {pre post : List Nat} (hh : (pre ++ a :: post).head? = some h) (hl : Ll (fun a => sF σ a 37) (.ref h) (pre ++ a :: post)) (hn : ∀ b ∈ pre, sC σ 1 b = true ∧ sF σ b 33 = .int (nm b) ∧ b ≠ a ∧ ¬ nm b = nm a) (c_a : sC σ 1 a = true) (a_name : sF σ a 33 = .int (nm a)) : CF X d 70 [.ref h, .ref a] σ (some (.int 0)) σ := by
  refine f_meth hd rfl ?_
  refine f_go (pc1 := 2) (lv1 := [(2, .ref h), (0, .ref h), (1, .ref a)]) (st1 := []) 2 rfl ?_
  have key : ∀ (l : List Nat) (c : Option Nat), Ll (fun a => sF σ a 37) (va_rf c) (l ++ a :: post) → (∀ b ∈ l, sC σ 1 b = true ∧ sF σ b 33 = .int (nm b) ∧ b ≠ a ∧ ¬ nm b = nm a) → EF X (d - 1) 70 2 [(2, va_rf c), (0, .ref h), (1, .ref a)] [] σ (some (.int 0)) σ := by
    intro l
    induction l with
    | nil =>
      intro c hc hs
      have hc : va_rf c = .ref a := hc.1
      rw [hc]
      refine f_go (pc1 := 8) (lv1 := [(2, .ref a), (0, .ref h), (1, .ref a)]) (st1 := [.ref a, .ref a]) 4 rfl ?_
      refine f_acmp (t := 63) rfl rfl true (by simp) ?_
      refine f_go (pc1 := 64) (lv1 := [(2, .ref a), (0, .ref h), (1, .ref a)]) (st1 := [.int 0]) 1 rfl ?_
      exact f_rt rfl rfl
    | cons n r ih =>
      intro c hc hs
      obtain ⟨hc1, hc2⟩ := hc
      rw [hc1]
      have hc2 : Ll (fun a => sF σ a 37) (sF σ n 37) (r ++ a :: post) := hc2
      have n_next := hc2.hd
      rw [n_next] at hc2
      obtain ⟨c_n, n_name, n_ne, n_nm⟩ := hs n List.mem_cons_self
      refine f_go (pc1 := 8) (lv1 := [(2, .ref n), (0, .ref h), (1, .ref a)]) (st1 := [.ref a, .ref n]) 4 rfl ?_
      refine f_acmp (t := 63) rfl rfl false (by simp [n_ne]) ?_
      refine f_go (pc1 := 12) (lv1 := [(2, .ref n), (0, .ref h), (1, .ref a)]) (st1 := [.ref n]) 1 rfl ?_
      refine f_getf rfl rfl (g := 33) rfl c_n n_name ?_
      refine f_go (pc1 := 16) (lv1 := [(2, .ref n), (0, .ref h), (1, .ref a)]) (st1 := [.ref a, .int (nm n)]) 1 rfl ?_
      refine f_getf rfl rfl (g := 33) rfl c_a a_name ?_
      refine f_icmp (t := 55) rfl rfl true (ic_ne n_nm) ?_
      refine f_go (pc1 := 56) (lv1 := [(2, .ref n), (0, .ref h), (1, .ref a)]) (st1 := [.ref n]) 1 rfl ?_
      refine f_getf rfl rfl (g := 37) rfl c_n n_next ?_
      refine f_astn rfl (r ++ a :: post).head? rfl ?_
      refine f_go (pc1 := 2) (lv1 := [(2, va_rf (r ++ a :: post).head?), (0, .ref h), (1, .ref a)]) (st1 := []) 1 rfl ?_
      refine f_lv [(2, va_rf (r ++ a :: post).head?), (0, .ref h), (1, .ref a)] (fl_c rfl (fl_c rfl (fl_c rfl fl_0))) ?_
      exact ih _ hc2 (fun x hx => hs x (List.mem_cons_of_mem _ hx))
  have q := key pre (some h) hl hn
  exact f_lv _ (fl_c rfl (fl_c rfl (fl_c rfl fl_0))) q
theorem g_isToldBy0 {X : ev_X} {d : Nat} {σ : fl_S} (hd : 1 ≤ d) {u a : Nat} (c_u : sC σ 1 u = true) (u_other : sF σ u 46 = .null) : CF X d 69 [.ref u, .ref a] σ (some (.int 0)) σ := by
  refine f_meth (by omega) rfl ?_
  refine f_go (pc1 := 1) (lv1 := [(0, .ref u), (1, .ref a)]) (st1 := [.ref u]) 1 rfl ?_
  refine f_getf rfl rfl (g := 46) rfl c_u u_other ?_
  refine f_go (pc1 := 50) (lv1 := [(2, .null), (0, .ref u), (1, .ref a)]) (st1 := [.int 0]) 7 rfl ?_
  exact f_rt rfl rfl
theorem g_judgeUse_a3 {X : ev_X} {d : Nat} {σ : fl_S} (hd : 1 ≤ d) {nmo u op q : Nat} {x : Int32} (c_op : sC σ 5 op = true) (op_unitName : sF σ op 162 = .int (-1)) (op_name : sF σ op 161 = .int x) (hC : CF X (d - 1) 67 [.ref u, .int x] σ (some (.ref q)) σ) (c_q : sC σ 1 q = true) (q_kind : sF σ q 32 = .int 3) : CF X d 72 [.ref nmo, .ref u, .ref op, .int 3] σ none (sU σ op 165 (.ref q)) := by
  refine f_meth (by omega) rfl ?_
  refine f_go (pc1 := 11) (lv1 := [(0, .ref nmo), (1, .ref u), (2, .ref op), (3, .int 3)]) (st1 := [.ref op, .ref u]) 6 rfl ?_
  refine f_getf rfl rfl (g := 162) rfl c_op op_unitName ?_
  refine f_go (pc1 := 19) (lv1 := [(0, .ref nmo), (1, .ref u), (2, .ref op), (3, .int 3)]) (st1 := [.ref op, .ref u]) 3 rfl ?_
  refine f_getf rfl rfl (g := 161) rfl c_op op_name ?_
  refine f_go (pc1 := 29) (lv1 := [(0, .ref nmo), (1, .ref u), (2, .ref op), (3, .int 3)]) (st1 := [.int x, .ref u]) 1 rfl ?_
  refine f_st rfl rfl rfl rfl hC ?_
  refine f_go (pc1 := 40) (lv1 := [(4, .ref q), (0, .ref nmo), (1, .ref u), (2, .ref op), (3, .int 3)]) (st1 := [.ref op]) 4 rfl ?_
  refine f_getf rfl rfl (g := 162) rfl c_op op_unitName ?_
  refine f_go (pc1 := 114) (lv1 := [(4, .ref q), (0, .ref nmo), (1, .ref u), (2, .ref op), (3, .int 3)]) (st1 := [.ref q]) 5 rfl ?_
  refine f_getf rfl rfl (g := 32) rfl c_q q_kind ?_
  refine f_go (pc1 := 151) (lv1 := [(4, .ref q), (0, .ref nmo), (1, .ref u), (2, .ref op), (3, .int 3)]) (st1 := [.ref q, .ref op]) 4 rfl ?_
  refine f_putf rfl rfl (g := 165) rfl c_op rfl ?_
  exact f_rt rfl rfl
theorem g_judgeUse_b3 {X : ev_X} {d : Nat} {σ : fl_S} (hd : 1 ≤ d) {nmo u op q im v : Nat} {x y : Int32} (c_op : sC σ 5 op = true) (op_unitName : sF σ op 162 = .int y) (op_name : sF σ op 161 = .int x) (hy : ¬ y = -1) (hK : CF X (d - 1) 67 [.ref u, .int y] σ (some (.ref im)) σ) (c_im : sC σ 1 im = true) (im_kind : sF σ im 32 = .int 2) (im_other : sF σ im 46 = .ref v) (hC : CF X (d - 1) 66 [.ref v, .int x] σ (some (.ref q)) σ) (c_q : sC σ 1 q = true) (q_kind : sF σ q 32 = .int 3) : CF X d 72 [.ref nmo, .ref u, .ref op, .int 3] σ none (sU σ op 165 (.ref q)) := by
  refine f_meth (by omega) rfl ?_
  refine f_go (pc1 := 11) (lv1 := [(0, .ref nmo), (1, .ref u), (2, .ref op), (3, .int 3)]) (st1 := [.ref op, .ref u]) 6 rfl ?_
  refine f_getf rfl rfl (g := 162) rfl c_op op_unitName ?_
  refine f_go (pc1 := 15) (lv1 := [(0, .ref nmo), (1, .ref u), (2, .ref op), (3, .int 3)]) (st1 := [.int (-1), .int y, .ref u]) 1 rfl ?_
  refine f_icmp (t := 25) rfl rfl true (ic_ne hy) ?_
  refine f_go (pc1 := 26) (lv1 := [(0, .ref nmo), (1, .ref u), (2, .ref op), (3, .int 3)]) (st1 := [.ref op, .ref u]) 1 rfl ?_
  refine f_getf rfl rfl (g := 162) rfl c_op op_unitName ?_
  refine f_st rfl rfl rfl rfl hK ?_
  refine f_go (pc1 := 40) (lv1 := [(4, .ref im), (0, .ref nmo), (1, .ref u), (2, .ref op), (3, .int 3)]) (st1 := [.ref op]) 4 rfl ?_
  refine f_getf rfl rfl (g := 162) rfl c_op op_unitName ?_
  refine f_go (pc1 := 44) (lv1 := [(4, .ref im), (0, .ref nmo), (1, .ref u), (2, .ref op), (3, .int 3)]) (st1 := [.int (-1), .int y]) 1 rfl ?_
  refine f_icmp (t := 94) rfl rfl false (ic_eqn hy) ?_
  refine f_go (pc1 := 49) (lv1 := [(4, .ref im), (0, .ref nmo), (1, .ref u), (2, .ref op), (3, .int 3)]) (st1 := [.ref im]) 1 rfl ?_
  refine f_getf rfl rfl (g := 32) rfl c_im im_kind ?_
  refine f_go (pc1 := 58) (lv1 := [(4, .ref im), (0, .ref nmo), (1, .ref u), (2, .ref op), (3, .int 3)]) (st1 := [.ref im]) 3 rfl ?_
  refine f_getf rfl rfl (g := 46) rfl c_im im_other ?_
  refine f_go (pc1 := 78) (lv1 := [(5, .int 1), (4, .ref im), (0, .ref nmo), (1, .ref u), (2, .ref op), (3, .int 3)]) (st1 := [.ref im]) 7 rfl ?_
  refine f_getf rfl rfl (g := 46) rfl c_im im_other ?_
  refine f_go (pc1 := 82) (lv1 := [(5, .int 1), (4, .ref im), (0, .ref nmo), (1, .ref u), (2, .ref op), (3, .int 3)]) (st1 := [.ref op, .ref v]) 1 rfl ?_
  refine f_getf rfl rfl (g := 161) rfl c_op op_name ?_
  refine f_st rfl rfl rfl rfl hC ?_
  refine f_go (pc1 := 114) (lv1 := [(4, .ref q), (5, .int 1), (0, .ref nmo), (1, .ref u), (2, .ref op), (3, .int 3)]) (st1 := [.ref q]) 5 rfl ?_
  refine f_getf rfl rfl (g := 32) rfl c_q q_kind ?_
  refine f_go (pc1 := 151) (lv1 := [(4, .ref q), (5, .int 1), (0, .ref nmo), (1, .ref u), (2, .ref op), (3, .int 3)]) (st1 := [.ref q, .ref op]) 4 rfl ?_
  refine f_putf rfl rfl (g := 165) rfl c_op rfl ?_
  exact f_rt rfl rfl
theorem g_judgeUse_a4 {X : ev_X} {d : Nat} {σ : fl_S} (hd : 1 ≤ d) {nmo u op q : Nat} {x : Int32} (c_op : sC σ 5 op = true) (op_unitName : sF σ op 162 = .int (-1)) (op_name : sF σ op 161 = .int x) (hC : CF X (d - 1) 67 [.ref u, .int x] σ (some (.ref q)) σ) (c_q : sC σ 1 q = true) (q_kind : sF σ q 32 = .int 4) : CF X d 72 [.ref nmo, .ref u, .ref op, .int 3] σ none (sU σ op 165 (.ref q)) := by
  refine f_meth (by omega) rfl ?_
  refine f_go (pc1 := 11) (lv1 := [(0, .ref nmo), (1, .ref u), (2, .ref op), (3, .int 3)]) (st1 := [.ref op, .ref u]) 6 rfl ?_
  refine f_getf rfl rfl (g := 162) rfl c_op op_unitName ?_
  refine f_go (pc1 := 19) (lv1 := [(0, .ref nmo), (1, .ref u), (2, .ref op), (3, .int 3)]) (st1 := [.ref op, .ref u]) 3 rfl ?_
  refine f_getf rfl rfl (g := 161) rfl c_op op_name ?_
  refine f_go (pc1 := 29) (lv1 := [(0, .ref nmo), (1, .ref u), (2, .ref op), (3, .int 3)]) (st1 := [.int x, .ref u]) 1 rfl ?_
  refine f_st rfl rfl rfl rfl hC ?_
  refine f_go (pc1 := 40) (lv1 := [(4, .ref q), (0, .ref nmo), (1, .ref u), (2, .ref op), (3, .int 3)]) (st1 := [.ref op]) 4 rfl ?_
  refine f_getf rfl rfl (g := 162) rfl c_op op_unitName ?_
  refine f_go (pc1 := 114) (lv1 := [(4, .ref q), (0, .ref nmo), (1, .ref u), (2, .ref op), (3, .int 3)]) (st1 := [.ref q]) 5 rfl ?_
  refine f_getf rfl rfl (g := 32) rfl c_q q_kind ?_
  refine f_go (pc1 := 128) (lv1 := [(4, .ref q), (0, .ref nmo), (1, .ref u), (2, .ref op), (3, .int 3)]) (st1 := [.ref q]) 6 rfl ?_
  refine f_getf rfl rfl (g := 32) rfl c_q q_kind ?_
  refine f_go (pc1 := 151) (lv1 := [(4, .ref q), (0, .ref nmo), (1, .ref u), (2, .ref op), (3, .int 3)]) (st1 := [.ref q, .ref op]) 4 rfl ?_
  refine f_putf rfl rfl (g := 165) rfl c_op rfl ?_
  exact f_rt rfl rfl
theorem g_judgeUse_b4 {X : ev_X} {d : Nat} {σ : fl_S} (hd : 1 ≤ d) {nmo u op q im v : Nat} {x y : Int32} (c_op : sC σ 5 op = true) (op_unitName : sF σ op 162 = .int y) (op_name : sF σ op 161 = .int x) (hy : ¬ y = -1) (hK : CF X (d - 1) 67 [.ref u, .int y] σ (some (.ref im)) σ) (c_im : sC σ 1 im = true) (im_kind : sF σ im 32 = .int 2) (im_other : sF σ im 46 = .ref v) (hC : CF X (d - 1) 66 [.ref v, .int x] σ (some (.ref q)) σ) (c_q : sC σ 1 q = true) (q_kind : sF σ q 32 = .int 4) : CF X d 72 [.ref nmo, .ref u, .ref op, .int 3] σ none (sU σ op 165 (.ref q)) := by
  refine f_meth (by omega) rfl ?_
  refine f_go (pc1 := 11) (lv1 := [(0, .ref nmo), (1, .ref u), (2, .ref op), (3, .int 3)]) (st1 := [.ref op, .ref u]) 6 rfl ?_
  refine f_getf rfl rfl (g := 162) rfl c_op op_unitName ?_
  refine f_go (pc1 := 15) (lv1 := [(0, .ref nmo), (1, .ref u), (2, .ref op), (3, .int 3)]) (st1 := [.int (-1), .int y, .ref u]) 1 rfl ?_
  refine f_icmp (t := 25) rfl rfl true (ic_ne hy) ?_
  refine f_go (pc1 := 26) (lv1 := [(0, .ref nmo), (1, .ref u), (2, .ref op), (3, .int 3)]) (st1 := [.ref op, .ref u]) 1 rfl ?_
  refine f_getf rfl rfl (g := 162) rfl c_op op_unitName ?_
  refine f_st rfl rfl rfl rfl hK ?_
  refine f_go (pc1 := 40) (lv1 := [(4, .ref im), (0, .ref nmo), (1, .ref u), (2, .ref op), (3, .int 3)]) (st1 := [.ref op]) 4 rfl ?_
  refine f_getf rfl rfl (g := 162) rfl c_op op_unitName ?_
  refine f_go (pc1 := 44) (lv1 := [(4, .ref im), (0, .ref nmo), (1, .ref u), (2, .ref op), (3, .int 3)]) (st1 := [.int (-1), .int y]) 1 rfl ?_
  refine f_icmp (t := 94) rfl rfl false (ic_eqn hy) ?_
  refine f_go (pc1 := 49) (lv1 := [(4, .ref im), (0, .ref nmo), (1, .ref u), (2, .ref op), (3, .int 3)]) (st1 := [.ref im]) 1 rfl ?_
  refine f_getf rfl rfl (g := 32) rfl c_im im_kind ?_
  refine f_go (pc1 := 58) (lv1 := [(4, .ref im), (0, .ref nmo), (1, .ref u), (2, .ref op), (3, .int 3)]) (st1 := [.ref im]) 3 rfl ?_
  refine f_getf rfl rfl (g := 46) rfl c_im im_other ?_
  refine f_go (pc1 := 78) (lv1 := [(5, .int 1), (4, .ref im), (0, .ref nmo), (1, .ref u), (2, .ref op), (3, .int 3)]) (st1 := [.ref im]) 7 rfl ?_
  refine f_getf rfl rfl (g := 46) rfl c_im im_other ?_
  refine f_go (pc1 := 82) (lv1 := [(5, .int 1), (4, .ref im), (0, .ref nmo), (1, .ref u), (2, .ref op), (3, .int 3)]) (st1 := [.ref op, .ref v]) 1 rfl ?_
  refine f_getf rfl rfl (g := 161) rfl c_op op_name ?_
  refine f_st rfl rfl rfl rfl hC ?_
  refine f_go (pc1 := 114) (lv1 := [(4, .ref q), (5, .int 1), (0, .ref nmo), (1, .ref u), (2, .ref op), (3, .int 3)]) (st1 := [.ref q]) 5 rfl ?_
  refine f_getf rfl rfl (g := 32) rfl c_q q_kind ?_
  refine f_go (pc1 := 128) (lv1 := [(4, .ref q), (5, .int 1), (0, .ref nmo), (1, .ref u), (2, .ref op), (3, .int 3)]) (st1 := [.ref q]) 6 rfl ?_
  refine f_getf rfl rfl (g := 32) rfl c_q q_kind ?_
  refine f_go (pc1 := 151) (lv1 := [(4, .ref q), (5, .int 1), (0, .ref nmo), (1, .ref u), (2, .ref op), (3, .int 3)]) (st1 := [.ref q, .ref op]) 4 rfl ?_
  refine f_putf rfl rfl (g := 165) rfl c_op rfl ?_
  exact f_rt rfl rfl
theorem g_nNode_o {X : ev_X} {d : Nat} {σ : fl_S} (hd : 1 ≤ d) {nmo a : Nat} {k : Int32} (c_a : sC σ 4 a = true) (a_kind : sF σ a 128 = .int k) (a_raises : sF σ a 136 = .null) (a_items : sF σ a 135 = .null) (k13 : ¬ k = 13) : CF X d 71 [.ref nmo, .ref a] σ none σ := by
  refine f_meth (by omega) rfl ?_
  refine f_go (pc1 := 1) (lv1 := [(0, .ref nmo), (1, .ref a)]) (st1 := [.ref a]) 1 rfl ?_
  refine f_getf rfl rfl (g := 128) rfl c_a a_kind ?_
  refine f_go (pc1 := 6) (lv1 := [(0, .ref nmo), (1, .ref a)]) (st1 := [.int 13, .int k]) 1 rfl ?_
  refine f_icmp (t := 22) rfl rfl true (ic_ne k13) ?_
  refine f_go (pc1 := 23) (lv1 := [(0, .ref nmo), (1, .ref a)]) (st1 := [.ref a]) 1 rfl ?_
  refine f_getf rfl rfl (g := 136) rfl c_a a_raises ?_
  refine f_go (pc1 := 51) (lv1 := [(2, .null), (0, .ref nmo), (1, .ref a)]) (st1 := [.ref a]) 4 rfl ?_
  refine f_getf rfl rfl (g := 135) rfl c_a a_items ?_
  refine f_go (pc1 := 108) (lv1 := [(2, .null), (0, .ref nmo), (1, .ref a)]) (st1 := []) 3 rfl ?_
  exact f_rt rfl rfl
theorem g_nNode_n {X : ev_X} {d : Nat} {σ : fl_S} (hd : 1 ≤ d) {nmo a un op q : Nat} (c_a : sC σ 4 a = true) (a_kind : sF σ a 128 = .int 13) (a_raises : sF σ a 136 = .null) (a_items : sF σ a 135 = .null) (a_unit : sF σ a 131 = .ref un) (a_use : sF σ a 137 = .ref op) (cn : sC σ 3 nmo = true) (hC : CF X (d - 1) 72 [.ref nmo, .ref un, .ref op, .int 3] σ none (sU σ op 165 (.ref q))) : CF X d 71 [.ref nmo, .ref a] σ none (sU σ op 165 (.ref q)) := by
  refine f_meth (by omega) rfl ?_
  refine f_go (pc1 := 1) (lv1 := [(0, .ref nmo), (1, .ref a)]) (st1 := [.ref a]) 1 rfl ?_
  refine f_getf rfl rfl (g := 128) rfl c_a a_kind ?_
  refine f_go (pc1 := 11) (lv1 := [(0, .ref nmo), (1, .ref a)]) (st1 := [.ref a, .ref nmo]) 4 rfl ?_
  refine f_getf rfl rfl (g := 131) rfl c_a a_unit ?_
  refine f_go (pc1 := 15) (lv1 := [(0, .ref nmo), (1, .ref a)]) (st1 := [.ref a, .ref un, .ref nmo]) 1 rfl ?_
  refine f_getf rfl rfl (g := 137) rfl c_a a_use ?_
  refine f_go (pc1 := 19) (lv1 := [(0, .ref nmo), (1, .ref a)]) (st1 := [.int 3, .ref op, .ref un, .ref nmo]) 1 rfl ?_
  refine f_vt rfl rfl cn rfl hC ?_
  refine f_go (pc1 := 23) (lv1 := [(0, .ref nmo), (1, .ref a)]) (st1 := [.ref a]) 1 rfl ?_
  refine f_getf rfl rfl (g := 136) rfl c_a a_raises ?_
  refine f_go (pc1 := 51) (lv1 := [(2, .null), (0, .ref nmo), (1, .ref a)]) (st1 := [.ref a]) 4 rfl ?_
  refine f_getf rfl rfl (g := 135) rfl c_a a_items ?_
  refine f_go (pc1 := 108) (lv1 := [(2, .null), (0, .ref nmo), (1, .ref a)]) (st1 := []) 3 rfl ?_
  exact f_rt rfl rfl
theorem g_nNode_L {X : ev_X} {d : Nat} {σ : fl_S} (hd : 1 ≤ d) {nmo a it : Nat} (c_a : sC σ 4 a = true) (a_kind : sF σ a 128 = .int 11) (a_raises : sF σ a 136 = .null) (a_items : sF σ a 135 = .ref it) (c_it : sC σ 1 it = true) (it_use : sF σ it 40 = .null) (it_next : sF σ it 37 = .null) (hC : CF X (d - 1) 70 [.ref it, .ref it] σ (some (.int 0)) σ) : CF X d 71 [.ref nmo, .ref a] σ none σ := by
  refine f_meth (by omega) rfl ?_
  refine f_go (pc1 := 1) (lv1 := [(0, .ref nmo), (1, .ref a)]) (st1 := [.ref a]) 1 rfl ?_
  refine f_getf rfl rfl (g := 128) rfl c_a a_kind ?_
  refine f_go (pc1 := 23) (lv1 := [(0, .ref nmo), (1, .ref a)]) (st1 := [.ref a]) 3 rfl ?_
  refine f_getf rfl rfl (g := 136) rfl c_a a_raises ?_
  refine f_go (pc1 := 51) (lv1 := [(2, .null), (0, .ref nmo), (1, .ref a)]) (st1 := [.ref a]) 4 rfl ?_
  refine f_getf rfl rfl (g := 135) rfl c_a a_items ?_
  refine f_go (pc1 := 60) (lv1 := [(2, .ref it), (0, .ref nmo), (1, .ref a)]) (st1 := [.ref a]) 4 rfl ?_
  refine f_getf rfl rfl (g := 135) rfl c_a a_items ?_
  refine f_go (pc1 := 64) (lv1 := [(2, .ref it), (0, .ref nmo), (1, .ref a)]) (st1 := [.ref it, .ref it]) 1 rfl ?_
  refine f_st rfl rfl rfl rfl hC ?_
  refine f_go (pc1 := 80) (lv1 := [(2, .ref it), (0, .ref nmo), (1, .ref a)]) (st1 := [.ref it]) 2 rfl ?_
  refine f_getf rfl rfl (g := 40) rfl c_it it_use ?_
  refine f_go (pc1 := 101) (lv1 := [(2, .ref it), (0, .ref nmo), (1, .ref a)]) (st1 := [.ref it]) 2 rfl ?_
  refine f_getf rfl rfl (g := 37) rfl c_it it_next ?_
  refine f_go (pc1 := 108) (lv1 := [(2, .null), (0, .ref nmo), (1, .ref a)]) (st1 := []) 4 rfl ?_
  exact f_rt rfl rfl
theorem g_nDecl_o {X : ev_X} {d : Nat} {σ : fl_S} (hd : 1 ≤ d) {nmo u a h : Nat} {k : Int32} (c_a : sC σ 1 a = true) (a_kind : sF σ a 32 = .int k) (k5 : ¬ k = 5) (k6 : ¬ k = 6) (k9 : ¬ k = 9) (c_u : sC σ 1 u = true) (u_first : sF σ u 43 = .ref h) (hI : CF X (d - 1) 70 [.ref h, .ref a] σ (some (.int 0)) σ) (hT : CF X (d - 1) 69 [.ref u, .ref a] σ (some (.int 0)) σ) : CF X d 68 [.ref nmo, .ref u, .ref a] σ none σ := by
  refine f_meth (by omega) rfl ?_
  refine f_go (pc1 := 1) (lv1 := [(0, .ref nmo), (1, .ref u), (2, .ref a)]) (st1 := [.ref a]) 1 rfl ?_
  refine f_getf rfl rfl (g := 32) rfl c_a a_kind ?_
  refine f_go (pc1 := 5) (lv1 := [(0, .ref nmo), (1, .ref u), (2, .ref a)]) (st1 := [.int 5, .int k]) 1 rfl ?_
  refine f_icmp (t := 17) rfl rfl false (ic_eqn k5) ?_
  refine f_go (pc1 := 9) (lv1 := [(0, .ref nmo), (1, .ref u), (2, .ref a)]) (st1 := [.ref a]) 1 rfl ?_
  refine f_getf rfl rfl (g := 32) rfl c_a a_kind ?_
  refine f_go (pc1 := 14) (lv1 := [(0, .ref nmo), (1, .ref u), (2, .ref a)]) (st1 := [.int 6, .int k]) 1 rfl ?_
  refine f_icmp (t := 28) rfl rfl true (ic_ne k6) ?_
  refine f_go (pc1 := 29) (lv1 := [(0, .ref nmo), (1, .ref u), (2, .ref a)]) (st1 := [.ref u]) 1 rfl ?_
  refine f_getf rfl rfl (g := 43) rfl c_u u_first ?_
  refine f_go (pc1 := 33) (lv1 := [(0, .ref nmo), (1, .ref u), (2, .ref a)]) (st1 := [.ref a, .ref h]) 1 rfl ?_
  refine f_st rfl rfl rfl rfl hI ?_
  refine f_go (pc1 := 41) (lv1 := [(0, .ref nmo), (1, .ref u), (2, .ref a)]) (st1 := [.ref a, .ref u]) 3 rfl ?_
  refine f_st rfl rfl rfl rfl hT ?_
  refine f_go (pc1 := 57) (lv1 := [(0, .ref nmo), (1, .ref u), (2, .ref a)]) (st1 := [.ref a]) 2 rfl ?_
  refine f_getf rfl rfl (g := 32) rfl c_a a_kind ?_
  refine f_go (pc1 := 62) (lv1 := [(0, .ref nmo), (1, .ref u), (2, .ref a)]) (st1 := [.int 9, .int k]) 1 rfl ?_
  refine f_icmp (t := 72) rfl rfl true (ic_ne k9) ?_
  exact f_rt rfl rfl
theorem g_nDecl_5 {X : ev_X} {d : Nat} {σ : fl_S} (hd : 1 ≤ d) {nmo u a op q : Nat} (c_a : sC σ 1 a = true) (a_kind : sF σ a 32 = .int 5) (a_use : sF σ a 40 = .ref op) (cn : sC σ 3 nmo = true) (hC : CF X (d - 1) 72 [.ref nmo, .ref u, .ref op, .int 3] σ none (sU σ op 165 (.ref q))) : CF X d 68 [.ref nmo, .ref u, .ref a] σ none (sU σ op 165 (.ref q)) := by
  refine f_meth (by omega) rfl ?_
  refine f_go (pc1 := 1) (lv1 := [(0, .ref nmo), (1, .ref u), (2, .ref a)]) (st1 := [.ref a]) 1 rfl ?_
  refine f_getf rfl rfl (g := 32) rfl c_a a_kind ?_
  refine f_go (pc1 := 20) (lv1 := [(0, .ref nmo), (1, .ref u), (2, .ref a)]) (st1 := [.ref a, .ref u, .ref nmo]) 5 rfl ?_
  refine f_getf rfl rfl (g := 40) rfl c_a a_use ?_
  refine f_go (pc1 := 24) (lv1 := [(0, .ref nmo), (1, .ref u), (2, .ref a)]) (st1 := [.int 3, .ref op, .ref u, .ref nmo]) 1 rfl ?_
  refine f_vt rfl rfl cn rfl hC ?_
  exact f_rt rfl rfl
theorem g_nDecl_6 {X : ev_X} {d : Nat} {σ : fl_S} (hd : 1 ≤ d) {nmo u a op q : Nat} (c_a : sC σ 1 a = true) (a_kind : sF σ a 32 = .int 6) (a_use : sF σ a 40 = .ref op) (cn : sC σ 3 nmo = true) (hC : CF X (d - 1) 72 [.ref nmo, .ref u, .ref op, .int 3] σ none (sU σ op 165 (.ref q))) : CF X d 68 [.ref nmo, .ref u, .ref a] σ none (sU σ op 165 (.ref q)) := by
  refine f_meth (by omega) rfl ?_
  refine f_go (pc1 := 1) (lv1 := [(0, .ref nmo), (1, .ref u), (2, .ref a)]) (st1 := [.ref a]) 1 rfl ?_
  refine f_getf rfl rfl (g := 32) rfl c_a a_kind ?_
  refine f_go (pc1 := 9) (lv1 := [(0, .ref nmo), (1, .ref u), (2, .ref a)]) (st1 := [.ref a]) 3 rfl ?_
  refine f_getf rfl rfl (g := 32) rfl c_a a_kind ?_
  refine f_go (pc1 := 20) (lv1 := [(0, .ref nmo), (1, .ref u), (2, .ref a)]) (st1 := [.ref a, .ref u, .ref nmo]) 5 rfl ?_
  refine f_getf rfl rfl (g := 40) rfl c_a a_use ?_
  refine f_go (pc1 := 24) (lv1 := [(0, .ref nmo), (1, .ref u), (2, .ref a)]) (st1 := [.int 3, .ref op, .ref u, .ref nmo]) 1 rfl ?_
  refine f_vt rfl rfl cn rfl hC ?_
  exact f_rt rfl rfl
theorem g_linkP_n {X : ev_X} {d : Nat} {σ : fl_S} (hd : 1 ≤ d) {nmo u h : Nat} (c_u : sC σ 1 u = true) (u_first : sF σ u 43 = .ref h) (u_other : sF σ u 46 = .null) : CF X d 65 [.ref nmo, .ref u] σ none σ := by
  refine f_meth (by omega) rfl ?_
  refine f_go (pc1 := 1) (lv1 := [(0, .ref nmo), (1, .ref u)]) (st1 := [.ref u]) 1 rfl ?_
  refine f_getf rfl rfl (g := 43) rfl c_u u_first ?_
  refine f_go (pc1 := 10) (lv1 := [(2, .ref h), (0, .ref nmo), (1, .ref u)]) (st1 := [.ref u]) 4 rfl ?_
  refine f_getf rfl rfl (g := 46) rfl c_u u_other ?_
  refine f_go (pc1 := 75) (lv1 := [(2, .ref h), (0, .ref nmo), (1, .ref u)]) (st1 := []) 1 rfl ?_
  exact f_rt rfl rfl
theorem g_linkP_r {X : ev_X} {d : Nat} {σ : fl_S} (hd : 1 ≤ d) {nmo u h v : Nat} (c_u : sC σ 1 u = true) (u_first : sF σ u 43 = .ref h) (u_other : sF σ u 46 = .ref v) (c_h : sC σ 1 h = true) (h_kind : sF σ h 32 = .int 5) (h_next : sF σ h 37 = .null) : CF X d 65 [.ref nmo, .ref u] σ none σ := by
  refine f_meth (by omega) rfl ?_
  refine f_go (pc1 := 1) (lv1 := [(0, .ref nmo), (1, .ref u)]) (st1 := [.ref u]) 1 rfl ?_
  refine f_getf rfl rfl (g := 43) rfl c_u u_first ?_
  refine f_go (pc1 := 10) (lv1 := [(2, .ref h), (0, .ref nmo), (1, .ref u)]) (st1 := [.ref u]) 4 rfl ?_
  refine f_getf rfl rfl (g := 46) rfl c_u u_other ?_
  refine f_go (pc1 := 17) (lv1 := [(2, .ref h), (0, .ref nmo), (1, .ref u)]) (st1 := [.ref h]) 2 rfl ?_
  refine f_getf rfl rfl (g := 32) rfl c_h h_kind ?_
  refine f_go (pc1 := 68) (lv1 := [(2, .ref h), (0, .ref nmo), (1, .ref u)]) (st1 := [.ref h]) 3 rfl ?_
  refine f_getf rfl rfl (g := 37) rfl c_h h_next ?_
  refine f_go (pc1 := 75) (lv1 := [(2, .null), (0, .ref nmo), (1, .ref u)]) (st1 := []) 4 rfl ?_
  exact f_rt rfl rfl
/-- the five units, their names, what they import -/
def UN (σ : fl_S) (nmo ps u0 u1 u2 u3 u4 d0 im1 ima imb im4 dh dr : Nat) (nt ng nh nu : Int32) : Prop :=
  sC σ 3 nmo = true ∧ sF σ nmo 96 = .ref ps ∧ sC σ 6 ps = true ∧ sF σ ps 207 = .ref u0 ∧ sC σ 1 u0 = true ∧ sF σ u0 32 = .int 0 ∧ sF σ u0 33 = .int nt ∧ sF σ u0 37 = .ref u1 ∧ sF σ u0 41 = .int 0 ∧ sF σ u0 43 = .ref d0 ∧ sC σ 1 u1 = true ∧ sF σ u1 32 = .int 0 ∧ sF σ u1 33 = .int ng ∧ sF σ u1 37 = .ref u2 ∧ sF σ u1 41 = .int 1 ∧ sF σ u1 43 = .ref im1 ∧ sC σ 1 u2 = true ∧ sF σ u2 32 = .int 0 ∧ sF σ u2 33 = .int nh ∧ sF σ u2 37 = .ref u3 ∧ sF σ u2 41 = .int 2 ∧ sF σ u2 43 = .ref ima ∧ sC σ 1 u3 = true ∧ sF σ u3 32 = .int 1 ∧ sF σ u3 33 = .int nt ∧ sF σ u3 37 = .ref u4 ∧ sF σ u3 41 = .int 3 ∧ sF σ u3 43 = .ref dr ∧ sC σ 1 u4 = true ∧ sF σ u4 32 = .int 1 ∧ sF σ u4 33 = .int nu ∧ sF σ u4 37 = .null ∧ sF σ u4 41 = .int 4 ∧ sF σ u4 43 = .ref im4 ∧ sC σ 1 d0 = true ∧ sF σ d0 32 = .int 3 ∧ sC σ 1 dr = true ∧ sF σ dr 32 = .int 5 ∧ sF σ dr 37 = .null ∧ sC σ 1 im1 = true ∧ sF σ im1 32 = .int 2 ∧ sF σ im1 33 = .int nt ∧ sF σ im1 37 = .ref dh ∧ sC σ 1 ima = true ∧ sF σ ima 32 = .int 2 ∧ sF σ ima 33 = .int nt ∧ sF σ ima 37 = .ref imb ∧ sC σ 1 imb = true ∧ sF σ imb 32 = .int 2 ∧ sF σ imb 33 = .int ng ∧ sF σ imb 37 = .null ∧ sC σ 1 im4 = true ∧ sF σ im4 32 = .int 2 ∧ sF σ im4 33 = .int nt ∧ sF σ im4 37 = .null ∧ sC σ 1 dh = true ∧ sF σ dh 32 = .int 6 ∧ sF σ dh 37 = .null ∧ ¬ nt = ng ∧ ¬ nt = nh ∧ ¬ nt = nu ∧ ¬ ng = nh ∧ ¬ ng = nu ∧ ¬ nh = nu ∧ u0 < u1 ∧ u1 < u2 ∧ u2 < u3 ∧ u3 < u4
theorem g_ia_1_nt {X : ev_X} {d : Nat} {σ : fl_S} (hd : 1 ≤ d) {nmo ps u0 u1 u2 u3 u4 d0 im1 ima imb im4 dh dr : Nat} {nt ng nh nu : Int32} (hN : UN σ nmo ps u0 u1 u2 u3 u4 d0 im1 ima imb im4 dh dr nt ng nh nu) : CF X d 63 [.ref nmo, .ref u1, .int nt] σ (some (.ref u0)) σ := by
  have hN9 := hN
  obtain ⟨w0, w1, w2, w3, w4, w5, w6, w7, w8, w9, w10, w11, w12, w13, w14, w15, w16, w17, w18, w19, w20, w21, w22, w23, w24, w25, w26, w27, w28, w29, w30, w31, w32, w33, w34, w35, w36, w37, w38, w39, w40, w41, w42, w43, w44, w45, w46, w47, w48, w49, w50, w51, w52, w53, w54, w55, w56, w57, w58, w59, w60, w61, w62, w63, w64, w65, w66, w67⟩ := hN
  refine f_meth (by omega) rfl ?_
  refine f_go (pc1 := 1) (lv1 := [(0, .ref nmo), (1, .ref u1), (2, .int nt)]) (st1 := [.ref nmo]) 1 rfl ?_
  refine f_getf rfl rfl (g := 96) rfl w0 w1 ?_
  refine f_getf rfl rfl (g := 207) rfl w2 w3 ?_
  refine f_go (pc1 := 14) (lv1 := [(3, .ref u0), (0, .ref nmo), (1, .ref u1), (2, .int nt)]) (st1 := [.ref u1, .ref u0]) 5 rfl ?_
  refine f_acmp (t := 42) rfl rfl false (by simp [(show u0 ≠ u1 by omega)]) ?_
  refine f_go (pc1 := 18) (lv1 := [(3, .ref u0), (0, .ref nmo), (1, .ref u1), (2, .int nt)]) (st1 := [.ref u0]) 1 rfl ?_
  refine f_getf rfl rfl (g := 32) rfl w4 w5 ?_
  refine f_go (pc1 := 25) (lv1 := [(3, .ref u0), (0, .ref nmo), (1, .ref u1), (2, .int nt)]) (st1 := [.ref u0]) 2 rfl ?_
  refine f_getf rfl rfl (g := 33) rfl w4 w6 ?_
  refine f_go (pc1 := 29) (lv1 := [(3, .ref u0), (0, .ref nmo), (1, .ref u1), (2, .int nt)]) (st1 := [.int nt, .int nt]) 1 rfl ?_
  refine f_icmp (t := 34) rfl rfl false (ic_nen rfl) ?_
  refine f_go (pc1 := 33) (lv1 := [(3, .ref u0), (0, .ref nmo), (1, .ref u1), (2, .int nt)]) (st1 := [.ref u0]) 1 rfl ?_
  exact f_rt rfl rfl
theorem g_ia_2_nt {X : ev_X} {d : Nat} {σ : fl_S} (hd : 1 ≤ d) {nmo ps u0 u1 u2 u3 u4 d0 im1 ima imb im4 dh dr : Nat} {nt ng nh nu : Int32} (hN : UN σ nmo ps u0 u1 u2 u3 u4 d0 im1 ima imb im4 dh dr nt ng nh nu) : CF X d 63 [.ref nmo, .ref u2, .int nt] σ (some (.ref u0)) σ := by
  have hN9 := hN
  obtain ⟨w0, w1, w2, w3, w4, w5, w6, w7, w8, w9, w10, w11, w12, w13, w14, w15, w16, w17, w18, w19, w20, w21, w22, w23, w24, w25, w26, w27, w28, w29, w30, w31, w32, w33, w34, w35, w36, w37, w38, w39, w40, w41, w42, w43, w44, w45, w46, w47, w48, w49, w50, w51, w52, w53, w54, w55, w56, w57, w58, w59, w60, w61, w62, w63, w64, w65, w66, w67⟩ := hN
  refine f_meth (by omega) rfl ?_
  refine f_go (pc1 := 1) (lv1 := [(0, .ref nmo), (1, .ref u2), (2, .int nt)]) (st1 := [.ref nmo]) 1 rfl ?_
  refine f_getf rfl rfl (g := 96) rfl w0 w1 ?_
  refine f_getf rfl rfl (g := 207) rfl w2 w3 ?_
  refine f_go (pc1 := 14) (lv1 := [(3, .ref u0), (0, .ref nmo), (1, .ref u2), (2, .int nt)]) (st1 := [.ref u2, .ref u0]) 5 rfl ?_
  refine f_acmp (t := 42) rfl rfl false (by simp [(show u0 ≠ u2 by omega)]) ?_
  refine f_go (pc1 := 18) (lv1 := [(3, .ref u0), (0, .ref nmo), (1, .ref u2), (2, .int nt)]) (st1 := [.ref u0]) 1 rfl ?_
  refine f_getf rfl rfl (g := 32) rfl w4 w5 ?_
  refine f_go (pc1 := 25) (lv1 := [(3, .ref u0), (0, .ref nmo), (1, .ref u2), (2, .int nt)]) (st1 := [.ref u0]) 2 rfl ?_
  refine f_getf rfl rfl (g := 33) rfl w4 w6 ?_
  refine f_go (pc1 := 29) (lv1 := [(3, .ref u0), (0, .ref nmo), (1, .ref u2), (2, .int nt)]) (st1 := [.int nt, .int nt]) 1 rfl ?_
  refine f_icmp (t := 34) rfl rfl false (ic_nen rfl) ?_
  refine f_go (pc1 := 33) (lv1 := [(3, .ref u0), (0, .ref nmo), (1, .ref u2), (2, .int nt)]) (st1 := [.ref u0]) 1 rfl ?_
  exact f_rt rfl rfl
theorem g_ia_2_ng {X : ev_X} {d : Nat} {σ : fl_S} (hd : 1 ≤ d) {nmo ps u0 u1 u2 u3 u4 d0 im1 ima imb im4 dh dr : Nat} {nt ng nh nu : Int32} (hN : UN σ nmo ps u0 u1 u2 u3 u4 d0 im1 ima imb im4 dh dr nt ng nh nu) : CF X d 63 [.ref nmo, .ref u2, .int ng] σ (some (.ref u1)) σ := by
  have hN9 := hN
  obtain ⟨w0, w1, w2, w3, w4, w5, w6, w7, w8, w9, w10, w11, w12, w13, w14, w15, w16, w17, w18, w19, w20, w21, w22, w23, w24, w25, w26, w27, w28, w29, w30, w31, w32, w33, w34, w35, w36, w37, w38, w39, w40, w41, w42, w43, w44, w45, w46, w47, w48, w49, w50, w51, w52, w53, w54, w55, w56, w57, w58, w59, w60, w61, w62, w63, w64, w65, w66, w67⟩ := hN
  refine f_meth (by omega) rfl ?_
  refine f_go (pc1 := 1) (lv1 := [(0, .ref nmo), (1, .ref u2), (2, .int ng)]) (st1 := [.ref nmo]) 1 rfl ?_
  refine f_getf rfl rfl (g := 96) rfl w0 w1 ?_
  refine f_getf rfl rfl (g := 207) rfl w2 w3 ?_
  refine f_go (pc1 := 14) (lv1 := [(3, .ref u0), (0, .ref nmo), (1, .ref u2), (2, .int ng)]) (st1 := [.ref u2, .ref u0]) 5 rfl ?_
  refine f_acmp (t := 42) rfl rfl false (by simp [(show u0 ≠ u2 by omega)]) ?_
  refine f_go (pc1 := 18) (lv1 := [(3, .ref u0), (0, .ref nmo), (1, .ref u2), (2, .int ng)]) (st1 := [.ref u0]) 1 rfl ?_
  refine f_getf rfl rfl (g := 32) rfl w4 w5 ?_
  refine f_go (pc1 := 25) (lv1 := [(3, .ref u0), (0, .ref nmo), (1, .ref u2), (2, .int ng)]) (st1 := [.ref u0]) 2 rfl ?_
  refine f_getf rfl rfl (g := 33) rfl w4 w6 ?_
  refine f_go (pc1 := 29) (lv1 := [(3, .ref u0), (0, .ref nmo), (1, .ref u2), (2, .int ng)]) (st1 := [.int ng, .int nt]) 1 rfl ?_
  refine f_icmp (t := 34) rfl rfl true (ic_ne w58) ?_
  refine f_go (pc1 := 35) (lv1 := [(3, .ref u0), (0, .ref nmo), (1, .ref u2), (2, .int ng)]) (st1 := [.ref u0]) 1 rfl ?_
  refine f_getf rfl rfl (g := 37) rfl w4 w7 ?_
  refine f_go (pc1 := 14) (lv1 := [(3, .ref u1), (0, .ref nmo), (1, .ref u2), (2, .int ng)]) (st1 := [.ref u2, .ref u1]) 6 rfl ?_
  refine f_acmp (t := 42) rfl rfl false (by simp [(show u1 ≠ u2 by omega)]) ?_
  refine f_go (pc1 := 18) (lv1 := [(3, .ref u1), (0, .ref nmo), (1, .ref u2), (2, .int ng)]) (st1 := [.ref u1]) 1 rfl ?_
  refine f_getf rfl rfl (g := 32) rfl w10 w11 ?_
  refine f_go (pc1 := 25) (lv1 := [(3, .ref u1), (0, .ref nmo), (1, .ref u2), (2, .int ng)]) (st1 := [.ref u1]) 2 rfl ?_
  refine f_getf rfl rfl (g := 33) rfl w10 w12 ?_
  refine f_go (pc1 := 29) (lv1 := [(3, .ref u1), (0, .ref nmo), (1, .ref u2), (2, .int ng)]) (st1 := [.int ng, .int ng]) 1 rfl ?_
  refine f_icmp (t := 34) rfl rfl false (ic_nen rfl) ?_
  refine f_go (pc1 := 33) (lv1 := [(3, .ref u1), (0, .ref nmo), (1, .ref u2), (2, .int ng)]) (st1 := [.ref u1]) 1 rfl ?_
  exact f_rt rfl rfl
theorem g_ia_3_nt {X : ev_X} {d : Nat} {σ : fl_S} (hd : 1 ≤ d) {nmo ps u0 u1 u2 u3 u4 d0 im1 ima imb im4 dh dr : Nat} {nt ng nh nu : Int32} (hN : UN σ nmo ps u0 u1 u2 u3 u4 d0 im1 ima imb im4 dh dr nt ng nh nu) : CF X d 63 [.ref nmo, .ref u3, .int nt] σ (some (.ref u0)) σ := by
  have hN9 := hN
  obtain ⟨w0, w1, w2, w3, w4, w5, w6, w7, w8, w9, w10, w11, w12, w13, w14, w15, w16, w17, w18, w19, w20, w21, w22, w23, w24, w25, w26, w27, w28, w29, w30, w31, w32, w33, w34, w35, w36, w37, w38, w39, w40, w41, w42, w43, w44, w45, w46, w47, w48, w49, w50, w51, w52, w53, w54, w55, w56, w57, w58, w59, w60, w61, w62, w63, w64, w65, w66, w67⟩ := hN
  refine f_meth (by omega) rfl ?_
  refine f_go (pc1 := 1) (lv1 := [(0, .ref nmo), (1, .ref u3), (2, .int nt)]) (st1 := [.ref nmo]) 1 rfl ?_
  refine f_getf rfl rfl (g := 96) rfl w0 w1 ?_
  refine f_getf rfl rfl (g := 207) rfl w2 w3 ?_
  refine f_go (pc1 := 14) (lv1 := [(3, .ref u0), (0, .ref nmo), (1, .ref u3), (2, .int nt)]) (st1 := [.ref u3, .ref u0]) 5 rfl ?_
  refine f_acmp (t := 42) rfl rfl false (by simp [(show u0 ≠ u3 by omega)]) ?_
  refine f_go (pc1 := 18) (lv1 := [(3, .ref u0), (0, .ref nmo), (1, .ref u3), (2, .int nt)]) (st1 := [.ref u0]) 1 rfl ?_
  refine f_getf rfl rfl (g := 32) rfl w4 w5 ?_
  refine f_go (pc1 := 25) (lv1 := [(3, .ref u0), (0, .ref nmo), (1, .ref u3), (2, .int nt)]) (st1 := [.ref u0]) 2 rfl ?_
  refine f_getf rfl rfl (g := 33) rfl w4 w6 ?_
  refine f_go (pc1 := 29) (lv1 := [(3, .ref u0), (0, .ref nmo), (1, .ref u3), (2, .int nt)]) (st1 := [.int nt, .int nt]) 1 rfl ?_
  refine f_icmp (t := 34) rfl rfl false (ic_nen rfl) ?_
  refine f_go (pc1 := 33) (lv1 := [(3, .ref u0), (0, .ref nmo), (1, .ref u3), (2, .int nt)]) (st1 := [.ref u0]) 1 rfl ?_
  exact f_rt rfl rfl
theorem g_ia_4_nt {X : ev_X} {d : Nat} {σ : fl_S} (hd : 1 ≤ d) {nmo ps u0 u1 u2 u3 u4 d0 im1 ima imb im4 dh dr : Nat} {nt ng nh nu : Int32} (hN : UN σ nmo ps u0 u1 u2 u3 u4 d0 im1 ima imb im4 dh dr nt ng nh nu) : CF X d 63 [.ref nmo, .ref u4, .int nt] σ (some (.ref u0)) σ := by
  have hN9 := hN
  obtain ⟨w0, w1, w2, w3, w4, w5, w6, w7, w8, w9, w10, w11, w12, w13, w14, w15, w16, w17, w18, w19, w20, w21, w22, w23, w24, w25, w26, w27, w28, w29, w30, w31, w32, w33, w34, w35, w36, w37, w38, w39, w40, w41, w42, w43, w44, w45, w46, w47, w48, w49, w50, w51, w52, w53, w54, w55, w56, w57, w58, w59, w60, w61, w62, w63, w64, w65, w66, w67⟩ := hN
  refine f_meth (by omega) rfl ?_
  refine f_go (pc1 := 1) (lv1 := [(0, .ref nmo), (1, .ref u4), (2, .int nt)]) (st1 := [.ref nmo]) 1 rfl ?_
  refine f_getf rfl rfl (g := 96) rfl w0 w1 ?_
  refine f_getf rfl rfl (g := 207) rfl w2 w3 ?_
  refine f_go (pc1 := 14) (lv1 := [(3, .ref u0), (0, .ref nmo), (1, .ref u4), (2, .int nt)]) (st1 := [.ref u4, .ref u0]) 5 rfl ?_
  refine f_acmp (t := 42) rfl rfl false (by simp [(show u0 ≠ u4 by omega)]) ?_
  refine f_go (pc1 := 18) (lv1 := [(3, .ref u0), (0, .ref nmo), (1, .ref u4), (2, .int nt)]) (st1 := [.ref u0]) 1 rfl ?_
  refine f_getf rfl rfl (g := 32) rfl w4 w5 ?_
  refine f_go (pc1 := 25) (lv1 := [(3, .ref u0), (0, .ref nmo), (1, .ref u4), (2, .int nt)]) (st1 := [.ref u0]) 2 rfl ?_
  refine f_getf rfl rfl (g := 33) rfl w4 w6 ?_
  refine f_go (pc1 := 29) (lv1 := [(3, .ref u0), (0, .ref nmo), (1, .ref u4), (2, .int nt)]) (st1 := [.int nt, .int nt]) 1 rfl ?_
  refine f_icmp (t := 34) rfl rfl false (ic_nen rfl) ?_
  refine f_go (pc1 := 33) (lv1 := [(3, .ref u0), (0, .ref nmo), (1, .ref u4), (2, .int nt)]) (st1 := [.ref u0]) 1 rfl ?_
  exact f_rt rfl rfl
theorem g_ia_4_nu {X : ev_X} {d : Nat} {σ : fl_S} (hd : 1 ≤ d) {nmo ps u0 u1 u2 u3 u4 d0 im1 ima imb im4 dh dr : Nat} {nt ng nh nu : Int32} (hN : UN σ nmo ps u0 u1 u2 u3 u4 d0 im1 ima imb im4 dh dr nt ng nh nu) : CF X d 63 [.ref nmo, .ref u4, .int nu] σ (some .null) σ := by
  have hN9 := hN
  obtain ⟨w0, w1, w2, w3, w4, w5, w6, w7, w8, w9, w10, w11, w12, w13, w14, w15, w16, w17, w18, w19, w20, w21, w22, w23, w24, w25, w26, w27, w28, w29, w30, w31, w32, w33, w34, w35, w36, w37, w38, w39, w40, w41, w42, w43, w44, w45, w46, w47, w48, w49, w50, w51, w52, w53, w54, w55, w56, w57, w58, w59, w60, w61, w62, w63, w64, w65, w66, w67⟩ := hN
  refine f_meth (by omega) rfl ?_
  refine f_go (pc1 := 1) (lv1 := [(0, .ref nmo), (1, .ref u4), (2, .int nu)]) (st1 := [.ref nmo]) 1 rfl ?_
  refine f_getf rfl rfl (g := 96) rfl w0 w1 ?_
  refine f_getf rfl rfl (g := 207) rfl w2 w3 ?_
  refine f_go (pc1 := 14) (lv1 := [(3, .ref u0), (0, .ref nmo), (1, .ref u4), (2, .int nu)]) (st1 := [.ref u4, .ref u0]) 5 rfl ?_
  refine f_acmp (t := 42) rfl rfl false (by simp [(show u0 ≠ u4 by omega)]) ?_
  refine f_go (pc1 := 18) (lv1 := [(3, .ref u0), (0, .ref nmo), (1, .ref u4), (2, .int nu)]) (st1 := [.ref u0]) 1 rfl ?_
  refine f_getf rfl rfl (g := 32) rfl w4 w5 ?_
  refine f_go (pc1 := 25) (lv1 := [(3, .ref u0), (0, .ref nmo), (1, .ref u4), (2, .int nu)]) (st1 := [.ref u0]) 2 rfl ?_
  refine f_getf rfl rfl (g := 33) rfl w4 w6 ?_
  refine f_go (pc1 := 29) (lv1 := [(3, .ref u0), (0, .ref nmo), (1, .ref u4), (2, .int nu)]) (st1 := [.int nu, .int nt]) 1 rfl ?_
  refine f_icmp (t := 34) rfl rfl true (ic_ne w60) ?_
  refine f_go (pc1 := 35) (lv1 := [(3, .ref u0), (0, .ref nmo), (1, .ref u4), (2, .int nu)]) (st1 := [.ref u0]) 1 rfl ?_
  refine f_getf rfl rfl (g := 37) rfl w4 w7 ?_
  refine f_go (pc1 := 14) (lv1 := [(3, .ref u1), (0, .ref nmo), (1, .ref u4), (2, .int nu)]) (st1 := [.ref u4, .ref u1]) 6 rfl ?_
  refine f_acmp (t := 42) rfl rfl false (by simp [(show u1 ≠ u4 by omega)]) ?_
  refine f_go (pc1 := 18) (lv1 := [(3, .ref u1), (0, .ref nmo), (1, .ref u4), (2, .int nu)]) (st1 := [.ref u1]) 1 rfl ?_
  refine f_getf rfl rfl (g := 32) rfl w10 w11 ?_
  refine f_go (pc1 := 25) (lv1 := [(3, .ref u1), (0, .ref nmo), (1, .ref u4), (2, .int nu)]) (st1 := [.ref u1]) 2 rfl ?_
  refine f_getf rfl rfl (g := 33) rfl w10 w12 ?_
  refine f_go (pc1 := 29) (lv1 := [(3, .ref u1), (0, .ref nmo), (1, .ref u4), (2, .int nu)]) (st1 := [.int nu, .int ng]) 1 rfl ?_
  refine f_icmp (t := 34) rfl rfl true (ic_ne w62) ?_
  refine f_go (pc1 := 35) (lv1 := [(3, .ref u1), (0, .ref nmo), (1, .ref u4), (2, .int nu)]) (st1 := [.ref u1]) 1 rfl ?_
  refine f_getf rfl rfl (g := 37) rfl w10 w13 ?_
  refine f_go (pc1 := 14) (lv1 := [(3, .ref u2), (0, .ref nmo), (1, .ref u4), (2, .int nu)]) (st1 := [.ref u4, .ref u2]) 6 rfl ?_
  refine f_acmp (t := 42) rfl rfl false (by simp [(show u2 ≠ u4 by omega)]) ?_
  refine f_go (pc1 := 18) (lv1 := [(3, .ref u2), (0, .ref nmo), (1, .ref u4), (2, .int nu)]) (st1 := [.ref u2]) 1 rfl ?_
  refine f_getf rfl rfl (g := 32) rfl w16 w17 ?_
  refine f_go (pc1 := 25) (lv1 := [(3, .ref u2), (0, .ref nmo), (1, .ref u4), (2, .int nu)]) (st1 := [.ref u2]) 2 rfl ?_
  refine f_getf rfl rfl (g := 33) rfl w16 w18 ?_
  refine f_go (pc1 := 29) (lv1 := [(3, .ref u2), (0, .ref nmo), (1, .ref u4), (2, .int nu)]) (st1 := [.int nu, .int nh]) 1 rfl ?_
  refine f_icmp (t := 34) rfl rfl true (ic_ne w63) ?_
  refine f_go (pc1 := 35) (lv1 := [(3, .ref u2), (0, .ref nmo), (1, .ref u4), (2, .int nu)]) (st1 := [.ref u2]) 1 rfl ?_
  refine f_getf rfl rfl (g := 37) rfl w16 w19 ?_
  refine f_go (pc1 := 14) (lv1 := [(3, .ref u3), (0, .ref nmo), (1, .ref u4), (2, .int nu)]) (st1 := [.ref u4, .ref u3]) 6 rfl ?_
  refine f_acmp (t := 42) rfl rfl false (by simp [(show u3 ≠ u4 by omega)]) ?_
  refine f_go (pc1 := 18) (lv1 := [(3, .ref u3), (0, .ref nmo), (1, .ref u4), (2, .int nu)]) (st1 := [.ref u3]) 1 rfl ?_
  refine f_getf rfl rfl (g := 32) rfl w22 w23 ?_
  refine f_go (pc1 := 35) (lv1 := [(3, .ref u3), (0, .ref nmo), (1, .ref u4), (2, .int nu)]) (st1 := [.ref u3]) 2 rfl ?_
  refine f_getf rfl rfl (g := 37) rfl w22 w25 ?_
  refine f_go (pc1 := 14) (lv1 := [(3, .ref u4), (0, .ref nmo), (1, .ref u4), (2, .int nu)]) (st1 := [.ref u4, .ref u4]) 6 rfl ?_
  refine f_acmp (t := 42) rfl rfl true (by simp) ?_
  refine f_go (pc1 := 43) (lv1 := [(3, .ref u4), (0, .ref nmo), (1, .ref u4), (2, .int nu)]) (st1 := [.null]) 1 rfl ?_
  exact f_rt rfl rfl
theorem g_judgeUnit_0 {X : ev_X} {d : Nat} {σ : fl_S} (hd : 2 ≤ d) {nmo ps u0 u1 u2 u3 u4 d0 im1 ima imb im4 dh dr : Nat} {nt ng nh nu : Int32} (hN : UN σ nmo ps u0 u1 u2 u3 u4 d0 im1 ima imb im4 dh dr nt ng nh nu) : CF X d 64 [.ref nmo, .ref u0] σ none (sU σ u0 48 (.int 1)) := by
  have hN9 := hN
  obtain ⟨w0, w1, w2, w3, w4, w5, w6, w7, w8, w9, w10, w11, w12, w13, w14, w15, w16, w17, w18, w19, w20, w21, w22, w23, w24, w25, w26, w27, w28, w29, w30, w31, w32, w33, w34, w35, w36, w37, w38, w39, w40, w41, w42, w43, w44, w45, w46, w47, w48, w49, w50, w51, w52, w53, w54, w55, w56, w57, w58, w59, w60, w61, w62, w63, w64, w65, w66, w67⟩ := hN
  refine f_meth (by omega) rfl ?_
  refine f_go (pc1 := 1) (lv1 := [(0, .ref nmo), (1, .ref u0)]) (st1 := [.ref nmo]) 1 rfl ?_
  refine f_getf rfl rfl (g := 96) rfl w0 w1 ?_
  refine f_getf rfl rfl (g := 207) rfl w2 w3 ?_
  refine f_go (pc1 := 14) (lv1 := [(2, .ref u0), (0, .ref nmo), (1, .ref u0)]) (st1 := [.ref u0, .ref u0]) 5 rfl ?_
  refine f_acmp (t := 64) rfl rfl true (by simp) ?_
  refine f_go (pc1 := 67) (lv1 := [(2, .ref u0), (0, .ref nmo), (1, .ref u0)]) (st1 := [.ref u0, .int 1, .ref u0]) 3 rfl ?_
  refine f_getf rfl rfl (g := 41) rfl w4 w8 ?_
  refine f_go (pc1 := 71) (lv1 := [(2, .ref u0), (0, .ref nmo), (1, .ref u0)]) (st1 := [.int 1, .ref u0]) 1 rfl ?_
  refine f_putf rfl rfl (g := 48) rfl w4 rfl ?_
  have hu5 : sF (sU σ u0 48 (.int 1)) u0 48 = .int 1 := sU_at
  refine f_go (pc1 := 75) (lv1 := [(2, .ref u0), (0, .ref nmo), (1, .ref u0)]) (st1 := [.ref u0]) 1 rfl ?_
  refine f_getf rfl rfl (g := 32) rfl w4 w5 ?_
  refine f_go (pc1 := 125) (lv1 := [(2, .ref u0), (0, .ref nmo), (1, .ref u0)]) (st1 := [.ref u0]) 3 rfl ?_
  refine f_getf rfl rfl (g := 43) rfl w4 w9 ?_
  refine f_go (pc1 := 134) (lv1 := [(2, .ref d0), (0, .ref nmo), (1, .ref u0)]) (st1 := [.ref d0]) 4 rfl ?_
  refine f_getf rfl rfl (g := 32) rfl w34 w35 ?_
  refine f_go (pc1 := 220) (lv1 := [(2, .ref d0), (0, .ref nmo), (1, .ref u0)]) (st1 := []) 2 rfl ?_
  exact f_rt rfl rfl
theorem g_judgeUnit_1 {X : ev_X} {d : Nat} {σ : fl_S} (hd : 2 ≤ d) {nmo ps u0 u1 u2 u3 u4 d0 im1 ima imb im4 dh dr : Nat} {nt ng nh nu : Int32} (hN : UN σ nmo ps u0 u1 u2 u3 u4 d0 im1 ima imb im4 dh dr nt ng nh nu) : CF X d 64 [.ref nmo, .ref u1] σ none (sU (sU (sU σ u1 48 (.int 2)) im1 46 (.ref u0)) u1 48 (.int 3)) := by
  have hN9 := hN
  obtain ⟨w0, w1, w2, w3, w4, w5, w6, w7, w8, w9, w10, w11, w12, w13, w14, w15, w16, w17, w18, w19, w20, w21, w22, w23, w24, w25, w26, w27, w28, w29, w30, w31, w32, w33, w34, w35, w36, w37, w38, w39, w40, w41, w42, w43, w44, w45, w46, w47, w48, w49, w50, w51, w52, w53, w54, w55, w56, w57, w58, w59, w60, w61, w62, w63, w64, w65, w66, w67⟩ := hN
  refine f_meth (by omega) rfl ?_
  refine f_go (pc1 := 1) (lv1 := [(0, .ref nmo), (1, .ref u1)]) (st1 := [.ref nmo]) 1 rfl ?_
  refine f_getf rfl rfl (g := 96) rfl w0 w1 ?_
  refine f_getf rfl rfl (g := 207) rfl w2 w3 ?_
  refine f_go (pc1 := 14) (lv1 := [(2, .ref u0), (0, .ref nmo), (1, .ref u1)]) (st1 := [.ref u1, .ref u0]) 5 rfl ?_
  refine f_acmp (t := 64) rfl rfl false (by simp [(show u0 ≠ u1 by omega)]) ?_
  refine f_go (pc1 := 18) (lv1 := [(2, .ref u0), (0, .ref nmo), (1, .ref u1)]) (st1 := [.ref u0]) 1 rfl ?_
  refine f_getf rfl rfl (g := 33) rfl w4 w6 ?_
  refine f_go (pc1 := 22) (lv1 := [(2, .ref u0), (0, .ref nmo), (1, .ref u1)]) (st1 := [.ref u1, .int nt]) 1 rfl ?_
  refine f_getf rfl rfl (g := 33) rfl w10 w12 ?_
  refine f_icmp (t := 56) rfl rfl true (ic_ne w58) ?_
  refine f_go (pc1 := 57) (lv1 := [(2, .ref u0), (0, .ref nmo), (1, .ref u1)]) (st1 := [.ref u0]) 1 rfl ?_
  refine f_getf rfl rfl (g := 37) rfl w4 w7 ?_
  refine f_go (pc1 := 14) (lv1 := [(2, .ref u1), (0, .ref nmo), (1, .ref u1)]) (st1 := [.ref u1, .ref u1]) 6 rfl ?_
  refine f_acmp (t := 64) rfl rfl true (by simp) ?_
  refine f_go (pc1 := 67) (lv1 := [(2, .ref u1), (0, .ref nmo), (1, .ref u1)]) (st1 := [.ref u1, .int 1, .ref u1]) 3 rfl ?_
  refine f_getf rfl rfl (g := 41) rfl w10 w14 ?_
  refine f_go (pc1 := 71) (lv1 := [(2, .ref u1), (0, .ref nmo), (1, .ref u1)]) (st1 := [.int 2, .ref u1]) 1 rfl ?_
  refine f_putf rfl rfl (g := 48) rfl w10 rfl ?_
  have hu6 : sF (sU σ u1 48 (.int 2)) u1 48 = .int 2 := sU_at
  refine f_go (pc1 := 75) (lv1 := [(2, .ref u1), (0, .ref nmo), (1, .ref u1)]) (st1 := [.ref u1]) 1 rfl ?_
  refine f_getf rfl rfl (g := 32) rfl w10 w11 ?_
  refine f_go (pc1 := 125) (lv1 := [(2, .ref u1), (0, .ref nmo), (1, .ref u1)]) (st1 := [.ref u1]) 3 rfl ?_
  refine f_getf rfl rfl (g := 43) rfl w10 w15 ?_
  refine f_go (pc1 := 134) (lv1 := [(2, .ref im1), (0, .ref nmo), (1, .ref u1)]) (st1 := [.ref im1]) 4 rfl ?_
  refine f_getf rfl rfl (g := 32) rfl w39 w40 ?_
  refine f_go (pc1 := 142) (lv1 := [(2, .ref im1), (0, .ref nmo), (1, .ref u1)]) (st1 := [.ref im1]) 3 rfl ?_
  refine f_getf rfl rfl (g := 33) rfl w39 w41 ?_
  refine f_go (pc1 := 146) (lv1 := [(2, .ref im1), (0, .ref nmo), (1, .ref u1)]) (st1 := [.ref u1, .int nt]) 1 rfl ?_
  refine f_getf rfl rfl (g := 33) rfl w10 w12 ?_
  refine f_icmp (t := 161) rfl rfl true (ic_ne w58) ?_
  refine f_go (pc1 := 165) (lv1 := [(2, .ref im1), (0, .ref nmo), (1, .ref u1)]) (st1 := [.ref im1, .ref u1, .ref nmo, .ref im1]) 4 rfl ?_
  refine f_getf rfl rfl (g := 33) rfl w39 w41 ?_
  refine f_vt rfl rfl w0 rfl (g_ia_1_nt (by omega) hN9) ?_
  refine f_putf rfl rfl (g := 46) rfl w39 rfl ?_
  have hu7 : sF (sU (sU σ u1 48 (.int 2)) im1 46 (.ref u0)) im1 46 = .ref u0 := sU_at
  refine f_go (pc1 := 175) (lv1 := [(2, .ref im1), (0, .ref nmo), (1, .ref u1)]) (st1 := [.ref im1]) 1 rfl ?_
  refine f_getf rfl rfl (g := 46) rfl w39 hu7 ?_
  refine f_go (pc1 := 196) (lv1 := [(2, .ref im1), (0, .ref nmo), (1, .ref u1)]) (st1 := [.ref u1, .ref u1]) 3 rfl ?_
  refine f_getf rfl rfl (g := 48) rfl w10 hu6 ?_
  refine f_go (pc1 := 201) (lv1 := [(2, .ref im1), (0, .ref nmo), (1, .ref u1)]) (st1 := [.ref im1, .int 1, .int 2, .ref u1]) 2 rfl ?_
  refine f_getf rfl rfl (g := 46) rfl w39 hu7 ?_
  refine f_getf rfl rfl (g := 41) rfl w4 w8 ?_
  refine f_go (pc1 := 209) (lv1 := [(2, .ref im1), (0, .ref nmo), (1, .ref u1)]) (st1 := [.int 3, .ref u1]) 2 rfl ?_
  refine f_putf rfl rfl (g := 48) rfl w10 rfl ?_
  have hu8 : sF (sU (sU (sU σ u1 48 (.int 2)) im1 46 (.ref u0)) u1 48 (.int 3)) u1 48 = .int 3 := sU_at
  refine f_go (pc1 := 213) (lv1 := [(2, .ref im1), (0, .ref nmo), (1, .ref u1)]) (st1 := [.ref im1]) 1 rfl ?_
  refine f_getf rfl rfl (g := 37) rfl w39 w42 ?_
  refine f_go (pc1 := 134) (lv1 := [(2, .ref dh), (0, .ref nmo), (1, .ref u1)]) (st1 := [.ref dh]) 5 rfl ?_
  refine f_getf rfl rfl (g := 32) rfl w55 w56 ?_
  refine f_go (pc1 := 220) (lv1 := [(2, .ref dh), (0, .ref nmo), (1, .ref u1)]) (st1 := []) 2 rfl ?_
  exact f_rt rfl rfl
theorem g_judgeUnit_2 {X : ev_X} {d : Nat} {σ : fl_S} (hd : 2 ≤ d) {nmo ps u0 u1 u2 u3 u4 d0 im1 ima imb im4 dh dr : Nat} {nt ng nh nu : Int32} (hN : UN σ nmo ps u0 u1 u2 u3 u4 d0 im1 ima imb im4 dh dr nt ng nh nu) : CF X d 64 [.ref nmo, .ref u2] σ none (sU (sU (sU (sU (sU σ u2 48 (.int 4)) ima 46 (.ref u0)) u2 48 (.int 5)) imb 46 (.ref u1)) u2 48 (.int 7)) := by
  have hN9 := hN
  obtain ⟨w0, w1, w2, w3, w4, w5, w6, w7, w8, w9, w10, w11, w12, w13, w14, w15, w16, w17, w18, w19, w20, w21, w22, w23, w24, w25, w26, w27, w28, w29, w30, w31, w32, w33, w34, w35, w36, w37, w38, w39, w40, w41, w42, w43, w44, w45, w46, w47, w48, w49, w50, w51, w52, w53, w54, w55, w56, w57, w58, w59, w60, w61, w62, w63, w64, w65, w66, w67⟩ := hN
  refine f_meth (by omega) rfl ?_
  refine f_go (pc1 := 1) (lv1 := [(0, .ref nmo), (1, .ref u2)]) (st1 := [.ref nmo]) 1 rfl ?_
  refine f_getf rfl rfl (g := 96) rfl w0 w1 ?_
  refine f_getf rfl rfl (g := 207) rfl w2 w3 ?_
  refine f_go (pc1 := 14) (lv1 := [(2, .ref u0), (0, .ref nmo), (1, .ref u2)]) (st1 := [.ref u2, .ref u0]) 5 rfl ?_
  refine f_acmp (t := 64) rfl rfl false (by simp [(show u0 ≠ u2 by omega)]) ?_
  refine f_go (pc1 := 18) (lv1 := [(2, .ref u0), (0, .ref nmo), (1, .ref u2)]) (st1 := [.ref u0]) 1 rfl ?_
  refine f_getf rfl rfl (g := 33) rfl w4 w6 ?_
  refine f_go (pc1 := 22) (lv1 := [(2, .ref u0), (0, .ref nmo), (1, .ref u2)]) (st1 := [.ref u2, .int nt]) 1 rfl ?_
  refine f_getf rfl rfl (g := 33) rfl w16 w18 ?_
  refine f_icmp (t := 56) rfl rfl true (ic_ne w59) ?_
  refine f_go (pc1 := 57) (lv1 := [(2, .ref u0), (0, .ref nmo), (1, .ref u2)]) (st1 := [.ref u0]) 1 rfl ?_
  refine f_getf rfl rfl (g := 37) rfl w4 w7 ?_
  refine f_go (pc1 := 14) (lv1 := [(2, .ref u1), (0, .ref nmo), (1, .ref u2)]) (st1 := [.ref u2, .ref u1]) 6 rfl ?_
  refine f_acmp (t := 64) rfl rfl false (by simp [(show u1 ≠ u2 by omega)]) ?_
  refine f_go (pc1 := 18) (lv1 := [(2, .ref u1), (0, .ref nmo), (1, .ref u2)]) (st1 := [.ref u1]) 1 rfl ?_
  refine f_getf rfl rfl (g := 33) rfl w10 w12 ?_
  refine f_go (pc1 := 22) (lv1 := [(2, .ref u1), (0, .ref nmo), (1, .ref u2)]) (st1 := [.ref u2, .int ng]) 1 rfl ?_
  refine f_getf rfl rfl (g := 33) rfl w16 w18 ?_
  refine f_icmp (t := 56) rfl rfl true (ic_ne w61) ?_
  refine f_go (pc1 := 57) (lv1 := [(2, .ref u1), (0, .ref nmo), (1, .ref u2)]) (st1 := [.ref u1]) 1 rfl ?_
  refine f_getf rfl rfl (g := 37) rfl w10 w13 ?_
  refine f_go (pc1 := 14) (lv1 := [(2, .ref u2), (0, .ref nmo), (1, .ref u2)]) (st1 := [.ref u2, .ref u2]) 6 rfl ?_
  refine f_acmp (t := 64) rfl rfl true (by simp) ?_
  refine f_go (pc1 := 67) (lv1 := [(2, .ref u2), (0, .ref nmo), (1, .ref u2)]) (st1 := [.ref u2, .int 1, .ref u2]) 3 rfl ?_
  refine f_getf rfl rfl (g := 41) rfl w16 w20 ?_
  refine f_go (pc1 := 71) (lv1 := [(2, .ref u2), (0, .ref nmo), (1, .ref u2)]) (st1 := [.int 4, .ref u2]) 1 rfl ?_
  refine f_putf rfl rfl (g := 48) rfl w16 rfl ?_
  have hu9 : sF (sU σ u2 48 (.int 4)) u2 48 = .int 4 := sU_at
  refine f_go (pc1 := 75) (lv1 := [(2, .ref u2), (0, .ref nmo), (1, .ref u2)]) (st1 := [.ref u2]) 1 rfl ?_
  refine f_getf rfl rfl (g := 32) rfl w16 w17 ?_
  refine f_go (pc1 := 125) (lv1 := [(2, .ref u2), (0, .ref nmo), (1, .ref u2)]) (st1 := [.ref u2]) 3 rfl ?_
  refine f_getf rfl rfl (g := 43) rfl w16 w21 ?_
  refine f_go (pc1 := 134) (lv1 := [(2, .ref ima), (0, .ref nmo), (1, .ref u2)]) (st1 := [.ref ima]) 4 rfl ?_
  refine f_getf rfl rfl (g := 32) rfl w43 w44 ?_
  refine f_go (pc1 := 142) (lv1 := [(2, .ref ima), (0, .ref nmo), (1, .ref u2)]) (st1 := [.ref ima]) 3 rfl ?_
  refine f_getf rfl rfl (g := 33) rfl w43 w45 ?_
  refine f_go (pc1 := 146) (lv1 := [(2, .ref ima), (0, .ref nmo), (1, .ref u2)]) (st1 := [.ref u2, .int nt]) 1 rfl ?_
  refine f_getf rfl rfl (g := 33) rfl w16 w18 ?_
  refine f_icmp (t := 161) rfl rfl true (ic_ne w59) ?_
  refine f_go (pc1 := 165) (lv1 := [(2, .ref ima), (0, .ref nmo), (1, .ref u2)]) (st1 := [.ref ima, .ref u2, .ref nmo, .ref ima]) 4 rfl ?_
  refine f_getf rfl rfl (g := 33) rfl w43 w45 ?_
  refine f_vt rfl rfl w0 rfl (g_ia_2_nt (by omega) hN9) ?_
  refine f_putf rfl rfl (g := 46) rfl w43 rfl ?_
  have hu10 : sF (sU (sU σ u2 48 (.int 4)) ima 46 (.ref u0)) ima 46 = .ref u0 := sU_at
  refine f_go (pc1 := 175) (lv1 := [(2, .ref ima), (0, .ref nmo), (1, .ref u2)]) (st1 := [.ref ima]) 1 rfl ?_
  refine f_getf rfl rfl (g := 46) rfl w43 hu10 ?_
  refine f_go (pc1 := 196) (lv1 := [(2, .ref ima), (0, .ref nmo), (1, .ref u2)]) (st1 := [.ref u2, .ref u2]) 3 rfl ?_
  refine f_getf rfl rfl (g := 48) rfl w16 hu9 ?_
  refine f_go (pc1 := 201) (lv1 := [(2, .ref ima), (0, .ref nmo), (1, .ref u2)]) (st1 := [.ref ima, .int 1, .int 4, .ref u2]) 2 rfl ?_
  refine f_getf rfl rfl (g := 46) rfl w43 hu10 ?_
  refine f_getf rfl rfl (g := 41) rfl w4 w8 ?_
  refine f_go (pc1 := 209) (lv1 := [(2, .ref ima), (0, .ref nmo), (1, .ref u2)]) (st1 := [.int 5, .ref u2]) 2 rfl ?_
  refine f_putf rfl rfl (g := 48) rfl w16 rfl ?_
  have hu11 : sF (sU (sU (sU σ u2 48 (.int 4)) ima 46 (.ref u0)) u2 48 (.int 5)) u2 48 = .int 5 := sU_at
  refine f_go (pc1 := 213) (lv1 := [(2, .ref ima), (0, .ref nmo), (1, .ref u2)]) (st1 := [.ref ima]) 1 rfl ?_
  refine f_getf rfl rfl (g := 37) rfl w43 w46 ?_
  refine f_go (pc1 := 134) (lv1 := [(2, .ref imb), (0, .ref nmo), (1, .ref u2)]) (st1 := [.ref imb]) 5 rfl ?_
  refine f_getf rfl rfl (g := 32) rfl w47 w48 ?_
  refine f_go (pc1 := 142) (lv1 := [(2, .ref imb), (0, .ref nmo), (1, .ref u2)]) (st1 := [.ref imb]) 3 rfl ?_
  refine f_getf rfl rfl (g := 33) rfl w47 w49 ?_
  refine f_go (pc1 := 146) (lv1 := [(2, .ref imb), (0, .ref nmo), (1, .ref u2)]) (st1 := [.ref u2, .int ng]) 1 rfl ?_
  refine f_getf rfl rfl (g := 33) rfl w16 w18 ?_
  refine f_icmp (t := 161) rfl rfl true (ic_ne w61) ?_
  refine f_go (pc1 := 165) (lv1 := [(2, .ref imb), (0, .ref nmo), (1, .ref u2)]) (st1 := [.ref imb, .ref u2, .ref nmo, .ref imb]) 4 rfl ?_
  refine f_getf rfl rfl (g := 33) rfl w47 w49 ?_
  refine f_vt rfl rfl w0 rfl (g_ia_2_ng (by omega) hN9) ?_
  refine f_putf rfl rfl (g := 46) rfl w47 rfl ?_
  have hu12 : sF (sU (sU (sU (sU σ u2 48 (.int 4)) ima 46 (.ref u0)) u2 48 (.int 5)) imb 46 (.ref u1)) imb 46 = .ref u1 := sU_at
  refine f_go (pc1 := 175) (lv1 := [(2, .ref imb), (0, .ref nmo), (1, .ref u2)]) (st1 := [.ref imb]) 1 rfl ?_
  refine f_getf rfl rfl (g := 46) rfl w47 hu12 ?_
  refine f_go (pc1 := 196) (lv1 := [(2, .ref imb), (0, .ref nmo), (1, .ref u2)]) (st1 := [.ref u2, .ref u2]) 3 rfl ?_
  refine f_getf rfl rfl (g := 48) rfl w16 hu11 ?_
  refine f_go (pc1 := 201) (lv1 := [(2, .ref imb), (0, .ref nmo), (1, .ref u2)]) (st1 := [.ref imb, .int 1, .int 5, .ref u2]) 2 rfl ?_
  refine f_getf rfl rfl (g := 46) rfl w47 hu12 ?_
  refine f_getf rfl rfl (g := 41) rfl w10 w14 ?_
  refine f_go (pc1 := 209) (lv1 := [(2, .ref imb), (0, .ref nmo), (1, .ref u2)]) (st1 := [.int 7, .ref u2]) 2 rfl ?_
  refine f_putf rfl rfl (g := 48) rfl w16 rfl ?_
  have hu13 : sF (sU (sU (sU (sU (sU σ u2 48 (.int 4)) ima 46 (.ref u0)) u2 48 (.int 5)) imb 46 (.ref u1)) u2 48 (.int 7)) u2 48 = .int 7 := sU_at
  refine f_go (pc1 := 213) (lv1 := [(2, .ref imb), (0, .ref nmo), (1, .ref u2)]) (st1 := [.ref imb]) 1 rfl ?_
  refine f_getf rfl rfl (g := 37) rfl w47 w50 ?_
  refine f_go (pc1 := 220) (lv1 := [(2, .null), (0, .ref nmo), (1, .ref u2)]) (st1 := []) 4 rfl ?_
  exact f_rt rfl rfl
theorem g_judgeUnit_3 {X : ev_X} {d : Nat} {σ : fl_S} (hd : 2 ≤ d) {nmo ps u0 u1 u2 u3 u4 d0 im1 ima imb im4 dh dr : Nat} {nt ng nh nu : Int32} (hN : UN σ nmo ps u0 u1 u2 u3 u4 d0 im1 ima imb im4 dh dr nt ng nh nu) : CF X d 64 [.ref nmo, .ref u3] σ none (sU (sU (sU σ u3 48 (.int 8)) u3 46 (.ref u0)) u3 48 (.int 9)) := by
  have hN9 := hN
  obtain ⟨w0, w1, w2, w3, w4, w5, w6, w7, w8, w9, w10, w11, w12, w13, w14, w15, w16, w17, w18, w19, w20, w21, w22, w23, w24, w25, w26, w27, w28, w29, w30, w31, w32, w33, w34, w35, w36, w37, w38, w39, w40, w41, w42, w43, w44, w45, w46, w47, w48, w49, w50, w51, w52, w53, w54, w55, w56, w57, w58, w59, w60, w61, w62, w63, w64, w65, w66, w67⟩ := hN
  refine f_meth (by omega) rfl ?_
  refine f_go (pc1 := 1) (lv1 := [(0, .ref nmo), (1, .ref u3)]) (st1 := [.ref nmo]) 1 rfl ?_
  refine f_getf rfl rfl (g := 96) rfl w0 w1 ?_
  refine f_getf rfl rfl (g := 207) rfl w2 w3 ?_
  refine f_go (pc1 := 14) (lv1 := [(2, .ref u0), (0, .ref nmo), (1, .ref u3)]) (st1 := [.ref u3, .ref u0]) 5 rfl ?_
  refine f_acmp (t := 64) rfl rfl false (by simp [(show u0 ≠ u3 by omega)]) ?_
  refine f_go (pc1 := 18) (lv1 := [(2, .ref u0), (0, .ref nmo), (1, .ref u3)]) (st1 := [.ref u0]) 1 rfl ?_
  refine f_getf rfl rfl (g := 33) rfl w4 w6 ?_
  refine f_go (pc1 := 22) (lv1 := [(2, .ref u0), (0, .ref nmo), (1, .ref u3)]) (st1 := [.ref u3, .int nt]) 1 rfl ?_
  refine f_getf rfl rfl (g := 33) rfl w22 w24 ?_
  refine f_icmp (t := 56) rfl rfl false (ic_nen rfl) ?_
  refine f_go (pc1 := 29) (lv1 := [(2, .ref u0), (0, .ref nmo), (1, .ref u3)]) (st1 := [.ref u0]) 1 rfl ?_
  refine f_getf rfl rfl (g := 32) rfl w4 w5 ?_
  refine f_go (pc1 := 33) (lv1 := [(2, .ref u0), (0, .ref nmo), (1, .ref u3)]) (st1 := [.ref u3, .int 0]) 1 rfl ?_
  refine f_getf rfl rfl (g := 32) rfl w22 w23 ?_
  refine f_go (pc1 := 40) (lv1 := [(2, .ref u0), (0, .ref nmo), (1, .ref u3)]) (st1 := [.ref u0]) 2 rfl ?_
  refine f_getf rfl rfl (g := 32) rfl w4 w5 ?_
  refine f_go (pc1 := 57) (lv1 := [(2, .ref u0), (0, .ref nmo), (1, .ref u3)]) (st1 := [.ref u0]) 3 rfl ?_
  refine f_getf rfl rfl (g := 37) rfl w4 w7 ?_
  refine f_go (pc1 := 14) (lv1 := [(2, .ref u1), (0, .ref nmo), (1, .ref u3)]) (st1 := [.ref u3, .ref u1]) 6 rfl ?_
  refine f_acmp (t := 64) rfl rfl false (by simp [(show u1 ≠ u3 by omega)]) ?_
  refine f_go (pc1 := 18) (lv1 := [(2, .ref u1), (0, .ref nmo), (1, .ref u3)]) (st1 := [.ref u1]) 1 rfl ?_
  refine f_getf rfl rfl (g := 33) rfl w10 w12 ?_
  refine f_go (pc1 := 22) (lv1 := [(2, .ref u1), (0, .ref nmo), (1, .ref u3)]) (st1 := [.ref u3, .int ng]) 1 rfl ?_
  refine f_getf rfl rfl (g := 33) rfl w22 w24 ?_
  refine f_icmp (t := 56) rfl rfl true (ic_ne (fun e => w58 e.symm)) ?_
  refine f_go (pc1 := 57) (lv1 := [(2, .ref u1), (0, .ref nmo), (1, .ref u3)]) (st1 := [.ref u1]) 1 rfl ?_
  refine f_getf rfl rfl (g := 37) rfl w10 w13 ?_
  refine f_go (pc1 := 14) (lv1 := [(2, .ref u2), (0, .ref nmo), (1, .ref u3)]) (st1 := [.ref u3, .ref u2]) 6 rfl ?_
  refine f_acmp (t := 64) rfl rfl false (by simp [(show u2 ≠ u3 by omega)]) ?_
  refine f_go (pc1 := 18) (lv1 := [(2, .ref u2), (0, .ref nmo), (1, .ref u3)]) (st1 := [.ref u2]) 1 rfl ?_
  refine f_getf rfl rfl (g := 33) rfl w16 w18 ?_
  refine f_go (pc1 := 22) (lv1 := [(2, .ref u2), (0, .ref nmo), (1, .ref u3)]) (st1 := [.ref u3, .int nh]) 1 rfl ?_
  refine f_getf rfl rfl (g := 33) rfl w22 w24 ?_
  refine f_icmp (t := 56) rfl rfl true (ic_ne (fun e => w59 e.symm)) ?_
  refine f_go (pc1 := 57) (lv1 := [(2, .ref u2), (0, .ref nmo), (1, .ref u3)]) (st1 := [.ref u2]) 1 rfl ?_
  refine f_getf rfl rfl (g := 37) rfl w16 w19 ?_
  refine f_go (pc1 := 14) (lv1 := [(2, .ref u3), (0, .ref nmo), (1, .ref u3)]) (st1 := [.ref u3, .ref u3]) 6 rfl ?_
  refine f_acmp (t := 64) rfl rfl true (by simp) ?_
  refine f_go (pc1 := 67) (lv1 := [(2, .ref u3), (0, .ref nmo), (1, .ref u3)]) (st1 := [.ref u3, .int 1, .ref u3]) 3 rfl ?_
  refine f_getf rfl rfl (g := 41) rfl w22 w26 ?_
  refine f_go (pc1 := 71) (lv1 := [(2, .ref u3), (0, .ref nmo), (1, .ref u3)]) (st1 := [.int 8, .ref u3]) 1 rfl ?_
  refine f_putf rfl rfl (g := 48) rfl w22 rfl ?_
  have hu14 : sF (sU σ u3 48 (.int 8)) u3 48 = .int 8 := sU_at
  refine f_go (pc1 := 75) (lv1 := [(2, .ref u3), (0, .ref nmo), (1, .ref u3)]) (st1 := [.ref u3]) 1 rfl ?_
  refine f_getf rfl rfl (g := 32) rfl w22 w23 ?_
  refine f_go (pc1 := 86) (lv1 := [(2, .ref u3), (0, .ref nmo), (1, .ref u3)]) (st1 := [.ref u3, .ref u3, .ref nmo, .ref u3]) 6 rfl ?_
  refine f_getf rfl rfl (g := 33) rfl w22 w24 ?_
  refine f_vt rfl rfl w0 rfl (g_ia_3_nt (by omega) hN9) ?_
  refine f_putf rfl rfl (g := 46) rfl w22 rfl ?_
  have hu15 : sF (sU (sU σ u3 48 (.int 8)) u3 46 (.ref u0)) u3 46 = .ref u0 := sU_at
  refine f_go (pc1 := 97) (lv1 := [(2, .ref u3), (0, .ref nmo), (1, .ref u3)]) (st1 := [.ref u3, .ref u3]) 2 rfl ?_
  refine f_getf rfl rfl (g := 48) rfl w22 hu14 ?_
  refine f_go (pc1 := 101) (lv1 := [(2, .ref u3), (0, .ref nmo), (1, .ref u3)]) (st1 := [.ref u3, .int 8, .ref u3]) 1 rfl ?_
  refine f_getf rfl rfl (g := 46) rfl w22 hu15 ?_
  refine f_go (pc1 := 113) (lv1 := [(2, .ref u3), (0, .ref nmo), (1, .ref u3)]) (st1 := [.ref u3, .int 1, .int 8, .ref u3]) 3 rfl ?_
  refine f_getf rfl rfl (g := 46) rfl w22 hu15 ?_
  refine f_getf rfl rfl (g := 41) rfl w4 w8 ?_
  refine f_go (pc1 := 121) (lv1 := [(2, .ref u3), (0, .ref nmo), (1, .ref u3)]) (st1 := [.int 9, .ref u3]) 2 rfl ?_
  refine f_putf rfl rfl (g := 48) rfl w22 rfl ?_
  have hu16 : sF (sU (sU (sU σ u3 48 (.int 8)) u3 46 (.ref u0)) u3 48 (.int 9)) u3 48 = .int 9 := sU_at
  refine f_go (pc1 := 125) (lv1 := [(2, .ref u3), (0, .ref nmo), (1, .ref u3)]) (st1 := [.ref u3]) 1 rfl ?_
  refine f_getf rfl rfl (g := 43) rfl w22 w27 ?_
  refine f_go (pc1 := 134) (lv1 := [(2, .ref dr), (0, .ref nmo), (1, .ref u3)]) (st1 := [.ref dr]) 4 rfl ?_
  refine f_getf rfl rfl (g := 32) rfl w36 w37 ?_
  refine f_go (pc1 := 220) (lv1 := [(2, .ref dr), (0, .ref nmo), (1, .ref u3)]) (st1 := []) 2 rfl ?_
  exact f_rt rfl rfl
theorem g_judgeUnit_4 {X : ev_X} {d : Nat} {σ : fl_S} (hd : 2 ≤ d) {nmo ps u0 u1 u2 u3 u4 d0 im1 ima imb im4 dh dr : Nat} {nt ng nh nu : Int32} (hN : UN σ nmo ps u0 u1 u2 u3 u4 d0 im1 ima imb im4 dh dr nt ng nh nu) : CF X d 64 [.ref nmo, .ref u4] σ none (sU (sU (sU (sU (sU σ u4 48 (.int 16)) u4 46 .null) u4 48 (.int 16)) im4 46 (.ref u0)) u4 48 (.int 17)) := by
  have hN9 := hN
  obtain ⟨w0, w1, w2, w3, w4, w5, w6, w7, w8, w9, w10, w11, w12, w13, w14, w15, w16, w17, w18, w19, w20, w21, w22, w23, w24, w25, w26, w27, w28, w29, w30, w31, w32, w33, w34, w35, w36, w37, w38, w39, w40, w41, w42, w43, w44, w45, w46, w47, w48, w49, w50, w51, w52, w53, w54, w55, w56, w57, w58, w59, w60, w61, w62, w63, w64, w65, w66, w67⟩ := hN
  refine f_meth (by omega) rfl ?_
  refine f_go (pc1 := 1) (lv1 := [(0, .ref nmo), (1, .ref u4)]) (st1 := [.ref nmo]) 1 rfl ?_
  refine f_getf rfl rfl (g := 96) rfl w0 w1 ?_
  refine f_getf rfl rfl (g := 207) rfl w2 w3 ?_
  refine f_go (pc1 := 14) (lv1 := [(2, .ref u0), (0, .ref nmo), (1, .ref u4)]) (st1 := [.ref u4, .ref u0]) 5 rfl ?_
  refine f_acmp (t := 64) rfl rfl false (by simp [(show u0 ≠ u4 by omega)]) ?_
  refine f_go (pc1 := 18) (lv1 := [(2, .ref u0), (0, .ref nmo), (1, .ref u4)]) (st1 := [.ref u0]) 1 rfl ?_
  refine f_getf rfl rfl (g := 33) rfl w4 w6 ?_
  refine f_go (pc1 := 22) (lv1 := [(2, .ref u0), (0, .ref nmo), (1, .ref u4)]) (st1 := [.ref u4, .int nt]) 1 rfl ?_
  refine f_getf rfl rfl (g := 33) rfl w28 w30 ?_
  refine f_icmp (t := 56) rfl rfl true (ic_ne w60) ?_
  refine f_go (pc1 := 57) (lv1 := [(2, .ref u0), (0, .ref nmo), (1, .ref u4)]) (st1 := [.ref u0]) 1 rfl ?_
  refine f_getf rfl rfl (g := 37) rfl w4 w7 ?_
  refine f_go (pc1 := 14) (lv1 := [(2, .ref u1), (0, .ref nmo), (1, .ref u4)]) (st1 := [.ref u4, .ref u1]) 6 rfl ?_
  refine f_acmp (t := 64) rfl rfl false (by simp [(show u1 ≠ u4 by omega)]) ?_
  refine f_go (pc1 := 18) (lv1 := [(2, .ref u1), (0, .ref nmo), (1, .ref u4)]) (st1 := [.ref u1]) 1 rfl ?_
  refine f_getf rfl rfl (g := 33) rfl w10 w12 ?_
  refine f_go (pc1 := 22) (lv1 := [(2, .ref u1), (0, .ref nmo), (1, .ref u4)]) (st1 := [.ref u4, .int ng]) 1 rfl ?_
  refine f_getf rfl rfl (g := 33) rfl w28 w30 ?_
  refine f_icmp (t := 56) rfl rfl true (ic_ne w62) ?_
  refine f_go (pc1 := 57) (lv1 := [(2, .ref u1), (0, .ref nmo), (1, .ref u4)]) (st1 := [.ref u1]) 1 rfl ?_
  refine f_getf rfl rfl (g := 37) rfl w10 w13 ?_
  refine f_go (pc1 := 14) (lv1 := [(2, .ref u2), (0, .ref nmo), (1, .ref u4)]) (st1 := [.ref u4, .ref u2]) 6 rfl ?_
  refine f_acmp (t := 64) rfl rfl false (by simp [(show u2 ≠ u4 by omega)]) ?_
  refine f_go (pc1 := 18) (lv1 := [(2, .ref u2), (0, .ref nmo), (1, .ref u4)]) (st1 := [.ref u2]) 1 rfl ?_
  refine f_getf rfl rfl (g := 33) rfl w16 w18 ?_
  refine f_go (pc1 := 22) (lv1 := [(2, .ref u2), (0, .ref nmo), (1, .ref u4)]) (st1 := [.ref u4, .int nh]) 1 rfl ?_
  refine f_getf rfl rfl (g := 33) rfl w28 w30 ?_
  refine f_icmp (t := 56) rfl rfl true (ic_ne w63) ?_
  refine f_go (pc1 := 57) (lv1 := [(2, .ref u2), (0, .ref nmo), (1, .ref u4)]) (st1 := [.ref u2]) 1 rfl ?_
  refine f_getf rfl rfl (g := 37) rfl w16 w19 ?_
  refine f_go (pc1 := 14) (lv1 := [(2, .ref u3), (0, .ref nmo), (1, .ref u4)]) (st1 := [.ref u4, .ref u3]) 6 rfl ?_
  refine f_acmp (t := 64) rfl rfl false (by simp [(show u3 ≠ u4 by omega)]) ?_
  refine f_go (pc1 := 18) (lv1 := [(2, .ref u3), (0, .ref nmo), (1, .ref u4)]) (st1 := [.ref u3]) 1 rfl ?_
  refine f_getf rfl rfl (g := 33) rfl w22 w24 ?_
  refine f_go (pc1 := 22) (lv1 := [(2, .ref u3), (0, .ref nmo), (1, .ref u4)]) (st1 := [.ref u4, .int nt]) 1 rfl ?_
  refine f_getf rfl rfl (g := 33) rfl w28 w30 ?_
  refine f_icmp (t := 56) rfl rfl true (ic_ne w60) ?_
  refine f_go (pc1 := 57) (lv1 := [(2, .ref u3), (0, .ref nmo), (1, .ref u4)]) (st1 := [.ref u3]) 1 rfl ?_
  refine f_getf rfl rfl (g := 37) rfl w22 w25 ?_
  refine f_go (pc1 := 14) (lv1 := [(2, .ref u4), (0, .ref nmo), (1, .ref u4)]) (st1 := [.ref u4, .ref u4]) 6 rfl ?_
  refine f_acmp (t := 64) rfl rfl true (by simp) ?_
  refine f_go (pc1 := 67) (lv1 := [(2, .ref u4), (0, .ref nmo), (1, .ref u4)]) (st1 := [.ref u4, .int 1, .ref u4]) 3 rfl ?_
  refine f_getf rfl rfl (g := 41) rfl w28 w32 ?_
  refine f_go (pc1 := 71) (lv1 := [(2, .ref u4), (0, .ref nmo), (1, .ref u4)]) (st1 := [.int 16, .ref u4]) 1 rfl ?_
  refine f_putf rfl rfl (g := 48) rfl w28 rfl ?_
  have hu17 : sF (sU σ u4 48 (.int 16)) u4 48 = .int 16 := sU_at
  refine f_go (pc1 := 75) (lv1 := [(2, .ref u4), (0, .ref nmo), (1, .ref u4)]) (st1 := [.ref u4]) 1 rfl ?_
  refine f_getf rfl rfl (g := 32) rfl w28 w29 ?_
  refine f_go (pc1 := 86) (lv1 := [(2, .ref u4), (0, .ref nmo), (1, .ref u4)]) (st1 := [.ref u4, .ref u4, .ref nmo, .ref u4]) 6 rfl ?_
  refine f_getf rfl rfl (g := 33) rfl w28 w30 ?_
  refine f_vt rfl rfl w0 rfl (g_ia_4_nu (by omega) hN9) ?_
  refine f_putf rfl rfl (g := 46) rfl w28 rfl ?_
  have hu18 : sF (sU (sU σ u4 48 (.int 16)) u4 46 .null) u4 46 = .null := sU_at
  refine f_go (pc1 := 97) (lv1 := [(2, .ref u4), (0, .ref nmo), (1, .ref u4)]) (st1 := [.ref u4, .ref u4]) 2 rfl ?_
  refine f_getf rfl rfl (g := 48) rfl w28 hu17 ?_
  refine f_go (pc1 := 101) (lv1 := [(2, .ref u4), (0, .ref nmo), (1, .ref u4)]) (st1 := [.ref u4, .int 16, .ref u4]) 1 rfl ?_
  refine f_getf rfl rfl (g := 46) rfl w28 hu18 ?_
  refine f_go (pc1 := 121) (lv1 := [(2, .ref u4), (0, .ref nmo), (1, .ref u4)]) (st1 := [.int 16, .ref u4]) 4 rfl ?_
  refine f_putf rfl rfl (g := 48) rfl w28 rfl ?_
  have hu19 : sF (sU (sU (sU σ u4 48 (.int 16)) u4 46 .null) u4 48 (.int 16)) u4 48 = .int 16 := sU_at
  refine f_go (pc1 := 125) (lv1 := [(2, .ref u4), (0, .ref nmo), (1, .ref u4)]) (st1 := [.ref u4]) 1 rfl ?_
  refine f_getf rfl rfl (g := 43) rfl w28 w33 ?_
  refine f_go (pc1 := 134) (lv1 := [(2, .ref im4), (0, .ref nmo), (1, .ref u4)]) (st1 := [.ref im4]) 4 rfl ?_
  refine f_getf rfl rfl (g := 32) rfl w51 w52 ?_
  refine f_go (pc1 := 142) (lv1 := [(2, .ref im4), (0, .ref nmo), (1, .ref u4)]) (st1 := [.ref im4]) 3 rfl ?_
  refine f_getf rfl rfl (g := 33) rfl w51 w53 ?_
  refine f_go (pc1 := 146) (lv1 := [(2, .ref im4), (0, .ref nmo), (1, .ref u4)]) (st1 := [.ref u4, .int nt]) 1 rfl ?_
  refine f_getf rfl rfl (g := 33) rfl w28 w30 ?_
  refine f_icmp (t := 161) rfl rfl true (ic_ne w60) ?_
  refine f_go (pc1 := 165) (lv1 := [(2, .ref im4), (0, .ref nmo), (1, .ref u4)]) (st1 := [.ref im4, .ref u4, .ref nmo, .ref im4]) 4 rfl ?_
  refine f_getf rfl rfl (g := 33) rfl w51 w53 ?_
  refine f_vt rfl rfl w0 rfl (g_ia_4_nt (by omega) hN9) ?_
  refine f_putf rfl rfl (g := 46) rfl w51 rfl ?_
  have hu20 : sF (sU (sU (sU (sU σ u4 48 (.int 16)) u4 46 .null) u4 48 (.int 16)) im4 46 (.ref u0)) im4 46 = .ref u0 := sU_at
  refine f_go (pc1 := 175) (lv1 := [(2, .ref im4), (0, .ref nmo), (1, .ref u4)]) (st1 := [.ref im4]) 1 rfl ?_
  refine f_getf rfl rfl (g := 46) rfl w51 hu20 ?_
  refine f_go (pc1 := 196) (lv1 := [(2, .ref im4), (0, .ref nmo), (1, .ref u4)]) (st1 := [.ref u4, .ref u4]) 3 rfl ?_
  refine f_getf rfl rfl (g := 48) rfl w28 hu19 ?_
  refine f_go (pc1 := 201) (lv1 := [(2, .ref im4), (0, .ref nmo), (1, .ref u4)]) (st1 := [.ref im4, .int 1, .int 16, .ref u4]) 2 rfl ?_
  refine f_getf rfl rfl (g := 46) rfl w51 hu20 ?_
  refine f_getf rfl rfl (g := 41) rfl w4 w8 ?_
  refine f_go (pc1 := 209) (lv1 := [(2, .ref im4), (0, .ref nmo), (1, .ref u4)]) (st1 := [.int 17, .ref u4]) 2 rfl ?_
  refine f_putf rfl rfl (g := 48) rfl w28 rfl ?_
  have hu21 : sF (sU (sU (sU (sU (sU σ u4 48 (.int 16)) u4 46 .null) u4 48 (.int 16)) im4 46 (.ref u0)) u4 48 (.int 17)) u4 48 = .int 17 := sU_at
  refine f_go (pc1 := 213) (lv1 := [(2, .ref im4), (0, .ref nmo), (1, .ref u4)]) (st1 := [.ref im4]) 1 rfl ?_
  refine f_getf rfl rfl (g := 37) rfl w51 w54 ?_
  refine f_go (pc1 := 220) (lv1 := [(2, .null), (0, .ref nmo), (1, .ref u4)]) (st1 := []) 4 rfl ?_
  exact f_rt rfl rfl
