/-! lists of cells that are linked by a field -/
def nx (ds : List Nat) : Value := va_rf ds.head?
def DL (ci : Nat) (t : ev_T) (F : Nat → List Value) (ds : List Nat) : Prop := ∀ d ∈ ds, ev_g t d = some (.inr (ci, F d))
def Lk (F : Nat → List Value) (sl : Nat) : List Nat → Prop
  | [] => True
  | d :: r => ev_nth (F d) sl = some (nx r) ∧ Lk F sl r
theorem DL.hd {ci : Nat} {t : ev_T} {F : Nat → List Value} {d : Nat} {r : List Nat} (h : DL ci t F (d :: r)) : ev_g t d = some (.inr (ci, F d)) := h d List.mem_cons_self
theorem DL.tl {ci : Nat} {t : ev_T} {F : Nat → List Value} {d : Nat} {r : List Nat} (h : DL ci t F (d :: r)) : DL ci t F r := fun x hx => h x (List.mem_cons_of_mem _ hx)
/-- the first one of a name that is no IMPORT -/
def tb_find (nm kd : Nat → Int32) (x : Int32) (ds : List Nat) : Option Nat := ds.find? fun d => decide (nm d = x) && !decide (kd d = 2)
theorem ic_eq {x y : Int32} (h : x = y) : ev_ic .eq x y = true := by simp [ev_ic, h]
theorem ic_eqn {x y : Int32} (h : ¬ x = y) : ev_ic .eq x y = false := by simp [ev_ic, h]
theorem ic_ne {x y : Int32} (h : ¬ x = y) : ev_ic .ne x y = true := by simp [ev_ic, h]
theorem ic_nen {x y : Int32} (h : x = y) : ev_ic .ne x y = false := by simp [ev_ic, h]

theorem t_toldBy {X : ev_X} {d : Nat} {t : ev_T} {sz u : Nat} {name : Int32} {DF : Nat → List Value} {nm kd : Nat → Int32} {ds : List Nat} (hu : ev_g t u = some (.inr (1, DF u))) (hf : ev_nth (DF u) 11 = some (nx ds)) (hD : DL 1 t DF ds) (hL : Lk DF 5 ds) (hn : ∀ d ∈ ds, ev_nth (DF d) 1 = some (.int (nm d)) ∧ ev_nth (DF d) 0 = some (.int (kd d))) :
    Cd X (d + 1) 66 [.ref u, .int name] sz t (some (va_rf (tb_find nm kd name ds))) (sz, t, 0, 0) := by
  refine e_meth rfl ?_
  refine e_go (pc1 := 1) (lv1 := [(0, .ref u), (1, .int name)]) (st1 := [.ref u]) 1 rfl ?_
  refine e_getf rfl hu hf ?_
  refine e_astn rfl ds.head? rfl ?_
  clear hu hf
  induction ds with
  | nil =>
    show EE X d 66 5 [(2, .null), (0, .ref u), (1, .int name)] [] (sz, t, 0, 0) _ _
    refine e_go (pc1 := 36) (lv1 := [(2, .null), (0, .ref u), (1, .int name)]) (st1 := [.null]) 3 rfl ?_
    exact e_rt rfl rfl
  | cons q r ih =>
    show EE X d 66 5 [(2, .ref q), (0, .ref u), (1, .int name)] [] (sz, t, 0, 0) _ _
    obtain ⟨hq1, hq2⟩ := hn q List.mem_cons_self
    have ih := ih hD.tl hL.2 (fun d hd => hn d (List.mem_cons_of_mem _ hd))
    refine e_go (pc1 := 10) (lv1 := [(2, .ref q), (0, .ref u), (1, .int name)]) (st1 := [.ref q]) 3 rfl ?_
    refine e_getf rfl hD.hd hq1 ?_
    refine e_go (pc1 := 14) (lv1 := [(2, .ref q), (0, .ref u), (1, .int name)]) (st1 := [.int name, .int (nm q)]) 1 rfl ?_
    by_cases c1 : nm q = name
    · skip
      refine e_icmp (t := 27) rfl rfl false (ic_nen c1) ?_
      refine e_go (pc1 := 18) (lv1 := [(2, .ref q), (0, .ref u), (1, .int name)]) (st1 := [.ref q]) 1 rfl ?_
      refine e_getf rfl hD.hd hq2 ?_
      refine e_go (pc1 := 22) (lv1 := [(2, .ref q), (0, .ref u), (1, .int name)]) (st1 := [.int 2, .int (kd q)]) 1 rfl ?_
      by_cases c2 : kd q = 2
      · rw [show tb_find nm kd name (q :: r) = tb_find nm kd name r by simp [tb_find, c1, c2]]
        refine e_icmp (t := 27) rfl rfl true (ic_eq c2) ?_
        refine e_go (pc1 := 28) (lv1 := [(2, .ref q), (0, .ref u), (1, .int name)]) (st1 := [.ref q]) 1 rfl ?_
        refine e_getf rfl hD.hd hL.1 ?_
        refine e_astn rfl r.head? rfl ?_
        refine e_go (pc1 := 5) (lv1 := [(2, va_rf r.head?), (0, .ref u), (1, .int name)]) (st1 := []) 1 rfl ?_
        exact ih
      · rw [show tb_find nm kd name (q :: r) = some q by simp [tb_find, c1, c2]]
        refine e_icmp (t := 27) rfl rfl false (ic_eqn c2) ?_
        refine e_go (pc1 := 26) (lv1 := [(2, .ref q), (0, .ref u), (1, .int name)]) (st1 := [.ref q]) 1 rfl ?_
        exact e_rt rfl rfl
    · rw [show tb_find nm kd name (q :: r) = tb_find nm kd name r by simp [tb_find, c1]]
      refine e_icmp (t := 27) rfl rfl true (ic_ne c1) ?_
      refine e_go (pc1 := 28) (lv1 := [(2, .ref q), (0, .ref u), (1, .int name)]) (st1 := [.ref q]) 1 rfl ?_
      refine e_getf rfl hD.hd hL.1 ?_
      refine e_astn rfl r.head? rfl ?_
      refine e_go (pc1 := 5) (lv1 := [(2, va_rf r.head?), (0, .ref u), (1, .int name)]) (st1 := []) 1 rfl ?_
      exact ih
