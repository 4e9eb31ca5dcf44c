/-! what names mean -/
theorem ev_fit_rf (o : Option Nat) : ev_fit 2 (va_rf o) = true := by cases o <;> rfl
/-- declarations in a list, their names and kinds -/
def DK (σ : fl_S) (nm kd : Nat → Int32) (ds : List Nat) : Prop := ∀ d ∈ ds, sC σ 1 d = true ∧ sF σ d 33 = .int (nm d) ∧ sF σ d 32 = .int (kd d)
theorem DK.tl {σ : fl_S} {nm kd : Nat → Int32} {q : Nat} {ds : List Nat} (h : DK σ nm kd (q :: ds)) : DK σ nm kd ds := fun d hd => h d (List.mem_cons_of_mem _ hd)
def td_find (nm kd : Nat → Int32) (x : Int32) (ds : List Nat) : Option Nat := ds.find? fun d => decide (nm d = x) && !decide (kd d = 2)
def kn_find (nm : Nat → Int32) (x : Int32) (ds : List Nat) : Option Nat := ds.find? fun d => decide (nm d = x)
theorem g_toldBy {X : ev_X} {d : Nat} {σ : fl_S} (hd : 1 ≤ d) {u : Nat} {name : Int32} {nm kd : Nat → Int32} {ds : List Nat} (cu : sC σ 1 u = true) (hf : Ll (fun a => sF σ a 37) (sF σ u 43) ds) (hn : DK σ nm kd ds) : CF X d 66 [.ref u, .int name] σ (some (va_rf (td_find nm kd name ds))) σ := by
  refine f_meth hd rfl ?_
  refine f_go (pc1 := 1) (lv1 := [(0, .ref u), (1, .int name)]) (st1 := [.ref u]) 1 rfl ?_
  refine f_getf rfl rfl (g := 43) rfl cu hf.hd ?_
  refine f_astn rfl ds.head? rfl ?_
  rw [hf.hd] at hf
  clear cu
  induction ds with
  | nil =>
    show EF X (d - 1) 66 5 [(2, .null), (0, .ref u), (1, .int name)] [] σ _ _
    refine f_go (pc1 := 36) (lv1 := [(2, .null), (0, .ref u), (1, .int name)]) (st1 := [.null]) 3 rfl ?_
    exact f_rt rfl rfl
  | cons q r ih =>
    show EF X (d - 1) 66 5 [(2, .ref q), (0, .ref u), (1, .int name)] [] σ _ _
    obtain ⟨c_q, q_name, q_kind⟩ := hn q List.mem_cons_self
    have hl := hf.2
    have hl : Ll (fun a => sF σ a 37) (sF σ q 37) r := hl
    have hx := hl.hd
    rw [hx] at hl
    have ih := ih hl hn.tl
    refine f_go (pc1 := 10) (lv1 := [(2, .ref q), (0, .ref u), (1, .int name)]) (st1 := [.ref q]) 3 rfl ?_
    refine f_getf rfl rfl (g := 33) rfl c_q q_name ?_
    refine f_go (pc1 := 14) (lv1 := [(2, .ref q), (0, .ref u), (1, .int name)]) (st1 := [.int name, .int (nm q)]) 1 rfl ?_
    by_cases hx1 : nm q = name
    ·
      refine f_icmp (t := 27) rfl rfl false (ic_nen hx1) ?_
      refine f_go (pc1 := 18) (lv1 := [(2, .ref q), (0, .ref u), (1, .int name)]) (st1 := [.ref q]) 1 rfl ?_
      refine f_getf rfl rfl (g := 32) rfl c_q q_kind ?_
      refine f_go (pc1 := 22) (lv1 := [(2, .ref q), (0, .ref u), (1, .int name)]) (st1 := [.int 2, .int (kd q)]) 1 rfl ?_
      by_cases hx2 : kd q = 2
      ·
        refine f_icmp (t := 27) rfl rfl true (ic_eq hx2) ?_
        refine f_go (pc1 := 28) (lv1 := [(2, .ref q), (0, .ref u), (1, .int name)]) (st1 := [.ref q]) 1 rfl ?_
        refine f_getf rfl rfl (g := 37) rfl c_q hx ?_
        refine f_astn rfl r.head? rfl ?_
        refine f_go (pc1 := 5) (lv1 := [(2, va_rf r.head?), (0, .ref u), (1, .int name)]) (st1 := []) 1 rfl ?_
        rw [show td_find nm kd name (q :: r) = td_find nm kd name r by simp [td_find, hx1, hx2]]
        exact ih
      ·
        refine f_icmp (t := 27) rfl rfl false (ic_eqn hx2) ?_
        refine f_go (pc1 := 26) (lv1 := [(2, .ref q), (0, .ref u), (1, .int name)]) (st1 := [.ref q]) 1 rfl ?_
        rw [show td_find nm kd name (q :: r) = some q by simp [td_find, hx1, hx2]]
        exact f_rt rfl rfl
    ·
      refine f_icmp (t := 27) rfl rfl true (ic_ne hx1) ?_
      refine f_go (pc1 := 28) (lv1 := [(2, .ref q), (0, .ref u), (1, .int name)]) (st1 := [.ref q]) 1 rfl ?_
      refine f_getf rfl rfl (g := 37) rfl c_q hx ?_
      refine f_astn rfl r.head? rfl ?_
      refine f_go (pc1 := 5) (lv1 := [(2, va_rf r.head?), (0, .ref u), (1, .int name)]) (st1 := []) 1 rfl ?_
      rw [show td_find nm kd name (q :: r) = td_find nm kd name r by simp [td_find, hx1]]
      exact ih
