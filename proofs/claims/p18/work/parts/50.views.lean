/-! views, sizes, the rounds of CELLS -/
/-- the OPAQUE type's row of views, being filled -/
def VS (σ : fl_S) (P U : Nat) (V : Nat → Option Nat) : fl_S := sR1 (sU (sR1 (sZ1 σ U) (sZ σ) (3, U, fun _ => none)) P 141 (.ref (sZ σ))) (sZ σ) (3, U, V)
theorem sR1_twice (σ : fl_S) (a : Nat) (x y : Nat × Nat × (Nat → Option Nat)) : sR1 (sR1 σ a x) a y = sR1 σ a y := by
  unfold sR1
  refine Prod.ext rfl (Prod.ext rfl (Prod.ext rfl (Prod.ext rfl (Prod.ext ?_ rfl))))
  funext b
  show aU (aU (sR σ) a x) a y b = aU (sR σ) a y b
  unfold aU
  cases Nat.beq b a <;> rfl
theorem VS_put {σ : fl_S} {P U : Nat} {V V' : Nat → Option Nat} : sR1 (VS σ P U V) (sZ σ) (3, U, V') = VS σ P U V' := sR1_twice _ _ _ _
theorem VS_V {σ : fl_S} {P U : Nat} {V : Nat → Option Nat} : sR (VS σ P U V) (sZ σ) = some (3, U, V) := by
  show aU _ _ _ (sZ σ) = _
  exact aU_at
theorem VS_R {σ : fl_S} {P U a : Nat} {V : Nat → Option Nat} (h : a < sZ σ) : sR (VS σ P U V) a = sR σ a := by
  show aU (aU (sR σ) (sZ σ) _) (sZ σ) _ a = _
  rw [aU_ne (Nat.ne_of_lt h), aU_ne (Nat.ne_of_lt h)]
theorem VS_views {σ : fl_S} {P U : Nat} {V : Nat → Option Nat} : sF (VS σ P U V) P 141 = .ref (sZ σ) := by
  show FU _ P 141 (.ref (sZ σ)) P 141 = _
  exact FU_at
section VIEWS
variable {X : ev_X} {d : Nat} {σ : fl_S} {Q : Option Value → fl_S → Prop} {ty P U ur : Nat} {us : Nat → Nat} {UR : Nat → Option Nat} {vw : Nat → Nat} {kd : Nat → Int32} {r : List Nat}
/-- the row is filled unit by unit -/
theorem g_fv1 (cty : sC σ 9 ty = true) (ty_ur : sF σ ty 289 = .ref ur) (hur : sR σ ur = some (2, U, UR)) (hlt : ur < sZ σ) (hU : U < 100000) (hUR : ∀ i, i < U → UR i = some (us i)) (cP : sC σ 4 P = true) (P_next : sF σ P 146 = va_rf r.head?) (hvw : ∀ i, i < U → sC σ 4 (vw i) = true) (hv : ∀ V i, i < U → CF X (d - 1) 83 [.ref ty, .ref (us i), .ref P] (VS σ P U V) (some (.ref (vw i))) (VS σ P U V))
    (next : ∀ V, (∀ i, i < U → V i = some (vw i)) → EQ X (d - 1) 82 5 [(1, va_rf r.head?), (0, .ref ty)] [] (VS σ P U V) Q) :
    ∀ m i V, m + i = U → (∀ j, j < i → V j = some (vw j)) → EQ X (d - 1) 82 32 [(2, .int (Int32.ofNat i)), (1, .ref P), (0, .ref ty)] [] (VS σ P U V) Q := by
  intro m
  induction m with
  | zero =>
    intro i V hi hV
    have hi : i = U := by omega
    subst hi
    refine f_go (pc1 := 34) (lv1 := [(2, .int (Int32.ofNat i)), (1, .ref P), (0, .ref ty)]) (st1 := [.ref ty, .int (Int32.ofNat i)]) 2 rfl ?_
    refine f_getf rfl rfl (g := 289) rfl cty ty_ur ?_
    refine f_alR rfl ((VS_R hlt).trans hur) rfl ?_
    refine f_icmp (t := 64) rfl rfl true (nat_geT (by omega) (by omega) (Nat.le_refl _)) ?_
    refine f_go (pc1 := 65) (lv1 := [(2, .int (Int32.ofNat i)), (1, .ref P), (0, .ref ty)]) (st1 := [.ref P]) 1 rfl ?_
    refine f_getf rfl rfl (g := 146) rfl cP P_next ?_
    refine f_astn rfl r.head? rfl ?_
    refine f_go (pc1 := 5) (lv1 := [(1, va_rf r.head?), (2, .int (Int32.ofNat i)), (0, .ref ty)]) (st1 := []) 1 rfl ?_
    refine f_lv [(1, va_rf r.head?), (0, .ref ty)] (fl_c rfl (fl_c rfl fl_0)) ?_
    exact next V hV
  | succ m ih =>
    intro i V hi hV
    have hi2 : i < U := by omega
    have hCv := hv V i hi2
    refine f_go (pc1 := 34) (lv1 := [(2, .int (Int32.ofNat i)), (1, .ref P), (0, .ref ty)]) (st1 := [.ref ty, .int (Int32.ofNat i)]) 2 rfl ?_
    refine f_getf rfl rfl (g := 289) rfl cty ty_ur ?_
    refine f_alR rfl ((VS_R hlt).trans hur) rfl ?_
    refine f_icmp (t := 64) rfl rfl false (nat_lt (by omega) (by omega) hi2) ?_
    refine f_go (pc1 := 42) (lv1 := [(2, .int (Int32.ofNat i)), (1, .ref P), (0, .ref ty)]) (st1 := [.ref P]) 1 rfl ?_
    refine f_getf rfl rfl (g := 141) rfl cP VS_views ?_
    refine f_go (pc1 := 48) (lv1 := [(2, .int (Int32.ofNat i)), (1, .ref P), (0, .ref ty)]) (st1 := [.ref ty, .ref ty, .int (Int32.ofNat i), .ref (sZ σ)]) 3 rfl ?_
    refine f_getf rfl rfl (g := 289) rfl cty ty_ur ?_
    refine f_go (pc1 := 52) (lv1 := [(2, .int (Int32.ofNat i)), (1, .ref P), (0, .ref ty)]) (st1 := [.int (Int32.ofNat i), .ref ur, .ref ty, .int (Int32.ofNat i), .ref (sZ σ)]) 1 rfl ?_
    refine f_aald rfl ((VS_R hlt).trans hur) (i := i) (o := (some (us i))) rfl hi2 (by omega) (hUR i hi2) ?_
    show EQ _ _ 82 53 [(2, .int (Int32.ofNat i)), (1, .ref P), (0, .ref ty)] [.ref (us i), .ref ty, .int (Int32.ofNat i), .ref (sZ σ)] _ _
    refine f_go (pc1 := 54) (lv1 := [(2, .int (Int32.ofNat i)), (1, .ref P), (0, .ref ty)]) (st1 := [.ref P, .ref (us i), .ref ty, .int (Int32.ofNat i), .ref (sZ σ)]) 1 rfl ?_
    refine f_vt rfl rfl cty rfl hCv ?_
    refine f_aast rfl VS_V (i := i) (hvw i hi2) rfl rfl rfl hi2 (by omega) ?_
    rw [VS_put]
    refine f_go (pc1 := 32) (lv1 := [(2, .int ((Int32.ofNat i) + 1)), (1, .ref P), (0, .ref ty)]) (st1 := []) 2 rfl ?_
    rw [nat_s i]
    refine f_lv [(2, .int (Int32.ofNat (i + 1))), (1, .ref P), (0, .ref ty)] (fl_c rfl (fl_c rfl (fl_c rfl fl_0))) ?_
    refine ih (i + 1) _ (by omega) (fun j hj => ?_)
    by_cases e : j = i
    · subst e; simp [va_up]
    · simp [va_up, e]; exact hV j (by omega)
/-- types that are not OPAQUE are left as they are -/
theorem g_fv0 {r : List Nat} (next : EQ X (d - 1) 82 5 [(1, va_rf r.head?), (0, .ref ty)] [] σ Q) : ∀ (l : List Nat) (c : Option Nat), Ll (fun a => sF σ a 146) (va_rf c) (l ++ r) → (∀ a ∈ l, sC σ 4 a = true ∧ sF σ a 128 = .int (kd a) ∧ ¬ kd a = 12) → EQ X (d - 1) 82 5 [(1, va_rf c), (0, .ref ty)] [] σ Q := by
  intro l
  induction l with
  | nil =>
    intro c hc hs
    rw [List.nil_append] at hc
    rw [hc.hd]
    exact next
  | cons n q ih =>
    intro c hc hs
    obtain ⟨hc1, hc2⟩ := hc
    rw [hc1]
    have hc2 : Ll (fun a => sF σ a 146) (sF σ n 146) (q ++ r) := hc2
    have n_next := hc2.hd
    rw [n_next] at hc2
    obtain ⟨c_n, n_kind, k12⟩ := hs n List.mem_cons_self
    have ih := ih _ hc2 (fun x hx => hs x (List.mem_cons_of_mem _ hx))
    refine f_go (pc1 := 10) (lv1 := [(1, .ref n), (0, .ref ty)]) (st1 := [.ref n]) 3 rfl ?_
    refine f_getf rfl rfl (g := 128) rfl c_n n_kind ?_
    refine f_go (pc1 := 15) (lv1 := [(1, .ref n), (0, .ref ty)]) (st1 := [.int 12, .int (kd n)]) 1 rfl ?_
    refine f_icmp (t := 64) rfl rfl true (ic_ne k12) ?_
    refine f_go (pc1 := 65) (lv1 := [(1, .ref n), (0, .ref ty)]) (st1 := [.ref n]) 1 rfl ?_
    refine f_getf rfl rfl (g := 146) rfl c_n n_next ?_
    refine f_astn rfl (q ++ r).head? rfl ?_
    refine f_go (pc1 := 5) (lv1 := [(1, va_rf (q ++ r).head?), (0, .ref ty)]) (st1 := []) 1 rfl ?_
    refine f_lv [(1, va_rf (q ++ r).head?), (0, .ref ty)] (fl_c rfl (fl_c rfl fl_0)) ?_
    exact ih
theorem g_findViews (hd : 1 ≤ d) {ns pre : List Nat} (hns : ns = pre ++ P :: r) (hll : Ll (fun a => sF σ a 146) (va_rf ns.head?) ns) (hk : ∀ a ∈ ns, sC σ 4 a = true ∧ sF σ a 128 = .int (kd a)) (hk1 : ∀ a ∈ pre, ¬ kd a = 12) (hk2 : ∀ a ∈ r, ¬ kd a = 12) (hkP : kd P = 12) (ty_nodes : sF σ ty 297 = va_rf ns.head?)
    (cty : sC σ 9 ty = true) (ty_ur : sF σ ty 289 = .ref ur) (hur : sR σ ur = some (2, U, UR)) (hlt : ur < sZ σ) (hz : sZ σ < 256) (hU : U < 100000) (hUR : ∀ i, i < U → UR i = some (us i)) (hvw : ∀ i, i < U → sC σ 4 (vw i) = true) (hv : ∀ V i, i < U → CF X (d - 1) 83 [.ref ty, .ref (us i), .ref P] (VS σ P U V) (some (.ref (vw i))) (VS σ P U V)) :
    CQ X d 82 [.ref ty] σ (fun v σ1 => v = none ∧ ∃ V, (∀ i, i < U → V i = some (vw i)) ∧ σ1 = VS σ P U V) := by
  refine f_meth hd rfl ?_
  have hP : P ∈ ns := by rw [hns]; exact List.mem_append_right _ List.mem_cons_self
  obtain ⟨cP, P_kind⟩ := hk P hP
  have hlr : ∃ v, Ll (fun a => sF σ a 146) v (P :: r) ∧ (pre = [] → v = va_rf ns.head?) := by rw [hns] at hll; rw [hns]; exact Ll.app hll
  obtain ⟨v, hv1, -⟩ := hlr
  have hv2 : Ll (fun a => sF σ a 146) (sF σ P 146) r := hv1.2
  have P_next := hv2.hd
  refine f_go (pc1 := 1) (lv1 := [(0, .ref ty)]) (st1 := [.ref ty]) 1 rfl ?_
  refine f_getf rfl rfl (g := 297) rfl cty ty_nodes ?_
  refine f_astn rfl ns.head? rfl ?_
  refine f_lv [(1, va_rf ns.head?), (0, .ref ty)] (fl_c rfl (fl_c rfl fl_0)) ?_
  refine g_fv0 (r := P :: r) (kd := kd) ?_ pre _ (by rw [← hns]; exact hll) (fun a ha => ⟨(hk a (by rw [hns]; exact List.mem_append_left _ ha)).1, (hk a (by rw [hns]; exact List.mem_append_left _ ha)).2, hk1 a ha⟩)
  show EQ X (d - 1) 82 5 [(1, .ref P), (0, .ref ty)] [] σ _
  rw [hkP] at P_kind
  refine f_go (pc1 := 10) (lv1 := [(1, .ref P), (0, .ref ty)]) (st1 := [.ref P]) 3 rfl ?_
  refine f_getf rfl rfl (g := 128) rfl cP P_kind ?_
  refine f_go (pc1 := 20) (lv1 := [(1, .ref P), (0, .ref ty)]) (st1 := [.ref ty, .ref P]) 4 rfl ?_
  refine f_getf rfl rfl (g := 289) rfl cty ty_ur ?_
  refine f_alR rfl hur rfl ?_
  refine f_newq rfl (n := U) hz (by omega) ?_
  refine f_putf rfl rfl (g := 141) rfl cP rfl ?_
  refine f_go (pc1 := 32) (lv1 := [(2, .int 0), (1, .ref P), (0, .ref ty)]) (st1 := []) 2 rfl ?_
  refine f_lv [(2, .int (Int32.ofNat 0)), (1, .ref P), (0, .ref ty)] (fl_c rfl (fl_c rfl (fl_c rfl fl_0))) ?_
  refine f_cv (σ1 := VS σ P U (fun _ => none)) ?_ ?_
  · unfold VS
    refine Prod.ext rfl (Prod.ext rfl (Prod.ext rfl (Prod.ext rfl (Prod.ext ?_ rfl))))
    funext b
    show aU (aU (sR σ) (sZ σ) (3, U, fun _ => none)) (sZ σ) (3, U, fun _ => none) b = aU (sR σ) (sZ σ) (3, U, fun _ => none) b
    unfold aU
    cases Nat.beq b (sZ σ) <;> rfl
  refine g_fv1 cty ty_ur hur hlt hU hUR cP P_next hvw hv ?_ U 0 _ (by omega) (fun j hj => by omega)
  intro V hV
  refine g_fv0 (σ := VS σ P U V) (r := []) (kd := kd) ?_ r _ ?_ ?_
  · show EQ X (d - 1) 82 5 [(1, .null), (0, .ref ty)] [] (VS σ P U V) _
    refine f_go (pc1 := 72) (lv1 := [(1, .null), (0, .ref ty)]) (st1 := []) 2 rfl ?_
    exact f_rtQ rfl rfl ⟨rfl, V, hV, rfl⟩
  · rw [List.append_nil]
    have q : Ll (fun a => sF σ a 146) (va_rf r.head?) r := by rw [← P_next]; exact hv2
    exact q
  · intro a ha
    have hin : a ∈ ns := by rw [hns]; exact List.mem_append_right _ (List.mem_cons_of_mem _ ha)
    exact ⟨(hk a hin).1, (hk a hin).2, hk2 a ha⟩
end VIEWS
section CROUND
variable {X : ev_X} {d : Nat} {σ : fl_S} {Q : Option Value → fl_S → Prop} {ty nn : Nat} {ns : List Nat} {kd hi : Nat → Int32} {rl : Nat → Nat} {on : Nat → Option Nat} {el pt : Nat → Nat}
theorem g_crounds (hd : 3 ≤ d) (cty : sC σ 9 ty = true) (ty_nodes : sF σ ty 297 = va_rf ns.head?) (ty_nc : sF σ ty 298 = .int (Int32.ofNat nn)) (hnn : nn < 100000) (hW : CW σ ns kd hi rl on el pt) (hq : ∀ φ, CI ns kd φ → CD kd rl ns φ → Q none (sS σ 143 φ)) :
    ∀ (f i : Nat) (m : Int32) (φ : Nat → Value), f + i = nn + 2 → (m = 0 ∨ m = 1) → CI ns kd φ → (CD kd rl ns φ ∨ (m = 1 ∧ i = 0)) → EQ X (d - 1) 74 72 [(2, .int (Int32.ofNat i)), (1, .int m), (0, .ref ty)] [] (sS σ 143 φ) Q := by
  intro f
  induction f with
  | zero =>
    intro i m φ hf hm hI hD
    have hD : CD kd rl ns φ := hD.elim id (fun h => by omega)
    refine f_go (pc1 := 74) (lv1 := [(2, .int (Int32.ofNat i)), (1, .int m), (0, .ref ty)]) (st1 := [.ref ty, .int (Int32.ofNat i)]) 2 rfl ?_
    refine f_getf rfl rfl (g := 298) rfl cty ty_nc ?_
    refine f_icmp (t := 95) rfl rfl true (nat_gtT (by omega) (by omega) (by omega)) ?_
    exact f_rtQ rfl rfl (hq φ hI hD)
  | succ f ih =>
    intro i m φ hf hm hI hD
    by_cases x1 : nn < i
    · have hD : CD kd rl ns φ := hD.elim id (fun h => by omega)
      refine f_go (pc1 := 74) (lv1 := [(2, .int (Int32.ofNat i)), (1, .int m), (0, .ref ty)]) (st1 := [.ref ty, .int (Int32.ofNat i)]) 2 rfl ?_
      refine f_getf rfl rfl (g := 298) rfl cty ty_nc ?_
      refine f_icmp (t := 95) rfl rfl true (nat_gtT (by omega) (by omega) x1) ?_
      exact f_rtQ rfl rfl (hq φ hI hD)
    · rcases hm with rfl | rfl
      · have hD : CD kd rl ns φ := hD.elim id (fun h => absurd h.1 (by decide))
        refine f_go (pc1 := 74) (lv1 := [(2, .int (Int32.ofNat i)), (1, .int 0), (0, .ref ty)]) (st1 := [.ref ty, .int (Int32.ofNat i)]) 2 rfl ?_
        refine f_getf rfl rfl (g := 298) rfl cty ty_nc ?_
        refine f_icmp (t := 95) rfl rfl false (nat_gtF (by omega) (by omega) (by omega)) ?_
        refine f_go (pc1 := 95) (lv1 := [(2, .int (Int32.ofNat i)), (1, .int 0), (0, .ref ty)]) (st1 := []) 2 rfl ?_
        exact f_rtQ rfl rfl (hq φ hI hD)
      ·
        refine f_go (pc1 := 74) (lv1 := [(2, .int (Int32.ofNat i)), (1, .int 1), (0, .ref ty)]) (st1 := [.ref ty, .int (Int32.ofNat i)]) 2 rfl ?_
        refine f_getf rfl rfl (g := 298) rfl cty ty_nc ?_
        refine f_icmp (t := 95) rfl rfl false (nat_gtF (by omega) (by omega) (by omega)) ?_
        refine f_go (pc1 := 85) (lv1 := [(2, .int (Int32.ofNat i)), (1, .int 1), (0, .ref ty)]) (st1 := [.ref ty]) 3 rfl ?_
        refine f_vtQ rfl rfl cty rfl (g_findCells (by omega) cty ty_nodes hW hI) ?_
        rintro v σ1 ⟨m, φ', hm, rfl, rfl, hI2, hD2⟩
        refine f_go (pc1 := 72) (lv1 := [(2, .int ((Int32.ofNat i) + 1)), (1, .int m), (0, .ref ty)]) (st1 := []) 3 rfl ?_
        rw [nat_s i]
        refine f_lv [(2, .int (Int32.ofNat (i + 1))), (1, .int m), (0, .ref ty)] (fl_c rfl (fl_c rfl (fl_c rfl fl_0))) ?_
        exact ih (i + 1) m φ' (by omega) hm hI2 (Or.inl hD2)
end CROUND
