/-! types numbered -/
def NS (σ : fl_S) (tr T : Nat) (φ : Nat → Value) (TR : Nat → Option Nat) : fl_S := sR1 (sS σ 41 φ) tr (2, T, TR)
section NUM
variable {X : ev_X} {d : Nat} {σ : fl_S} {Q : Option Value → fl_S → Prop} {ty tr T : Nat}
theorem NS_R {φ : Nat → Value} {TR : Nat → Option Nat} : sR (NS σ tr T φ TR) tr = some (2, T, TR) := by
  show aU _ tr _ tr = _
  exact aU_at
theorem NS_Rn {φ : Nat → Value} {TR : Nat → Option Nat} {a : Nat} (h : a ≠ tr) : sR (NS σ tr T φ TR) a = sR σ a := by
  show aU _ tr _ a = _
  rw [aU_ne h]; rfl
theorem NS_put {φ : Nat → Value} {TR TR' : Nat → Option Nat} : sR1 (NS σ tr T φ TR) tr (2, T, TR') = NS σ tr T φ TR' := sR1_twice _ _ _ _
theorem NS_set {φ : Nat → Value} {TR : Nat → Option Nat} {a : Nat} {v : Value} : sU (NS σ tr T φ TR) a 41 v = NS σ tr T (fun b => bif Nat.beq b a then v else φ b) TR := by
  unfold NS
  refine Prod.ext rfl (Prod.ext ?_ rfl)
  exact FU_FS
theorem g_numT (cty : sC σ 9 ty = true) (ty_row : sF σ ty 290 = .ref tr) (hT : T < 100000) {i : Int32} {l0 : List Nat} (hl0 : l0.length = T)
    (next : ∀ φ TR, (∀ x, x < T → TR x = l0[x]?) → (∀ b, b ∉ l0 → φ b = sF σ b 41) → EQ X (d - 1) 75 9 [(4, .int (i + 1)), (3, .int 0), (2, .int 0), (1, .int (Int32.ofNat T)), (0, .ref ty)] [] (NS σ tr T φ TR) Q) :
    ∀ (l done : List Nat) (c : Option Nat) (φ : Nat → Value) (TR : Nat → Option Nat), l0 = done ++ l → Ll (fun a => sF σ a 37) (va_rf c) l → (∀ a ∈ l, sC σ 1 a = true ∧ (sF σ a 32 = .int 3 ∨ sF σ a 32 = .int 4)) → (∀ x, x < done.length → TR x = l0[x]?) → (∀ b, b ∉ l0 → φ b = sF σ b 41) → EQ X (d - 1) 75 31 [(5, va_rf c), (4, .int i), (3, .int 0), (2, .int 0), (1, .int (Int32.ofNat done.length)), (0, .ref ty)] [] (NS σ tr T φ TR) Q := by
  intro l
  induction l with
  | nil =>
    intro done c φ TR hns hc hs hTR hφ
    have hc : va_rf c = .null := hc
    rw [hc]
    rw [List.append_nil] at hns
    subst hns
    refine f_go (pc1 := 9) (lv1 := [(4, .int (i + 1)), (5, .null), (3, .int 0), (2, .int 0), (1, .int (Int32.ofNat l0.length)), (0, .ref ty)]) (st1 := []) 4 rfl ?_
    rw [hl0]
    refine f_lv [(4, .int (i + 1)), (3, .int 0), (2, .int 0), (1, .int (Int32.ofNat T)), (0, .ref ty)] (fl_c rfl (fl_c rfl (fl_c rfl (fl_c rfl (fl_c rfl fl_0))))) ?_
    exact next φ TR (by rw [← hl0]; exact hTR) hφ
  | cons n r ih =>
    intro done c φ TR hns hc hs hTR hφ
    obtain ⟨hc1, hc2⟩ := hc
    rw [hc1]
    have hc2 : Ll (fun a => sF σ a 37) (sF σ n 37) r := hc2
    have n_next := hc2.hd
    rw [n_next] at hc2
    have hs2 := fun x hx => hs x (List.mem_cons_of_mem _ hx)
    obtain ⟨c_n, n_k⟩ := hs n List.mem_cons_self
    have hn0 : n ∈ l0 := by rw [hns]; exact List.mem_append_right _ List.mem_cons_self
    have hdl : done.length < T := by rw [← hl0, hns, List.length_append]; simp
    have hgo : EQ X (d - 1) 75 63 [(5, .ref n), (4, .int i), (3, .int 0), (2, .int 0), (1, .int (Int32.ofNat done.length)), (0, .ref ty)] [] (NS σ tr T φ TR) Q := by
      have c_n2 : sC (sU (NS σ tr T φ TR) n 41 (.int (Int32.ofNat done.length))) 1 n = true := c_n
      refine f_go (pc1 := 66) (lv1 := [(5, .ref n), (4, .int i), (3, .int 0), (2, .int 0), (1, .int (Int32.ofNat done.length)), (0, .ref ty)]) (st1 := [.int (Int32.ofNat done.length), .ref n]) 2 rfl ?_
      refine f_putf rfl rfl (g := 41) rfl c_n rfl ?_
      rw [NS_set]
      refine f_go (pc1 := 70) (lv1 := [(5, .ref n), (4, .int i), (3, .int 0), (2, .int 0), (1, .int (Int32.ofNat done.length)), (0, .ref ty)]) (st1 := [.ref ty]) 1 rfl ?_
      refine f_getf rfl rfl (g := 290) rfl cty ty_row ?_
      refine f_go (pc1 := 76) (lv1 := [(5, .ref n), (4, .int i), (3, .int 0), (2, .int 0), (1, .int (Int32.ofNat done.length)), (0, .ref ty)]) (st1 := [.ref n, .int (Int32.ofNat done.length), .ref tr]) 2 rfl ?_
      refine f_aast rfl NS_R (i := done.length) c_n rfl rfl rfl hdl (by omega) ?_
      rw [NS_put]
      rcases n_k with n_k | n_k
      ·
        refine f_go (pc1 := 174) (lv1 := [(1, .int ((Int32.ofNat done.length) + 1)), (5, .ref n), (4, .int i), (3, .int 0), (2, .int 0), (0, .ref ty)]) (st1 := [.ref n]) 3 rfl ?_
        refine f_getf rfl rfl (g := 32) rfl c_n n_k ?_
        refine f_go (pc1 := 219) (lv1 := [(1, .int ((Int32.ofNat done.length) + 1)), (5, .ref n), (4, .int i), (3, .int 0), (2, .int 0), (0, .ref ty)]) (st1 := [.ref n]) 3 rfl ?_
        refine f_getf rfl rfl (g := 37) rfl c_n n_next ?_
        refine f_ast rfl r.head? rfl ?_
        refine f_go (pc1 := 31) (lv1 := [(5, va_rf r.head?), (1, .int ((Int32.ofNat done.length) + 1)), (4, .int i), (3, .int 0), (2, .int 0), (0, .ref ty)]) (st1 := []) 1 rfl ?_
        rw [nat_s done.length]
        have hlen : (done ++ [n]).length = done.length + 1 := by simp
        refine f_lv [(5, va_rf r.head?), (4, .int i), (3, .int 0), (2, .int 0), (1, .int (Int32.ofNat (done.length + 1))), (0, .ref ty)] (fl_c rfl (fl_c rfl (fl_c rfl (fl_c rfl (fl_c rfl (fl_c rfl fl_0)))))) ?_
        have ih := ih (done ++ [n]) r.head? (fun b => bif Nat.beq b n then .int (Int32.ofNat done.length) else φ b) (va_up TR done.length (some n)) (by rw [hns]; simp) hc2 hs2 (fun x hx => ?_) (fun b hb => ?_)
        · rw [hlen] at ih
          exact ih
        · by_cases e : x = done.length
          · subst e
            rw [va_up_self, hns]
            simp
          · rw [show va_up TR done.length (some n) x = TR x by simp [va_up, e]]
            exact hTR x (by rw [hlen] at hx; omega)
        · have e : b ≠ n := fun e => hb (e ▸ hn0)
          simp only [nb_ne e, cond_false]
          exact hφ b hb
      ·
        refine f_go (pc1 := 174) (lv1 := [(1, .int ((Int32.ofNat done.length) + 1)), (5, .ref n), (4, .int i), (3, .int 0), (2, .int 0), (0, .ref ty)]) (st1 := [.ref n]) 3 rfl ?_
        refine f_getf rfl rfl (g := 32) rfl c_n n_k ?_
        refine f_go (pc1 := 219) (lv1 := [(1, .int ((Int32.ofNat done.length) + 1)), (5, .ref n), (4, .int i), (3, .int 0), (2, .int 0), (0, .ref ty)]) (st1 := [.ref n]) 3 rfl ?_
        refine f_getf rfl rfl (g := 37) rfl c_n n_next ?_
        refine f_ast rfl r.head? rfl ?_
        refine f_go (pc1 := 31) (lv1 := [(5, va_rf r.head?), (1, .int ((Int32.ofNat done.length) + 1)), (4, .int i), (3, .int 0), (2, .int 0), (0, .ref ty)]) (st1 := []) 1 rfl ?_
        rw [nat_s done.length]
        have hlen : (done ++ [n]).length = done.length + 1 := by simp
        refine f_lv [(5, va_rf r.head?), (4, .int i), (3, .int 0), (2, .int 0), (1, .int (Int32.ofNat (done.length + 1))), (0, .ref ty)] (fl_c rfl (fl_c rfl (fl_c rfl (fl_c rfl (fl_c rfl (fl_c rfl fl_0)))))) ?_
        have ih := ih (done ++ [n]) r.head? (fun b => bif Nat.beq b n then .int (Int32.ofNat done.length) else φ b) (va_up TR done.length (some n)) (by rw [hns]; simp) hc2 hs2 (fun x hx => ?_) (fun b hb => ?_)
        · rw [hlen] at ih
          exact ih
        · by_cases e : x = done.length
          · subst e
            rw [va_up_self, hns]
            simp
          · rw [show va_up TR done.length (some n) x = TR x by simp [va_up, e]]
            exact hTR x (by rw [hlen] at hx; omega)
        · have e : b ≠ n := fun e => hb (e ▸ hn0)
          simp only [nb_ne e, cond_false]
          exact hφ b hb
    rcases n_k with n_k | n_k
    ·
      refine f_go (pc1 := 38) (lv1 := [(5, .ref n), (4, .int i), (3, .int 0), (2, .int 0), (1, .int (Int32.ofNat done.length)), (0, .ref ty)]) (st1 := [.ref n]) 3 rfl ?_
      refine f_getf rfl rfl (g := 32) rfl c_n n_k ?_
      refine f_go (pc1 := 56) (lv1 := [(5, .ref n), (4, .int i), (3, .int 0), (2, .int 0), (1, .int (Int32.ofNat done.length)), (0, .ref ty)]) (st1 := [.ref ty, .int (Int32.ofNat done.length)]) 4 rfl ?_
      refine f_getf rfl rfl (g := 290) rfl cty ty_row ?_
      refine f_alR rfl NS_R rfl ?_
      refine f_icmp (t := 83) rfl rfl false (nat_lt (by omega) (by omega) hdl) ?_
      refine f_lv [(5, .ref n), (4, .int i), (3, .int 0), (2, .int 0), (1, .int (Int32.ofNat done.length)), (0, .ref ty)] (fl_c rfl (fl_c rfl (fl_c rfl (fl_c rfl (fl_c rfl (fl_c rfl fl_0)))))) ?_
      exact hgo
    ·
      refine f_go (pc1 := 38) (lv1 := [(5, .ref n), (4, .int i), (3, .int 0), (2, .int 0), (1, .int (Int32.ofNat done.length)), (0, .ref ty)]) (st1 := [.ref n]) 3 rfl ?_
      refine f_getf rfl rfl (g := 32) rfl c_n n_k ?_
      refine f_go (pc1 := 47) (lv1 := [(5, .ref n), (4, .int i), (3, .int 0), (2, .int 0), (1, .int (Int32.ofNat done.length)), (0, .ref ty)]) (st1 := [.ref n]) 3 rfl ?_
      refine f_getf rfl rfl (g := 32) rfl c_n n_k ?_
      refine f_go (pc1 := 56) (lv1 := [(5, .ref n), (4, .int i), (3, .int 0), (2, .int 0), (1, .int (Int32.ofNat done.length)), (0, .ref ty)]) (st1 := [.ref ty, .int (Int32.ofNat done.length)]) 4 rfl ?_
      refine f_getf rfl rfl (g := 290) rfl cty ty_row ?_
      refine f_alR rfl NS_R rfl ?_
      refine f_icmp (t := 83) rfl rfl false (nat_lt (by omega) (by omega) hdl) ?_
      refine f_lv [(5, .ref n), (4, .int i), (3, .int 0), (2, .int 0), (1, .int (Int32.ofNat done.length)), (0, .ref ty)] (fl_c rfl (fl_c rfl (fl_c rfl (fl_c rfl (fl_c rfl (fl_c rfl fl_0)))))) ?_
      exact hgo
theorem g_numN {τ : fl_S} {i : Int32} {j : Nat} (next : EQ X (d - 1) 75 9 [(4, .int (i + 1)), (3, .int 0), (2, .int 0), (1, .int (Int32.ofNat j)), (0, .ref ty)] [] τ Q) :
    ∀ (l : List Nat) (c : Option Nat), Ll (fun a => sF τ a 37) (va_rf c) l → (∀ a ∈ l, sC τ 1 a = true ∧ ∃ kd, sF τ a 32 = .int kd ∧ ¬ kd = 3 ∧ ¬ kd = 4 ∧ ¬ kd = 8 ∧ ¬ kd = 9) → EQ X (d - 1) 75 31 [(5, va_rf c), (4, .int i), (3, .int 0), (2, .int 0), (1, .int (Int32.ofNat j)), (0, .ref ty)] [] τ Q := by
  intro l
  induction l with
  | nil =>
    intro c hc hs
    have hc : va_rf c = .null := hc
    rw [hc]
    refine f_go (pc1 := 9) (lv1 := [(4, .int (i + 1)), (5, .null), (3, .int 0), (2, .int 0), (1, .int (Int32.ofNat j)), (0, .ref ty)]) (st1 := []) 4 rfl ?_
    refine f_lv [(4, .int (i + 1)), (3, .int 0), (2, .int 0), (1, .int (Int32.ofNat j)), (0, .ref ty)] (fl_c rfl (fl_c rfl (fl_c rfl (fl_c rfl (fl_c rfl fl_0))))) ?_
    exact next
  | cons n r ih =>
    intro c hc hs
    obtain ⟨hc1, hc2⟩ := hc
    rw [hc1]
    have hc2 : Ll (fun a => sF τ a 37) (sF τ n 37) r := hc2
    have n_next := hc2.hd
    rw [n_next] at hc2
    obtain ⟨c_n, kd, n_kind, k3, k4, k8, k9⟩ := hs n List.mem_cons_self
    refine f_go (pc1 := 38) (lv1 := [(5, .ref n), (4, .int i), (3, .int 0), (2, .int 0), (1, .int (Int32.ofNat j)), (0, .ref ty)]) (st1 := [.ref n]) 3 rfl ?_
    refine f_getf rfl rfl (g := 32) rfl c_n n_kind ?_
    refine f_go (pc1 := 42) (lv1 := [(5, .ref n), (4, .int i), (3, .int 0), (2, .int 0), (1, .int (Int32.ofNat j)), (0, .ref ty)]) (st1 := [.int 3, .int kd]) 1 rfl ?_
    refine f_icmp (t := 54) rfl rfl false (ic_eqn k3) ?_
    refine f_go (pc1 := 47) (lv1 := [(5, .ref n), (4, .int i), (3, .int 0), (2, .int 0), (1, .int (Int32.ofNat j)), (0, .ref ty)]) (st1 := [.ref n]) 1 rfl ?_
    refine f_getf rfl rfl (g := 32) rfl c_n n_kind ?_
    refine f_go (pc1 := 51) (lv1 := [(5, .ref n), (4, .int i), (3, .int 0), (2, .int 0), (1, .int (Int32.ofNat j)), (0, .ref ty)]) (st1 := [.int 4, .int kd]) 1 rfl ?_
    refine f_icmp (t := 83) rfl rfl true (ic_ne k4) ?_
    refine f_go (pc1 := 85) (lv1 := [(5, .ref n), (4, .int i), (3, .int 0), (2, .int 0), (1, .int (Int32.ofNat j)), (0, .ref ty)]) (st1 := [.ref n]) 1 rfl ?_
    refine f_getf rfl rfl (g := 32) rfl c_n n_kind ?_
    refine f_go (pc1 := 90) (lv1 := [(5, .ref n), (4, .int i), (3, .int 0), (2, .int 0), (1, .int (Int32.ofNat j)), (0, .ref ty)]) (st1 := [.int 8, .int kd]) 1 rfl ?_
    refine f_icmp (t := 105) rfl rfl true (ic_ne k8) ?_
    refine f_go (pc1 := 107) (lv1 := [(5, .ref n), (4, .int i), (3, .int 0), (2, .int 0), (1, .int (Int32.ofNat j)), (0, .ref ty)]) (st1 := [.ref n]) 1 rfl ?_
    refine f_getf rfl rfl (g := 32) rfl c_n n_kind ?_
    refine f_go (pc1 := 112) (lv1 := [(5, .ref n), (4, .int i), (3, .int 0), (2, .int 0), (1, .int (Int32.ofNat j)), (0, .ref ty)]) (st1 := [.int 9, .int kd]) 1 rfl ?_
    refine f_icmp (t := 153) rfl rfl true (ic_ne k9) ?_
    refine f_go (pc1 := 155) (lv1 := [(5, .ref n), (4, .int i), (3, .int 0), (2, .int 0), (1, .int (Int32.ofNat j)), (0, .ref ty)]) (st1 := [.ref n]) 1 rfl ?_
    refine f_getf rfl rfl (g := 32) rfl c_n n_kind ?_
    refine f_go (pc1 := 160) (lv1 := [(5, .ref n), (4, .int i), (3, .int 0), (2, .int 0), (1, .int (Int32.ofNat j)), (0, .ref ty)]) (st1 := [.int 9, .int kd]) 1 rfl ?_
    refine f_icmp (t := 172) rfl rfl true (ic_ne k9) ?_
    refine f_go (pc1 := 174) (lv1 := [(5, .ref n), (4, .int i), (3, .int 0), (2, .int 0), (1, .int (Int32.ofNat j)), (0, .ref ty)]) (st1 := [.ref n]) 1 rfl ?_
    refine f_getf rfl rfl (g := 32) rfl c_n n_kind ?_
    refine f_go (pc1 := 179) (lv1 := [(5, .ref n), (4, .int i), (3, .int 0), (2, .int 0), (1, .int (Int32.ofNat j)), (0, .ref ty)]) (st1 := [.int 9, .int kd]) 1 rfl ?_
    refine f_icmp (t := 217) rfl rfl true (ic_ne k9) ?_
    refine f_go (pc1 := 219) (lv1 := [(5, .ref n), (4, .int i), (3, .int 0), (2, .int 0), (1, .int (Int32.ofNat j)), (0, .ref ty)]) (st1 := [.ref n]) 1 rfl ?_
    refine f_getf rfl rfl (g := 37) rfl c_n n_next ?_
    refine f_ast rfl r.head? rfl ?_
    refine f_go (pc1 := 31) (lv1 := [(5, va_rf r.head?), (4, .int i), (3, .int 0), (2, .int 0), (1, .int (Int32.ofNat j)), (0, .ref ty)]) (st1 := []) 1 rfl ?_
    refine f_lv [(5, va_rf r.head?), (4, .int i), (3, .int 0), (2, .int 0), (1, .int (Int32.ofNat j)), (0, .ref ty)] (fl_c rfl (fl_c rfl (fl_c rfl (fl_c rfl (fl_c rfl (fl_c rfl fl_0)))))) ?_
    exact ih _ hc2 (fun x hx => hs x (List.mem_cons_of_mem _ hx))
end NUM
theorem g_number {X : ev_X} {d : Nat} {σ : fl_S} (hd : 1 ≤ d) {ty ur tr T : Nat} {us : Nat → Nat} {ds : Nat → List Nat} {TR0 : Nat → Option Nat} (hU : UW σ ty ur 5 us ds) (ty_row : sF σ ty 290 = .ref tr) (htr : sR σ tr = some (2, T, TR0)) (hne : ur ≠ tr) (hT : T < 100000) (hlen : (ds 0).length = T) (h0 : ∀ a ∈ ds 0, sF σ a 32 = .int 3 ∨ sF σ a 32 = .int 4) (h1 : ∀ a ∈ ds 1, ∃ kd, sF σ a 32 = .int kd ∧ ¬ kd = 3 ∧ ¬ kd = 4 ∧ ¬ kd = 8 ∧ ¬ kd = 9) (h2 : ∀ a ∈ ds 2, ∃ kd, sF σ a 32 = .int kd ∧ ¬ kd = 3 ∧ ¬ kd = 4 ∧ ¬ kd = 8 ∧ ¬ kd = 9) (h3 : ∀ a ∈ ds 3, ∃ kd, sF σ a 32 = .int kd ∧ ¬ kd = 3 ∧ ¬ kd = 4 ∧ ¬ kd = 8 ∧ ¬ kd = 9) (h4 : ∀ a ∈ ds 4, ∃ kd, sF σ a 32 = .int kd ∧ ¬ kd = 3 ∧ ¬ kd = 4 ∧ ¬ kd = 8 ∧ ¬ kd = 9) : CQ X d 75 [.ref ty] σ (fun v σ1 => v = none ∧ ∃ φ TR, σ1 = NS σ tr T φ TR ∧ (∀ x, x < T → TR x = (ds 0)[x]?) ∧ (∀ b, b ∉ ds 0 → φ b = sF σ b 41)) := by
  obtain ⟨cty, ty_ur, ⟨UR, hur, hUR⟩, hU1, hus⟩ := hU
  refine f_meth (by omega) rfl ?_
  refine f_cv (σ1 := NS σ tr T (fun b => sF σ b 41) TR0) ?_ ?_
  · unfold NS
    rw [sS_same]
    refine Prod.ext rfl (Prod.ext rfl (Prod.ext rfl (Prod.ext rfl (Prod.ext ?_ rfl))))
    funext b
    show aU (sR σ) tr (2, T, TR0) b = sR σ b
    by_cases e : b = tr
    · subst e; rw [aU_at, htr]
    · rw [aU_ne e]
  refine f_go (pc1 := 9) (lv1 := [(4, .int 0), (3, .int 0), (2, .int 0), (1, .int 0), (0, .ref ty)]) (st1 := []) 8 rfl ?_
  refine f_lv [(4, .int 0), (3, .int 0), (2, .int 0), (1, .int (Int32.ofNat 0)), (0, .ref ty)] (fl_c rfl (fl_c rfl (fl_c rfl (fl_c rfl (fl_c rfl fl_0))))) ?_
  refine f_go (pc1 := 12) (lv1 := [(4, .int 0), (3, .int 0), (2, .int 0), (1, .int (Int32.ofNat 0)), (0, .ref ty)]) (st1 := [.ref ty, .int 0]) 2 rfl ?_
  refine f_getf rfl rfl (g := 289) rfl cty ty_ur ?_
  refine f_alR rfl ((NS_Rn hne).trans hur) rfl ?_
  refine f_icmp (t := 233) rfl rfl false (nat_lt (m := 0) (n := 5) (by decide) (by decide) (by decide)) ?_
  refine f_go (pc1 := 20) (lv1 := [(4, .int 0), (3, .int 0), (2, .int 0), (1, .int (Int32.ofNat 0)), (0, .ref ty)]) (st1 := [.ref ty]) 1 rfl ?_
  refine f_getf rfl rfl (g := 289) rfl cty ty_ur ?_
  refine f_go (pc1 := 25) (lv1 := [(4, .int 0), (3, .int 0), (2, .int 0), (1, .int (Int32.ofNat 0)), (0, .ref ty)]) (st1 := [.int 0, .ref ur]) 1 rfl ?_
  refine f_aald rfl ((NS_Rn hne).trans hur) (i := 0) (o := (some (us 0))) rfl (by decide) (by decide) (hUR 0 (by decide)) ?_
  show EQ _ _ 75 26 [(4, .int 0), (3, .int 0), (2, .int 0), (1, .int (Int32.ofNat 0)), (0, .ref ty)] [.ref (us 0)] _ _
  refine f_getf rfl rfl (g := 43) rfl (hus 0 (by decide)).1 (hus 0 (by decide)).2.1.hd ?_
  refine f_ast rfl (ds 0).head? rfl ?_
  refine f_lv [(5, va_rf (ds 0).head?), (4, .int 0), (3, .int 0), (2, .int 0), (1, .int (Int32.ofNat 0)), (0, .ref ty)] (fl_c rfl (fl_c rfl (fl_c rfl (fl_c rfl (fl_c rfl (fl_c rfl fl_0)))))) ?_
  have q0 := (hus 0 (by decide)).2.1
  have q0x := q0.hd
  rw [q0x] at q0
  refine g_numT cty ty_row hT (i := 0) hlen ?_ (ds 0) [] _ _ TR0 rfl q0 (fun a ha => ⟨(hus 0 (by decide)).2.2 a ha, h0 a ha⟩) (fun x hx => by cases hx) (fun b hb => rfl)
  intro φ TR hTR hφ
  refine f_lv [(4, .int 1), (3, .int 0), (2, .int 0), (1, .int (Int32.ofNat T)), (0, .ref ty)] (fl_c rfl (fl_c rfl (fl_c rfl (fl_c rfl (fl_c rfl fl_0))))) ?_
  refine f_go (pc1 := 12) (lv1 := [(4, .int 1), (3, .int 0), (2, .int 0), (1, .int (Int32.ofNat T)), (0, .ref ty)]) (st1 := [.ref ty, .int 1]) 2 rfl ?_
  refine f_getf rfl rfl (g := 289) rfl cty ty_ur ?_
  refine f_alR rfl ((NS_Rn hne).trans hur) rfl ?_
  refine f_icmp (t := 233) rfl rfl false (nat_lt (m := 1) (n := 5) (by decide) (by decide) (by decide)) ?_
  refine f_go (pc1 := 20) (lv1 := [(4, .int 1), (3, .int 0), (2, .int 0), (1, .int (Int32.ofNat T)), (0, .ref ty)]) (st1 := [.ref ty]) 1 rfl ?_
  refine f_getf rfl rfl (g := 289) rfl cty ty_ur ?_
  refine f_go (pc1 := 25) (lv1 := [(4, .int 1), (3, .int 0), (2, .int 0), (1, .int (Int32.ofNat T)), (0, .ref ty)]) (st1 := [.int 1, .ref ur]) 1 rfl ?_
  refine f_aald rfl ((NS_Rn hne).trans hur) (i := 1) (o := (some (us 1))) rfl (by decide) (by decide) (hUR 1 (by decide)) ?_
  show EQ _ _ 75 26 [(4, .int 1), (3, .int 0), (2, .int 0), (1, .int (Int32.ofNat T)), (0, .ref ty)] [.ref (us 1)] _ _
  refine f_getf rfl rfl (g := 43) rfl (hus 1 (by decide)).1 (hus 1 (by decide)).2.1.hd ?_
  refine f_ast rfl (ds 1).head? rfl ?_
  refine f_lv [(5, va_rf (ds 1).head?), (4, .int 1), (3, .int 0), (2, .int 0), (1, .int (Int32.ofNat T)), (0, .ref ty)] (fl_c rfl (fl_c rfl (fl_c rfl (fl_c rfl (fl_c rfl (fl_c rfl fl_0)))))) ?_
  have q1 := (hus 1 (by decide)).2.1
  have q1x := q1.hd
  rw [q1x] at q1
  refine g_numN (i := 1) (j := T) ?_ (ds 1) _ q1 (fun a ha => ⟨(hus 1 (by decide)).2.2 a ha, h1 a ha⟩)
  refine f_lv [(4, .int 2), (3, .int 0), (2, .int 0), (1, .int (Int32.ofNat T)), (0, .ref ty)] (fl_c rfl (fl_c rfl (fl_c rfl (fl_c rfl (fl_c rfl fl_0))))) ?_
  refine f_go (pc1 := 12) (lv1 := [(4, .int 2), (3, .int 0), (2, .int 0), (1, .int (Int32.ofNat T)), (0, .ref ty)]) (st1 := [.ref ty, .int 2]) 2 rfl ?_
  refine f_getf rfl rfl (g := 289) rfl cty ty_ur ?_
  refine f_alR rfl ((NS_Rn hne).trans hur) rfl ?_
  refine f_icmp (t := 233) rfl rfl false (nat_lt (m := 2) (n := 5) (by decide) (by decide) (by decide)) ?_
  refine f_go (pc1 := 20) (lv1 := [(4, .int 2), (3, .int 0), (2, .int 0), (1, .int (Int32.ofNat T)), (0, .ref ty)]) (st1 := [.ref ty]) 1 rfl ?_
  refine f_getf rfl rfl (g := 289) rfl cty ty_ur ?_
  refine f_go (pc1 := 25) (lv1 := [(4, .int 2), (3, .int 0), (2, .int 0), (1, .int (Int32.ofNat T)), (0, .ref ty)]) (st1 := [.int 2, .ref ur]) 1 rfl ?_
  refine f_aald rfl ((NS_Rn hne).trans hur) (i := 2) (o := (some (us 2))) rfl (by decide) (by decide) (hUR 2 (by decide)) ?_
  show EQ _ _ 75 26 [(4, .int 2), (3, .int 0), (2, .int 0), (1, .int (Int32.ofNat T)), (0, .ref ty)] [.ref (us 2)] _ _
  refine f_getf rfl rfl (g := 43) rfl (hus 2 (by decide)).1 (hus 2 (by decide)).2.1.hd ?_
  refine f_ast rfl (ds 2).head? rfl ?_
  refine f_lv [(5, va_rf (ds 2).head?), (4, .int 2), (3, .int 0), (2, .int 0), (1, .int (Int32.ofNat T)), (0, .ref ty)] (fl_c rfl (fl_c rfl (fl_c rfl (fl_c rfl (fl_c rfl (fl_c rfl fl_0)))))) ?_
  have q2 := (hus 2 (by decide)).2.1
  have q2x := q2.hd
  rw [q2x] at q2
  refine g_numN (i := 2) (j := T) ?_ (ds 2) _ q2 (fun a ha => ⟨(hus 2 (by decide)).2.2 a ha, h2 a ha⟩)
  refine f_lv [(4, .int 3), (3, .int 0), (2, .int 0), (1, .int (Int32.ofNat T)), (0, .ref ty)] (fl_c rfl (fl_c rfl (fl_c rfl (fl_c rfl (fl_c rfl fl_0))))) ?_
  refine f_go (pc1 := 12) (lv1 := [(4, .int 3), (3, .int 0), (2, .int 0), (1, .int (Int32.ofNat T)), (0, .ref ty)]) (st1 := [.ref ty, .int 3]) 2 rfl ?_
  refine f_getf rfl rfl (g := 289) rfl cty ty_ur ?_
  refine f_alR rfl ((NS_Rn hne).trans hur) rfl ?_
  refine f_icmp (t := 233) rfl rfl false (nat_lt (m := 3) (n := 5) (by decide) (by decide) (by decide)) ?_
  refine f_go (pc1 := 20) (lv1 := [(4, .int 3), (3, .int 0), (2, .int 0), (1, .int (Int32.ofNat T)), (0, .ref ty)]) (st1 := [.ref ty]) 1 rfl ?_
  refine f_getf rfl rfl (g := 289) rfl cty ty_ur ?_
  refine f_go (pc1 := 25) (lv1 := [(4, .int 3), (3, .int 0), (2, .int 0), (1, .int (Int32.ofNat T)), (0, .ref ty)]) (st1 := [.int 3, .ref ur]) 1 rfl ?_
  refine f_aald rfl ((NS_Rn hne).trans hur) (i := 3) (o := (some (us 3))) rfl (by decide) (by decide) (hUR 3 (by decide)) ?_
  show EQ _ _ 75 26 [(4, .int 3), (3, .int 0), (2, .int 0), (1, .int (Int32.ofNat T)), (0, .ref ty)] [.ref (us 3)] _ _
  refine f_getf rfl rfl (g := 43) rfl (hus 3 (by decide)).1 (hus 3 (by decide)).2.1.hd ?_
  refine f_ast rfl (ds 3).head? rfl ?_
  refine f_lv [(5, va_rf (ds 3).head?), (4, .int 3), (3, .int 0), (2, .int 0), (1, .int (Int32.ofNat T)), (0, .ref ty)] (fl_c rfl (fl_c rfl (fl_c rfl (fl_c rfl (fl_c rfl (fl_c rfl fl_0)))))) ?_
  have q3 := (hus 3 (by decide)).2.1
  have q3x := q3.hd
  rw [q3x] at q3
  refine g_numN (i := 3) (j := T) ?_ (ds 3) _ q3 (fun a ha => ⟨(hus 3 (by decide)).2.2 a ha, h3 a ha⟩)
  refine f_lv [(4, .int 4), (3, .int 0), (2, .int 0), (1, .int (Int32.ofNat T)), (0, .ref ty)] (fl_c rfl (fl_c rfl (fl_c rfl (fl_c rfl (fl_c rfl fl_0))))) ?_
  refine f_go (pc1 := 12) (lv1 := [(4, .int 4), (3, .int 0), (2, .int 0), (1, .int (Int32.ofNat T)), (0, .ref ty)]) (st1 := [.ref ty, .int 4]) 2 rfl ?_
  refine f_getf rfl rfl (g := 289) rfl cty ty_ur ?_
  refine f_alR rfl ((NS_Rn hne).trans hur) rfl ?_
  refine f_icmp (t := 233) rfl rfl false (nat_lt (m := 4) (n := 5) (by decide) (by decide) (by decide)) ?_
  refine f_go (pc1 := 20) (lv1 := [(4, .int 4), (3, .int 0), (2, .int 0), (1, .int (Int32.ofNat T)), (0, .ref ty)]) (st1 := [.ref ty]) 1 rfl ?_
  refine f_getf rfl rfl (g := 289) rfl cty ty_ur ?_
  refine f_go (pc1 := 25) (lv1 := [(4, .int 4), (3, .int 0), (2, .int 0), (1, .int (Int32.ofNat T)), (0, .ref ty)]) (st1 := [.int 4, .ref ur]) 1 rfl ?_
  refine f_aald rfl ((NS_Rn hne).trans hur) (i := 4) (o := (some (us 4))) rfl (by decide) (by decide) (hUR 4 (by decide)) ?_
  show EQ _ _ 75 26 [(4, .int 4), (3, .int 0), (2, .int 0), (1, .int (Int32.ofNat T)), (0, .ref ty)] [.ref (us 4)] _ _
  refine f_getf rfl rfl (g := 43) rfl (hus 4 (by decide)).1 (hus 4 (by decide)).2.1.hd ?_
  refine f_ast rfl (ds 4).head? rfl ?_
  refine f_lv [(5, va_rf (ds 4).head?), (4, .int 4), (3, .int 0), (2, .int 0), (1, .int (Int32.ofNat T)), (0, .ref ty)] (fl_c rfl (fl_c rfl (fl_c rfl (fl_c rfl (fl_c rfl (fl_c rfl fl_0)))))) ?_
  have q4 := (hus 4 (by decide)).2.1
  have q4x := q4.hd
  rw [q4x] at q4
  refine g_numN (i := 4) (j := T) ?_ (ds 4) _ q4 (fun a ha => ⟨(hus 4 (by decide)).2.2 a ha, h4 a ha⟩)
  refine f_lv [(4, .int 5), (3, .int 0), (2, .int 0), (1, .int (Int32.ofNat T)), (0, .ref ty)] (fl_c rfl (fl_c rfl (fl_c rfl (fl_c rfl (fl_c rfl fl_0))))) ?_
  refine f_go (pc1 := 12) (lv1 := [(4, .int 5), (3, .int 0), (2, .int 0), (1, .int (Int32.ofNat T)), (0, .ref ty)]) (st1 := [.ref ty, .int 5]) 2 rfl ?_
  refine f_getf rfl rfl (g := 289) rfl cty ty_ur ?_
  refine f_alR rfl ((NS_Rn hne).trans hur) rfl ?_
  refine f_icmp (t := 233) rfl rfl true (nat_geT (m := 5) (n := 5) (by decide) (by decide) (by decide)) ?_
  exact f_rtQ rfl rfl ⟨rfl, φ, TR, rfl, hTR, hφ⟩
