/-! what is made: Names, Types -/
/-- what is told of the heap may be forgotten -/
def Wk (σ2 σ1 : fl_S) : Prop := (∀ ci a, sC σ2 ci a = true → sC σ1 ci a = true ∧ fl_l (sF σ1) ci a = fl_l (sF σ2) ci a) ∧ (∀ a x, sI σ2 a = some x → sI σ1 a = some x) ∧ (∀ a x, sY σ2 a = some x → sY σ1 a = some x) ∧ (∀ a x, sR σ2 a = some x → sR σ1 a = some x) ∧ sZ σ2 = sZ σ1 ∧ sc σ2 = sc σ1 ∧ ss σ2 = ss σ1
theorem Wk.hp {t : ev_T} {σ2 σ1 : fl_S} (hw : Wk σ2 σ1) (h : Hp t σ1) : Hp t σ2 := by
  obtain ⟨w1, w2, w3, w4, w5, w6, w7⟩ := hw
  obtain ⟨h1, h2, h3, h4, h5⟩ := h
  rw [← w5] at h1 h2 h3 h4 h5
  refine ⟨fun ci a ha => ?_, fun a x ha => h2 a x (w2 a x ha), fun a x ha => h3 a x (w3 a x ha), fun a x ha => h4 a x (w4 a x ha), h5⟩
  obtain ⟨g1, g2⟩ := w1 ci a ha
  have := h1 ci a g1
  rw [g2] at this
  exact this
theorem f_weak {X : ev_X} {d k pc : Nat} {lv : ev_L} {st : List Value} {σ1 : fl_S} {Q : Option Value → fl_S → Prop} (σ2 : fl_S) (hw : Wk σ2 σ1) (next : EQ X d k pc lv st σ2 Q) : EQ X d k pc lv st σ1 Q := fun t c s ht => by
  obtain ⟨r, σ', t', mc, ms, q, a, b, c', e⟩ := next t c s (hw.hp ht)
  obtain ⟨w1, w2, w3, w4, w5, w6, w7⟩ := hw
  rw [w6] at b; rw [w7] at c'; rw [w5] at e
  exact ⟨r, σ', t', mc, ms, q, a, b, c', e⟩
theorem f_known {X : ev_X} {d k pc : Nat} {lv : ev_L} {st : List Value} {σ : fl_S} {Q : Option Value → fl_S → Prop} (h : (∀ ci a, sC σ ci a = true → a < sZ σ) → EQ X d k pc lv st σ Q) : EQ X d k pc lv st σ Q := fun t c s ht => h (fun ci a hc => (ht.1 ci a hc).1) t c s ht
theorem g_nodeInit {X : ev_X} {d : Nat} {σ : fl_S} (hd : 1 ≤ d) {a : Nat} {k i ln : Int32} (c_a : sC σ 4 a = true) : CF X d 115 [.ref a, .int k, .int i, .int ln, .null] σ none (sU (sU (sU (sU (sU σ a 143 (.int (-1))) a 128 (.int k)) a 129 (.int i)) a 130 (.int ln)) a 131 .null) := by
  refine f_meth (by omega) rfl ?_
  refine f_go (pc1 := 1) (lv1 := [(0, .ref a), (1, .int k), (2, .int i), (3, .int ln), (4, .null)]) (st1 := [.ref a]) 1 rfl ?_
  refine f_xm (st1 := []) rfl rfl ?_
  refine f_go (pc1 := 6) (lv1 := [(0, .ref a), (1, .int k), (2, .int i), (3, .int ln), (4, .null)]) (st1 := [.int (-1), .ref a]) 2 rfl ?_
  refine f_putf rfl rfl (g := 143) rfl c_a rfl ?_
  have hu1 : sF (sU σ a 143 (.int (-1))) a 143 = .int (-1) := sU_at
  refine f_go (pc1 := 11) (lv1 := [(0, .ref a), (1, .int k), (2, .int i), (3, .int ln), (4, .null)]) (st1 := [.int k, .ref a]) 2 rfl ?_
  refine f_putf rfl rfl (g := 128) rfl c_a rfl ?_
  have hu2 : sF (sU (sU σ a 143 (.int (-1))) a 128 (.int k)) a 128 = .int k := sU_at
  refine f_go (pc1 := 16) (lv1 := [(0, .ref a), (1, .int k), (2, .int i), (3, .int ln), (4, .null)]) (st1 := [.int i, .ref a]) 2 rfl ?_
  refine f_putf rfl rfl (g := 129) rfl c_a rfl ?_
  have hu3 : sF (sU (sU (sU σ a 143 (.int (-1))) a 128 (.int k)) a 129 (.int i)) a 129 = .int i := sU_at
  refine f_go (pc1 := 21) (lv1 := [(0, .ref a), (1, .int k), (2, .int i), (3, .int ln), (4, .null)]) (st1 := [.int ln, .ref a]) 2 rfl ?_
  refine f_putf rfl rfl (g := 130) rfl c_a rfl ?_
  have hu4 : sF (sU (sU (sU (sU σ a 143 (.int (-1))) a 128 (.int k)) a 129 (.int i)) a 130 (.int ln)) a 130 = .int ln := sU_at
  refine f_go (pc1 := 27) (lv1 := [(0, .ref a), (1, .int k), (2, .int i), (3, .int ln), (4, .null)]) (st1 := [.null, .ref a]) 2 rfl ?_
  refine f_putf rfl rfl (g := 131) rfl c_a rfl ?_
  have hu5 : sF (sU (sU (sU (sU (sU σ a 143 (.int (-1))) a 128 (.int k)) a 129 (.int i)) a 130 (.int ln)) a 131 .null) a 131 = .null := sU_at
  exact f_rt rfl rfl
theorem g_namesInit {X : ev_X} {d : Nat} {σ : fl_S} (hd : 1 ≤ d) {a ps : Nat} (c_a : sC σ 3 a = true) : CF X d 61 [.ref a, .ref ps] σ none (sU (sU σ a 97 (.int 2147483647)) a 96 (.ref ps)) := by
  refine f_meth (by omega) rfl ?_
  refine f_go (pc1 := 1) (lv1 := [(0, .ref a), (1, .ref ps)]) (st1 := [.ref a]) 1 rfl ?_
  refine f_xm (st1 := []) rfl rfl ?_
  refine f_go (pc1 := 5) (lv1 := [(0, .ref a), (1, .ref ps)]) (st1 := [.ref a]) 1 rfl ?_
  refine f_ldc rfl ?_
  refine f_putf rfl rfl (g := 97) rfl c_a rfl ?_
  have hu6 : sF (sU σ a 97 (.int 2147483647)) a 97 = .int 2147483647 := sU_at
  refine f_go (pc1 := 12) (lv1 := [(0, .ref a), (1, .ref ps)]) (st1 := [.ref ps, .ref a]) 2 rfl ?_
  refine f_putf rfl rfl (g := 96) rfl c_a rfl ?_
  have hu7 : sF (sU (sU σ a 97 (.int 2147483647)) a 96 (.ref ps)) a 96 = .ref ps := sU_at
  exact f_rt rfl rfl
theorem g_tokens {X : ev_X} {d : Nat} {σ : fl_S} (hd : 1 ≤ d) {ps sc0 : Nat} {x : Int32} (c_ps : sC σ 6 ps = true) (ps_in : sF σ ps 192 = .ref sc0) (c_sc0 : sC σ 7 sc0 = true) (sc0_tokens : sF σ sc0 227 = .int x) : CF X d 28 [.ref ps] σ (some (.int x)) σ := by
  refine f_meth (by omega) rfl ?_
  refine f_go (pc1 := 1) (lv1 := [(0, .ref ps)]) (st1 := [.ref ps]) 1 rfl ?_
  refine f_getf rfl rfl (g := 192) rfl c_ps ps_in ?_
  refine f_getf rfl rfl (g := 227) rfl c_sc0 sc0_tokens ?_
  exact f_rt rfl rfl
theorem g_nodeCount {X : ev_X} {d : Nat} {σ : fl_S} (hd : 1 ≤ d) {ps ln x : Nat} (c_ps : sC σ 6 ps = true) (ps_lastNode : sF σ ps 205 = .ref ln) (c_ln : sC σ 4 ln = true) (ln_index : sF σ ln 129 = .int (Int32.ofNat x)) : CF X d 29 [.ref ps] σ (some (.int (Int32.ofNat (x + 1)))) σ := by
  refine f_meth (by omega) rfl ?_
  refine f_go (pc1 := 1) (lv1 := [(0, .ref ps)]) (st1 := [.ref ps]) 1 rfl ?_
  refine f_getf rfl rfl (g := 205) rfl c_ps ps_lastNode ?_
  refine f_getf rfl rfl (g := 129) rfl c_ln ln_index ?_
  refine f_go (pc1 := 9) (lv1 := [(0, .ref ps)]) (st1 := [.int ((Int32.ofNat x) + 1)]) 2 rfl ?_
  rw [nat_s x]
  exact f_rt rfl rfl
section TINIT
variable {X : ev_X} {d : Nat} {σ : fl_S} {Q : Option Value → fl_S → Prop} {ty ps u : Nat} {nu : Int32}
theorem g_tiT : ∀ (l : List Nat) (c : Option Nat) (j : Nat), Ll (fun a => sF σ a 37) (va_rf c) l → (∀ a ∈ l, sC σ 1 a = true ∧ (sF σ a 32 = .int 3 ∨ sF σ a 32 = .int 4)) → EQ X (d - 1) 73 163 [(5, .ref u), (4, .int 0), (3, .int (Int32.ofNat (j + l.length))), (2, .int nu), (0, .ref ty), (1, .ref ps)] [] σ Q → EQ X (d - 1) 73 102 [(6, va_rf c), (5, .ref u), (4, .int 0), (3, .int (Int32.ofNat j)), (2, .int nu), (0, .ref ty), (1, .ref ps)] [] σ Q := by
  intro l
  induction l with
  | nil =>
    intro c j hc hs next
    have hc : va_rf c = .null := hc
    rw [hc]
    refine f_go (pc1 := 163) (lv1 := [(6, .null), (5, .ref u), (4, .int 0), (3, .int (Int32.ofNat j)), (2, .int nu), (0, .ref ty), (1, .ref ps)]) (st1 := []) 2 rfl ?_
    refine f_lv [(5, .ref u), (4, .int 0), (3, .int (Int32.ofNat j)), (2, .int nu), (0, .ref ty), (1, .ref ps)] (fl_c rfl (fl_c rfl (fl_c rfl (fl_c rfl (fl_c rfl (fl_c rfl fl_0)))))) ?_
    exact next
  | cons n r ih =>
    intro c j hc hs next
    obtain ⟨hc1, hc2⟩ := hc
    rw [hc1]
    have hc2 : Ll (fun a => sF σ a 37) (sF σ n 37) r := hc2
    have n_next := hc2.hd
    rw [n_next] at hc2
    have hs2 := fun x hx => hs x (List.mem_cons_of_mem _ hx)
    obtain ⟨c_n, n_k⟩ := hs n List.mem_cons_self
    rcases n_k with n_k | n_k
    ·
      refine f_go (pc1 := 110) (lv1 := [(6, .ref n), (5, .ref u), (4, .int 0), (3, .int (Int32.ofNat j)), (2, .int nu), (0, .ref ty), (1, .ref ps)]) (st1 := [.ref n, .int (Int32.ofNat j)]) 4 rfl ?_
      refine f_getf rfl rfl (g := 32) rfl c_n n_k ?_
      refine f_go (pc1 := 132) (lv1 := [(6, .ref n), (5, .ref u), (4, .int 0), (3, .int (Int32.ofNat j)), (2, .int nu), (0, .ref ty), (1, .ref ps)]) (st1 := [.int ((Int32.ofNat j) + 1)]) 5 rfl ?_
      rw [show ((Int32.ofNat j) + 1 : Int32) = (Int32.ofNat (j + 1)) from (nat_s j)]
      refine f_go (pc1 := 137) (lv1 := [(3, .int (Int32.ofNat (j + 1))), (6, .ref n), (5, .ref u), (4, .int 0), (2, .int nu), (0, .ref ty), (1, .ref ps)]) (st1 := [.ref n, .int 0]) 3 rfl ?_
      refine f_getf rfl rfl (g := 32) rfl c_n n_k ?_
      refine f_go (pc1 := 155) (lv1 := [(4, .int 0), (3, .int (Int32.ofNat (j + 1))), (6, .ref n), (5, .ref u), (2, .int nu), (0, .ref ty), (1, .ref ps)]) (st1 := [.ref n]) 6 rfl ?_
      refine f_getf rfl rfl (g := 37) rfl c_n n_next ?_
      refine f_ast rfl r.head? rfl ?_
      refine f_go (pc1 := 102) (lv1 := [(6, va_rf r.head?), (4, .int 0), (3, .int (Int32.ofNat (j + 1))), (5, .ref u), (2, .int nu), (0, .ref ty), (1, .ref ps)]) (st1 := []) 1 rfl ?_
      refine f_lv [(6, va_rf r.head?), (5, .ref u), (4, .int 0), (3, .int (Int32.ofNat (j + 1))), (2, .int nu), (0, .ref ty), (1, .ref ps)] (fl_c rfl (fl_c rfl (fl_c rfl (fl_c rfl (fl_c rfl (fl_c rfl (fl_c rfl fl_0))))))) ?_
      exact ih _ (j + 1) hc2 hs2 (by rw [show j + 1 + r.length = j + (n :: r).length by simp; omega]; exact next)
    ·
      refine f_go (pc1 := 110) (lv1 := [(6, .ref n), (5, .ref u), (4, .int 0), (3, .int (Int32.ofNat j)), (2, .int nu), (0, .ref ty), (1, .ref ps)]) (st1 := [.ref n, .int (Int32.ofNat j)]) 4 rfl ?_
      refine f_getf rfl rfl (g := 32) rfl c_n n_k ?_
      refine f_go (pc1 := 119) (lv1 := [(6, .ref n), (5, .ref u), (4, .int 0), (3, .int (Int32.ofNat j)), (2, .int nu), (0, .ref ty), (1, .ref ps)]) (st1 := [.ref n, .int (Int32.ofNat j)]) 3 rfl ?_
      refine f_getf rfl rfl (g := 32) rfl c_n n_k ?_
      refine f_go (pc1 := 132) (lv1 := [(6, .ref n), (5, .ref u), (4, .int 0), (3, .int (Int32.ofNat j)), (2, .int nu), (0, .ref ty), (1, .ref ps)]) (st1 := [.int ((Int32.ofNat j) + 1)]) 5 rfl ?_
      rw [show ((Int32.ofNat j) + 1 : Int32) = (Int32.ofNat (j + 1)) from (nat_s j)]
      refine f_go (pc1 := 137) (lv1 := [(3, .int (Int32.ofNat (j + 1))), (6, .ref n), (5, .ref u), (4, .int 0), (2, .int nu), (0, .ref ty), (1, .ref ps)]) (st1 := [.ref n, .int 0]) 3 rfl ?_
      refine f_getf rfl rfl (g := 32) rfl c_n n_k ?_
      refine f_go (pc1 := 155) (lv1 := [(4, .int 0), (3, .int (Int32.ofNat (j + 1))), (6, .ref n), (5, .ref u), (2, .int nu), (0, .ref ty), (1, .ref ps)]) (st1 := [.ref n]) 6 rfl ?_
      refine f_getf rfl rfl (g := 37) rfl c_n n_next ?_
      refine f_ast rfl r.head? rfl ?_
      refine f_go (pc1 := 102) (lv1 := [(6, va_rf r.head?), (4, .int 0), (3, .int (Int32.ofNat (j + 1))), (5, .ref u), (2, .int nu), (0, .ref ty), (1, .ref ps)]) (st1 := []) 1 rfl ?_
      refine f_lv [(6, va_rf r.head?), (5, .ref u), (4, .int 0), (3, .int (Int32.ofNat (j + 1))), (2, .int nu), (0, .ref ty), (1, .ref ps)] (fl_c rfl (fl_c rfl (fl_c rfl (fl_c rfl (fl_c rfl (fl_c rfl (fl_c rfl fl_0))))))) ?_
      exact ih _ (j + 1) hc2 hs2 (by rw [show j + 1 + r.length = j + (n :: r).length by simp; omega]; exact next)
theorem g_tiN : ∀ (l : List Nat) (c : Option Nat) (j : Nat), Ll (fun a => sF σ a 37) (va_rf c) l → (∀ a ∈ l, sC σ 1 a = true ∧ (∃ kd, sF σ a 32 = .int kd ∧ ¬ kd = 3 ∧ ¬ kd = 4 ∧ ¬ kd = 9)) → EQ X (d - 1) 73 163 [(5, .ref u), (4, .int 0), (3, .int (Int32.ofNat (j))), (2, .int nu), (0, .ref ty), (1, .ref ps)] [] σ Q → EQ X (d - 1) 73 102 [(6, va_rf c), (5, .ref u), (4, .int 0), (3, .int (Int32.ofNat j)), (2, .int nu), (0, .ref ty), (1, .ref ps)] [] σ Q := by
  intro l
  induction l with
  | nil =>
    intro c j hc hs next
    have hc : va_rf c = .null := hc
    rw [hc]
    refine f_go (pc1 := 163) (lv1 := [(6, .null), (5, .ref u), (4, .int 0), (3, .int (Int32.ofNat j)), (2, .int nu), (0, .ref ty), (1, .ref ps)]) (st1 := []) 2 rfl ?_
    refine f_lv [(5, .ref u), (4, .int 0), (3, .int (Int32.ofNat j)), (2, .int nu), (0, .ref ty), (1, .ref ps)] (fl_c rfl (fl_c rfl (fl_c rfl (fl_c rfl (fl_c rfl (fl_c rfl fl_0)))))) ?_
    exact next
  | cons n r ih =>
    intro c j hc hs next
    obtain ⟨hc1, hc2⟩ := hc
    rw [hc1]
    have hc2 : Ll (fun a => sF σ a 37) (sF σ n 37) r := hc2
    have n_next := hc2.hd
    rw [n_next] at hc2
    have hs2 := fun x hx => hs x (List.mem_cons_of_mem _ hx)
    obtain ⟨c_n, n_k⟩ := hs n List.mem_cons_self
    obtain ⟨kd, n_k, k3, k4, k9⟩ := n_k
    refine f_go (pc1 := 110) (lv1 := [(6, .ref n), (5, .ref u), (4, .int 0), (3, .int (Int32.ofNat j)), (2, .int nu), (0, .ref ty), (1, .ref ps)]) (st1 := [.ref n, .int (Int32.ofNat j)]) 4 rfl ?_
    refine f_getf rfl rfl (g := 32) rfl c_n n_k ?_
    refine f_go (pc1 := 114) (lv1 := [(6, .ref n), (5, .ref u), (4, .int 0), (3, .int (Int32.ofNat j)), (2, .int nu), (0, .ref ty), (1, .ref ps)]) (st1 := [.int 3, .int kd, .int (Int32.ofNat j)]) 1 rfl ?_
    refine f_icmp (t := 126) rfl rfl false (ic_eqn k3) ?_
    refine f_go (pc1 := 119) (lv1 := [(6, .ref n), (5, .ref u), (4, .int 0), (3, .int (Int32.ofNat j)), (2, .int nu), (0, .ref ty), (1, .ref ps)]) (st1 := [.ref n, .int (Int32.ofNat j)]) 1 rfl ?_
    refine f_getf rfl rfl (g := 32) rfl c_n n_k ?_
    refine f_go (pc1 := 123) (lv1 := [(6, .ref n), (5, .ref u), (4, .int 0), (3, .int (Int32.ofNat j)), (2, .int nu), (0, .ref ty), (1, .ref ps)]) (st1 := [.int 4, .int kd, .int (Int32.ofNat j)]) 1 rfl ?_
    refine f_icmp (t := 130) rfl rfl true (ic_ne k4) ?_
    refine f_go (pc1 := 132) (lv1 := [(6, .ref n), (5, .ref u), (4, .int 0), (3, .int (Int32.ofNat j)), (2, .int nu), (0, .ref ty), (1, .ref ps)]) (st1 := [.int ((Int32.ofNat j) + 0)]) 2 rfl ?_
    rw [show ((Int32.ofNat j) + 0 : Int32) = (Int32.ofNat j) from (Int32.add_zero _)]
    refine f_go (pc1 := 137) (lv1 := [(3, .int (Int32.ofNat j)), (6, .ref n), (5, .ref u), (4, .int 0), (2, .int nu), (0, .ref ty), (1, .ref ps)]) (st1 := [.ref n, .int 0]) 3 rfl ?_
    refine f_getf rfl rfl (g := 32) rfl c_n n_k ?_
    refine f_go (pc1 := 142) (lv1 := [(3, .int (Int32.ofNat j)), (6, .ref n), (5, .ref u), (4, .int 0), (2, .int nu), (0, .ref ty), (1, .ref ps)]) (st1 := [.int 9, .int kd, .int 0]) 1 rfl ?_
    refine f_icmp (t := 149) rfl rfl true (ic_ne k9) ?_
    refine f_go (pc1 := 155) (lv1 := [(4, .int 0), (3, .int (Int32.ofNat j)), (6, .ref n), (5, .ref u), (2, .int nu), (0, .ref ty), (1, .ref ps)]) (st1 := [.ref n]) 4 rfl ?_
    refine f_getf rfl rfl (g := 37) rfl c_n n_next ?_
    refine f_ast rfl r.head? rfl ?_
    refine f_go (pc1 := 102) (lv1 := [(6, va_rf r.head?), (4, .int 0), (3, .int (Int32.ofNat j)), (5, .ref u), (2, .int nu), (0, .ref ty), (1, .ref ps)]) (st1 := []) 1 rfl ?_
    refine f_lv [(6, va_rf r.head?), (5, .ref u), (4, .int 0), (3, .int (Int32.ofNat j)), (2, .int nu), (0, .ref ty), (1, .ref ps)] (fl_c rfl (fl_c rfl (fl_c rfl (fl_c rfl (fl_c rfl (fl_c rfl (fl_c rfl fl_0))))))) ?_
    exact ih _ j hc2 hs2 next
end TINIT
/-- Types as made -/
def T4 (σ : fl_S) (ty ig bo root x : Nat) (tk : Int32) (ds0 : List Nat) : fl_S := sU (sR1 (sZ1 (sU (sR1 (sZ1 (sU (sR1 (sZ1 (sU (sR1 (sZ1 (sU (sU (sU (sU (sU (sU (sU (sZ1 σ 20) ty 300 (.int 2147483647)) ty 288 (.int tk)) ty 294 (.ref ig)) ty 295 (.ref bo)) ty 296 (.ref (sZ σ))) ty 297 (.ref root)) ty 298 (.int (Int32.ofNat (x + 1)))) 5) (sZ σ + 1) (2, 5, fun _ => none)) ty 289 (.ref (sZ σ + 1))) ds0.length) (sZ σ + 2) (2, ds0.length, fun _ => none)) ty 290 (.ref (sZ σ + 2))) ds0.length) (sZ σ + 3) (2, ds0.length, fun _ => none)) ty 299 (.ref (sZ σ + 3))) 0) (sZ σ + 4) (2, 0, fun _ => none)) ty 291 (.ref (sZ σ + 4))
/-- with its units -/
def T5 (σ : fl_S) (ty ig bo root x : Nat) (tk : Int32) (ds0 : List Nat) (UR : Nat → Option Nat) : fl_S := sR1 (T4 σ ty ig bo root x tk ds0) (sZ σ + 1) (2, 5, UR)
theorem T5_put {σ : fl_S} {ty ig bo root x : Nat} {tk : Int32} {ds0 : List Nat} {UR UR' : Nat → Option Nat} : sR1 (T5 σ ty ig bo root x tk ds0 UR) (sZ σ + 1) (2, 5, UR') = T5 σ ty ig bo root x tk ds0 UR' := sR1_twice _ _ _ _
theorem T5_UR {σ : fl_S} {ty ig bo root x : Nat} {tk : Int32} {ds0 : List Nat} {UR : Nat → Option Nat} : sR (T5 σ ty ig bo root x tk ds0 UR) (sZ σ + 1) = some (2, 5, UR) := by
  show aU _ _ _ (sZ σ + 1) = _
  exact aU_at
theorem T5_300 {σ : fl_S} {ty ig bo root x : Nat} {tk : Int32} {ds0 : List Nat} {UR : Nat → Option Nat} : sF (T5 σ ty ig bo root x tk ds0 UR) ty 300 = .int 2147483647 := by
  show (bif Nat.beq ty ty then (.int 2147483647 : Value) else _) = _
  rw [nb_self]; rfl
theorem T5_288 {σ : fl_S} {ty ig bo root x : Nat} {tk : Int32} {ds0 : List Nat} {UR : Nat → Option Nat} : sF (T5 σ ty ig bo root x tk ds0 UR) ty 288 = .int tk := by
  show (bif Nat.beq ty ty then (.int tk : Value) else _) = _
  rw [nb_self]; rfl
theorem T5_294 {σ : fl_S} {ty ig bo root x : Nat} {tk : Int32} {ds0 : List Nat} {UR : Nat → Option Nat} : sF (T5 σ ty ig bo root x tk ds0 UR) ty 294 = .ref ig := by
  show (bif Nat.beq ty ty then (.ref ig : Value) else _) = _
  rw [nb_self]; rfl
theorem T5_295 {σ : fl_S} {ty ig bo root x : Nat} {tk : Int32} {ds0 : List Nat} {UR : Nat → Option Nat} : sF (T5 σ ty ig bo root x tk ds0 UR) ty 295 = .ref bo := by
  show (bif Nat.beq ty ty then (.ref bo : Value) else _) = _
  rw [nb_self]; rfl
theorem T5_297 {σ : fl_S} {ty ig bo root x : Nat} {tk : Int32} {ds0 : List Nat} {UR : Nat → Option Nat} : sF (T5 σ ty ig bo root x tk ds0 UR) ty 297 = .ref root := by
  show (bif Nat.beq ty ty then (.ref root : Value) else _) = _
  rw [nb_self]; rfl
theorem T5_298 {σ : fl_S} {ty ig bo root x : Nat} {tk : Int32} {ds0 : List Nat} {UR : Nat → Option Nat} : sF (T5 σ ty ig bo root x tk ds0 UR) ty 298 = .int (Int32.ofNat (x + 1)) := by
  show (bif Nat.beq ty ty then (.int (Int32.ofNat (x + 1)) : Value) else _) = _
  rw [nb_self]; rfl
theorem T5_289 {σ : fl_S} {ty ig bo root x : Nat} {tk : Int32} {ds0 : List Nat} {UR : Nat → Option Nat} : sF (T5 σ ty ig bo root x tk ds0 UR) ty 289 = .ref (sZ σ + 1) := by
  show (bif Nat.beq ty ty then (.ref (sZ σ + 1) : Value) else _) = _
  rw [nb_self]; rfl
theorem T5_290 {σ : fl_S} {ty ig bo root x : Nat} {tk : Int32} {ds0 : List Nat} {UR : Nat → Option Nat} : sF (T5 σ ty ig bo root x tk ds0 UR) ty 290 = .ref (sZ σ + 2) := by
  show (bif Nat.beq ty ty then (.ref (sZ σ + 2) : Value) else _) = _
  rw [nb_self]; rfl
theorem T5_291 {σ : fl_S} {ty ig bo root x : Nat} {tk : Int32} {ds0 : List Nat} {UR : Nat → Option Nat} : sF (T5 σ ty ig bo root x tk ds0 UR) ty 291 = .ref (sZ σ + 4) := by
  show (bif Nat.beq ty ty then (.ref (sZ σ + 4) : Value) else _) = _
  rw [nb_self]; rfl
theorem T5_TR {σ : fl_S} {ty ig bo root x : Nat} {tk : Int32} {ds0 : List Nat} {UR : Nat → Option Nat} : sR (T5 σ ty ig bo root x tk ds0 UR) (sZ σ + 2) = some (2, ds0.length, fun _ => none) := by
  show aU (aU (aU (aU (aU (sR σ) (sZ σ + 1) _) (sZ σ + 2) _) (sZ σ + 3) _) (sZ σ + 4) _) (sZ σ + 1) _ (sZ σ + 2) = _
  rw [aU_ne (by omega), aU_ne (by omega), aU_ne (by omega), aU_at]
theorem T5_PR {σ : fl_S} {ty ig bo root x : Nat} {tk : Int32} {ds0 : List Nat} {UR : Nat → Option Nat} : sR (T5 σ ty ig bo root x tk ds0 UR) (sZ σ + 4) = some (2, 0, fun _ => none) := by
  show aU (aU (aU (aU (aU (sR σ) (sZ σ + 1) _) (sZ σ + 2) _) (sZ σ + 3) _) (sZ σ + 4) _) (sZ σ + 1) _ (sZ σ + 4) = _
  rw [aU_ne (by omega), aU_at]
theorem T5_R {σ : fl_S} {ty ig bo root x a : Nat} {tk : Int32} {ds0 : List Nat} {UR : Nat → Option Nat} (h : a < sZ σ) : sR (T5 σ ty ig bo root x tk ds0 UR) a = sR σ a := by
  show aU (aU (aU (aU (aU (sR σ) (sZ σ + 1) _) (sZ σ + 2) _) (sZ σ + 3) _) (sZ σ + 4) _) (sZ σ + 1) _ a = _
  rw [aU_ne (by omega), aU_ne (by omega), aU_ne (by omega), aU_ne (by omega), aU_ne (by omega)]
theorem g_tiA {X : ev_X} {d : Nat} {σ : fl_S} {Q : Option Value → fl_S → Prop} (hd : 2 ≤ d) {ty ps sc0 ig bo root lnode x u0 u1 u2 u3 u4 : Nat} {tk : Int32} {ds0 ds1 ds2 ds3 ds4 : List Nat} (c_ty : sC σ 9 ty = true) (hz : sZ σ + 5 ≤ 256) (c_ps : sC σ 6 ps = true) (ps_in : sF σ ps 192 = .ref sc0) (c_sc : sC σ 7 sc0 = true) (sc_tokens : sF σ sc0 227 = .int tk) (ps_integer : sF σ ps 210 = .ref ig) (ps_bool : sF σ ps 211 = .ref bo) (ps_root : sF σ ps 209 = .ref root) (ps_ln : sF σ ps 205 = .ref lnode) (c_ln : sC σ 4 lnode = true) (ln_index : sF σ lnode 129 = .int (Int32.ofNat x)) (ps_units : sF σ ps 207 = .ref u0) (c_u0 : sC σ 1 u0 = true) (u0_next : sF σ u0 37 = .ref u1) (l0 : Ll (fun a => sF σ a 37) (sF σ u0 43) ds0) (c_u1 : sC σ 1 u1 = true) (u1_next : sF σ u1 37 = .ref u2) (l1 : Ll (fun a => sF σ a 37) (sF σ u1 43) ds1) (c_u2 : sC σ 1 u2 = true) (u2_next : sF σ u2 37 = .ref u3) (l2 : Ll (fun a => sF σ a 37) (sF σ u2 43) ds2) (c_u3 : sC σ 1 u3 = true) (u3_next : sF σ u3 37 = .ref u4) (l3 : Ll (fun a => sF σ a 37) (sF σ u3 43) ds3) (c_u4 : sC σ 1 u4 = true) (u4_next : sF σ u4 37 = .null) (l4 : Ll (fun a => sF σ a 37) (sF σ u4 43) ds4) (t0 : ∀ a ∈ ds0, sC σ 1 a = true ∧ (sF σ a 32 = .int 3 ∨ sF σ a 32 = .int 4)) (hT : ds0.length < 100000) (t1 : ∀ a ∈ ds1, sC σ 1 a = true ∧ (∃ kd, sF σ a 32 = .int kd ∧ ¬ kd = 3 ∧ ¬ kd = 4 ∧ ¬ kd = 9)) (t2 : ∀ a ∈ ds2, sC σ 1 a = true ∧ (∃ kd, sF σ a 32 = .int kd ∧ ¬ kd = 3 ∧ ¬ kd = 4 ∧ ¬ kd = 9)) (t3 : ∀ a ∈ ds3, sC σ 1 a = true ∧ (∃ kd, sF σ a 32 = .int kd ∧ ¬ kd = 3 ∧ ¬ kd = 4 ∧ ¬ kd = 9)) (t4 : ∀ a ∈ ds4, sC σ 1 a = true ∧ (∃ kd, sF σ a 32 = .int kd ∧ ¬ kd = 3 ∧ ¬ kd = 4 ∧ ¬ kd = 9)) (next : EQ X (d - 1) 73 58 [(0, .ref ty), (1, .ref ps)] [] (sU (sU (sU (sU (sU (sZ1 σ 20) ty 300 (.int 2147483647)) ty 288 (.int tk)) ty 294 (.ref ig)) ty 295 (.ref bo)) ty 296 (.ref (sZ σ))) Q) : EQ X (d - 1) 73 0 [(0, .ref ty), (1, .ref ps)] [] σ Q := by
  refine f_known (fun hkn => ?_)
  refine f_go (pc1 := 1) (lv1 := [(0, .ref ty), (1, .ref ps)]) (st1 := [.ref ty]) 1 rfl ?_
  refine f_xm (st1 := []) rfl rfl ?_
  refine f_go (pc1 := 5) (lv1 := [(0, .ref ty), (1, .ref ps)]) (st1 := [.ref ty]) 1 rfl ?_
  refine f_ldc rfl ?_
  refine f_putf rfl rfl (g := 300) rfl c_ty rfl ?_
  have hu8 : sF (sU σ ty 300 (.int 2147483647)) ty 300 = .int 2147483647 := sU_at
  refine f_go (pc1 := 12) (lv1 := [(0, .ref ty), (1, .ref ps)]) (st1 := [.ref ps, .ref ty]) 2 rfl ?_
  refine f_vt rfl rfl c_ps rfl (g_tokens (by omega) c_ps ps_in c_sc sc_tokens) ?_
  refine f_putf rfl rfl (g := 288) rfl c_ty rfl ?_
  have hu9 : sF (sU (sU σ ty 300 (.int 2147483647)) ty 288 (.int tk)) ty 288 = .int tk := sU_at
  refine f_go (pc1 := 20) (lv1 := [(0, .ref ty), (1, .ref ps)]) (st1 := [.ref ps, .ref ty]) 2 rfl ?_
  refine f_getf rfl rfl (g := 210) rfl c_ps ps_integer ?_
  refine f_putf rfl rfl (g := 294) rfl c_ty rfl ?_
  have hu10 : sF (sU (sU (sU σ ty 300 (.int 2147483647)) ty 288 (.int tk)) ty 294 (.ref ig)) ty 294 = .ref ig := sU_at
  refine f_go (pc1 := 28) (lv1 := [(0, .ref ty), (1, .ref ps)]) (st1 := [.ref ps, .ref ty]) 2 rfl ?_
  refine f_getf rfl rfl (g := 211) rfl c_ps ps_bool ?_
  refine f_putf rfl rfl (g := 295) rfl c_ty rfl ?_
  have hu11 : sF (sU (sU (sU (sU σ ty 300 (.int 2147483647)) ty 288 (.int tk)) ty 294 (.ref ig)) ty 295 (.ref bo)) ty 295 = .ref bo := sU_at
  refine f_go (pc1 := 35) (lv1 := [(0, .ref ty), (1, .ref ps)]) (st1 := [.ref ty]) 1 rfl ?_
  refine f_new rfl (show sZ σ < 256 by omega) rfl ?_
  have c_nil : sC (sN (sU (sU (sU (sU σ ty 300 (.int 2147483647)) ty 288 (.int tk)) ty 294 (.ref ig)) ty 295 (.ref bo)) 4 20) 4 (sZ σ) = true := by show (bif (Nat.beq 4 4 && Nat.beq (sZ σ) (sZ σ)) then true else _) = true; rw [nb_self, nb_self]; rfl
  refine f_go (pc1 := 44) (lv1 := [(0, .ref ty), (1, .ref ps)]) (st1 := [.null, .int 0, .int (-1), .int 14, .ref (sZ σ), .ref (sZ σ), .ref ty]) 5 rfl ?_
  refine f_sp rfl rfl rfl rfl (g_nodeInit (by omega) c_nil) ?_
  refine f_putf rfl rfl (g := 296) rfl c_ty rfl ?_
  refine f_go (pc1 := 51) (lv1 := [(0, .ref ty), (1, .ref ps)]) (st1 := [.ref ty]) 1 rfl ?_
  refine f_getf rfl rfl (g := 296) rfl c_ty sU_at ?_
  refine f_go (pc1 := 55) (lv1 := [(0, .ref ty), (1, .ref ps)]) (st1 := [.int (-1), .ref (sZ σ)]) 1 rfl ?_
  refine f_putf rfl rfl (g := 142) rfl c_nil rfl ?_
  refine f_weak (sU (sU (sU (sU (sU (sZ1 σ 20) ty 300 (.int 2147483647)) ty 288 (.int tk)) ty 294 (.ref ig)) ty 295 (.ref bo)) ty 296 (.ref (sZ σ))) ?_ ?_
  · refine ⟨fun ci a hc => ⟨?_, ?_⟩, fun a x h => h, fun a x h => h, fun a x h => h, rfl, rfl, rfl⟩
    · show (bif (Nat.beq ci 4 && Nat.beq a (sZ σ)) then true else sC σ ci a) = true
      rw [show sC σ ci a = true from hc]
      cases (Nat.beq ci 4 && Nat.beq a (sZ σ)) <;> rfl
    · have hne : a ≠ sZ σ := Nat.ne_of_lt (hkn ci a hc)
      apply List.ext_getElem?
      intro i
      rw [fl_at, fl_at]
      by_cases hi : i < fl_n ci
      · rw [if_pos hi, if_pos hi]
        congr 1
        have e1 : ∀ (F : Nat → Nat → Value) (g h : Nat) (v : Value), FU F (sZ σ) g v a h = F a h := fun F g h v => FU_ne hne
        have e2 : ∀ (F : Nat → Nat → Value) (h : Nat), FN F 4 (sZ σ) a h = F a h := fun F h => FN_ne hne
        show FU (FU (FU (FU (FU (FU (FU (FN _ 4 (sZ σ)) (sZ σ) _ _) (sZ σ) _ _) (sZ σ) _ _) (sZ σ) _ _) (sZ σ) _ _) ty 296 (.ref (sZ σ))) (sZ σ) _ _ a (ci * 32 + i) = FU _ ty 296 (.ref (sZ σ)) a (ci * 32 + i)
        rw [e1]
        unfold FU
        rw [nb_ne hne]
        simp only [cond_false, Bool.cond_self, e2]
        rfl
      · rw [if_neg hi, if_neg hi]
  exact next
theorem g_tiB {X : ev_X} {d : Nat} {σ : fl_S} {Q : Option Value → fl_S → Prop} (hd : 2 ≤ d) {ty ps sc0 ig bo root lnode x u0 u1 u2 u3 u4 : Nat} {tk : Int32} {ds0 ds1 ds2 ds3 ds4 : List Nat} (c_ty : sC σ 9 ty = true) (hz : sZ σ + 5 ≤ 256) (c_ps : sC σ 6 ps = true) (ps_in : sF σ ps 192 = .ref sc0) (c_sc : sC σ 7 sc0 = true) (sc_tokens : sF σ sc0 227 = .int tk) (ps_integer : sF σ ps 210 = .ref ig) (ps_bool : sF σ ps 211 = .ref bo) (ps_root : sF σ ps 209 = .ref root) (ps_ln : sF σ ps 205 = .ref lnode) (c_ln : sC σ 4 lnode = true) (ln_index : sF σ lnode 129 = .int (Int32.ofNat x)) (ps_units : sF σ ps 207 = .ref u0) (c_u0 : sC σ 1 u0 = true) (u0_next : sF σ u0 37 = .ref u1) (l0 : Ll (fun a => sF σ a 37) (sF σ u0 43) ds0) (c_u1 : sC σ 1 u1 = true) (u1_next : sF σ u1 37 = .ref u2) (l1 : Ll (fun a => sF σ a 37) (sF σ u1 43) ds1) (c_u2 : sC σ 1 u2 = true) (u2_next : sF σ u2 37 = .ref u3) (l2 : Ll (fun a => sF σ a 37) (sF σ u2 43) ds2) (c_u3 : sC σ 1 u3 = true) (u3_next : sF σ u3 37 = .ref u4) (l3 : Ll (fun a => sF σ a 37) (sF σ u3 43) ds3) (c_u4 : sC σ 1 u4 = true) (u4_next : sF σ u4 37 = .null) (l4 : Ll (fun a => sF σ a 37) (sF σ u4 43) ds4) (t0 : ∀ a ∈ ds0, sC σ 1 a = true ∧ (sF σ a 32 = .int 3 ∨ sF σ a 32 = .int 4)) (hT : ds0.length < 100000) (t1 : ∀ a ∈ ds1, sC σ 1 a = true ∧ (∃ kd, sF σ a 32 = .int kd ∧ ¬ kd = 3 ∧ ¬ kd = 4 ∧ ¬ kd = 9)) (t2 : ∀ a ∈ ds2, sC σ 1 a = true ∧ (∃ kd, sF σ a 32 = .int kd ∧ ¬ kd = 3 ∧ ¬ kd = 4 ∧ ¬ kd = 9)) (t3 : ∀ a ∈ ds3, sC σ 1 a = true ∧ (∃ kd, sF σ a 32 = .int kd ∧ ¬ kd = 3 ∧ ¬ kd = 4 ∧ ¬ kd = 9)) (t4 : ∀ a ∈ ds4, sC σ 1 a = true ∧ (∃ kd, sF σ a 32 = .int kd ∧ ¬ kd = 3 ∧ ¬ kd = 4 ∧ ¬ kd = 9)) (next : EQ X (d - 1) 73 173 [(4, .int 0), (3, .int (Int32.ofNat ds0.length)), (2, .int 5), (0, .ref ty), (1, .ref ps)] [] (sU (sU (sU (sU (sU (sU (sU (sZ1 σ 20) ty 300 (.int 2147483647)) ty 288 (.int tk)) ty 294 (.ref ig)) ty 295 (.ref bo)) ty 296 (.ref (sZ σ))) ty 297 (.ref root)) ty 298 (.int (Int32.ofNat (x + 1)))) Q) : EQ X (d - 1) 73 58 [(0, .ref ty), (1, .ref ps)] [] (sU (sU (sU (sU (sU (sZ1 σ 20) ty 300 (.int 2147483647)) ty 288 (.int tk)) ty 294 (.ref ig)) ty 295 (.ref bo)) ty 296 (.ref (sZ σ))) Q := by
  refine f_go (pc1 := 60) (lv1 := [(0, .ref ty), (1, .ref ps)]) (st1 := [.ref ps, .ref ty]) 2 rfl ?_
  refine f_getf rfl rfl (g := 209) rfl c_ps ps_root ?_
  refine f_putf rfl rfl (g := 297) rfl c_ty rfl ?_
  refine f_go (pc1 := 68) (lv1 := [(0, .ref ty), (1, .ref ps)]) (st1 := [.ref ps, .ref ty]) 2 rfl ?_
  refine f_vt rfl rfl c_ps rfl (g_nodeCount (by omega) c_ps ps_ln c_ln ln_index) ?_
  refine f_putf rfl rfl (g := 298) rfl c_ty rfl ?_
  refine f_go (pc1 := 82) (lv1 := [(4, .int 0), (3, .int 0), (2, .int 0), (0, .ref ty), (1, .ref ps)]) (st1 := [.ref ps]) 7 rfl ?_
  refine f_getf rfl rfl (g := 207) rfl c_ps ps_units ?_
  refine f_go (pc1 := 87) (lv1 := [(5, .ref u0), (4, .int 0), (3, .int 0), (2, .int 0), (0, .ref ty), (1, .ref ps)]) (st1 := []) 1 rfl ?_
  refine f_go (pc1 := 97) (lv1 := [(2, .int 1), (5, .ref u0), (4, .int 0), (3, .int 0), (0, .ref ty), (1, .ref ps)]) (st1 := [.ref u0]) 4 rfl ?_
  refine f_getf rfl rfl (g := 43) rfl c_u0 l0.hd ?_
  refine f_ast rfl ds0.head? rfl ?_
  refine f_lv [(6, va_rf ds0.head?), (5, .ref u0), (4, .int 0), (3, .int (Int32.ofNat 0)), (2, .int 1), (0, .ref ty), (1, .ref ps)] (fl_c rfl (fl_c rfl (fl_c rfl (fl_c rfl (fl_c rfl (fl_c rfl (fl_c rfl fl_0))))))) ?_
  refine g_tiT ds0 _ 0 (by rw [← l0.hd]; exact l0) t0 ?_
  refine f_go (pc1 := 165) (lv1 := [(5, .ref u0), (4, .int 0), (3, .int (Int32.ofNat (0 + ds0.length))), (2, .int 1), (0, .ref ty), (1, .ref ps)]) (st1 := [.ref u0]) 1 rfl ?_
  refine f_getf rfl rfl (g := 37) rfl c_u0 u0_next ?_
  refine f_go (pc1 := 87) (lv1 := [(5, .ref u1), (4, .int 0), (3, .int (Int32.ofNat (0 + ds0.length))), (2, .int 1), (0, .ref ty), (1, .ref ps)]) (st1 := []) 2 rfl ?_
  refine f_go (pc1 := 97) (lv1 := [(2, .int 2), (5, .ref u1), (4, .int 0), (3, .int (Int32.ofNat (0 + ds0.length))), (0, .ref ty), (1, .ref ps)]) (st1 := [.ref u1]) 4 rfl ?_
  refine f_getf rfl rfl (g := 43) rfl c_u1 l1.hd ?_
  refine f_ast rfl ds1.head? rfl ?_
  refine f_lv [(6, va_rf ds1.head?), (5, .ref u1), (4, .int 0), (3, .int (Int32.ofNat (0 + ds0.length))), (2, .int 2), (0, .ref ty), (1, .ref ps)] (fl_c rfl (fl_c rfl (fl_c rfl (fl_c rfl (fl_c rfl (fl_c rfl (fl_c rfl fl_0))))))) ?_
  refine g_tiN ds1 _ (0 + ds0.length) (by rw [← l1.hd]; exact l1) t1 ?_
  refine f_go (pc1 := 165) (lv1 := [(5, .ref u1), (4, .int 0), (3, .int (Int32.ofNat (0 + ds0.length))), (2, .int 2), (0, .ref ty), (1, .ref ps)]) (st1 := [.ref u1]) 1 rfl ?_
  refine f_getf rfl rfl (g := 37) rfl c_u1 u1_next ?_
  refine f_go (pc1 := 87) (lv1 := [(5, .ref u2), (4, .int 0), (3, .int (Int32.ofNat (0 + ds0.length))), (2, .int 2), (0, .ref ty), (1, .ref ps)]) (st1 := []) 2 rfl ?_
  refine f_go (pc1 := 97) (lv1 := [(2, .int 3), (5, .ref u2), (4, .int 0), (3, .int (Int32.ofNat (0 + ds0.length))), (0, .ref ty), (1, .ref ps)]) (st1 := [.ref u2]) 4 rfl ?_
  refine f_getf rfl rfl (g := 43) rfl c_u2 l2.hd ?_
  refine f_ast rfl ds2.head? rfl ?_
  refine f_lv [(6, va_rf ds2.head?), (5, .ref u2), (4, .int 0), (3, .int (Int32.ofNat (0 + ds0.length))), (2, .int 3), (0, .ref ty), (1, .ref ps)] (fl_c rfl (fl_c rfl (fl_c rfl (fl_c rfl (fl_c rfl (fl_c rfl (fl_c rfl fl_0))))))) ?_
  refine g_tiN ds2 _ (0 + ds0.length) (by rw [← l2.hd]; exact l2) t2 ?_
  refine f_go (pc1 := 165) (lv1 := [(5, .ref u2), (4, .int 0), (3, .int (Int32.ofNat (0 + ds0.length))), (2, .int 3), (0, .ref ty), (1, .ref ps)]) (st1 := [.ref u2]) 1 rfl ?_
  refine f_getf rfl rfl (g := 37) rfl c_u2 u2_next ?_
  refine f_go (pc1 := 87) (lv1 := [(5, .ref u3), (4, .int 0), (3, .int (Int32.ofNat (0 + ds0.length))), (2, .int 3), (0, .ref ty), (1, .ref ps)]) (st1 := []) 2 rfl ?_
  refine f_go (pc1 := 97) (lv1 := [(2, .int 4), (5, .ref u3), (4, .int 0), (3, .int (Int32.ofNat (0 + ds0.length))), (0, .ref ty), (1, .ref ps)]) (st1 := [.ref u3]) 4 rfl ?_
  refine f_getf rfl rfl (g := 43) rfl c_u3 l3.hd ?_
  refine f_ast rfl ds3.head? rfl ?_
  refine f_lv [(6, va_rf ds3.head?), (5, .ref u3), (4, .int 0), (3, .int (Int32.ofNat (0 + ds0.length))), (2, .int 4), (0, .ref ty), (1, .ref ps)] (fl_c rfl (fl_c rfl (fl_c rfl (fl_c rfl (fl_c rfl (fl_c rfl (fl_c rfl fl_0))))))) ?_
  refine g_tiN ds3 _ (0 + ds0.length) (by rw [← l3.hd]; exact l3) t3 ?_
  refine f_go (pc1 := 165) (lv1 := [(5, .ref u3), (4, .int 0), (3, .int (Int32.ofNat (0 + ds0.length))), (2, .int 4), (0, .ref ty), (1, .ref ps)]) (st1 := [.ref u3]) 1 rfl ?_
  refine f_getf rfl rfl (g := 37) rfl c_u3 u3_next ?_
  refine f_go (pc1 := 87) (lv1 := [(5, .ref u4), (4, .int 0), (3, .int (Int32.ofNat (0 + ds0.length))), (2, .int 4), (0, .ref ty), (1, .ref ps)]) (st1 := []) 2 rfl ?_
  refine f_go (pc1 := 97) (lv1 := [(2, .int 5), (5, .ref u4), (4, .int 0), (3, .int (Int32.ofNat (0 + ds0.length))), (0, .ref ty), (1, .ref ps)]) (st1 := [.ref u4]) 4 rfl ?_
  refine f_getf rfl rfl (g := 43) rfl c_u4 l4.hd ?_
  refine f_ast rfl ds4.head? rfl ?_
  refine f_lv [(6, va_rf ds4.head?), (5, .ref u4), (4, .int 0), (3, .int (Int32.ofNat (0 + ds0.length))), (2, .int 5), (0, .ref ty), (1, .ref ps)] (fl_c rfl (fl_c rfl (fl_c rfl (fl_c rfl (fl_c rfl (fl_c rfl (fl_c rfl fl_0))))))) ?_
  refine g_tiN ds4 _ (0 + ds0.length) (by rw [← l4.hd]; exact l4) t4 ?_
  refine f_go (pc1 := 165) (lv1 := [(5, .ref u4), (4, .int 0), (3, .int (Int32.ofNat (0 + ds0.length))), (2, .int 5), (0, .ref ty), (1, .ref ps)]) (st1 := [.ref u4]) 1 rfl ?_
  refine f_getf rfl rfl (g := 37) rfl c_u4 u4_next ?_
  refine f_go (pc1 := 173) (lv1 := [(5, .null), (4, .int 0), (3, .int (Int32.ofNat (0 + ds0.length))), (2, .int 5), (0, .ref ty), (1, .ref ps)]) (st1 := []) 4 rfl ?_
  refine f_lv [(4, .int 0), (3, .int (Int32.ofNat (0 + ds0.length))), (2, .int 5), (0, .ref ty), (1, .ref ps)] (fl_c rfl (fl_c rfl (fl_c rfl (fl_c rfl (fl_c rfl fl_0))))) ?_
  rw [Nat.zero_add]
  exact next
theorem g_tiC {X : ev_X} {d : Nat} {σ : fl_S} {Q : Option Value → fl_S → Prop} (hd : 2 ≤ d) {ty ps sc0 ig bo root lnode x u0 u1 u2 u3 u4 : Nat} {tk : Int32} {ds0 ds1 ds2 ds3 ds4 : List Nat} (c_ty : sC σ 9 ty = true) (hz : sZ σ + 5 ≤ 256) (c_ps : sC σ 6 ps = true) (ps_in : sF σ ps 192 = .ref sc0) (c_sc : sC σ 7 sc0 = true) (sc_tokens : sF σ sc0 227 = .int tk) (ps_integer : sF σ ps 210 = .ref ig) (ps_bool : sF σ ps 211 = .ref bo) (ps_root : sF σ ps 209 = .ref root) (ps_ln : sF σ ps 205 = .ref lnode) (c_ln : sC σ 4 lnode = true) (ln_index : sF σ lnode 129 = .int (Int32.ofNat x)) (ps_units : sF σ ps 207 = .ref u0) (c_u0 : sC σ 1 u0 = true) (u0_next : sF σ u0 37 = .ref u1) (l0 : Ll (fun a => sF σ a 37) (sF σ u0 43) ds0) (c_u1 : sC σ 1 u1 = true) (u1_next : sF σ u1 37 = .ref u2) (l1 : Ll (fun a => sF σ a 37) (sF σ u1 43) ds1) (c_u2 : sC σ 1 u2 = true) (u2_next : sF σ u2 37 = .ref u3) (l2 : Ll (fun a => sF σ a 37) (sF σ u2 43) ds2) (c_u3 : sC σ 1 u3 = true) (u3_next : sF σ u3 37 = .ref u4) (l3 : Ll (fun a => sF σ a 37) (sF σ u3 43) ds3) (c_u4 : sC σ 1 u4 = true) (u4_next : sF σ u4 37 = .null) (l4 : Ll (fun a => sF σ a 37) (sF σ u4 43) ds4) (t0 : ∀ a ∈ ds0, sC σ 1 a = true ∧ (sF σ a 32 = .int 3 ∨ sF σ a 32 = .int 4)) (hT : ds0.length < 100000) (t1 : ∀ a ∈ ds1, sC σ 1 a = true ∧ (∃ kd, sF σ a 32 = .int kd ∧ ¬ kd = 3 ∧ ¬ kd = 4 ∧ ¬ kd = 9)) (t2 : ∀ a ∈ ds2, sC σ 1 a = true ∧ (∃ kd, sF σ a 32 = .int kd ∧ ¬ kd = 3 ∧ ¬ kd = 4 ∧ ¬ kd = 9)) (t3 : ∀ a ∈ ds3, sC σ 1 a = true ∧ (∃ kd, sF σ a 32 = .int kd ∧ ¬ kd = 3 ∧ ¬ kd = 4 ∧ ¬ kd = 9)) (t4 : ∀ a ∈ ds4, sC σ 1 a = true ∧ (∃ kd, sF σ a 32 = .int kd ∧ ¬ kd = 3 ∧ ¬ kd = 4 ∧ ¬ kd = 9)) (next : EQ X (d - 1) 73 215 [(6, .ref u0), (5, .int 0), (4, .int 0), (3, .int (Int32.ofNat ds0.length)), (2, .int 5), (0, .ref ty), (1, .ref ps)] [] (T5 σ ty ig bo root x tk ds0 (fun _ => none)) Q) : EQ X (d - 1) 73 173 [(4, .int 0), (3, .int (Int32.ofNat ds0.length)), (2, .int 5), (0, .ref ty), (1, .ref ps)] [] (sU (sU (sU (sU (sU (sU (sU (sZ1 σ 20) ty 300 (.int 2147483647)) ty 288 (.int tk)) ty 294 (.ref ig)) ty 295 (.ref bo)) ty 296 (.ref (sZ σ))) ty 297 (.ref root)) ty 298 (.int (Int32.ofNat (x + 1)))) Q := by
  refine f_go (pc1 := 175) (lv1 := [(4, .int 0), (3, .int (Int32.ofNat ds0.length)), (2, .int 5), (0, .ref ty), (1, .ref ps)]) (st1 := [.int 5, .ref ty]) 2 rfl ?_
  refine f_newq rfl (n := 5) (by show sZ σ + 1 < 256; omega) (by decide) ?_
  refine f_putf rfl rfl (g := 289) rfl c_ty rfl ?_
  refine f_go (pc1 := 183) (lv1 := [(4, .int 0), (3, .int (Int32.ofNat ds0.length)), (2, .int 5), (0, .ref ty), (1, .ref ps)]) (st1 := [.int (Int32.ofNat ds0.length), .ref ty]) 2 rfl ?_
  refine f_newq rfl (n := ds0.length) (by show sZ σ + 2 < 256; omega) (by omega) ?_
  refine f_putf rfl rfl (g := 290) rfl c_ty rfl ?_
  refine f_go (pc1 := 191) (lv1 := [(4, .int 0), (3, .int (Int32.ofNat ds0.length)), (2, .int 5), (0, .ref ty), (1, .ref ps)]) (st1 := [.int (Int32.ofNat ds0.length), .ref ty]) 2 rfl ?_
  refine f_newq rfl (n := ds0.length) (by show sZ σ + 3 < 256; omega) (by omega) ?_
  refine f_putf rfl rfl (g := 299) rfl c_ty rfl ?_
  refine f_go (pc1 := 200) (lv1 := [(4, .int 0), (3, .int (Int32.ofNat ds0.length)), (2, .int 5), (0, .ref ty), (1, .ref ps)]) (st1 := [.int 0, .ref ty]) 2 rfl ?_
  refine f_newq rfl (n := 0) (by show sZ σ + 4 < 256; omega) (by decide) ?_
  refine f_putf rfl rfl (g := 291) rfl c_ty rfl ?_
  refine f_go (pc1 := 210) (lv1 := [(5, .int 0), (4, .int 0), (3, .int (Int32.ofNat ds0.length)), (2, .int 5), (0, .ref ty), (1, .ref ps)]) (st1 := [.ref ps]) 3 rfl ?_
  refine f_getf rfl rfl (g := 207) rfl c_ps ps_units ?_
  refine f_go (pc1 := 215) (lv1 := [(6, .ref u0), (5, .int 0), (4, .int 0), (3, .int (Int32.ofNat ds0.length)), (2, .int 5), (0, .ref ty), (1, .ref ps)]) (st1 := []) 1 rfl ?_
  refine f_cv (σ1 := T5 σ ty ig bo root x tk ds0 (fun _ => none)) ?_ ?_
  · unfold T5 T4
    refine Prod.ext rfl (Prod.ext rfl (Prod.ext rfl (Prod.ext rfl (Prod.ext ?_ rfl))))
    funext b
    show aU (aU (aU (aU (aU (sR σ) (sZ σ + 1) (2, 5, fun _ => none)) (sZ σ + 2) _) (sZ σ + 3) _) (sZ σ + 4) _) (sZ σ + 1) (2, 5, fun _ => none) b = aU (aU (aU (aU (sR σ) (sZ σ + 1) (2, 5, fun _ => none)) (sZ σ + 2) _) (sZ σ + 3) _) (sZ σ + 4) _ b
    by_cases e : b = sZ σ + 1
    · subst e; rw [aU_at, aU_ne (by omega), aU_ne (by omega), aU_ne (by omega), aU_at]
    · rw [aU_ne e]
  exact next
theorem g_tiD {X : ev_X} {d : Nat} {σ : fl_S} {Q : Option Value → fl_S → Prop} (hd : 2 ≤ d) {ty ps sc0 ig bo root lnode x u0 u1 u2 u3 u4 : Nat} {tk : Int32} {ds0 ds1 ds2 ds3 ds4 : List Nat} (c_ty : sC σ 9 ty = true) (hz : sZ σ + 5 ≤ 256) (c_ps : sC σ 6 ps = true) (ps_in : sF σ ps 192 = .ref sc0) (c_sc : sC σ 7 sc0 = true) (sc_tokens : sF σ sc0 227 = .int tk) (ps_integer : sF σ ps 210 = .ref ig) (ps_bool : sF σ ps 211 = .ref bo) (ps_root : sF σ ps 209 = .ref root) (ps_ln : sF σ ps 205 = .ref lnode) (c_ln : sC σ 4 lnode = true) (ln_index : sF σ lnode 129 = .int (Int32.ofNat x)) (ps_units : sF σ ps 207 = .ref u0) (c_u0 : sC σ 1 u0 = true) (u0_next : sF σ u0 37 = .ref u1) (l0 : Ll (fun a => sF σ a 37) (sF σ u0 43) ds0) (c_u1 : sC σ 1 u1 = true) (u1_next : sF σ u1 37 = .ref u2) (l1 : Ll (fun a => sF σ a 37) (sF σ u1 43) ds1) (c_u2 : sC σ 1 u2 = true) (u2_next : sF σ u2 37 = .ref u3) (l2 : Ll (fun a => sF σ a 37) (sF σ u2 43) ds2) (c_u3 : sC σ 1 u3 = true) (u3_next : sF σ u3 37 = .ref u4) (l3 : Ll (fun a => sF σ a 37) (sF σ u3 43) ds3) (c_u4 : sC σ 1 u4 = true) (u4_next : sF σ u4 37 = .null) (l4 : Ll (fun a => sF σ a 37) (sF σ u4 43) ds4) (t0 : ∀ a ∈ ds0, sC σ 1 a = true ∧ (sF σ a 32 = .int 3 ∨ sF σ a 32 = .int 4)) (hT : ds0.length < 100000) (t1 : ∀ a ∈ ds1, sC σ 1 a = true ∧ (∃ kd, sF σ a 32 = .int kd ∧ ¬ kd = 3 ∧ ¬ kd = 4 ∧ ¬ kd = 9)) (t2 : ∀ a ∈ ds2, sC σ 1 a = true ∧ (∃ kd, sF σ a 32 = .int kd ∧ ¬ kd = 3 ∧ ¬ kd = 4 ∧ ¬ kd = 9)) (t3 : ∀ a ∈ ds3, sC σ 1 a = true ∧ (∃ kd, sF σ a 32 = .int kd ∧ ¬ kd = 3 ∧ ¬ kd = 4 ∧ ¬ kd = 9)) (t4 : ∀ a ∈ ds4, sC σ 1 a = true ∧ (∃ kd, sF σ a 32 = .int kd ∧ ¬ kd = 3 ∧ ¬ kd = 4 ∧ ¬ kd = 9)) (next : Q none (T5 σ ty ig bo root x tk ds0 (va_up (va_up (va_up (va_up (va_up (fun _ => none) 0 (some u0)) 1 (some u1)) 2 (some u2)) 3 (some u3)) 4 (some u4)))) : EQ X (d - 1) 73 215 [(6, .ref u0), (5, .int 0), (4, .int 0), (3, .int (Int32.ofNat ds0.length)), (2, .int 5), (0, .ref ty), (1, .ref ps)] [] (T5 σ ty ig bo root x tk ds0 (fun _ => none)) Q := by
  refine f_go (pc1 := 227) (lv1 := [(6, .ref u0), (5, .int 0), (4, .int 0), (3, .int (Int32.ofNat ds0.length)), (2, .int 5), (0, .ref ty), (1, .ref ps)]) (st1 := [.ref ty]) 6 rfl ?_
  refine f_getf rfl rfl (g := 289) rfl c_ty T5_289 ?_
  refine f_go (pc1 := 234) (lv1 := [(6, .ref u0), (5, .int 0), (4, .int 0), (3, .int (Int32.ofNat ds0.length)), (2, .int 5), (0, .ref ty), (1, .ref ps)]) (st1 := [.ref u0, .int 0, .ref (sZ σ + 1)]) 2 rfl ?_
  have hc0 : sC (T5 σ ty ig bo root x tk ds0 (fun _ => none)) 1 u0 = true := c_u0
  have hr0 : sR (T5 σ ty ig bo root x tk ds0 (fun _ => none)) (sZ σ + 1) = some (2, 5, fun _ => none) := T5_UR
  refine f_aast (q := sZ σ + 1) (n := 5) (j := 2) (ci := 1) (f := fun _ => none) (y := u0) (i := 0) rfl hr0 hc0 rfl rfl rfl (by decide) (by decide) ?_
  rw [T5_put]
  refine f_go (pc1 := 240) (lv1 := [(5, .int 1), (6, .ref u0), (4, .int 0), (3, .int (Int32.ofNat ds0.length)), (2, .int 5), (0, .ref ty), (1, .ref ps)]) (st1 := [.ref u0]) 2 rfl ?_
  refine f_getf rfl rfl (g := 37) rfl c_u0 u0_next ?_
  refine f_go (pc1 := 215) (lv1 := [(6, .ref u1), (5, .int 1), (4, .int 0), (3, .int (Int32.ofNat ds0.length)), (2, .int 5), (0, .ref ty), (1, .ref ps)]) (st1 := []) 2 rfl ?_
  refine f_go (pc1 := 227) (lv1 := [(6, .ref u1), (5, .int 1), (4, .int 0), (3, .int (Int32.ofNat ds0.length)), (2, .int 5), (0, .ref ty), (1, .ref ps)]) (st1 := [.ref ty]) 6 rfl ?_
  refine f_getf rfl rfl (g := 289) rfl c_ty T5_289 ?_
  refine f_go (pc1 := 234) (lv1 := [(6, .ref u1), (5, .int 1), (4, .int 0), (3, .int (Int32.ofNat ds0.length)), (2, .int 5), (0, .ref ty), (1, .ref ps)]) (st1 := [.ref u1, .int 1, .ref (sZ σ + 1)]) 2 rfl ?_
  have hc1 : sC (T5 σ ty ig bo root x tk ds0 (va_up (fun _ => none) 0 (some u0))) 1 u1 = true := c_u1
  have hr1 : sR (T5 σ ty ig bo root x tk ds0 (va_up (fun _ => none) 0 (some u0))) (sZ σ + 1) = some (2, 5, va_up (fun _ => none) 0 (some u0)) := T5_UR
  refine f_aast (q := sZ σ + 1) (n := 5) (j := 2) (ci := 1) (f := va_up (fun _ => none) 0 (some u0)) (y := u1) (i := 1) rfl hr1 hc1 rfl rfl rfl (by decide) (by decide) ?_
  rw [T5_put]
  refine f_go (pc1 := 240) (lv1 := [(5, .int 2), (6, .ref u1), (4, .int 0), (3, .int (Int32.ofNat ds0.length)), (2, .int 5), (0, .ref ty), (1, .ref ps)]) (st1 := [.ref u1]) 2 rfl ?_
  refine f_getf rfl rfl (g := 37) rfl c_u1 u1_next ?_
  refine f_go (pc1 := 215) (lv1 := [(6, .ref u2), (5, .int 2), (4, .int 0), (3, .int (Int32.ofNat ds0.length)), (2, .int 5), (0, .ref ty), (1, .ref ps)]) (st1 := []) 2 rfl ?_
  refine f_go (pc1 := 227) (lv1 := [(6, .ref u2), (5, .int 2), (4, .int 0), (3, .int (Int32.ofNat ds0.length)), (2, .int 5), (0, .ref ty), (1, .ref ps)]) (st1 := [.ref ty]) 6 rfl ?_
  refine f_getf rfl rfl (g := 289) rfl c_ty T5_289 ?_
  refine f_go (pc1 := 234) (lv1 := [(6, .ref u2), (5, .int 2), (4, .int 0), (3, .int (Int32.ofNat ds0.length)), (2, .int 5), (0, .ref ty), (1, .ref ps)]) (st1 := [.ref u2, .int 2, .ref (sZ σ + 1)]) 2 rfl ?_
  have hc2 : sC (T5 σ ty ig bo root x tk ds0 (va_up (va_up (fun _ => none) 0 (some u0)) 1 (some u1))) 1 u2 = true := c_u2
  have hr2 : sR (T5 σ ty ig bo root x tk ds0 (va_up (va_up (fun _ => none) 0 (some u0)) 1 (some u1))) (sZ σ + 1) = some (2, 5, va_up (va_up (fun _ => none) 0 (some u0)) 1 (some u1)) := T5_UR
  refine f_aast (q := sZ σ + 1) (n := 5) (j := 2) (ci := 1) (f := va_up (va_up (fun _ => none) 0 (some u0)) 1 (some u1)) (y := u2) (i := 2) rfl hr2 hc2 rfl rfl rfl (by decide) (by decide) ?_
  rw [T5_put]
  refine f_go (pc1 := 240) (lv1 := [(5, .int 3), (6, .ref u2), (4, .int 0), (3, .int (Int32.ofNat ds0.length)), (2, .int 5), (0, .ref ty), (1, .ref ps)]) (st1 := [.ref u2]) 2 rfl ?_
  refine f_getf rfl rfl (g := 37) rfl c_u2 u2_next ?_
  refine f_go (pc1 := 215) (lv1 := [(6, .ref u3), (5, .int 3), (4, .int 0), (3, .int (Int32.ofNat ds0.length)), (2, .int 5), (0, .ref ty), (1, .ref ps)]) (st1 := []) 2 rfl ?_
  refine f_go (pc1 := 227) (lv1 := [(6, .ref u3), (5, .int 3), (4, .int 0), (3, .int (Int32.ofNat ds0.length)), (2, .int 5), (0, .ref ty), (1, .ref ps)]) (st1 := [.ref ty]) 6 rfl ?_
  refine f_getf rfl rfl (g := 289) rfl c_ty T5_289 ?_
  refine f_go (pc1 := 234) (lv1 := [(6, .ref u3), (5, .int 3), (4, .int 0), (3, .int (Int32.ofNat ds0.length)), (2, .int 5), (0, .ref ty), (1, .ref ps)]) (st1 := [.ref u3, .int 3, .ref (sZ σ + 1)]) 2 rfl ?_
  have hc3 : sC (T5 σ ty ig bo root x tk ds0 (va_up (va_up (va_up (fun _ => none) 0 (some u0)) 1 (some u1)) 2 (some u2))) 1 u3 = true := c_u3
  have hr3 : sR (T5 σ ty ig bo root x tk ds0 (va_up (va_up (va_up (fun _ => none) 0 (some u0)) 1 (some u1)) 2 (some u2))) (sZ σ + 1) = some (2, 5, va_up (va_up (va_up (fun _ => none) 0 (some u0)) 1 (some u1)) 2 (some u2)) := T5_UR
  refine f_aast (q := sZ σ + 1) (n := 5) (j := 2) (ci := 1) (f := va_up (va_up (va_up (fun _ => none) 0 (some u0)) 1 (some u1)) 2 (some u2)) (y := u3) (i := 3) rfl hr3 hc3 rfl rfl rfl (by decide) (by decide) ?_
  rw [T5_put]
  refine f_go (pc1 := 240) (lv1 := [(5, .int 4), (6, .ref u3), (4, .int 0), (3, .int (Int32.ofNat ds0.length)), (2, .int 5), (0, .ref ty), (1, .ref ps)]) (st1 := [.ref u3]) 2 rfl ?_
  refine f_getf rfl rfl (g := 37) rfl c_u3 u3_next ?_
  refine f_go (pc1 := 215) (lv1 := [(6, .ref u4), (5, .int 4), (4, .int 0), (3, .int (Int32.ofNat ds0.length)), (2, .int 5), (0, .ref ty), (1, .ref ps)]) (st1 := []) 2 rfl ?_
  refine f_go (pc1 := 227) (lv1 := [(6, .ref u4), (5, .int 4), (4, .int 0), (3, .int (Int32.ofNat ds0.length)), (2, .int 5), (0, .ref ty), (1, .ref ps)]) (st1 := [.ref ty]) 6 rfl ?_
  refine f_getf rfl rfl (g := 289) rfl c_ty T5_289 ?_
  refine f_go (pc1 := 234) (lv1 := [(6, .ref u4), (5, .int 4), (4, .int 0), (3, .int (Int32.ofNat ds0.length)), (2, .int 5), (0, .ref ty), (1, .ref ps)]) (st1 := [.ref u4, .int 4, .ref (sZ σ + 1)]) 2 rfl ?_
  have hc4 : sC (T5 σ ty ig bo root x tk ds0 (va_up (va_up (va_up (va_up (fun _ => none) 0 (some u0)) 1 (some u1)) 2 (some u2)) 3 (some u3))) 1 u4 = true := c_u4
  have hr4 : sR (T5 σ ty ig bo root x tk ds0 (va_up (va_up (va_up (va_up (fun _ => none) 0 (some u0)) 1 (some u1)) 2 (some u2)) 3 (some u3))) (sZ σ + 1) = some (2, 5, va_up (va_up (va_up (va_up (fun _ => none) 0 (some u0)) 1 (some u1)) 2 (some u2)) 3 (some u3)) := T5_UR
  refine f_aast (q := sZ σ + 1) (n := 5) (j := 2) (ci := 1) (f := va_up (va_up (va_up (va_up (fun _ => none) 0 (some u0)) 1 (some u1)) 2 (some u2)) 3 (some u3)) (y := u4) (i := 4) rfl hr4 hc4 rfl rfl rfl (by decide) (by decide) ?_
  rw [T5_put]
  refine f_go (pc1 := 240) (lv1 := [(5, .int 5), (6, .ref u4), (4, .int 0), (3, .int (Int32.ofNat ds0.length)), (2, .int 5), (0, .ref ty), (1, .ref ps)]) (st1 := [.ref u4]) 2 rfl ?_
  refine f_getf rfl rfl (g := 37) rfl c_u4 u4_next ?_
  refine f_go (pc1 := 215) (lv1 := [(6, .null), (5, .int 5), (4, .int 0), (3, .int (Int32.ofNat ds0.length)), (2, .int 5), (0, .ref ty), (1, .ref ps)]) (st1 := []) 2 rfl ?_
  refine f_go (pc1 := 248) (lv1 := [(6, .null), (5, .int 5), (4, .int 0), (3, .int (Int32.ofNat ds0.length)), (2, .int 5), (0, .ref ty), (1, .ref ps)]) (st1 := []) 2 rfl ?_
  exact f_rtQ rfl rfl next
theorem g_typesInit {X : ev_X} {d : Nat} {σ : fl_S} (hd : 2 ≤ d) {ty ps sc0 ig bo root lnode x u0 u1 u2 u3 u4 : Nat} {tk : Int32} {ds0 ds1 ds2 ds3 ds4 : List Nat} (c_ty : sC σ 9 ty = true) (hz : sZ σ + 5 ≤ 256) (c_ps : sC σ 6 ps = true) (ps_in : sF σ ps 192 = .ref sc0) (c_sc : sC σ 7 sc0 = true) (sc_tokens : sF σ sc0 227 = .int tk) (ps_integer : sF σ ps 210 = .ref ig) (ps_bool : sF σ ps 211 = .ref bo) (ps_root : sF σ ps 209 = .ref root) (ps_ln : sF σ ps 205 = .ref lnode) (c_ln : sC σ 4 lnode = true) (ln_index : sF σ lnode 129 = .int (Int32.ofNat x)) (ps_units : sF σ ps 207 = .ref u0) (c_u0 : sC σ 1 u0 = true) (u0_next : sF σ u0 37 = .ref u1) (l0 : Ll (fun a => sF σ a 37) (sF σ u0 43) ds0) (c_u1 : sC σ 1 u1 = true) (u1_next : sF σ u1 37 = .ref u2) (l1 : Ll (fun a => sF σ a 37) (sF σ u1 43) ds1) (c_u2 : sC σ 1 u2 = true) (u2_next : sF σ u2 37 = .ref u3) (l2 : Ll (fun a => sF σ a 37) (sF σ u2 43) ds2) (c_u3 : sC σ 1 u3 = true) (u3_next : sF σ u3 37 = .ref u4) (l3 : Ll (fun a => sF σ a 37) (sF σ u3 43) ds3) (c_u4 : sC σ 1 u4 = true) (u4_next : sF σ u4 37 = .null) (l4 : Ll (fun a => sF σ a 37) (sF σ u4 43) ds4) (t0 : ∀ a ∈ ds0, sC σ 1 a = true ∧ (sF σ a 32 = .int 3 ∨ sF σ a 32 = .int 4)) (hT : ds0.length < 100000) (t1 : ∀ a ∈ ds1, sC σ 1 a = true ∧ (∃ kd, sF σ a 32 = .int kd ∧ ¬ kd = 3 ∧ ¬ kd = 4 ∧ ¬ kd = 9)) (t2 : ∀ a ∈ ds2, sC σ 1 a = true ∧ (∃ kd, sF σ a 32 = .int kd ∧ ¬ kd = 3 ∧ ¬ kd = 4 ∧ ¬ kd = 9)) (t3 : ∀ a ∈ ds3, sC σ 1 a = true ∧ (∃ kd, sF σ a 32 = .int kd ∧ ¬ kd = 3 ∧ ¬ kd = 4 ∧ ¬ kd = 9)) (t4 : ∀ a ∈ ds4, sC σ 1 a = true ∧ (∃ kd, sF σ a 32 = .int kd ∧ ¬ kd = 3 ∧ ¬ kd = 4 ∧ ¬ kd = 9)) : CF X d 73 [.ref ty, .ref ps] σ none (T5 σ ty ig bo root x tk ds0 (va_up (va_up (va_up (va_up (va_up (fun _ => none) 0 (some u0)) 1 (some u1)) 2 (some u2)) 3 (some u3)) 4 (some u4))) := by
  refine f_meth (by omega) rfl ?_
  exact g_tiA hd c_ty hz c_ps ps_in c_sc sc_tokens ps_integer ps_bool ps_root ps_ln c_ln ln_index ps_units c_u0 u0_next l0 c_u1 u1_next l1 c_u2 u2_next l2 c_u3 u3_next l3 c_u4 u4_next l4 t0 hT t1 t2 t3 t4 (g_tiB hd c_ty hz c_ps ps_in c_sc sc_tokens ps_integer ps_bool ps_root ps_ln c_ln ln_index ps_units c_u0 u0_next l0 c_u1 u1_next l1 c_u2 u2_next l2 c_u3 u3_next l3 c_u4 u4_next l4 t0 hT t1 t2 t3 t4 (g_tiC hd c_ty hz c_ps ps_in c_sc sc_tokens ps_integer ps_bool ps_root ps_ln c_ln ln_index ps_units c_u0 u0_next l0 c_u1 u1_next l1 c_u2 u2_next l2 c_u3 u3_next l3 c_u4 u4_next l4 t0 hT t1 t2 t3 t4 (g_tiD hd c_ty hz c_ps ps_in c_sc sc_tokens ps_integer ps_bool ps_root ps_ln c_ln ln_index ps_units c_u0 u0_next l0 c_u1 u1_next l1 c_u2 u2_next l2 c_u3 u3_next l3 c_u4 u4_next l4 t0 hT t1 t2 t3 t4 ⟨rfl, rfl⟩)))
