/-! what a program needs to run -/
/-- what layOut needs of the types: what is above them, their levels, the one FIELD of a level -/
def LW (X : ev_X) (d : Nat) (σ : fl_S) (ty pr : Nat) (ns : List Nat) (nn : Nat) (kd : Nat → Int32) (rl : Nat → Nat) (on : Nat → Option Nat) (f lv : Nat → Option Nat) (it ti ri : Nat → Nat) (fc cl : Nat → Int32) : Prop :=
  sC σ 9 ty = true ∧ sF σ ty 297 = va_rf ns.head? ∧ sF σ ty 298 = .int (Int32.ofNat nn) ∧ nn < 100000 ∧ Ll (fun a => sF σ a 146) (va_rf ns.head?) ns ∧ (∀ a ∈ ns, SA σ kd rl on a) ∧ (∀ a ∈ ns, sF σ a 140 = va_rf (f a) ∧ ∀ b, f a = some b → b ∈ ns) ∧
  (∀ φ φ', ∀ a ∈ ns, CF X d 108 [.ref ty, .ref a] (sS (sS σ 145 φ) 42 φ') (some (.int (fc a))) (sS (sS σ 145 φ) 42 φ')) ∧ (∀ φ φ', ∀ a ∈ ns, ownt kd rl on a = true → CF X d 79 [.ref ty, .null, .ref a] (sS (sS σ 145 φ) 42 φ') (some (va_rf (lv a))) (sS (sS σ 145 φ) 42 φ')) ∧
  (∀ a ∈ ns, ownt kd rl on a = true → ∀ w, lv a = some w → sC σ 4 w = true ∧ sF σ w 135 = .ref (it w) ∧ sC σ 1 (it w) = true ∧ sF σ (it w) 32 = .int 10 ∧ sF σ (it w) 37 = .null ∧ sF σ (it w) 38 = .ref (ti w) ∧ sC σ 4 (ti w) = true ∧ sF σ (ti w) 139 = .ref (ri w) ∧ sC σ 4 (ri w) = true ∧ sF σ (ri w) 143 = .int (cl w)) ∧
  sF σ ty 291 = .ref pr ∧ ∃ PR, sR σ pr = some (2, 0, PR)
section LAY
variable {X : ev_X} {d : Nat} {σ : fl_S} {Q : Option Value → fl_S → Prop} {ty pr nn : Nat} {ns : List Nat} {kd : Nat → Int32} {rl : Nat → Nat} {on : Nat → Option Nat} {f lv : Nat → Option Nat} {it ti ri : Nat → Nat} {fc cl : Nat → Int32}
theorem g_lo1 (hW : LW X (d - 1) σ ty pr ns nn kd rl on f lv it ti ri fc cl) {n : Nat} {φ φ' : Nat → Value} (next : ∀ x, EQ X (d - 1) 107 60 [(2, .int x), (1, .ref n), (0, .ref ty)] [] (sS (sS σ 145 φ) 42 φ') Q) : ∀ (m i : Nat) (c : Option Nat) (x : Int32), m + i = nn → (∀ b, c = some b → b ∈ ns) → EQ X (d - 1) 107 28 [(4, .int (Int32.ofNat i)), (3, va_rf c), (2, .int x), (1, .ref n), (0, .ref ty)] [] (sS (sS σ 145 φ) 42 φ') Q := by
  obtain ⟨cty, ty_nodes, ty_nc, hnn, hll, hA, hup, hfc, hlv, hit, ty_pr, PR, hpr⟩ := hW
  intro m
  induction m with
  | zero =>
    intro i c x hi hc
    have hi : i = nn := by omega
    subst hi
    refine f_go (pc1 := 31) (lv1 := [(4, .int (Int32.ofNat i)), (3, va_rf c), (2, .int x), (1, .ref n), (0, .ref ty)]) (st1 := [.ref ty, .int (Int32.ofNat i)]) 2 rfl ?_
    refine f_getf rfl rfl (g := 298) rfl cty ty_nc ?_
    refine f_icmp (t := 60) rfl rfl true (nat_geT (by omega) (by omega) (Nat.le_refl _)) ?_
    refine f_lv [(2, .int x), (1, .ref n), (0, .ref ty)] (fl_c rfl (fl_c rfl (fl_c rfl fl_0))) ?_
    exact next x
  | succ m ih =>
    intro i c x hi hc
    cases c with
    | none =>
      show EQ X (d - 1) 107 28 [(4, .int (Int32.ofNat i)), (3, .null), (2, .int x), (1, .ref n), (0, .ref ty)] [] _ Q
      refine f_go (pc1 := 31) (lv1 := [(4, .int (Int32.ofNat i)), (3, .null), (2, .int x), (1, .ref n), (0, .ref ty)]) (st1 := [.ref ty, .int (Int32.ofNat i)]) 2 rfl ?_
      refine f_getf rfl rfl (g := 298) rfl cty ty_nc ?_
      refine f_icmp (t := 60) rfl rfl false (nat_lt (by omega) (by omega) (by omega)) ?_
      refine f_go (pc1 := 60) (lv1 := [(4, .int (Int32.ofNat i)), (3, .null), (2, .int x), (1, .ref n), (0, .ref ty)]) (st1 := []) 2 rfl ?_
      refine f_lv [(2, .int x), (1, .ref n), (0, .ref ty)] (fl_c rfl (fl_c rfl (fl_c rfl fl_0))) ?_
      exact next x
    | some a =>
      have ha := hc a rfl
      obtain ⟨u1, u2⟩ := hup a ha
      have c_a := (hA a ha).1
      have hC := hfc φ φ' a ha
      show EQ X (d - 1) 107 28 [(4, .int (Int32.ofNat i)), (3, .ref a), (2, .int x), (1, .ref n), (0, .ref ty)] [] _ Q
      refine f_go (pc1 := 31) (lv1 := [(4, .int (Int32.ofNat i)), (3, .ref a), (2, .int x), (1, .ref n), (0, .ref ty)]) (st1 := [.ref ty, .int (Int32.ofNat i)]) 2 rfl ?_
      refine f_getf rfl rfl (g := 298) rfl cty ty_nc ?_
      refine f_icmp (t := 60) rfl rfl false (nat_lt (by omega) (by omega) (by omega)) ?_
      refine f_go (pc1 := 44) (lv1 := [(4, .int (Int32.ofNat i)), (3, .ref a), (2, .int x), (1, .ref n), (0, .ref ty)]) (st1 := [.ref a, .ref ty, .int x]) 5 rfl ?_
      refine f_vt rfl rfl cty rfl hC ?_
      refine f_go (pc1 := 50) (lv1 := [(2, .int (x + (fc a))), (4, .int (Int32.ofNat i)), (3, .ref a), (1, .ref n), (0, .ref ty)]) (st1 := [.ref a]) 3 rfl ?_
      refine f_getf rfl rfl (g := 140) rfl c_a u1 ?_
      refine f_astn rfl (f a) rfl ?_
      refine f_inc [(3, va_rf (f a)), (2, .int (x + (fc a))), (1, .ref n), (0, .ref ty)] rfl rfl rfl (fj_v rfl rfl (fj_c rfl rfl rfl (fj_c rfl rfl rfl (fj_c rfl rfl rfl fj_0)))) ?_
      refine f_go (pc1 := 28) (lv1 := [(4, .int ((Int32.ofNat i) + 1)), (3, va_rf (f a)), (2, .int (x + (fc a))), (1, .ref n), (0, .ref ty)]) (st1 := []) 1 rfl ?_
      rw [nat_s i]
      refine f_lv [(4, .int (Int32.ofNat (i + 1))), (3, va_rf (f a)), (2, .int (x + fc a)), (1, .ref n), (0, .ref ty)] (fl_c rfl (fl_c rfl (fl_c rfl (fl_c rfl (fl_c rfl fl_0))))) ?_
      exact ih (i + 1) (f a) _ (by omega) u2
theorem g_lo2 (hW : LW X (d - 1) σ ty pr ns nn kd rl on f lv it ti ri fc cl) {φ' : Nat → Value} (next : ∀ φ, (∀ n ∈ ns, ∃ x, φ n = .int x) → EQ X (d - 1) 107 73 [(0, .ref ty)] [] (sS (sS σ 145 φ) 42 φ') Q) : ∀ (l done : List Nat) (φ : Nat → Value), ns = done ++ l → (∀ n ∈ done, ∃ x, φ n = .int x) → EQ X (d - 1) 107 5 [(1, va_rf l.head?), (0, .ref ty)] [] (sS (sS σ 145 φ) 42 φ') Q := by
  have hW' := hW
  obtain ⟨cty, ty_nodes, ty_nc, hnn, hll, hA, hup, hfc, hlv, hit, ty_pr, PR, hpr⟩ := hW'
  intro l
  induction l with
  | nil =>
    intro done φ hns hD
    rw [List.append_nil] at hns
    subst hns
    show EQ X (d - 1) 107 5 [(1, .null), (0, .ref ty)] [] _ Q
    refine f_go (pc1 := 73) (lv1 := [(1, .null), (0, .ref ty)]) (st1 := []) 2 rfl ?_
    refine f_lv [(0, .ref ty)] (fl_c rfl fl_0) ?_
    exact next φ hD
  | cons n r ih =>
    intro done φ hns hD
    have hn : n ∈ ns := by rw [hns]; exact List.mem_append_right _ List.mem_cons_self
    have hns2 : ns = (done ++ [n]) ++ r := by rw [hns]; simp
    have n_next : sF σ n 146 = va_rf r.head? := by
      rw [hns] at hll
      obtain ⟨w, h1, -⟩ := Ll.app hll
      exact h1.2.hd
    obtain ⟨A1, A2, A3, A4⟩ := hA n hn
    have tail : ∀ x, EQ X (d - 1) 107 60 [(2, .int x), (1, .ref n), (0, .ref ty)] [] (sS (sS σ 145 φ) 42 φ') Q := by
      intro x
      refine f_go (pc1 := 62) (lv1 := [(2, .int x), (1, .ref n), (0, .ref ty)]) (st1 := [.int x, .ref n]) 2 rfl ?_
      refine f_putf rfl rfl (g := 145) rfl A1 rfl ?_
      refine f_cv (σ1 := sS (sS σ 145 (fun b => bif Nat.beq b n then Value.int x else φ b)) 42 φ') ?_ ?_
      · refine Prod.ext rfl (Prod.ext ?_ rfl)
        funext b h
        show FS (FS (sF σ) 145 (fun b => bif Nat.beq b n then Value.int x else φ b)) 42 φ' b h = FU (FS (FS (sF σ) 145 φ) 42 φ') n 145 (.int x) b h
        unfold FU FS
        by_cases e : h = 42
        · subst e; rfl
        · rw [nb_ne e]
          cases Nat.beq h 145 <;> rfl
      refine f_go (pc1 := 66) (lv1 := [(2, .int x), (1, .ref n), (0, .ref ty)]) (st1 := [.ref n]) 1 rfl ?_
      refine f_getf rfl rfl (g := 146) rfl A1 n_next ?_
      refine f_astn rfl r.head? rfl ?_
      refine f_go (pc1 := 5) (lv1 := [(1, va_rf r.head?), (2, .int x), (0, .ref ty)]) (st1 := []) 1 rfl ?_
      refine f_lv [(1, va_rf r.head?), (0, .ref ty)] (fl_c rfl (fl_c rfl fl_0)) ?_
      refine ih _ _ hns2 (fun y hy => ?_)
      by_cases e : y = n
      · subst e; exact ⟨x, by simp only [nb_self, cond_true]⟩
      · simp only [nb_ne e, cond_false]
        rcases List.mem_append.mp hy with q | q
        · exact hD y q
        · exact absurd (List.mem_singleton.mp q) e
    show EQ X (d - 1) 107 5 [(1, .ref n), (0, .ref ty)] [] _ Q
    refine f_go (pc1 := 12) (lv1 := [(2, .int 0), (1, .ref n), (0, .ref ty)]) (st1 := [.ref n]) 5 rfl ?_
    refine f_getf rfl rfl (g := 139) rfl A1 A3 ?_
    refine f_go (pc1 := 16) (lv1 := [(2, .int 0), (1, .ref n), (0, .ref ty)]) (st1 := [.ref n, .ref (rl n)]) 1 rfl ?_
    by_cases x1 : rl n = n
    ·
      refine f_acmp (t := 23) rfl rfl false (by simp [x1]) ?_
      refine f_go (pc1 := 28) (lv1 := [(4, .int 0), (3, .ref n), (2, .int 0), (1, .ref n), (0, .ref ty)]) (st1 := []) 5 rfl ?_
      refine f_lv [(4, .int (Int32.ofNat 0)), (3, va_rf (some n)), (2, .int 0), (1, .ref n), (0, .ref ty)] (fl_c rfl (fl_c rfl (fl_c rfl (fl_c rfl (fl_c rfl fl_0))))) ?_
      exact g_lo1 hW tail nn 0 (some n) 0 (by omega) (fun b hb => by cases hb; exact hn)
    ·
      refine f_acmp (t := 23) rfl rfl true (by simp [x1]) ?_
      refine f_go (pc1 := 28) (lv1 := [(4, .int 0), (3, .null), (2, .int 0), (1, .ref n), (0, .ref ty)]) (st1 := []) 4 rfl ?_
      refine f_lv [(4, .int (Int32.ofNat 0)), (3, va_rf none), (2, .int 0), (1, .ref n), (0, .ref ty)] (fl_c rfl (fl_c rfl (fl_c rfl (fl_c rfl (fl_c rfl fl_0))))) ?_
      exact g_lo1 hW tail nn 0 none 0 (by omega) (fun b hb => by cases hb)
theorem g_lo3 (hd : 2 ≤ d) (hW : LW X (d - 1) σ ty pr ns nn kd rl on f lv it ti ri fc cl) {φ : Nat → Value} (hφ : ∀ n ∈ ns, ∃ x, φ n = .int x) (next : ∀ φ', EQ X (d - 1) 107 186 [(0, .ref ty)] [] (sS (sS σ 145 φ) 42 φ') Q) : ∀ (l done : List Nat) (φ' : Nat → Value), ns = done ++ l → EQ X (d - 1) 107 78 [(1, va_rf l.head?), (0, .ref ty)] [] (sS (sS σ 145 φ) 42 φ') Q := by
  obtain ⟨cty, ty_nodes, ty_nc, hnn, hll, hA, hup, hfc, hlv, hit, ty_pr, PR, hpr⟩ := hW
  intro l
  induction l with
  | nil =>
    intro done φ' hns
    show EQ X (d - 1) 107 78 [(1, .null), (0, .ref ty)] [] _ Q
    refine f_go (pc1 := 186) (lv1 := [(1, .null), (0, .ref ty)]) (st1 := []) 2 rfl ?_
    refine f_lv [(0, .ref ty)] (fl_c rfl fl_0) ?_
    exact next φ'
  | cons n r ih =>
    intro done φ' hns
    have hn : n ∈ ns := by rw [hns]; exact List.mem_append_right _ List.mem_cons_self
    have hns2 : ns = (done ++ [n]) ++ r := by rw [hns]; simp
    have n_next : sF σ n 146 = va_rf r.head? := by
      rw [hns] at hll
      obtain ⟨w, h1, -⟩ := Ll.app hll
      exact h1.2.hd
    have hAn := hA n hn
    obtain ⟨A1, A2, A3, A4⟩ := hA n hn
    obtain ⟨u1, u2⟩ := hup n hn
    have ih := fun φ' => ih _ φ' hns2
    have nolevel : EQ X (d - 1) 107 99 [(1, .ref n), (0, .ref ty)] [.null] (sS (sS σ 145 φ) 42 φ') Q := by
      cases hu : f n with
      | none =>
        rw [hu] at u1
        refine f_go (pc1 := 101) (lv1 := [(2, .null), (1, .ref n), (0, .ref ty)]) (st1 := [.ref n]) 2 rfl ?_
        refine f_getf rfl rfl (g := 140) rfl A1 u1 ?_
        refine f_go (pc1 := 179) (lv1 := [(4, .null), (3, .int 0), (2, .null), (1, .ref n), (0, .ref ty)]) (st1 := [.ref n]) 12 rfl ?_
        refine f_getf rfl rfl (g := 146) rfl A1 n_next ?_
        refine f_astn rfl r.head? rfl ?_
        refine f_go (pc1 := 78) (lv1 := [(1, va_rf r.head?), (4, .null), (3, .int 0), (2, .null), (0, .ref ty)]) (st1 := []) 1 rfl ?_
        refine f_lv [(1, va_rf r.head?), (0, .ref ty)] (fl_c rfl (fl_c rfl fl_0)) ?_
        exact ih φ'
      | some b =>
        rw [hu] at u1
        have hb := u2 b hu
        have c_b := (hA b hb).1
        obtain ⟨x, hx⟩ := hφ b hb
        refine f_go (pc1 := 101) (lv1 := [(2, .null), (1, .ref n), (0, .ref ty)]) (st1 := [.ref n]) 2 rfl ?_
        refine f_getf rfl rfl (g := 140) rfl A1 u1 ?_
        refine f_go (pc1 := 112) (lv1 := [(2, .null), (1, .ref n), (0, .ref ty)]) (st1 := [.ref n]) 2 rfl ?_
        refine f_getf rfl rfl (g := 140) rfl A1 u1 ?_
        refine f_getf rfl rfl (g := 145) rfl c_b hx ?_
        refine f_go (pc1 := 179) (lv1 := [(4, .null), (3, .int x), (2, .null), (1, .ref n), (0, .ref ty)]) (st1 := [.ref n]) 9 rfl ?_
        refine f_getf rfl rfl (g := 146) rfl A1 n_next ?_
        refine f_astn rfl r.head? rfl ?_
        refine f_go (pc1 := 78) (lv1 := [(1, va_rf r.head?), (4, .null), (3, .int x), (2, .null), (0, .ref ty)]) (st1 := []) 1 rfl ?_
        refine f_lv [(1, va_rf r.head?), (0, .ref ty)] (fl_c rfl (fl_c rfl fl_0)) ?_
        exact ih φ'
    show EQ X (d - 1) 107 78 [(1, .ref n), (0, .ref ty)] [] _ Q
    refine f_go (pc1 := 83) (lv1 := [(1, .ref n), (0, .ref ty)]) (st1 := [.ref n]) 3 rfl ?_
    refine f_st rfl rfl rfl rfl (g_isOwnType (by omega) hAn) ?_
    cases ho : ownt kd rl on n with
    | false =>
      show EQ X (d - 1) 107 86 [(1, .ref n), (0, .ref ty)] [.int 0] _ Q
      refine f_go (pc1 := 99) (lv1 := [(1, .ref n), (0, .ref ty)]) (st1 := [.null]) 2 rfl ?_
      exact nolevel
    | true =>
      show EQ X (d - 1) 107 86 [(1, .ref n), (0, .ref ty)] [.int 1] _ Q
      have hC := hlv φ φ' n hn ho
      refine f_go (pc1 := 92) (lv1 := [(1, .ref n), (0, .ref ty)]) (st1 := [.ref n, .null, .ref ty]) 4 rfl ?_
      refine f_vt rfl rfl cty rfl hC ?_
      refine f_go (pc1 := 99) (lv1 := [(1, .ref n), (0, .ref ty)]) (st1 := [va_rf (lv n)]) 1 rfl ?_
      cases hw : lv n with
      | none => exact nolevel
      | some w =>
        obtain ⟨q1, q2, q3, q4, q5, q6, q7, q8, q9, q10⟩ := hit n hn ho w hw
        show EQ X (d - 1) 107 99 [(1, .ref n), (0, .ref ty)] [.ref w] _ Q
        cases hu : f n with
        | none =>
          rw [hu] at u1
          refine f_go (pc1 := 101) (lv1 := [(2, .ref w), (1, .ref n), (0, .ref ty)]) (st1 := [.ref n]) 2 rfl ?_
          refine f_getf rfl rfl (g := 140) rfl A1 u1 ?_
          refine f_go (pc1 := 128) (lv1 := [(3, .int 0), (2, .ref w), (1, .ref n), (0, .ref ty)]) (st1 := [.ref w]) 7 rfl ?_
          refine f_getf rfl rfl (g := 135) rfl q1 q2 ?_
          refine f_go (pc1 := 140) (lv1 := [(4, .ref (it w)), (3, .int 0), (2, .ref w), (1, .ref n), (0, .ref ty)]) (st1 := [.ref (it w)]) 4 rfl ?_
          refine f_getf rfl rfl (g := 32) rfl q3 q4 ?_
          refine f_go (pc1 := 151) (lv1 := [(4, .ref (it w)), (3, .int 0), (2, .ref w), (1, .ref n), (0, .ref ty)]) (st1 := [.int 0, .ref (it w)]) 4 rfl ?_
          refine f_putf rfl rfl (g := 42) rfl q3 rfl ?_
          rw [sU_sS]
          refine f_go (pc1 := 157) (lv1 := [(4, .ref (it w)), (3, .int 0), (2, .ref w), (1, .ref n), (0, .ref ty)]) (st1 := [.ref (it w), .int 0]) 2 rfl ?_
          refine f_getf rfl rfl (g := 38) rfl q3 q6 ?_
          refine f_getf rfl rfl (g := 139) rfl q7 q8 ?_
          refine f_getf rfl rfl (g := 143) rfl q9 q10 ?_
          refine f_go (pc1 := 170) (lv1 := [(3, .int (0 + (cl w))), (4, .ref (it w)), (2, .ref w), (1, .ref n), (0, .ref ty)]) (st1 := [.ref (it w)]) 3 rfl ?_
          refine f_getf rfl rfl (g := 37) rfl q3 q5 ?_
          refine f_go (pc1 := 179) (lv1 := [(4, .null), (3, .int (0 + (cl w))), (2, .ref w), (1, .ref n), (0, .ref ty)]) (st1 := [.ref n]) 5 rfl ?_
          refine f_getf rfl rfl (g := 146) rfl A1 n_next ?_
          refine f_astn rfl r.head? rfl ?_
          refine f_go (pc1 := 78) (lv1 := [(1, va_rf r.head?), (4, .null), (3, .int (0 + (cl w))), (2, .ref w), (0, .ref ty)]) (st1 := []) 1 rfl ?_
          refine f_lv [(1, va_rf r.head?), (0, .ref ty)] (fl_c rfl (fl_c rfl fl_0)) ?_
          exact ih _
        | some b =>
          rw [hu] at u1
          have hb := u2 b hu
          have c_b := (hA b hb).1
          obtain ⟨x, hx⟩ := hφ b hb
          refine f_go (pc1 := 101) (lv1 := [(2, .ref w), (1, .ref n), (0, .ref ty)]) (st1 := [.ref n]) 2 rfl ?_
          refine f_getf rfl rfl (g := 140) rfl A1 u1 ?_
          refine f_go (pc1 := 112) (lv1 := [(2, .ref w), (1, .ref n), (0, .ref ty)]) (st1 := [.ref n]) 2 rfl ?_
          refine f_getf rfl rfl (g := 140) rfl A1 u1 ?_
          refine f_getf rfl rfl (g := 145) rfl c_b hx ?_
          refine f_go (pc1 := 128) (lv1 := [(3, .int x), (2, .ref w), (1, .ref n), (0, .ref ty)]) (st1 := [.ref w]) 4 rfl ?_
          refine f_getf rfl rfl (g := 135) rfl q1 q2 ?_
          refine f_go (pc1 := 140) (lv1 := [(4, .ref (it w)), (3, .int x), (2, .ref w), (1, .ref n), (0, .ref ty)]) (st1 := [.ref (it w)]) 4 rfl ?_
          refine f_getf rfl rfl (g := 32) rfl q3 q4 ?_
          refine f_go (pc1 := 151) (lv1 := [(4, .ref (it w)), (3, .int x), (2, .ref w), (1, .ref n), (0, .ref ty)]) (st1 := [.int x, .ref (it w)]) 4 rfl ?_
          refine f_putf rfl rfl (g := 42) rfl q3 rfl ?_
          rw [sU_sS]
          refine f_go (pc1 := 157) (lv1 := [(4, .ref (it w)), (3, .int x), (2, .ref w), (1, .ref n), (0, .ref ty)]) (st1 := [.ref (it w), .int x]) 2 rfl ?_
          refine f_getf rfl rfl (g := 38) rfl q3 q6 ?_
          refine f_getf rfl rfl (g := 139) rfl q7 q8 ?_
          refine f_getf rfl rfl (g := 143) rfl q9 q10 ?_
          refine f_go (pc1 := 170) (lv1 := [(3, .int (x + (cl w))), (4, .ref (it w)), (2, .ref w), (1, .ref n), (0, .ref ty)]) (st1 := [.ref (it w)]) 3 rfl ?_
          refine f_getf rfl rfl (g := 37) rfl q3 q5 ?_
          refine f_go (pc1 := 179) (lv1 := [(4, .null), (3, .int (x + (cl w))), (2, .ref w), (1, .ref n), (0, .ref ty)]) (st1 := [.ref n]) 5 rfl ?_
          refine f_getf rfl rfl (g := 146) rfl A1 n_next ?_
          refine f_astn rfl r.head? rfl ?_
          refine f_go (pc1 := 78) (lv1 := [(1, va_rf r.head?), (4, .null), (3, .int (x + (cl w))), (2, .ref w), (0, .ref ty)]) (st1 := []) 1 rfl ?_
          refine f_lv [(1, va_rf r.head?), (0, .ref ty)] (fl_c rfl (fl_c rfl fl_0)) ?_
          exact ih _
theorem g_layOut (hd : 2 ≤ d) (hW : LW X (d - 1) σ ty pr ns nn kd rl on f lv it ti ri fc cl) : CQ X d 107 [.ref ty] σ (fun v σ1 => v = none ∧ ∃ φ φ', σ1 = sS (sS σ 145 φ) 42 φ') := by
  have hW' := hW
  obtain ⟨cty, ty_nodes, ty_nc, hnn, hll, hA, hup, hfc, hlv, hit, ty_pr, PR, hpr⟩ := hW'
  refine f_meth (by omega) rfl ?_
  refine f_go (pc1 := 1) (lv1 := [(0, .ref ty)]) (st1 := [.ref ty]) 1 rfl ?_
  refine f_getf rfl rfl (g := 297) rfl cty ty_nodes ?_
  refine f_astn rfl ns.head? rfl ?_
  refine f_lv [(1, va_rf ns.head?), (0, .ref ty)] (fl_c rfl (fl_c rfl fl_0)) ?_
  refine f_cv (σ1 := sS (sS σ 145 (fun b => sF σ b 145)) 42 (fun b => sF σ b 42)) ?_ ?_
  · rw [sS_same]; exact sS_same
  refine g_lo2 hW ?_ ns [] _ rfl (fun n hn => by cases hn)
  intro φ hφ
  refine f_go (pc1 := 74) (lv1 := [(0, .ref ty)]) (st1 := [.ref ty]) 1 rfl ?_
  refine f_getf rfl rfl (g := 297) rfl cty ty_nodes ?_
  refine f_astn rfl ns.head? rfl ?_
  refine f_lv [(1, va_rf ns.head?), (0, .ref ty)] (fl_c rfl (fl_c rfl fl_0)) ?_
  refine g_lo3 hd hW hφ ?_ ns [] _ rfl
  intro φ'
  refine f_go (pc1 := 190) (lv1 := [(1, .int 0), (0, .ref ty)]) (st1 := [.ref ty, .int 0]) 4 rfl ?_
  refine f_getf rfl rfl (g := 291) rfl cty ty_pr ?_
  refine f_alR rfl hpr rfl ?_
  refine f_icmp (t := 221) rfl rfl true (nat_geT (m := 0) (n := 0) (by decide) (by decide) (by decide)) ?_
  exact f_rtQ rfl rfl ⟨rfl, φ, φ', rfl⟩
end LAY
