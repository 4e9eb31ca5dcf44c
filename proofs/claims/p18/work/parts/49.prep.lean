/-! names replaced, what is above, REVEALs linked, views, sizes -/
theorem g_replaced_o {X : ev_X} {d : Nat} {σ : fl_S} (hd : 1 ≤ d) {ty tr T a : Nat} {TR : Nat → Option Nat} {k : Int32} (cty : sC σ 9 ty = true) (ty_row : sF σ ty 290 = .ref tr) (htr : sR σ tr = some (2, T, TR)) (hT : T < 100000) (c_a : sC σ 4 a = true) (a_kind : sF σ a 128 = .int k) (k13 : ¬ k = 13) : CF X d 76 [.ref ty, .ref a] σ (some (.ref a)) σ := by
  refine f_meth (by omega) rfl ?_
  refine f_go (pc1 := 6) (lv1 := [(3, .int 0), (2, .ref a), (0, .ref ty), (1, .ref a)]) (st1 := [.ref ty, .int 0]) 6 rfl ?_
  refine f_getf rfl rfl (g := 290) rfl cty ty_row ?_
  refine f_alR rfl htr rfl ?_
  refine f_icmp (t := 39) rfl rfl false (nat_gtF (m := 0) (by omega) (by omega) (by omega)) ?_
  refine f_go (pc1 := 14) (lv1 := [(3, .int 0), (2, .ref a), (0, .ref ty), (1, .ref a)]) (st1 := [.ref a]) 1 rfl ?_
  refine f_getf rfl rfl (g := 128) rfl c_a a_kind ?_
  refine f_go (pc1 := 19) (lv1 := [(3, .int 0), (2, .ref a), (0, .ref ty), (1, .ref a)]) (st1 := [.int 13, .int k]) 1 rfl ?_
  refine f_icmp (t := 39) rfl rfl true (ic_ne k13) ?_
  refine f_go (pc1 := 40) (lv1 := [(3, .int 0), (2, .ref a), (0, .ref ty), (1, .ref a)]) (st1 := [.ref a]) 1 rfl ?_
  refine f_getf rfl rfl (g := 128) rfl c_a a_kind ?_
  refine f_go (pc1 := 45) (lv1 := [(3, .int 0), (2, .ref a), (0, .ref ty), (1, .ref a)]) (st1 := [.int 13, .int k]) 1 rfl ?_
  refine f_icmp (t := 50) rfl rfl false (ic_eqn k13) ?_
  refine f_go (pc1 := 49) (lv1 := [(3, .int 0), (2, .ref a), (0, .ref ty), (1, .ref a)]) (st1 := [.ref a]) 1 rfl ?_
  exact f_rt rfl rfl
theorem g_replaced_n {X : ev_X} {d : Nat} {σ : fl_S} (hd : 1 ≤ d) {ty tr T a op d0 p : Nat} {TR : Nat → Option Nat} {k : Int32} (cty : sC σ 9 ty = true) (ty_row : sF σ ty 290 = .ref tr) (htr : sR σ tr = some (2, T, TR)) (hT : T < 100000) (hT1 : 1 ≤ T) (c_a : sC σ 4 a = true) (a_kind : sF σ a 128 = .int 13) (a_use : sF σ a 137 = .ref op) (c_op : sC σ 5 op = true) (op_decl : sF σ op 165 = .ref d0) (c_d0 : sC σ 1 d0 = true) (d0_type : sF σ d0 38 = .ref p) (c_p : sC σ 4 p = true) (p_kind : sF σ p 128 = .int k) (k13 : ¬ k = 13) : CF X d 76 [.ref ty, .ref a] σ (some (.ref p)) σ := by
  refine f_meth (by omega) rfl ?_
  refine f_go (pc1 := 6) (lv1 := [(3, .int 0), (2, .ref a), (0, .ref ty), (1, .ref a)]) (st1 := [.ref ty, .int 0]) 6 rfl ?_
  refine f_getf rfl rfl (g := 290) rfl cty ty_row ?_
  refine f_alR rfl htr rfl ?_
  refine f_icmp (t := 39) rfl rfl false (nat_gtF (m := 0) (by omega) (by omega) (by omega)) ?_
  refine f_go (pc1 := 14) (lv1 := [(3, .int 0), (2, .ref a), (0, .ref ty), (1, .ref a)]) (st1 := [.ref a]) 1 rfl ?_
  refine f_getf rfl rfl (g := 128) rfl c_a a_kind ?_
  refine f_go (pc1 := 23) (lv1 := [(3, .int 0), (2, .ref a), (0, .ref ty), (1, .ref a)]) (st1 := [.ref a]) 3 rfl ?_
  refine f_getf rfl rfl (g := 137) rfl c_a a_use ?_
  refine f_getf rfl rfl (g := 165) rfl c_op op_decl ?_
  refine f_getf rfl rfl (g := 38) rfl c_d0 d0_type ?_
  refine f_go (pc1 := 6) (lv1 := [(3, .int 1), (2, .ref p), (0, .ref ty), (1, .ref a)]) (st1 := [.ref ty, .int 1]) 5 rfl ?_
  refine f_getf rfl rfl (g := 290) rfl cty ty_row ?_
  refine f_alR rfl htr rfl ?_
  refine f_icmp (t := 39) rfl rfl false (nat_gtF (m := 1) (by omega) (by omega) (by omega)) ?_
  refine f_go (pc1 := 14) (lv1 := [(3, .int 1), (2, .ref p), (0, .ref ty), (1, .ref a)]) (st1 := [.ref p]) 1 rfl ?_
  refine f_getf rfl rfl (g := 128) rfl c_p p_kind ?_
  refine f_go (pc1 := 19) (lv1 := [(3, .int 1), (2, .ref p), (0, .ref ty), (1, .ref a)]) (st1 := [.int 13, .int k]) 1 rfl ?_
  refine f_icmp (t := 39) rfl rfl true (ic_ne k13) ?_
  refine f_go (pc1 := 40) (lv1 := [(3, .int 1), (2, .ref p), (0, .ref ty), (1, .ref a)]) (st1 := [.ref p]) 1 rfl ?_
  refine f_getf rfl rfl (g := 128) rfl c_p p_kind ?_
  refine f_go (pc1 := 45) (lv1 := [(3, .int 1), (2, .ref p), (0, .ref ty), (1, .ref a)]) (st1 := [.int 13, .int k]) 1 rfl ?_
  refine f_icmp (t := 50) rfl rfl false (ic_eqn k13) ?_
  refine f_go (pc1 := 49) (lv1 := [(3, .int 1), (2, .ref p), (0, .ref ty), (1, .ref a)]) (st1 := [.ref p]) 1 rfl ?_
  exact f_rt rfl rfl
section PREP
variable {X : ev_X} {d : Nat} {σ : fl_S} {Q : Option Value → fl_S → Prop} {ty : Nat} {ns : List Nat}
theorem g_set_real (hll : Ll (fun a => sF σ a 146) (va_rf ns.head?) ns) (hcn : ∀ a ∈ ns, sC σ 4 a = true) (cty : sC σ 9 ty = true) {f : Nat → Option Nat} (hC : ∀ φ, ∀ n ∈ ns, CF X (d - 1) 76 [.ref ty, .ref n] (sS σ 139 φ) (some (va_rf (f n))) (sS σ 139 φ)) (next : ∀ φ, (∀ n ∈ ns, φ n = va_rf (f n)) → (∀ b, b ∉ ns → φ b = sF σ b 139) → EQ X (d - 1) 74 30 [(0, .ref ty)] [] (sS σ 139 φ) Q) :
    ∀ (l done : List Nat) (φ : Nat → Value), ns = done ++ l → (∀ n ∈ done, φ n = va_rf (f n)) → (∀ b, b ∉ ns → φ b = sF σ b 139) → EQ X (d - 1) 74 9 [(1, va_rf l.head?), (0, .ref ty)] [] (sS σ 139 φ) Q := by
  intro l
  induction l with
  | nil =>
    intro done φ hns hd1 hd2
    rw [List.append_nil] at hns
    subst hns
    show EQ X (d - 1) 74 9 [(1, .null), (0, .ref ty)] [] _ Q
    refine f_go (pc1 := 30) (lv1 := [(1, .null), (0, .ref ty)]) (st1 := []) 2 rfl ?_
    refine f_lv [(0, .ref ty)] (fl_c rfl fl_0) ?_
    exact next φ hd1 hd2
  | cons n r ih =>
    intro done φ hns hd1 hd2
    have hn : n ∈ ns := by rw [hns]; exact List.mem_append_right _ List.mem_cons_self
    have hns2 : ns = (done ++ [n]) ++ r := by rw [hns]; simp
    have n_next : sF σ n 146 = va_rf r.head? := by
      rw [hns] at hll
      obtain ⟨w, h1, -⟩ := Ll.app hll
      exact h1.2.hd
    have c_n := hcn n hn
    have hCn := hC φ n hn
    show EQ X (d - 1) 74 9 [(1, .ref n), (0, .ref ty)] [] _ Q
    refine f_go (pc1 := 16) (lv1 := [(1, .ref n), (0, .ref ty)]) (st1 := [.ref n, .ref ty, .ref n]) 5 rfl ?_
    refine f_vt rfl rfl cty rfl hCn ?_
    refine f_putf rfl rfl (g := 139) rfl c_n (ev_fit_rf (f n)) ?_
    rw [sU_sS]
    refine f_go (pc1 := 23) (lv1 := [(1, .ref n), (0, .ref ty)]) (st1 := [.ref n]) 1 rfl ?_
    refine f_getf rfl rfl (g := 146) rfl c_n n_next ?_
    refine f_astn rfl r.head? rfl ?_
    refine f_go (pc1 := 9) (lv1 := [(1, va_rf r.head?), (0, .ref ty)]) (st1 := []) 1 rfl ?_
    refine f_lv [(1, va_rf r.head?), (0, .ref ty)] (fl_c rfl (fl_c rfl fl_0)) ?_
    refine ih _ _ hns2 (fun x hx => ?_) (fun b hb => ?_)
    · by_cases e : x = n
      · subst e; simp only [nb_self, cond_true]
      · simp only [nb_ne e, cond_false]
        rcases List.mem_append.mp hx with q | q
        · exact hd1 x q
        · exact absurd (List.mem_singleton.mp q) e
    · have e : b ≠ n := fun e => hb (e ▸ hn)
      simp only [nb_ne e, cond_false]
      exact hd2 b hb
theorem g_set_up (hll : Ll (fun a => sF σ a 146) (va_rf ns.head?) ns) (hcn : ∀ a ∈ ns, sC σ 4 a = true) (cty : sC σ 9 ty = true) {f : Nat → Option Nat} (hC : ∀ φ, ∀ n ∈ ns, CF X (d - 1) 80 [.ref ty, .ref n] (sS σ 140 φ) (some (va_rf (f n))) (sS σ 140 φ)) (next : ∀ φ, (∀ n ∈ ns, φ n = va_rf (f n)) → (∀ b, b ∉ ns → φ b = sF σ b 140) → EQ X (d - 1) 74 60 [(0, .ref ty)] [] (sS σ 140 φ) Q) :
    ∀ (l done : List Nat) (φ : Nat → Value), ns = done ++ l → (∀ n ∈ done, φ n = va_rf (f n)) → (∀ b, b ∉ ns → φ b = sF σ b 140) → EQ X (d - 1) 74 39 [(1, va_rf l.head?), (0, .ref ty)] [] (sS σ 140 φ) Q := by
  intro l
  induction l with
  | nil =>
    intro done φ hns hd1 hd2
    rw [List.append_nil] at hns
    subst hns
    show EQ X (d - 1) 74 39 [(1, .null), (0, .ref ty)] [] _ Q
    refine f_go (pc1 := 60) (lv1 := [(1, .null), (0, .ref ty)]) (st1 := []) 2 rfl ?_
    refine f_lv [(0, .ref ty)] (fl_c rfl fl_0) ?_
    exact next φ hd1 hd2
  | cons n r ih =>
    intro done φ hns hd1 hd2
    have hn : n ∈ ns := by rw [hns]; exact List.mem_append_right _ List.mem_cons_self
    have hns2 : ns = (done ++ [n]) ++ r := by rw [hns]; simp
    have n_next : sF σ n 146 = va_rf r.head? := by
      rw [hns] at hll
      obtain ⟨w, h1, -⟩ := Ll.app hll
      exact h1.2.hd
    have c_n := hcn n hn
    have hCn := hC φ n hn
    show EQ X (d - 1) 74 39 [(1, .ref n), (0, .ref ty)] [] _ Q
    refine f_go (pc1 := 46) (lv1 := [(1, .ref n), (0, .ref ty)]) (st1 := [.ref n, .ref ty, .ref n]) 5 rfl ?_
    refine f_vt rfl rfl cty rfl hCn ?_
    refine f_putf rfl rfl (g := 140) rfl c_n (ev_fit_rf (f n)) ?_
    rw [sU_sS]
    refine f_go (pc1 := 53) (lv1 := [(1, .ref n), (0, .ref ty)]) (st1 := [.ref n]) 1 rfl ?_
    refine f_getf rfl rfl (g := 146) rfl c_n n_next ?_
    refine f_astn rfl r.head? rfl ?_
    refine f_go (pc1 := 39) (lv1 := [(1, va_rf r.head?), (0, .ref ty)]) (st1 := []) 1 rfl ?_
    refine f_lv [(1, va_rf r.head?), (0, .ref ty)] (fl_c rfl (fl_c rfl fl_0)) ?_
    refine ih _ _ hns2 (fun x hx => ?_) (fun b hb => ?_)
    · by_cases e : x = n
      · subst e; simp only [nb_self, cond_true]
      · simp only [nb_ne e, cond_false]
        rcases List.mem_append.mp hx with q | q
        · exact hd1 x q
        · exact absurd (List.mem_singleton.mp q) e
    · have e : b ≠ n := fun e => hb (e ▸ hn)
      simp only [nb_ne e, cond_false]
      exact hd2 b hb
/-- declarations that are no REVEALs -/
theorem g_lrskip (i : Nat) (next : EQ X (d - 1) 77 2 [(1, .int (Int32.ofNat (i + 1))), (0, .ref ty)] [] σ Q) : ∀ (l : List Nat) (c : Option Nat), Ll (fun a => sF σ a 37) (va_rf c) l → (∀ a ∈ l, sC σ 1 a = true ∧ ∃ kd, sF σ a 32 = .int kd ∧ ¬ kd = 5 ∧ ¬ kd = 6) → EQ X (d - 1) 77 21 [(2, va_rf c), (1, .int (Int32.ofNat i)), (0, .ref ty)] [] σ Q := by
  intro l
  induction l with
  | nil =>
    intro c hc hs
    have hc : va_rf c = .null := hc
    rw [hc]
    refine f_go (pc1 := 2) (lv1 := [(1, .int ((Int32.ofNat i) + 1)), (2, .null), (0, .ref ty)]) (st1 := []) 4 rfl ?_
    rw [nat_s i]
    refine f_lv [(1, .int (Int32.ofNat (i + 1))), (0, .ref ty)] (fl_c rfl (fl_c rfl fl_0)) ?_
    exact next
  | cons n r ih =>
    intro c hc hs
    obtain ⟨hc1, hc2⟩ := hc
    rw [hc1]
    have hc2 : Ll (fun a => sF σ a 37) (sF σ n 37) r := hc2
    have n_next := hc2.hd
    rw [n_next] at hc2
    obtain ⟨c_n, kd, n_kind, k5, k6⟩ := hs n List.mem_cons_self
    have ih := ih r.head? hc2 (fun x hx => hs x (List.mem_cons_of_mem _ hx))
    refine f_go (pc1 := 26) (lv1 := [(2, .ref n), (1, .int (Int32.ofNat i)), (0, .ref ty)]) (st1 := [.ref n]) 3 rfl ?_
    refine f_getf rfl rfl (g := 32) rfl c_n n_kind ?_
    refine f_go (pc1 := 30) (lv1 := [(2, .ref n), (1, .int (Int32.ofNat i)), (0, .ref ty)]) (st1 := [.int 5, .int kd]) 1 rfl ?_
    refine f_icmp (t := 42) rfl rfl false (ic_eqn k5) ?_
    refine f_go (pc1 := 34) (lv1 := [(2, .ref n), (1, .int (Int32.ofNat i)), (0, .ref ty)]) (st1 := [.ref n]) 1 rfl ?_
    refine f_getf rfl rfl (g := 32) rfl c_n n_kind ?_
    refine f_go (pc1 := 39) (lv1 := [(2, .ref n), (1, .int (Int32.ofNat i)), (0, .ref ty)]) (st1 := [.int 6, .int kd]) 1 rfl ?_
    refine f_icmp (t := 92) rfl rfl true (ic_ne k6) ?_
    refine f_go (pc1 := 93) (lv1 := [(2, .ref n), (1, .int (Int32.ofNat i)), (0, .ref ty)]) (st1 := [.ref n]) 1 rfl ?_
    refine f_getf rfl rfl (g := 37) rfl c_n n_next ?_
    refine f_astn rfl r.head? rfl ?_
    refine f_go (pc1 := 21) (lv1 := [(2, va_rf r.head?), (1, .int (Int32.ofNat i)), (0, .ref ty)]) (st1 := []) 1 rfl ?_
    refine f_lv [(2, va_rf r.head?), (1, .int (Int32.ofNat i)), (0, .ref ty)] (fl_c rfl (fl_c rfl (fl_c rfl fl_0))) ?_
    exact ih
end PREP
theorem g_linkReveals {X : ev_X} {d : Nat} {σ : fl_S} (hd : 2 ≤ d) {ty ur im dh dr P dO : Nat} {us : Nat → Nat} {ds : Nat → List Nat} (hU : UW σ ty ur 5 us ds) (h0 : ∀ a ∈ ds 0, ∃ kd, sF σ a 32 = .int kd ∧ ¬ kd = 5 ∧ ¬ kd = 6) (h1 : ds 1 = [im, dh]) (im_kind : sF σ im 32 = .int 2) (dh_kind : sF σ dh 32 = .int 6) (h2 : ∀ a ∈ ds 2, ∃ kd, sF σ a 32 = .int kd ∧ ¬ kd = 5 ∧ ¬ kd = 6) (h3 : ds 3 = [dr]) (dr_kind : sF σ dr 32 = .int 5) (h4 : ∀ a ∈ ds 4, ∃ kd, sF σ a 32 = .int kd ∧ ¬ kd = 5 ∧ ¬ kd = 6) (cP : sC σ 4 P = true) (P_own : sF σ P 138 = .ref dO) (c_dO : sC σ 1 dO = true) (dO_reveal : sF σ dO 47 = .null) (dh_reveal : sF σ dh 47 = .null) (dr_reveal : sF σ dr 47 = .null) (hdO : dh ≠ dO) (hdr : dr ≠ dO) (hdd : dr ≠ dh)
    (hrh : CF X (d - 1) 78 [.ref dh] σ (some (.ref P)) σ) (hrr : CF X (d - 1) 78 [.ref dr] (sU σ dO 47 (.ref dh)) (some (.ref P)) (sU σ dO 47 (.ref dh))) : CF X d 77 [.ref ty] σ none (sU (sU σ dO 47 (.ref dh)) dh 47 (.ref dr)) := by
  obtain ⟨cty, ty_ur, ⟨UR, hur, hUR⟩, hU1, hus⟩ := hU
  refine f_meth (by omega) rfl ?_
  refine f_go (pc1 := 2) (lv1 := [(1, .int 0), (0, .ref ty)]) (st1 := []) 2 rfl ?_
  obtain ⟨u1a, u1b, u1c⟩ := hus 1 (by decide)
  rw [h1] at u1b u1c
  have c_im := u1c im (by simp)
  have c_dh := u1c dh (by simp)
  have us1_first : sF σ (us 1) 43 = .ref im := u1b.1
  have im_next : sF σ im 37 = .ref dh := u1b.2.1
  have dh_next : sF σ dh 37 = .null := u1b.2.2
  obtain ⟨u3a, u3b, u3c⟩ := hus 3 (by decide)
  rw [h3] at u3b u3c
  have c_dr := u3c dr (by simp)
  have us3_first : sF σ (us 3) 43 = .ref dr := u3b.1
  have dr_next : sF σ dr 37 = .null := u3b.2
  refine f_go (pc1 := 4) (lv1 := [(1, .int 0), (0, .ref ty)]) (st1 := [.ref ty, .int 0]) 2 rfl ?_
  refine f_getf rfl rfl (g := 289) rfl cty ty_ur ?_
  refine f_alR rfl hur rfl ?_
  refine f_icmp (t := 106) rfl rfl false (nat_lt (m := 0) (n := 5) (by decide) (by decide) (by decide)) ?_
  refine f_go (pc1 := 12) (lv1 := [(1, .int 0), (0, .ref ty)]) (st1 := [.ref ty]) 1 rfl ?_
  refine f_getf rfl rfl (g := 289) rfl cty ty_ur ?_
  refine f_go (pc1 := 16) (lv1 := [(1, .int 0), (0, .ref ty)]) (st1 := [.int 0, .ref ur]) 1 rfl ?_
  refine f_aald rfl hur (i := 0) (o := (some (us 0))) rfl (by decide) (by decide) (hUR 0 (by decide)) ?_
  show EF _ _ 77 17 [(1, .int 0), (0, .ref ty)] [.ref (us 0)] _ _ _
  refine f_getf rfl rfl (g := 43) rfl (hus 0 (by decide)).1 (hus 0 (by decide)).2.1.hd ?_
  refine f_astn rfl (ds 0).head? rfl ?_
  refine f_lv [(2, va_rf (ds 0).head?), (1, .int (Int32.ofNat 0)), (0, .ref ty)] (fl_c rfl (fl_c rfl (fl_c rfl fl_0))) ?_
  refine g_lrskip 0 ?_ (ds 0) _ (by have q := (hus 0 (by decide)).2.1; rw [q.hd] at q; exact q) (fun a ha => ⟨(hus 0 (by decide)).2.2 a ha, h0 a ha⟩)
  refine f_lv [(1, .int 1), (0, .ref ty)] (fl_c rfl (fl_c rfl fl_0)) ?_
  refine f_go (pc1 := 4) (lv1 := [(1, .int 1), (0, .ref ty)]) (st1 := [.ref ty, .int 1]) 2 rfl ?_
  refine f_getf rfl rfl (g := 289) rfl cty ty_ur ?_
  refine f_alR rfl hur rfl ?_
  refine f_icmp (t := 106) rfl rfl false (nat_lt (m := 1) (n := 5) (by decide) (by decide) (by decide)) ?_
  refine f_go (pc1 := 12) (lv1 := [(1, .int 1), (0, .ref ty)]) (st1 := [.ref ty]) 1 rfl ?_
  refine f_getf rfl rfl (g := 289) rfl cty ty_ur ?_
  refine f_go (pc1 := 16) (lv1 := [(1, .int 1), (0, .ref ty)]) (st1 := [.int 1, .ref ur]) 1 rfl ?_
  refine f_aald rfl hur (i := 1) (o := (some (us 1))) rfl (by decide) (by decide) (hUR 1 (by decide)) ?_
  show EF _ _ 77 17 [(1, .int 1), (0, .ref ty)] [.ref (us 1)] _ _ _
  refine f_getf rfl rfl (g := 43) rfl (hus 1 (by decide)).1 us1_first ?_
  refine f_go (pc1 := 26) (lv1 := [(2, .ref im), (1, .int 1), (0, .ref ty)]) (st1 := [.ref im]) 4 rfl ?_
  refine f_getf rfl rfl (g := 32) rfl c_im im_kind ?_
  refine f_go (pc1 := 34) (lv1 := [(2, .ref im), (1, .int 1), (0, .ref ty)]) (st1 := [.ref im]) 3 rfl ?_
  refine f_getf rfl rfl (g := 32) rfl c_im im_kind ?_
  refine f_go (pc1 := 93) (lv1 := [(2, .ref im), (1, .int 1), (0, .ref ty)]) (st1 := [.ref im]) 3 rfl ?_
  refine f_getf rfl rfl (g := 37) rfl c_im im_next ?_
  refine f_go (pc1 := 26) (lv1 := [(2, .ref dh), (1, .int 1), (0, .ref ty)]) (st1 := [.ref dh]) 5 rfl ?_
  refine f_getf rfl rfl (g := 32) rfl c_dh dh_kind ?_
  refine f_go (pc1 := 34) (lv1 := [(2, .ref dh), (1, .int 1), (0, .ref ty)]) (st1 := [.ref dh]) 3 rfl ?_
  refine f_getf rfl rfl (g := 32) rfl c_dh dh_kind ?_
  refine f_go (pc1 := 43) (lv1 := [(2, .ref dh), (1, .int 1), (0, .ref ty)]) (st1 := [.ref dh]) 3 rfl ?_
  refine f_st rfl rfl rfl rfl hrh ?_
  refine f_getf rfl rfl (g := 138) rfl cP P_own ?_
  refine f_go (pc1 := 66) (lv1 := [(4, .int 0), (3, .ref dO), (2, .ref dh), (1, .int 1), (0, .ref ty)]) (st1 := [.ref dO]) 9 rfl ?_
  refine f_getf rfl rfl (g := 47) rfl c_dO dO_reveal ?_
  refine f_go (pc1 := 89) (lv1 := [(4, .int 0), (3, .ref dO), (2, .ref dh), (1, .int 1), (0, .ref ty)]) (st1 := [.ref dh, .ref dO]) 5 rfl ?_
  refine f_putf rfl rfl (g := 47) rfl c_dO rfl ?_
  have hu3_10 : sF (sU σ dO 47 (.ref dh)) dh 47 = .null := (sU_ne hdO).trans dh_reveal
  have hu3_11 : sF (sU σ dO 47 (.ref dh)) dr 47 = .null := (sU_ne hdr).trans dr_reveal
  have hu3 : sF (sU σ dO 47 (.ref dh)) dO 47 = .ref dh := sU_at
  refine f_go (pc1 := 93) (lv1 := [(4, .int 0), (3, .ref dO), (2, .ref dh), (1, .int 1), (0, .ref ty)]) (st1 := [.ref dh]) 1 rfl ?_
  refine f_getf rfl rfl (g := 37) rfl c_dh dh_next ?_
  refine f_go (pc1 := 2) (lv1 := [(1, .int 2), (2, .null), (4, .int 0), (3, .ref dO), (0, .ref ty)]) (st1 := []) 6 rfl ?_
  refine f_lv [(1, .int 2), (0, .ref ty)] (fl_c rfl (fl_c rfl fl_0)) ?_
  refine f_go (pc1 := 4) (lv1 := [(1, .int 2), (0, .ref ty)]) (st1 := [.ref ty, .int 2]) 2 rfl ?_
  refine f_getf rfl rfl (g := 289) rfl cty ty_ur ?_
  refine f_alR rfl hur rfl ?_
  refine f_icmp (t := 106) rfl rfl false (nat_lt (m := 2) (n := 5) (by decide) (by decide) (by decide)) ?_
  refine f_go (pc1 := 12) (lv1 := [(1, .int 2), (0, .ref ty)]) (st1 := [.ref ty]) 1 rfl ?_
  refine f_getf rfl rfl (g := 289) rfl cty ty_ur ?_
  refine f_go (pc1 := 16) (lv1 := [(1, .int 2), (0, .ref ty)]) (st1 := [.int 2, .ref ur]) 1 rfl ?_
  refine f_aald rfl hur (i := 2) (o := (some (us 2))) rfl (by decide) (by decide) (hUR 2 (by decide)) ?_
  show EF _ _ 77 17 [(1, .int 2), (0, .ref ty)] [.ref (us 2)] _ _ _
  refine f_getf rfl rfl (g := 43) rfl (hus 2 (by decide)).1 (hus 2 (by decide)).2.1.hd ?_
  refine f_astn rfl (ds 2).head? rfl ?_
  refine f_lv [(2, va_rf (ds 2).head?), (1, .int (Int32.ofNat 2)), (0, .ref ty)] (fl_c rfl (fl_c rfl (fl_c rfl fl_0))) ?_
  refine g_lrskip 2 ?_ (ds 2) _ (by have q := (hus 2 (by decide)).2.1; rw [q.hd] at q; exact q) (fun a ha => ⟨(hus 2 (by decide)).2.2 a ha, h2 a ha⟩)
  refine f_lv [(1, .int 3), (0, .ref ty)] (fl_c rfl (fl_c rfl fl_0)) ?_
  refine f_go (pc1 := 4) (lv1 := [(1, .int 3), (0, .ref ty)]) (st1 := [.ref ty, .int 3]) 2 rfl ?_
  refine f_getf rfl rfl (g := 289) rfl cty ty_ur ?_
  refine f_alR rfl hur rfl ?_
  refine f_icmp (t := 106) rfl rfl false (nat_lt (m := 3) (n := 5) (by decide) (by decide) (by decide)) ?_
  refine f_go (pc1 := 12) (lv1 := [(1, .int 3), (0, .ref ty)]) (st1 := [.ref ty]) 1 rfl ?_
  refine f_getf rfl rfl (g := 289) rfl cty ty_ur ?_
  refine f_go (pc1 := 16) (lv1 := [(1, .int 3), (0, .ref ty)]) (st1 := [.int 3, .ref ur]) 1 rfl ?_
  refine f_aald rfl hur (i := 3) (o := (some (us 3))) rfl (by decide) (by decide) (hUR 3 (by decide)) ?_
  show EF _ _ 77 17 [(1, .int 3), (0, .ref ty)] [.ref (us 3)] _ _ _
  refine f_getf rfl rfl (g := 43) rfl (hus 3 (by decide)).1 us3_first ?_
  refine f_go (pc1 := 26) (lv1 := [(2, .ref dr), (1, .int 3), (0, .ref ty)]) (st1 := [.ref dr]) 4 rfl ?_
  refine f_getf rfl rfl (g := 32) rfl c_dr dr_kind ?_
  refine f_go (pc1 := 43) (lv1 := [(2, .ref dr), (1, .int 3), (0, .ref ty)]) (st1 := [.ref dr]) 3 rfl ?_
  refine f_st rfl rfl rfl rfl hrr ?_
  refine f_getf rfl rfl (g := 138) rfl cP P_own ?_
  refine f_go (pc1 := 66) (lv1 := [(4, .int 0), (3, .ref dO), (2, .ref dr), (1, .int 3), (0, .ref ty)]) (st1 := [.ref dO]) 9 rfl ?_
  refine f_getf rfl rfl (g := 47) rfl c_dO hu3 ?_
  refine f_go (pc1 := 73) (lv1 := [(4, .int 0), (3, .ref dO), (2, .ref dr), (1, .int 3), (0, .ref ty)]) (st1 := [.ref dO]) 2 rfl ?_
  refine f_getf rfl rfl (g := 47) rfl c_dO hu3 ?_
  refine f_go (pc1 := 66) (lv1 := [(4, .int 1), (3, .ref dh), (2, .ref dr), (1, .int 3), (0, .ref ty)]) (st1 := [.ref dh]) 9 rfl ?_
  refine f_getf rfl rfl (g := 47) rfl c_dh hu3_10 ?_
  refine f_go (pc1 := 89) (lv1 := [(4, .int 1), (3, .ref dh), (2, .ref dr), (1, .int 3), (0, .ref ty)]) (st1 := [.ref dr, .ref dh]) 5 rfl ?_
  refine f_putf rfl rfl (g := 47) rfl c_dh rfl ?_
  have hu4_10 : sF (sU (sU σ dO 47 (.ref dh)) dh 47 (.ref dr)) dr 47 = .null := (sU_ne hdd).trans hu3_11
  have hu4_14 : sF (sU (sU σ dO 47 (.ref dh)) dh 47 (.ref dr)) dO 47 = .ref dh := (sU_ne (Ne.symm hdO)).trans hu3
  have hu4 : sF (sU (sU σ dO 47 (.ref dh)) dh 47 (.ref dr)) dh 47 = .ref dr := sU_at
  refine f_go (pc1 := 93) (lv1 := [(4, .int 1), (3, .ref dh), (2, .ref dr), (1, .int 3), (0, .ref ty)]) (st1 := [.ref dr]) 1 rfl ?_
  refine f_getf rfl rfl (g := 37) rfl c_dr dr_next ?_
  refine f_go (pc1 := 2) (lv1 := [(1, .int 4), (2, .null), (4, .int 1), (3, .ref dh), (0, .ref ty)]) (st1 := []) 6 rfl ?_
  refine f_lv [(1, .int 4), (0, .ref ty)] (fl_c rfl (fl_c rfl fl_0)) ?_
  refine f_go (pc1 := 4) (lv1 := [(1, .int 4), (0, .ref ty)]) (st1 := [.ref ty, .int 4]) 2 rfl ?_
  refine f_getf rfl rfl (g := 289) rfl cty ty_ur ?_
  refine f_alR rfl hur rfl ?_
  refine f_icmp (t := 106) rfl rfl false (nat_lt (m := 4) (n := 5) (by decide) (by decide) (by decide)) ?_
  refine f_go (pc1 := 12) (lv1 := [(1, .int 4), (0, .ref ty)]) (st1 := [.ref ty]) 1 rfl ?_
  refine f_getf rfl rfl (g := 289) rfl cty ty_ur ?_
  refine f_go (pc1 := 16) (lv1 := [(1, .int 4), (0, .ref ty)]) (st1 := [.int 4, .ref ur]) 1 rfl ?_
  refine f_aald rfl hur (i := 4) (o := (some (us 4))) rfl (by decide) (by decide) (hUR 4 (by decide)) ?_
  show EF _ _ 77 17 [(1, .int 4), (0, .ref ty)] [.ref (us 4)] _ _ _
  refine f_getf rfl rfl (g := 43) rfl (hus 4 (by decide)).1 (hus 4 (by decide)).2.1.hd ?_
  refine f_astn rfl (ds 4).head? rfl ?_
  refine f_lv [(2, va_rf (ds 4).head?), (1, .int (Int32.ofNat 4)), (0, .ref ty)] (fl_c rfl (fl_c rfl (fl_c rfl fl_0))) ?_
  refine g_lrskip 4 ?_ (ds 4) _ (by have q := (hus 4 (by decide)).2.1; rw [q.hd] at q; exact q) (fun a ha => ⟨(hus 4 (by decide)).2.2 a ha, h4 a ha⟩)
  refine f_lv [(1, .int 5), (0, .ref ty)] (fl_c rfl (fl_c rfl fl_0)) ?_
  refine f_go (pc1 := 4) (lv1 := [(1, .int 5), (0, .ref ty)]) (st1 := [.ref ty, .int 5]) 2 rfl ?_
  refine f_getf rfl rfl (g := 289) rfl cty ty_ur ?_
  refine f_alR rfl hur rfl ?_
  refine f_icmp (t := 106) rfl rfl true (nat_geT (m := 5) (n := 5) (by decide) (by decide) (by decide)) ?_
  exact f_rt rfl rfl
theorem g_fieldCells_L {X : ev_X} {d : Nat} {σ : fl_S} (hd : 2 ≤ d) {ty a it ti ri : Nat} {cl : Int32} (cty : sC σ 9 ty = true) (c_a : sC σ 4 a = true) (a_kind : sF σ a 128 = .int 11) (a_items : sF σ a 135 = .ref it) (c_it : sC σ 1 it = true) (it_kind : sF σ it 32 = .int 10) (it_next : sF σ it 37 = .null) (it_type : sF σ it 38 = .ref ti) (c_ti : sC σ 4 ti = true) (ti_real : sF σ ti 139 = .ref ri) (c_ri : sC σ 4 ri = true) (ri_cells : sF σ ri 143 = .int cl) : CF X d 108 [.ref ty, .ref a] σ (some (.int (0 + cl))) σ := by
  refine f_meth (by omega) rfl ?_
  refine f_go (pc1 := 3) (lv1 := [(0, .ref ty), (1, .ref a)]) (st1 := [.ref a, .null, .ref ty]) 3 rfl ?_
  refine f_vt rfl rfl cty rfl (g_levelOf_LN (by omega) c_a a_kind) ?_
  refine f_go (pc1 := 18) (lv1 := [(3, .int 0), (2, .ref a), (0, .ref ty), (1, .ref a)]) (st1 := [.ref a]) 6 rfl ?_
  refine f_getf rfl rfl (g := 135) rfl c_a a_items ?_
  refine f_go (pc1 := 30) (lv1 := [(4, .ref it), (3, .int 0), (2, .ref a), (0, .ref ty), (1, .ref a)]) (st1 := [.ref it]) 4 rfl ?_
  refine f_getf rfl rfl (g := 32) rfl c_it it_kind ?_
  refine f_go (pc1 := 41) (lv1 := [(4, .ref it), (3, .int 0), (2, .ref a), (0, .ref ty), (1, .ref a)]) (st1 := [.ref it, .int 0]) 4 rfl ?_
  refine f_getf rfl rfl (g := 38) rfl c_it it_type ?_
  refine f_getf rfl rfl (g := 139) rfl c_ti ti_real ?_
  refine f_getf rfl rfl (g := 143) rfl c_ri ri_cells ?_
  refine f_go (pc1 := 54) (lv1 := [(3, .int (0 + cl)), (4, .ref it), (2, .ref a), (0, .ref ty), (1, .ref a)]) (st1 := [.ref it]) 3 rfl ?_
  refine f_getf rfl rfl (g := 37) rfl c_it it_next ?_
  refine f_go (pc1 := 63) (lv1 := [(4, .null), (3, .int (0 + cl)), (2, .ref a), (0, .ref ty), (1, .ref a)]) (st1 := [.int (0 + cl)]) 5 rfl ?_
  exact f_rt rfl rfl
theorem g_fieldCells_O {X : ev_X} {d : Nat} {σ : fl_S} (hd : 2 ≤ d) {ty it ti ri : Nat} {cl : Int32} {P dO nb sb dh nh mb dr uh ur RL : Nat} (cty : sC σ 9 ty = true) (hO : OW σ P dO nb sb dh nh mb dr uh ur RL) (RL_items : sF σ RL 135 = .ref it) (c_it : sC σ 1 it = true) (it_kind : sF σ it 32 = .int 10) (it_next : sF σ it 37 = .null) (it_type : sF σ it 38 = .ref ti) (c_ti : sC σ 4 ti = true) (ti_real : sF σ ti 139 = .ref ri) (c_ri : sC σ 4 ri = true) (ri_cells : sF σ ri 143 = .int cl) : CF X d 108 [.ref ty, .ref P] σ (some (.int (0 + cl))) σ := by
  have hO9 := hO
  obtain ⟨P1, P2, P3, O1, O2, O3, b1, b2, b3, h1, h2, h3, h4, h5, h6, h7, h8, r1, r2, r3, r4, r5, uh1, uh2, ur1, ur2, RL1⟩ := hO
  refine f_meth (by omega) rfl ?_
  refine f_go (pc1 := 3) (lv1 := [(0, .ref ty), (1, .ref P)]) (st1 := [.ref P, .null, .ref ty]) 3 rfl ?_
  refine f_vt rfl rfl cty rfl (g_levelOf_O0 (by omega) hO9) ?_
  refine f_go (pc1 := 18) (lv1 := [(3, .int 0), (2, .ref RL), (0, .ref ty), (1, .ref P)]) (st1 := [.ref RL]) 6 rfl ?_
  refine f_getf rfl rfl (g := 135) rfl RL1 RL_items ?_
  refine f_go (pc1 := 30) (lv1 := [(4, .ref it), (3, .int 0), (2, .ref RL), (0, .ref ty), (1, .ref P)]) (st1 := [.ref it]) 4 rfl ?_
  refine f_getf rfl rfl (g := 32) rfl c_it it_kind ?_
  refine f_go (pc1 := 41) (lv1 := [(4, .ref it), (3, .int 0), (2, .ref RL), (0, .ref ty), (1, .ref P)]) (st1 := [.ref it, .int 0]) 4 rfl ?_
  refine f_getf rfl rfl (g := 38) rfl c_it it_type ?_
  refine f_getf rfl rfl (g := 139) rfl c_ti ti_real ?_
  refine f_getf rfl rfl (g := 143) rfl c_ri ri_cells ?_
  refine f_go (pc1 := 54) (lv1 := [(3, .int (0 + cl)), (4, .ref it), (2, .ref RL), (0, .ref ty), (1, .ref P)]) (st1 := [.ref it]) 3 rfl ?_
  refine f_getf rfl rfl (g := 37) rfl c_it it_next ?_
  refine f_go (pc1 := 63) (lv1 := [(4, .null), (3, .int (0 + cl)), (2, .ref RL), (0, .ref ty), (1, .ref P)]) (st1 := [.int (0 + cl)]) 5 rfl ?_
  exact f_rt rfl rfl
theorem g_fieldCells_n {X : ev_X} {d : Nat} {σ : fl_S} (hd : 2 ≤ d) {ty a : Nat} {k : Int32} (cty : sC σ 9 ty = true) (c_a : sC σ 4 a = true) (a_kind : sF σ a 128 = .int k) (k1 : ¬ k = 11) (k2 : ¬ k = 12) : CF X d 108 [.ref ty, .ref a] σ (some (.int 0)) σ := by
  refine f_meth (by omega) rfl ?_
  refine f_go (pc1 := 3) (lv1 := [(0, .ref ty), (1, .ref a)]) (st1 := [.ref a, .null, .ref ty]) 3 rfl ?_
  refine f_vt rfl rfl cty rfl (g_levelOf_nN (by omega) c_a a_kind k1 k2) ?_
  refine f_go (pc1 := 63) (lv1 := [(4, .null), (3, .int 0), (2, .null), (0, .ref ty), (1, .ref a)]) (st1 := [.int 0]) 11 rfl ?_
  exact f_rt rfl rfl
