/-! the first round -/
theorem UN_46 {σ : fl_S} {nmo ps u0 u1 u2 u3 u4 d0 im1 ima imb im4 dh dr : Nat} {nt ng nh nu : Int32} {b : Nat} {v : Value} (h : UN σ nmo ps u0 u1 u2 u3 u4 d0 im1 ima imb im4 dh dr nt ng nh nu) : UN (sU σ b 46 v) nmo ps u0 u1 u2 u3 u4 d0 im1 ima imb im4 dh dr nt ng nh nu := h
theorem UN_48 {σ : fl_S} {nmo ps u0 u1 u2 u3 u4 d0 im1 ima imb im4 dh dr : Nat} {nt ng nh nu : Int32} {b : Nat} {v : Value} (h : UN σ nmo ps u0 u1 u2 u3 u4 d0 im1 ima imb im4 dh dr nt ng nh nu) : UN (sU σ b 48 v) nmo ps u0 u1 u2 u3 u4 d0 im1 ima imb im4 dh dr nt ng nh nu := h
theorem UN_165 {σ : fl_S} {nmo ps u0 u1 u2 u3 u4 d0 im1 ima imb im4 dh dr : Nat} {nt ng nh nu : Int32} {b : Nat} {v : Value} (h : UN σ nmo ps u0 u1 u2 u3 u4 d0 im1 ima imb im4 dh dr nt ng nh nu) : UN (sU σ b 165 v) nmo ps u0 u1 u2 u3 u4 d0 im1 ima imb im4 dh dr nt ng nh nu := h
/-- the units judged -/
def U5 (σ : fl_S) (u0 u1 u2 u3 u4 im1 ima imb im4 : Nat) : fl_S := sU (sU (sU (sU (sU (sU (sU (sU (sU (sU (sU (sU (sU (sU (sU (sU (sU σ u0 48 (.int 1)) u1 48 (.int 2)) im1 46 (.ref u0)) u1 48 (.int 3)) u2 48 (.int 4)) ima 46 (.ref u0)) u2 48 (.int 5)) imb 46 (.ref u1)) u2 48 (.int 7)) u3 48 (.int 8)) u3 46 (.ref u0)) u3 48 (.int 9)) u4 48 (.int 16)) u4 46 .null) u4 48 (.int 16)) im4 46 (.ref u0)) u4 48 (.int 17)
theorem U5_facts {σ : fl_S} {u0 u1 u2 u3 u4 im1 ima imb im4 : Nat} (hn : [u0, u1, u2, u3, u4, im1, ima, imb, im4].Nodup) :
    (sF (U5 σ u0 u1 u2 u3 u4 im1 ima imb im4) u0 48 = .int 1 ∧ sF (U5 σ u0 u1 u2 u3 u4 im1 ima imb im4) u1 48 = .int 3 ∧ sF (U5 σ u0 u1 u2 u3 u4 im1 ima imb im4) u2 48 = .int 7 ∧ sF (U5 σ u0 u1 u2 u3 u4 im1 ima imb im4) u3 48 = .int 9 ∧ sF (U5 σ u0 u1 u2 u3 u4 im1 ima imb im4) u4 48 = .int 17) ∧ sF (U5 σ u0 u1 u2 u3 u4 im1 ima imb im4) im1 46 = .ref u0 ∧ sF (U5 σ u0 u1 u2 u3 u4 im1 ima imb im4) ima 46 = .ref u0 ∧ sF (U5 σ u0 u1 u2 u3 u4 im1 ima imb im4) imb 46 = .ref u1 ∧ sF (U5 σ u0 u1 u2 u3 u4 im1 ima imb im4) im4 46 = .ref u0 ∧ sF (U5 σ u0 u1 u2 u3 u4 im1 ima imb im4) u3 46 = .ref u0 ∧ sF (U5 σ u0 u1 u2 u3 u4 im1 ima imb im4) u4 46 = .null ∧ sF (U5 σ u0 u1 u2 u3 u4 im1 ima imb im4) u0 46 = sF σ u0 46 ∧ sF (U5 σ u0 u1 u2 u3 u4 im1 ima imb im4) u1 46 = sF σ u1 46 ∧ sF (U5 σ u0 u1 u2 u3 u4 im1 ima imb im4) u2 46 = sF σ u2 46 := by
  simp only [List.nodup_cons, List.mem_cons, List.not_mem_nil, or_false, not_or] at hn
  obtain ⟨⟨p01, p02, p03, p04, p05, p06, p07, p08⟩, ⟨p12, p13, p14, p15, p16, p17, p18⟩, ⟨p23, p24, p25, p26, p27, p28⟩, ⟨p34, p35, p36, p37, p38⟩, ⟨p45, p46, p47, p48⟩, ⟨p56, p57, p58⟩, ⟨p67, p68⟩, p78, -⟩ := hn
  refine ⟨⟨?_, ?_, ?_, ?_, ?_⟩, ?_, ?_, ?_, ?_, ?_, ?_, ?_, ?_, ?_⟩
  · unfold U5
    refine (sU_ne p04).trans ?_
    refine (sU_gne rfl).trans ?_
    refine (sU_ne p04).trans ?_
    refine (sU_gne rfl).trans ?_
    refine (sU_ne p04).trans ?_
    refine (sU_ne p03).trans ?_
    refine (sU_gne rfl).trans ?_
    refine (sU_ne p03).trans ?_
    refine (sU_ne p02).trans ?_
    refine (sU_gne rfl).trans ?_
    refine (sU_ne p02).trans ?_
    refine (sU_gne rfl).trans ?_
    refine (sU_ne p02).trans ?_
    refine (sU_ne p01).trans ?_
    refine (sU_gne rfl).trans ?_
    refine (sU_ne p01).trans ?_
    exact sU_at
  · unfold U5
    refine (sU_ne p14).trans ?_
    refine (sU_gne rfl).trans ?_
    refine (sU_ne p14).trans ?_
    refine (sU_gne rfl).trans ?_
    refine (sU_ne p14).trans ?_
    refine (sU_ne p13).trans ?_
    refine (sU_gne rfl).trans ?_
    refine (sU_ne p13).trans ?_
    refine (sU_ne p12).trans ?_
    refine (sU_gne rfl).trans ?_
    refine (sU_ne p12).trans ?_
    refine (sU_gne rfl).trans ?_
    refine (sU_ne p12).trans ?_
    exact sU_at
  · unfold U5
    refine (sU_ne p24).trans ?_
    refine (sU_gne rfl).trans ?_
    refine (sU_ne p24).trans ?_
    refine (sU_gne rfl).trans ?_
    refine (sU_ne p24).trans ?_
    refine (sU_ne p23).trans ?_
    refine (sU_gne rfl).trans ?_
    refine (sU_ne p23).trans ?_
    exact sU_at
  · unfold U5
    refine (sU_ne p34).trans ?_
    refine (sU_gne rfl).trans ?_
    refine (sU_ne p34).trans ?_
    refine (sU_gne rfl).trans ?_
    refine (sU_ne p34).trans ?_
    exact sU_at
  · unfold U5
    exact sU_at
  · unfold U5
    refine (sU_gne rfl).trans ?_
    refine (sU_ne p58).trans ?_
    refine (sU_gne rfl).trans ?_
    refine (sU_ne (fun e => p45 e.symm)).trans ?_
    refine (sU_gne rfl).trans ?_
    refine (sU_gne rfl).trans ?_
    refine (sU_ne (fun e => p35 e.symm)).trans ?_
    refine (sU_gne rfl).trans ?_
    refine (sU_gne rfl).trans ?_
    refine (sU_ne p57).trans ?_
    refine (sU_gne rfl).trans ?_
    refine (sU_ne p56).trans ?_
    refine (sU_gne rfl).trans ?_
    refine (sU_gne rfl).trans ?_
    exact sU_at
  · unfold U5
    refine (sU_gne rfl).trans ?_
    refine (sU_ne p68).trans ?_
    refine (sU_gne rfl).trans ?_
    refine (sU_ne (fun e => p46 e.symm)).trans ?_
    refine (sU_gne rfl).trans ?_
    refine (sU_gne rfl).trans ?_
    refine (sU_ne (fun e => p36 e.symm)).trans ?_
    refine (sU_gne rfl).trans ?_
    refine (sU_gne rfl).trans ?_
    refine (sU_ne p67).trans ?_
    refine (sU_gne rfl).trans ?_
    exact sU_at
  · unfold U5
    refine (sU_gne rfl).trans ?_
    refine (sU_ne p78).trans ?_
    refine (sU_gne rfl).trans ?_
    refine (sU_ne (fun e => p47 e.symm)).trans ?_
    refine (sU_gne rfl).trans ?_
    refine (sU_gne rfl).trans ?_
    refine (sU_ne (fun e => p37 e.symm)).trans ?_
    refine (sU_gne rfl).trans ?_
    refine (sU_gne rfl).trans ?_
    exact sU_at
  · unfold U5
    refine (sU_gne rfl).trans ?_
    exact sU_at
  · unfold U5
    refine (sU_gne rfl).trans ?_
    refine (sU_ne p38).trans ?_
    refine (sU_gne rfl).trans ?_
    refine (sU_ne p34).trans ?_
    refine (sU_gne rfl).trans ?_
    refine (sU_gne rfl).trans ?_
    exact sU_at
  · unfold U5
    refine (sU_gne rfl).trans ?_
    refine (sU_ne p48).trans ?_
    refine (sU_gne rfl).trans ?_
    exact sU_at
  · unfold U5
    refine (sU_gne rfl).trans ?_
    refine (sU_ne p08).trans ?_
    refine (sU_gne rfl).trans ?_
    refine (sU_ne p04).trans ?_
    refine (sU_gne rfl).trans ?_
    refine (sU_gne rfl).trans ?_
    refine (sU_ne p03).trans ?_
    refine (sU_gne rfl).trans ?_
    refine (sU_gne rfl).trans ?_
    refine (sU_ne p07).trans ?_
    refine (sU_gne rfl).trans ?_
    refine (sU_ne p06).trans ?_
    refine (sU_gne rfl).trans ?_
    refine (sU_gne rfl).trans ?_
    refine (sU_ne p05).trans ?_
    refine (sU_gne rfl).trans ?_
    refine (sU_gne rfl).trans ?_
    rfl
  · unfold U5
    refine (sU_gne rfl).trans ?_
    refine (sU_ne p18).trans ?_
    refine (sU_gne rfl).trans ?_
    refine (sU_ne p14).trans ?_
    refine (sU_gne rfl).trans ?_
    refine (sU_gne rfl).trans ?_
    refine (sU_ne p13).trans ?_
    refine (sU_gne rfl).trans ?_
    refine (sU_gne rfl).trans ?_
    refine (sU_ne p17).trans ?_
    refine (sU_gne rfl).trans ?_
    refine (sU_ne p16).trans ?_
    refine (sU_gne rfl).trans ?_
    refine (sU_gne rfl).trans ?_
    refine (sU_ne p15).trans ?_
    refine (sU_gne rfl).trans ?_
    refine (sU_gne rfl).trans ?_
    rfl
  · unfold U5
    refine (sU_gne rfl).trans ?_
    refine (sU_ne p28).trans ?_
    refine (sU_gne rfl).trans ?_
    refine (sU_ne p24).trans ?_
    refine (sU_gne rfl).trans ?_
    refine (sU_gne rfl).trans ?_
    refine (sU_ne p23).trans ?_
    refine (sU_gne rfl).trans ?_
    refine (sU_gne rfl).trans ?_
    refine (sU_ne p27).trans ?_
    refine (sU_gne rfl).trans ?_
    refine (sU_ne p26).trans ?_
    refine (sU_gne rfl).trans ?_
    refine (sU_gne rfl).trans ?_
    refine (sU_ne p25).trans ?_
    refine (sU_gne rfl).trans ?_
    refine (sU_gne rfl).trans ?_
    rfl
section NJ
variable {X : ev_X} {d : Nat} {σ τ : fl_S} {Q : Option Value → fl_S → Prop}
theorem g_nj3 {nmo u : Nat} {φ : Nat → Value} (cn : sC τ 3 nmo = true) (cu : sC τ 1 u = true) (next : EQ X (d - 1) 62 85 [(1, .ref u), (0, .ref nmo)] [] (sS τ 165 φ) Q) : ∀ (l : List Nat) (c : Option Nat), Ll (fun a => sF τ a 37) (va_rf c) l → (∀ a ∈ l, sC τ 1 a = true ∧ CF X (d - 1) 68 [.ref nmo, .ref u, .ref a] (sS τ 165 φ) none (sS τ 165 φ)) → EQ X (d - 1) 62 67 [(2, va_rf c), (1, .ref u), (0, .ref nmo)] [] (sS τ 165 φ) Q := by
  intro l
  induction l with
  | nil =>
    intro c hc hs
    have hc : va_rf c = .null := hc
    rw [hc]
    refine f_go (pc1 := 85) (lv1 := [(2, .null), (1, .ref u), (0, .ref nmo)]) (st1 := []) 2 rfl ?_
    refine f_lv [(1, .ref u), (0, .ref nmo)] (fl_c rfl (fl_c rfl fl_0)) ?_
    exact next
  | cons n r ih =>
    intro c hc hs
    obtain ⟨hc1, hc2⟩ := hc
    rw [hc1]
    have hc2 : Ll (fun a => sF τ a 37) (sF τ n 37) r := hc2
    have n_next := hc2.hd
    rw [n_next] at hc2
    obtain ⟨c_n, hC⟩ := hs n List.mem_cons_self
    refine f_go (pc1 := 74) (lv1 := [(2, .ref n), (1, .ref u), (0, .ref nmo)]) (st1 := [.ref n, .ref u, .ref nmo]) 5 rfl ?_
    refine f_vt rfl rfl cn rfl hC ?_
    refine f_go (pc1 := 78) (lv1 := [(2, .ref n), (1, .ref u), (0, .ref nmo)]) (st1 := [.ref n]) 1 rfl ?_
    refine f_getf rfl rfl (g := 37) rfl c_n n_next ?_
    refine f_astn rfl r.head? rfl ?_
    refine f_go (pc1 := 67) (lv1 := [(2, va_rf r.head?), (1, .ref u), (0, .ref nmo)]) (st1 := []) 1 rfl ?_
    refine f_lv [(2, va_rf r.head?), (1, .ref u), (0, .ref nmo)] (fl_c rfl (fl_c rfl (fl_c rfl fl_0))) ?_
    exact ih _ hc2 (fun x hx => hs x (List.mem_cons_of_mem _ hx))
theorem g_nj4 {nmo : Nat} {ns : List Nat} {nd : Nat → Bool} {op rs : Nat → Nat} (cn : sC τ 3 nmo = true) (hll : Ll (fun a => sF τ a 146) (va_rf ns.head?) ns) (hcn : ∀ a ∈ ns, sC τ 4 a = true) (hN : ∀ φ, ∀ a ∈ ns, CF X (d - 1) 71 [.ref nmo, .ref a] (sS τ 165 φ) none (if nd a then sU (sS τ 165 φ) (op a) 165 (.ref (rs (op a))) else sS τ 165 φ)) (OPS : List Nat)
    (next : ∀ φ, (∀ x ∈ OPS, φ x = .ref (rs x)) → (∀ a ∈ ns, nd a = true → φ (op a) = .ref (rs (op a))) → EQ X (d - 1) 62 118 [(0, .ref nmo)] [] (sS τ 165 φ) Q) : ∀ (l done : List Nat) (φ : Nat → Value), ns = done ++ l → (∀ x ∈ OPS, φ x = .ref (rs x)) → (∀ a ∈ done, nd a = true → φ (op a) = .ref (rs (op a))) → EQ X (d - 1) 62 101 [(1, va_rf l.head?), (0, .ref nmo)] [] (sS τ 165 φ) Q := by
  intro l
  induction l with
  | nil =>
    intro done φ hns h1 h2
    rw [List.append_nil] at hns
    subst hns
    show EQ X (d - 1) 62 101 [(1, .null), (0, .ref nmo)] [] _ Q
    refine f_go (pc1 := 118) (lv1 := [(1, .null), (0, .ref nmo)]) (st1 := []) 2 rfl ?_
    refine f_lv [(0, .ref nmo)] (fl_c rfl fl_0) ?_
    exact next φ h1 h2
  | cons n r ih =>
    intro done φ hns h1 h2
    have hn : n ∈ ns := by rw [hns]; exact List.mem_append_right _ List.mem_cons_self
    have hns2 : ns = (done ++ [n]) ++ r := by rw [hns]; simp
    have n_next : sF τ n 146 = va_rf r.head? := by
      rw [hns] at hll
      obtain ⟨w, h1, -⟩ := Ll.app hll
      exact h1.2.hd
    have c_n := hcn n hn
    have hC := hN φ n hn
    show EQ X (d - 1) 62 101 [(1, .ref n), (0, .ref nmo)] [] _ Q
    cases hnd : nd n with
    | false =>
      rw [hnd, if_neg (by decide)] at hC
      refine f_go (pc1 := 107) (lv1 := [(1, .ref n), (0, .ref nmo)]) (st1 := [.ref n, .ref nmo]) 4 rfl ?_
      refine f_vt rfl rfl cn rfl hC ?_
      refine f_go (pc1 := 111) (lv1 := [(1, .ref n), (0, .ref nmo)]) (st1 := [.ref n]) 1 rfl ?_
      refine f_getf rfl rfl (g := 146) rfl c_n n_next ?_
      refine f_astn rfl r.head? rfl ?_
      refine f_go (pc1 := 101) (lv1 := [(1, va_rf r.head?), (0, .ref nmo)]) (st1 := []) 1 rfl ?_
      refine f_lv [(1, va_rf r.head?), (0, .ref nmo)] (fl_c rfl (fl_c rfl fl_0)) ?_
      refine ih _ φ hns2 h1 (fun a ha hda => ?_)
      rcases List.mem_append.mp ha with q | q
      · exact h2 a q hda
      · rw [List.mem_singleton.mp q, hnd] at hda; cases hda
    | true =>
      rw [hnd, if_pos rfl, sU_sS] at hC
      refine f_go (pc1 := 107) (lv1 := [(1, .ref n), (0, .ref nmo)]) (st1 := [.ref n, .ref nmo]) 4 rfl ?_
      refine f_vt rfl rfl cn rfl hC ?_
      refine f_go (pc1 := 111) (lv1 := [(1, .ref n), (0, .ref nmo)]) (st1 := [.ref n]) 1 rfl ?_
      refine f_getf rfl rfl (g := 146) rfl c_n n_next ?_
      refine f_astn rfl r.head? rfl ?_
      refine f_go (pc1 := 101) (lv1 := [(1, va_rf r.head?), (0, .ref nmo)]) (st1 := []) 1 rfl ?_
      refine f_lv [(1, va_rf r.head?), (0, .ref nmo)] (fl_c rfl (fl_c rfl fl_0)) ?_
      have hput : ∀ x, φ x = .ref (rs x) → (bif Nat.beq x (op n) then Value.ref (rs (op n)) else φ x) = .ref (rs x) := fun x hx => by
        by_cases e : x = op n
        · rw [e, nb_self]; rfl
        · rw [nb_ne e]; exact hx
      refine ih _ _ hns2 (fun x hx => hput x (h1 x hx)) (fun a ha hda => ?_)
      rcases List.mem_append.mp ha with q | q
      · exact hput _ (h2 a q hda)
      · rw [List.mem_singleton.mp q]; simp only [nb_self, cond_true]
end NJ
theorem g_nJudge {X : ev_X} {d : Nat} {σ : fl_S} (hd : 3 ≤ d) {nmo ps u0 u1 u2 u3 u4 d0 im1 ima imb im4 dh dr : Nat} {nt ng nh nu : Int32} {oh orr : Nat} {ds0 ns : List Nat} {nd : Nat → Bool} {op rs : Nat → Nat} (hN : UN σ nmo ps u0 u1 u2 u3 u4 d0 im1 ima imb im4 dh dr nt ng nh nu) (hx : [u0, u1, u2, u3, u4, im1, ima, imb, im4].Nodup) (h46 : sF σ u0 46 = .null ∧ sF σ u1 46 = .null ∧ sF σ u2 46 = .null) (ps_stats : sF σ ps 208 = .null) (ps_root : sF σ ps 209 = va_rf ns.head?) (nm_found : sF σ nmo 97 = .int 2147483647) (hl0 : Ll (fun a => sF σ a 37) (.ref d0) ds0) (hll : Ll (fun a => sF σ a 146) (va_rf ns.head?) ns) (hcn : ∀ a ∈ ns, sC σ 4 a = true) (hD0 : ∀ φ, ∀ a ∈ ds0, sC σ 1 a = true ∧ CF X (d - 1) 68 [.ref nmo, .ref u0, .ref a] (sS (U5 σ u0 u1 u2 u3 u4 im1 ima imb im4) 165 φ) none (sS (U5 σ u0 u1 u2 u3 u4 im1 ima imb im4) 165 φ)) (h_im1 : (∀ φ, CF X (d - 1) 68 [.ref nmo, .ref u1, .ref im1] (sS (U5 σ u0 u1 u2 u3 u4 im1 ima imb im4) 165 φ) none (sS (U5 σ u0 u1 u2 u3 u4 im1 ima imb im4) 165 φ))) (h_ima : (∀ φ, CF X (d - 1) 68 [.ref nmo, .ref u2, .ref ima] (sS (U5 σ u0 u1 u2 u3 u4 im1 ima imb im4) 165 φ) none (sS (U5 σ u0 u1 u2 u3 u4 im1 ima imb im4) 165 φ))) (h_imb : (∀ φ, CF X (d - 1) 68 [.ref nmo, .ref u2, .ref imb] (sS (U5 σ u0 u1 u2 u3 u4 im1 ima imb im4) 165 φ) none (sS (U5 σ u0 u1 u2 u3 u4 im1 ima imb im4) 165 φ))) (h_im4 : (∀ φ, CF X (d - 1) 68 [.ref nmo, .ref u4, .ref im4] (sS (U5 σ u0 u1 u2 u3 u4 im1 ima imb im4) 165 φ) none (sS (U5 σ u0 u1 u2 u3 u4 im1 ima imb im4) 165 φ))) (h_dh : (∀ φ, CF X (d - 1) 68 [.ref nmo, .ref u1, .ref dh] (sS (U5 σ u0 u1 u2 u3 u4 im1 ima imb im4) 165 φ) none (sU (sS (U5 σ u0 u1 u2 u3 u4 im1 ima imb im4) 165 φ) oh 165 (.ref (rs oh))))) (h_dr : (∀ φ, CF X (d - 1) 68 [.ref nmo, .ref u3, .ref dr] (sS (U5 σ u0 u1 u2 u3 u4 im1 ima imb im4) 165 φ) none (sU (sS (U5 σ u0 u1 u2 u3 u4 im1 ima imb im4) 165 φ) orr 165 (.ref (rs orr))))) (hNd : ∀ φ, ∀ a ∈ ns, CF X (d - 1) 71 [.ref nmo, .ref a] (sS (U5 σ u0 u1 u2 u3 u4 im1 ima imb im4) 165 φ) none (if nd a then sU (sS (U5 σ u0 u1 u2 u3 u4 im1 ima imb im4) 165 φ) (op a) 165 (.ref (rs (op a))) else (sS (U5 σ u0 u1 u2 u3 u4 im1 ima imb im4) 165 φ))) :
    CQ X d 62 [.ref nmo] σ (fun v σ1 => v = some (.int 0) ∧ ∃ φ, σ1 = (sS (U5 σ u0 u1 u2 u3 u4 im1 ima imb im4) 165 φ) ∧ φ oh = .ref (rs oh) ∧ φ orr = .ref (rs orr) ∧ ∀ a ∈ ns, nd a = true → φ (op a) = .ref (rs (op a))) := by
  have hN9 := hN
  obtain ⟨w0, w1, w2, w3, w4, w5, w6, w7, w8, w9, w10, w11, w12, w13, w14, w15, w16, w17, w18, w19, w20, w21, w22, w23, w24, w25, w26, w27, w28, w29, w30, w31, w32, w33, w34, w35, w36, w37, w38, w39, w40, w41, w42, w43, w44, w45, w46, w47, w48, w49, w50, w51, w52, w53, w54, w55, w56, w57, w58, w59, w60, w61, w62, w63, w64, w65, w66, w67⟩ := hN
  obtain ⟨⟨m0, m1, m2, m3, m4⟩, t1, t2, t3, t4, t5, t6, t7, t8, t9⟩ := U5_facts (σ := σ) hx
  rw [h46.1] at t7
  rw [h46.2.1] at t8
  rw [h46.2.2] at t9
  refine f_meth (by omega) rfl ?_
  refine f_go (pc1 := 1) (lv1 := [(0, .ref nmo)]) (st1 := [.ref nmo]) 1 rfl ?_
  refine f_getf rfl rfl (g := 96) rfl w0 w1 ?_
  refine f_getf rfl rfl (g := 207) rfl w2 w3 ?_
  refine f_go (pc1 := 14) (lv1 := [(1, .ref u0), (0, .ref nmo)]) (st1 := [.ref u0, .ref nmo]) 5 rfl ?_
  refine f_vt rfl rfl w0 rfl (g_judgeUnit_0 (by omega) hN9) ?_
  refine f_go (pc1 := 18) (lv1 := [(1, .ref u0), (0, .ref nmo)]) (st1 := [.ref u0]) 1 rfl ?_
  refine f_getf rfl rfl (g := 37) rfl w4 w7 ?_
  refine f_go (pc1 := 14) (lv1 := [(1, .ref u1), (0, .ref nmo)]) (st1 := [.ref u1, .ref nmo]) 6 rfl ?_
  refine f_vt rfl rfl w0 rfl (g_judgeUnit_1 (by omega) (UN_48 hN9)) ?_
  refine f_go (pc1 := 18) (lv1 := [(1, .ref u1), (0, .ref nmo)]) (st1 := [.ref u1]) 1 rfl ?_
  refine f_getf rfl rfl (g := 37) rfl w10 w13 ?_
  refine f_go (pc1 := 14) (lv1 := [(1, .ref u2), (0, .ref nmo)]) (st1 := [.ref u2, .ref nmo]) 6 rfl ?_
  refine f_vt rfl rfl w0 rfl (g_judgeUnit_2 (by omega) (UN_48 (UN_46 (UN_48 (UN_48 hN9))))) ?_
  refine f_go (pc1 := 18) (lv1 := [(1, .ref u2), (0, .ref nmo)]) (st1 := [.ref u2]) 1 rfl ?_
  refine f_getf rfl rfl (g := 37) rfl w16 w19 ?_
  refine f_go (pc1 := 14) (lv1 := [(1, .ref u3), (0, .ref nmo)]) (st1 := [.ref u3, .ref nmo]) 6 rfl ?_
  refine f_vt rfl rfl w0 rfl (g_judgeUnit_3 (by omega) (UN_48 (UN_46 (UN_48 (UN_46 (UN_48 (UN_48 (UN_46 (UN_48 (UN_48 hN9)))))))))) ?_
  refine f_go (pc1 := 18) (lv1 := [(1, .ref u3), (0, .ref nmo)]) (st1 := [.ref u3]) 1 rfl ?_
  refine f_getf rfl rfl (g := 37) rfl w22 w25 ?_
  refine f_go (pc1 := 14) (lv1 := [(1, .ref u4), (0, .ref nmo)]) (st1 := [.ref u4, .ref nmo]) 6 rfl ?_
  refine f_vt rfl rfl w0 rfl (g_judgeUnit_4 (by omega) (UN_48 (UN_46 (UN_48 (UN_48 (UN_46 (UN_48 (UN_46 (UN_48 (UN_48 (UN_46 (UN_48 (UN_48 hN9))))))))))))) ?_
  refine f_go (pc1 := 18) (lv1 := [(1, .ref u4), (0, .ref nmo)]) (st1 := [.ref u4]) 1 rfl ?_
  refine f_getf rfl rfl (g := 37) rfl w28 w31 ?_
  refine f_go (pc1 := 25) (lv1 := [(1, .null), (0, .ref nmo)]) (st1 := []) 4 rfl ?_
  show EQ X (d - 1) 62 25 [(1, .null), (0, .ref nmo)] [] (U5 σ u0 u1 u2 u3 u4 im1 ima imb im4) _
  refine f_go (pc1 := 26) (lv1 := [(1, .null), (0, .ref nmo)]) (st1 := [.ref nmo]) 1 rfl ?_
  refine f_getf rfl rfl (g := 96) rfl w0 w1 ?_
  refine f_getf rfl rfl (g := 207) rfl w2 w3 ?_
  refine f_go (pc1 := 39) (lv1 := [(1, .ref u0), (0, .ref nmo)]) (st1 := [.ref u0, .ref nmo]) 5 rfl ?_
  refine f_vt rfl rfl w0 rfl (g_linkP_n (by omega) w4 w9 t7) ?_
  refine f_go (pc1 := 43) (lv1 := [(1, .ref u0), (0, .ref nmo)]) (st1 := [.ref u0]) 1 rfl ?_
  refine f_getf rfl rfl (g := 37) rfl w4 w7 ?_
  refine f_go (pc1 := 39) (lv1 := [(1, .ref u1), (0, .ref nmo)]) (st1 := [.ref u1, .ref nmo]) 6 rfl ?_
  refine f_vt rfl rfl w0 rfl (g_linkP_n (by omega) w10 w15 t8) ?_
  refine f_go (pc1 := 43) (lv1 := [(1, .ref u1), (0, .ref nmo)]) (st1 := [.ref u1]) 1 rfl ?_
  refine f_getf rfl rfl (g := 37) rfl w10 w13 ?_
  refine f_go (pc1 := 39) (lv1 := [(1, .ref u2), (0, .ref nmo)]) (st1 := [.ref u2, .ref nmo]) 6 rfl ?_
  refine f_vt rfl rfl w0 rfl (g_linkP_n (by omega) w16 w21 t9) ?_
  refine f_go (pc1 := 43) (lv1 := [(1, .ref u2), (0, .ref nmo)]) (st1 := [.ref u2]) 1 rfl ?_
  refine f_getf rfl rfl (g := 37) rfl w16 w19 ?_
  refine f_go (pc1 := 39) (lv1 := [(1, .ref u3), (0, .ref nmo)]) (st1 := [.ref u3, .ref nmo]) 6 rfl ?_
  refine f_vt rfl rfl w0 rfl (g_linkP_r (by omega) w22 w27 t5 w36 w37 w38) ?_
  refine f_go (pc1 := 43) (lv1 := [(1, .ref u3), (0, .ref nmo)]) (st1 := [.ref u3]) 1 rfl ?_
  refine f_getf rfl rfl (g := 37) rfl w22 w25 ?_
  refine f_go (pc1 := 39) (lv1 := [(1, .ref u4), (0, .ref nmo)]) (st1 := [.ref u4, .ref nmo]) 6 rfl ?_
  refine f_vt rfl rfl w0 rfl (g_linkP_n (by omega) w28 w33 t6) ?_
  refine f_go (pc1 := 43) (lv1 := [(1, .ref u4), (0, .ref nmo)]) (st1 := [.ref u4]) 1 rfl ?_
  refine f_getf rfl rfl (g := 37) rfl w28 w31 ?_
  refine f_go (pc1 := 50) (lv1 := [(1, .null), (0, .ref nmo)]) (st1 := []) 4 rfl ?_
  refine f_cv (σ1 := sS (U5 σ u0 u1 u2 u3 u4 im1 ima imb im4) 165 (fun b => sF (U5 σ u0 u1 u2 u3 u4 im1 ima imb im4) b 165)) sS_same ?_
  refine f_go (pc1 := 51) (lv1 := [(1, .null), (0, .ref nmo)]) (st1 := [.ref nmo]) 1 rfl ?_
  refine f_getf rfl rfl (g := 96) rfl w0 w1 ?_
  refine f_getf rfl rfl (g := 207) rfl w2 w3 ?_
  refine f_go (pc1 := 63) (lv1 := [(1, .ref u0), (0, .ref nmo)]) (st1 := [.ref u0]) 4 rfl ?_
  refine f_getf rfl rfl (g := 43) rfl w4 w9 ?_
  refine f_go (pc1 := 67) (lv1 := [(2, .ref d0), (1, .ref u0), (0, .ref nmo)]) (st1 := []) 1 rfl ?_
  refine f_lv [(2, va_rf (some d0)), (1, .ref u0), (0, .ref nmo)] (fl_c rfl (fl_c rfl (fl_c rfl fl_0))) ?_
  refine g_nj3 (τ := (U5 σ u0 u1 u2 u3 u4 im1 ima imb im4)) w0 w4 ?_ ds0 (some d0) hl0 (fun a ha => ⟨(hD0 (fun _ => .null) a ha).1, (hD0 _ a ha).2⟩)
  refine f_go (pc1 := 86) (lv1 := [(1, .ref u0), (0, .ref nmo)]) (st1 := [.ref u0]) 1 rfl ?_
  refine f_getf rfl rfl (g := 37) rfl w4 w7 ?_
  refine f_go (pc1 := 63) (lv1 := [(1, .ref u1), (0, .ref nmo)]) (st1 := [.ref u1]) 5 rfl ?_
  refine f_getf rfl rfl (g := 43) rfl w10 w15 ?_
  refine f_go (pc1 := 74) (lv1 := [(2, .ref im1), (1, .ref u1), (0, .ref nmo)]) (st1 := [.ref im1, .ref u1, .ref nmo]) 6 rfl ?_
  refine f_vt rfl rfl w0 rfl (h_im1 _) ?_
  refine f_go (pc1 := 78) (lv1 := [(2, .ref im1), (1, .ref u1), (0, .ref nmo)]) (st1 := [.ref im1]) 1 rfl ?_
  refine f_getf rfl rfl (g := 37) rfl w39 w42 ?_
  refine f_go (pc1 := 74) (lv1 := [(2, .ref dh), (1, .ref u1), (0, .ref nmo)]) (st1 := [.ref dh, .ref u1, .ref nmo]) 7 rfl ?_
  refine f_vt rfl rfl w0 rfl (h_dh _) ?_
  rw [sU_sS]
  refine f_go (pc1 := 78) (lv1 := [(2, .ref dh), (1, .ref u1), (0, .ref nmo)]) (st1 := [.ref dh]) 1 rfl ?_
  refine f_getf rfl rfl (g := 37) rfl w55 w57 ?_
  refine f_go (pc1 := 86) (lv1 := [(2, .null), (1, .ref u1), (0, .ref nmo)]) (st1 := [.ref u1]) 5 rfl ?_
  refine f_getf rfl rfl (g := 37) rfl w10 w13 ?_
  refine f_go (pc1 := 63) (lv1 := [(1, .ref u2), (2, .null), (0, .ref nmo)]) (st1 := [.ref u2]) 5 rfl ?_
  refine f_getf rfl rfl (g := 43) rfl w16 w21 ?_
  refine f_go (pc1 := 74) (lv1 := [(2, .ref ima), (1, .ref u2), (0, .ref nmo)]) (st1 := [.ref ima, .ref u2, .ref nmo]) 6 rfl ?_
  refine f_vt rfl rfl w0 rfl (h_ima _) ?_
  refine f_go (pc1 := 78) (lv1 := [(2, .ref ima), (1, .ref u2), (0, .ref nmo)]) (st1 := [.ref ima]) 1 rfl ?_
  refine f_getf rfl rfl (g := 37) rfl w43 w46 ?_
  refine f_go (pc1 := 74) (lv1 := [(2, .ref imb), (1, .ref u2), (0, .ref nmo)]) (st1 := [.ref imb, .ref u2, .ref nmo]) 7 rfl ?_
  refine f_vt rfl rfl w0 rfl (h_imb _) ?_
  refine f_go (pc1 := 78) (lv1 := [(2, .ref imb), (1, .ref u2), (0, .ref nmo)]) (st1 := [.ref imb]) 1 rfl ?_
  refine f_getf rfl rfl (g := 37) rfl w47 w50 ?_
  refine f_go (pc1 := 86) (lv1 := [(2, .null), (1, .ref u2), (0, .ref nmo)]) (st1 := [.ref u2]) 5 rfl ?_
  refine f_getf rfl rfl (g := 37) rfl w16 w19 ?_
  refine f_go (pc1 := 63) (lv1 := [(1, .ref u3), (2, .null), (0, .ref nmo)]) (st1 := [.ref u3]) 5 rfl ?_
  refine f_getf rfl rfl (g := 43) rfl w22 w27 ?_
  refine f_go (pc1 := 74) (lv1 := [(2, .ref dr), (1, .ref u3), (0, .ref nmo)]) (st1 := [.ref dr, .ref u3, .ref nmo]) 6 rfl ?_
  refine f_vt rfl rfl w0 rfl (h_dr _) ?_
  rw [sU_sS]
  refine f_go (pc1 := 78) (lv1 := [(2, .ref dr), (1, .ref u3), (0, .ref nmo)]) (st1 := [.ref dr]) 1 rfl ?_
  refine f_getf rfl rfl (g := 37) rfl w36 w38 ?_
  refine f_go (pc1 := 86) (lv1 := [(2, .null), (1, .ref u3), (0, .ref nmo)]) (st1 := [.ref u3]) 5 rfl ?_
  refine f_getf rfl rfl (g := 37) rfl w22 w25 ?_
  refine f_go (pc1 := 63) (lv1 := [(1, .ref u4), (2, .null), (0, .ref nmo)]) (st1 := [.ref u4]) 5 rfl ?_
  refine f_getf rfl rfl (g := 43) rfl w28 w33 ?_
  refine f_go (pc1 := 74) (lv1 := [(2, .ref im4), (1, .ref u4), (0, .ref nmo)]) (st1 := [.ref im4, .ref u4, .ref nmo]) 6 rfl ?_
  refine f_vt rfl rfl w0 rfl (h_im4 _) ?_
  refine f_go (pc1 := 78) (lv1 := [(2, .ref im4), (1, .ref u4), (0, .ref nmo)]) (st1 := [.ref im4]) 1 rfl ?_
  refine f_getf rfl rfl (g := 37) rfl w51 w54 ?_
  refine f_go (pc1 := 86) (lv1 := [(2, .null), (1, .ref u4), (0, .ref nmo)]) (st1 := [.ref u4]) 5 rfl ?_
  refine f_getf rfl rfl (g := 37) rfl w28 w31 ?_
  refine f_go (pc1 := 93) (lv1 := [(1, .null), (2, .null), (0, .ref nmo)]) (st1 := []) 4 rfl ?_
  refine f_go (pc1 := 94) (lv1 := [(1, .null), (2, .null), (0, .ref nmo)]) (st1 := [.ref nmo]) 1 rfl ?_
  refine f_getf rfl rfl (g := 96) rfl w0 w1 ?_
  refine f_getf rfl rfl (g := 209) rfl w2 ps_root ?_
  refine f_astn rfl ns.head? rfl ?_
  refine f_lv [(1, va_rf ns.head?), (0, .ref nmo)] (fl_c rfl (fl_c rfl fl_0)) ?_
  refine g_nj4 (τ := (U5 σ u0 u1 u2 u3 u4 im1 ima imb im4)) (rs := rs) w0 hll hcn hNd [oh, orr] ?_ ns [] _ rfl ?_ (fun a ha => by cases ha)
  · intro φ h1 h2
    refine f_go (pc1 := 119) (lv1 := [(0, .ref nmo)]) (st1 := [.ref nmo]) 1 rfl ?_
    refine f_getf rfl rfl (g := 96) rfl w0 w1 ?_
    refine f_getf rfl rfl (g := 208) rfl w2 ps_stats ?_
    refine f_go (pc1 := 144) (lv1 := [(1, .null), (0, .ref nmo)]) (st1 := [.ref nmo]) 4 rfl ?_
    refine f_getf rfl rfl (g := 97) rfl w0 nm_found ?_
    refine f_ldc rfl ?_
    refine f_go (pc1 := 160) (lv1 := [(1, .null), (0, .ref nmo)]) (st1 := [.int 0]) 3 rfl ?_
    exact f_rtQ rfl rfl ⟨rfl, φ, rfl, h1 oh (by simp), h1 orr (by simp), h2⟩
  · intro x hx
    rcases List.mem_cons.mp hx with e | e
    · subst e
      by_cases q : x = orr
      · subst q; simp only [nb_self, cond_true]
      · simp only [nb_ne q, cond_false, nb_self, cond_true]
    · have e := List.mem_singleton.mp e
      subst e
      simp only [nb_self, cond_true]
