/-! walks along what is above -/
def Chn (f : Nat → Option Nat) : Option Nat → List Nat → Prop
  | v, [] => v = none
  | v, a :: l => v = some a ∧ Chn f (f a) l
theorem g_wholeChain {X : ev_X} {d : Nat} {σ : fl_S} (hd : 2 ≤ d) {ty t nn : Nat} {kt : Int32} {f : Nat → Option Nat} {l : List Nat} (cty : sC σ 9 ty = true) (ty_nc : sF σ ty 298 = .int (Int32.ofNat nn)) (hnn : nn < 100000) (c_t : sC σ 4 t = true) (t_kind : sF σ t 128 = .int kt) (hk : kt = 10 ∨ kt = 11 ∨ kt = 12) (hl : Chn f (some t) l) (hf : ∀ a ∈ l, sC σ 4 a = true ∧ sF σ a 140 = va_rf (f a)) (hn : l.length ≤ nn) : CF X d 85 [.ref ty, .ref t] σ (some (.int (Int32.ofNat l.length))) σ := by
  refine f_meth (by omega) rfl ?_
  refine f_go (pc1 := 1) (lv1 := [(0, .ref ty), (1, .ref t)]) (st1 := [.ref t]) 1 rfl ?_
  refine f_st rfl rfl rfl rfl (g_isObject (by omega) c_t t_kind) ?_
  rw [if_pos hk]
  refine f_go (pc1 := 13) (lv1 := [(3, .ref t), (2, .int 0), (0, .ref ty), (1, .ref t)]) (st1 := []) 5 rfl ?_
  have key : ∀ (l : List Nat) (c : Option Nat) (many : Nat), Chn f c l → (∀ a ∈ l, sC σ 4 a = true ∧ sF σ a 140 = va_rf (f a)) → many + l.length ≤ nn → EF X (d - 1) 85 13 [(3, va_rf c), (2, .int (Int32.ofNat many)), (0, .ref ty), (1, .ref t)] [] σ (some (.int (Int32.ofNat (many + l.length)))) σ := by
    intro l
    induction l with
    | nil =>
      intro c many hc hf hn
      have hc : c = none := hc
      subst hc
      show EF X (d - 1) 85 13 [(3, .null), (2, .int (Int32.ofNat many)), (0, .ref ty), (1, .ref t)] [] σ _ _
      refine f_go (pc1 := 37) (lv1 := [(3, .null), (2, .int (Int32.ofNat many)), (0, .ref ty), (1, .ref t)]) (st1 := [.int (Int32.ofNat many)]) 3 rfl ?_
      exact f_rt rfl rfl
    | cons q r ih =>
      intro c many hc hf hn
      obtain ⟨hc1, hc2⟩ := hc
      subst hc1
      obtain ⟨c_q, q_up⟩ := hf q List.mem_cons_self
      have hn2 : many + (r.length + 1) ≤ nn := hn
      have ih := ih (f q) (many + 1) hc2 (fun a ha => hf a (List.mem_cons_of_mem _ ha)) (by omega)
      rw [show many + 1 + r.length = many + (q :: r).length by simp; omega] at ih
      show EF X (d - 1) 85 13 [(3, .ref q), (2, .int (Int32.ofNat many)), (0, .ref ty), (1, .ref t)] [] σ _ _
      refine f_go (pc1 := 19) (lv1 := [(3, .ref q), (2, .int (Int32.ofNat many)), (0, .ref ty), (1, .ref t)]) (st1 := [.ref ty, .int (Int32.ofNat many)]) 4 rfl ?_
      refine f_getf rfl rfl (g := 298) rfl cty ty_nc ?_
      refine f_icmp (t := 36) rfl rfl false (nat_lt (by omega) (by omega) (by omega)) ?_
      refine f_go (pc1 := 29) (lv1 := [(2, .int ((Int32.ofNat many) + 1)), (3, .ref q), (0, .ref ty), (1, .ref t)]) (st1 := [.ref q]) 2 rfl ?_
      refine f_getf rfl rfl (g := 140) rfl c_q q_up ?_
      refine f_astn rfl (f q) rfl ?_
      refine f_go (pc1 := 13) (lv1 := [(3, va_rf (f q)), (2, .int ((Int32.ofNat many) + 1)), (0, .ref ty), (1, .ref t)]) (st1 := []) 1 rfl ?_
      rw [nat_s many]
      refine f_lv [(3, va_rf (f q)), (2, .int (Int32.ofNat (many + 1))), (0, .ref ty), (1, .ref t)] (fl_c rfl (fl_c rfl (fl_c rfl (fl_c rfl fl_0)))) ?_
      exact ih
  have h := key l (some t) 0 hl hf (by omega)
  rw [Nat.zero_add] at h
  exact f_lv _ (fl_c rfl (fl_c rfl (fl_c rfl (fl_c rfl fl_0)))) h
theorem g_chainSeen {X : ev_X} {d : Nat} {σ : fl_S} (hd : 2 ≤ d) {ty u t nn : Nat} {f : Nat → Option Nat} {l : List Nat} (cty : sC σ 9 ty = true) (ty_nc : sF σ ty 298 = .int (Int32.ofNat nn)) (hnn : nn < 100000) (hl : Chn f (some t) l) (hf : ∀ a ∈ l, CF X (d - 1) 81 [.ref ty, .ref u, .ref a] σ (some (va_rf (f a))) σ) (hn : l.length ≤ nn) : CF X d 86 [.ref ty, .ref u, .ref t] σ (some (.int (Int32.ofNat l.length))) σ := by
  refine f_meth (by omega) rfl ?_
  refine f_go (pc1 := 5) (lv1 := [(4, .ref t), (3, .int 0), (0, .ref ty), (1, .ref u), (2, .ref t)]) (st1 := []) 4 rfl ?_
  have key : ∀ (l : List Nat) (c : Option Nat) (many : Nat), Chn f c l → (∀ a ∈ l, CF X (d - 1) 81 [.ref ty, .ref u, .ref a] σ (some (va_rf (f a))) σ) → many + l.length ≤ nn → EF X (d - 1) 86 5 [(4, va_rf c), (3, .int (Int32.ofNat many)), (0, .ref ty), (1, .ref u), (2, .ref t)] [] σ (some (.int (Int32.ofNat (many + l.length)))) σ := by
    intro l
    induction l with
    | nil =>
      intro c many hc hf hn
      have hc : c = none := hc
      subst hc
      show EF X (d - 1) 86 5 [(4, .null), (3, .int (Int32.ofNat many)), (0, .ref ty), (1, .ref u), (2, .ref t)] [] σ _ _
      refine f_go (pc1 := 34) (lv1 := [(4, .null), (3, .int (Int32.ofNat many)), (0, .ref ty), (1, .ref u), (2, .ref t)]) (st1 := [.int (Int32.ofNat many)]) 3 rfl ?_
      exact f_rt rfl rfl
    | cons q r ih =>
      intro c many hc hf hn
      obtain ⟨hc1, hc2⟩ := hc
      subst hc1
      have hC := hf q List.mem_cons_self
      have hn2 : many + (r.length + 1) ≤ nn := hn
      have ih := ih (f q) (many + 1) hc2 (fun a ha => hf a (List.mem_cons_of_mem _ ha)) (by omega)
      rw [show many + 1 + r.length = many + (q :: r).length by simp; omega] at ih
      show EF X (d - 1) 86 5 [(4, .ref q), (3, .int (Int32.ofNat many)), (0, .ref ty), (1, .ref u), (2, .ref t)] [] σ _ _
      refine f_go (pc1 := 12) (lv1 := [(4, .ref q), (3, .int (Int32.ofNat many)), (0, .ref ty), (1, .ref u), (2, .ref t)]) (st1 := [.ref ty, .int (Int32.ofNat many)]) 4 rfl ?_
      refine f_getf rfl rfl (g := 298) rfl cty ty_nc ?_
      refine f_icmp (t := 33) rfl rfl false (nat_lt (by omega) (by omega) (by omega)) ?_
      refine f_go (pc1 := 25) (lv1 := [(3, .int ((Int32.ofNat many) + 1)), (4, .ref q), (0, .ref ty), (1, .ref u), (2, .ref t)]) (st1 := [.ref q, .ref u, .ref ty]) 4 rfl ?_
      refine f_vt rfl rfl cty rfl hC ?_
      refine f_ast rfl (f q) rfl ?_
      refine f_go (pc1 := 5) (lv1 := [(4, va_rf (f q)), (3, .int ((Int32.ofNat many) + 1)), (0, .ref ty), (1, .ref u), (2, .ref t)]) (st1 := []) 1 rfl ?_
      rw [nat_s many]
      refine f_lv [(4, va_rf (f q)), (3, .int (Int32.ofNat (many + 1))), (0, .ref ty), (1, .ref u), (2, .ref t)] (fl_c rfl (fl_c rfl (fl_c rfl (fl_c rfl (fl_c rfl fl_0))))) ?_
      exact ih
  have h := key l (some t) 0 hl hf (by omega)
  rw [Nat.zero_add] at h
  exact f_lv _ (fl_c rfl (fl_c rfl (fl_c rfl (fl_c rfl (fl_c rfl fl_0))))) h
theorem g_isBelow {X : ev_X} {d : Nat} {σ : fl_S} (hd : 2 ≤ d) {ty u a b nn : Nat} {ka : Int32} {f : Nat → Option Nat} {S : Nat → Int32} {l : List Nat} (cty : sC σ 9 ty = true) (ty_nc : sF σ ty 298 = .int (Int32.ofNat nn)) (hnn : nn < 100000) (c_a : sC σ 4 a = true) (a_kind : sF σ a 128 = .int ka) (k2 : ¬ ka = 2) (k6 : ¬ ka = 6) (a_shape : sF σ a 142 = .int (S a)) (c_b : sC σ 4 b = true) (b_shape : sF σ b 142 = .int (S b)) (hfa : CF X (d - 1) 81 [.ref ty, .ref u, .ref a] σ (some (va_rf (f a))) σ) (hl : Chn f (f a) l) (hf : ∀ a ∈ l, sC σ 4 a = true ∧ sF σ a 142 = .int (S a) ∧ CF X (d - 1) 81 [.ref ty, .ref u, .ref a] σ (some (va_rf (f a))) σ) (hn : l.length ≤ nn) : CF X d 95 [.ref ty, .ref u, .ref a, .ref b] σ (some (.int (if (decide (S a = S b) || l.any (fun c => decide (S c = S b))) = true then 1 else 0))) σ := by
  refine f_meth (by omega) rfl ?_
  refine f_go (pc1 := 1) (lv1 := [(0, .ref ty), (1, .ref u), (2, .ref a), (3, .ref b)]) (st1 := [.ref a]) 1 rfl ?_
  refine f_getf rfl rfl (g := 142) rfl c_a a_shape ?_
  refine f_go (pc1 := 5) (lv1 := [(0, .ref ty), (1, .ref u), (2, .ref a), (3, .ref b)]) (st1 := [.ref b, .int (S a)]) 1 rfl ?_
  refine f_getf rfl rfl (g := 142) rfl c_b b_shape ?_
  by_cases x1 : S a = S b
  ·
    refine f_icmp (t := 13) rfl rfl false (ic_nen x1) ?_
    refine f_go (pc1 := 12) (lv1 := [(0, .ref ty), (1, .ref u), (2, .ref a), (3, .ref b)]) (st1 := [.int 1]) 1 rfl ?_
    rw [if_pos (by simp [x1])]
    exact f_rt rfl rfl
  ·
    refine f_icmp (t := 13) rfl rfl true (ic_ne x1) ?_
    refine f_go (pc1 := 14) (lv1 := [(0, .ref ty), (1, .ref u), (2, .ref a), (3, .ref b)]) (st1 := [.ref a]) 1 rfl ?_
    refine f_getf rfl rfl (g := 128) rfl c_a a_kind ?_
    refine f_go (pc1 := 18) (lv1 := [(0, .ref ty), (1, .ref u), (2, .ref a), (3, .ref b)]) (st1 := [.int 2, .int ka]) 1 rfl ?_
    refine f_icmp (t := 64) rfl rfl true (ic_ne k2) ?_
    refine f_go (pc1 := 65) (lv1 := [(0, .ref ty), (1, .ref u), (2, .ref a), (3, .ref b)]) (st1 := [.ref a]) 1 rfl ?_
    refine f_getf rfl rfl (g := 128) rfl c_a a_kind ?_
    refine f_go (pc1 := 70) (lv1 := [(0, .ref ty), (1, .ref u), (2, .ref a), (3, .ref b)]) (st1 := [.int 6, .int ka]) 1 rfl ?_
    refine f_icmp (t := 124) rfl rfl true (ic_ne k6) ?_
    refine f_go (pc1 := 127) (lv1 := [(0, .ref ty), (1, .ref u), (2, .ref a), (3, .ref b)]) (st1 := [.ref a, .ref u, .ref ty]) 3 rfl ?_
    refine f_vt rfl rfl cty rfl hfa ?_
    refine f_ast rfl (f a) rfl ?_
    refine f_go (pc1 := 133) (lv1 := [(4, va_rf (f a)), (0, .ref ty), (1, .ref u), (2, .ref a), (3, .ref b)]) (st1 := [.int 0]) 1 rfl ?_
    refine f_ist [(4, va_rf (f a)), (0, .ref ty), (1, .ref u), (2, .ref a), (3, .ref b)] rfl rfl (fj_v rfl rfl (fj_c rfl rfl rfl (fj_c rfl rfl rfl (fj_c rfl rfl rfl (fj_c rfl rfl rfl fj_0))))) ?_
    have key : ∀ (l : List Nat) (c : Option Nat) (i : Nat), Chn f c l → (∀ a ∈ l, sC σ 4 a = true ∧ sF σ a 142 = .int (S a) ∧ CF X (d - 1) 81 [.ref ty, .ref u, .ref a] σ (some (va_rf (f a))) σ) → i + l.length ≤ nn → EF X (d - 1) 95 135 [(5, .int (Int32.ofNat i)), (4, va_rf c), (0, .ref ty), (1, .ref u), (2, .ref a), (3, .ref b)] [] σ (some (.int (if l.any (fun c => decide (S c = S b)) = true then 1 else 0))) σ := by
      intro l
      induction l with
      | nil =>
        intro c i hc hf hn
        have hc : c = none := hc
        subst hc
        show EF X (d - 1) 95 135 [(5, .int (Int32.ofNat i)), (4, .null), (0, .ref ty), (1, .ref u), (2, .ref a), (3, .ref b)] [] σ _ _
        cases hq : ev_ic .ge (Int32.ofNat i) (Int32.ofNat nn) with
        | true =>
          refine f_go (pc1 := 138) (lv1 := [(5, .int (Int32.ofNat i)), (4, .null), (0, .ref ty), (1, .ref u), (2, .ref a), (3, .ref b)]) (st1 := [.ref ty, .int (Int32.ofNat i)]) 2 rfl ?_
          refine f_getf rfl rfl (g := 298) rfl cty ty_nc ?_
          refine f_icmp (t := 178) rfl rfl true hq ?_
          refine f_go (pc1 := 179) (lv1 := [(5, .int (Int32.ofNat i)), (4, .null), (0, .ref ty), (1, .ref u), (2, .ref a), (3, .ref b)]) (st1 := [.int 0]) 1 rfl ?_
          exact f_rt rfl rfl
        | false =>
          refine f_go (pc1 := 138) (lv1 := [(5, .int (Int32.ofNat i)), (4, .null), (0, .ref ty), (1, .ref u), (2, .ref a), (3, .ref b)]) (st1 := [.ref ty, .int (Int32.ofNat i)]) 2 rfl ?_
          refine f_getf rfl rfl (g := 298) rfl cty ty_nc ?_
          refine f_icmp (t := 178) rfl rfl false hq ?_
          refine f_go (pc1 := 179) (lv1 := [(5, .int (Int32.ofNat i)), (4, .null), (0, .ref ty), (1, .ref u), (2, .ref a), (3, .ref b)]) (st1 := [.int 0]) 3 rfl ?_
          exact f_rt rfl rfl
      | cons q r ih =>
        intro c i hc hf hn
        obtain ⟨hc1, hc2⟩ := hc
        subst hc1
        obtain ⟨c_q, q_shape, hC⟩ := hf q List.mem_cons_self
        have hn2 : i + (r.length + 1) ≤ nn := hn
        have ih := ih (f q) (i + 1) hc2 (fun a ha => hf a (List.mem_cons_of_mem _ ha)) (by omega)
        show EF X (d - 1) 95 135 [(5, .int (Int32.ofNat i)), (4, .ref q), (0, .ref ty), (1, .ref u), (2, .ref a), (3, .ref b)] [] σ _ _
        refine f_go (pc1 := 138) (lv1 := [(5, .int (Int32.ofNat i)), (4, .ref q), (0, .ref ty), (1, .ref u), (2, .ref a), (3, .ref b)]) (st1 := [.ref ty, .int (Int32.ofNat i)]) 2 rfl ?_
        refine f_getf rfl rfl (g := 298) rfl cty ty_nc ?_
        refine f_icmp (t := 178) rfl rfl false (nat_lt (by omega) (by omega) (by omega)) ?_
        refine f_go (pc1 := 151) (lv1 := [(5, .int (Int32.ofNat i)), (4, .ref q), (0, .ref ty), (1, .ref u), (2, .ref a), (3, .ref b)]) (st1 := [.ref q]) 3 rfl ?_
        refine f_getf rfl rfl (g := 142) rfl c_q q_shape ?_
        refine f_go (pc1 := 155) (lv1 := [(5, .int (Int32.ofNat i)), (4, .ref q), (0, .ref ty), (1, .ref u), (2, .ref a), (3, .ref b)]) (st1 := [.ref b, .int (S q)]) 1 rfl ?_
        refine f_getf rfl rfl (g := 142) rfl c_b b_shape ?_
        by_cases x2 : S q = S b
        ·
          refine f_icmp (t := 163) rfl rfl false (ic_nen x2) ?_
          refine f_go (pc1 := 162) (lv1 := [(5, .int (Int32.ofNat i)), (4, .ref q), (0, .ref ty), (1, .ref u), (2, .ref a), (3, .ref b)]) (st1 := [.int 1]) 1 rfl ?_
          rw [if_pos (by simp [x2])]
          exact f_rt rfl rfl
        ·
          refine f_icmp (t := 163) rfl rfl true (ic_ne x2) ?_
          refine f_go (pc1 := 167) (lv1 := [(5, .int (Int32.ofNat i)), (4, .ref q), (0, .ref ty), (1, .ref u), (2, .ref a), (3, .ref b)]) (st1 := [.ref q, .ref u, .ref ty]) 3 rfl ?_
          refine f_vt rfl rfl cty rfl hC ?_
          refine f_ast rfl (f q) rfl ?_
          refine f_inc [(4, va_rf (f q)), (0, .ref ty), (1, .ref u), (2, .ref a), (3, .ref b)] rfl rfl rfl (fj_v rfl rfl (fj_c rfl rfl rfl (fj_c rfl rfl rfl (fj_c rfl rfl rfl (fj_c rfl rfl rfl fj_0))))) ?_
          refine f_go (pc1 := 135) (lv1 := [(5, .int ((Int32.ofNat i) + 1)), (4, va_rf (f q)), (0, .ref ty), (1, .ref u), (2, .ref a), (3, .ref b)]) (st1 := []) 1 rfl ?_
          rw [nat_s i]
          rw [show (q :: r).any (fun c => decide (S c = S b)) = r.any (fun c => decide (S c = S b)) by simp [x2]]
          refine f_lv [(5, .int (Int32.ofNat (i + 1))), (4, va_rf (f q)), (0, .ref ty), (1, .ref u), (2, .ref a), (3, .ref b)] (fl_c rfl (fl_c rfl (fl_c rfl (fl_c rfl (fl_c rfl (fl_c rfl fl_0)))))) ?_
          exact ih
    have h := key l (f a) 0 hl hf (by omega)
    rw [show (decide (S a = S b) || l.any (fun c => decide (S c = S b))) = l.any (fun c => decide (S c = S b)) by simp [x1]]
    exact f_lv _ (fl_c rfl (fl_c rfl (fl_c rfl (fl_c rfl (fl_c rfl (fl_c rfl fl_0)))))) h
theorem g_isAboveW {X : ev_X} {d : Nat} {σ : fl_S} (hd : 2 ≤ d) {ty a b nn : Nat} {kb : Int32} {f : Nat → Option Nat} {S : Nat → Int32} {l : List Nat} (cty : sC σ 9 ty = true) (ty_nc : sF σ ty 298 = .int (Int32.ofNat nn)) (hnn : nn < 100000) (c_a : sC σ 4 a = true) (a_up : sF σ a 140 = va_rf (f a)) (a_shape : sF σ a 142 = .int (S a)) (c_b : sC σ 4 b = true) (b_kind : sF σ b 128 = .int kb) (hk : kb = 10 ∨ kb = 11 ∨ kb = 12) (b_shape : sF σ b 142 = .int (S b)) (hl : Chn f (f a) l) (hf : ∀ a ∈ l, sC σ 4 a = true ∧ sF σ a 142 = .int (S a) ∧ sF σ a 140 = va_rf (f a)) (hn : l.length ≤ nn) : CF X d 102 [.ref ty, .ref a, .ref b] σ (some (.int (if l.any (fun c => decide (S c = S b) && !decide (S c = S a)) = true then 1 else 0))) σ := by
  refine f_meth (by omega) rfl ?_
  refine f_go (pc1 := 1) (lv1 := [(0, .ref ty), (1, .ref a), (2, .ref b)]) (st1 := [.ref b]) 1 rfl ?_
  refine f_st rfl rfl rfl rfl (g_isObject (by omega) c_b b_kind) ?_
  rw [if_pos hk]
  refine f_go (pc1 := 10) (lv1 := [(0, .ref ty), (1, .ref a), (2, .ref b)]) (st1 := [.ref a]) 2 rfl ?_
  refine f_getf rfl rfl (g := 140) rfl c_a a_up ?_
  refine f_astn rfl (f a) rfl ?_
  refine f_go (pc1 := 15) (lv1 := [(3, va_rf (f a)), (0, .ref ty), (1, .ref a), (2, .ref b)]) (st1 := [.int 0]) 1 rfl ?_
  refine f_ist [(3, va_rf (f a)), (0, .ref ty), (1, .ref a), (2, .ref b)] rfl rfl (fj_v rfl rfl (fj_c rfl rfl rfl (fj_c rfl rfl rfl (fj_c rfl rfl rfl fj_0)))) ?_
  have key : ∀ (l : List Nat) (c : Option Nat) (i : Nat), Chn f c l → (∀ a ∈ l, sC σ 4 a = true ∧ sF σ a 142 = .int (S a) ∧ sF σ a 140 = va_rf (f a)) → i + l.length ≤ nn → EF X (d - 1) 102 17 [(4, .int (Int32.ofNat i)), (3, va_rf c), (0, .ref ty), (1, .ref a), (2, .ref b)] [] σ (some (.int (if l.any (fun c => decide (S c = S b) && !decide (S c = S a)) = true then 1 else 0))) σ := by
    intro l
    induction l with
    | nil =>
      intro c i hc hf hn
      have hc : c = none := hc
      subst hc
      show EF X (d - 1) 102 17 [(4, .int (Int32.ofNat i)), (3, .null), (0, .ref ty), (1, .ref a), (2, .ref b)] [] σ _ _
      cases hq : ev_ic .ge (Int32.ofNat i) (Int32.ofNat nn) with
      | true =>
        refine f_go (pc1 := 20) (lv1 := [(4, .int (Int32.ofNat i)), (3, .null), (0, .ref ty), (1, .ref a), (2, .ref b)]) (st1 := [.ref ty, .int (Int32.ofNat i)]) 2 rfl ?_
        refine f_getf rfl rfl (g := 298) rfl cty ty_nc ?_
        refine f_icmp (t := 65) rfl rfl true hq ?_
        refine f_go (pc1 := 66) (lv1 := [(4, .int (Int32.ofNat i)), (3, .null), (0, .ref ty), (1, .ref a), (2, .ref b)]) (st1 := [.int 0]) 1 rfl ?_
        exact f_rt rfl rfl
      | false =>
        refine f_go (pc1 := 20) (lv1 := [(4, .int (Int32.ofNat i)), (3, .null), (0, .ref ty), (1, .ref a), (2, .ref b)]) (st1 := [.ref ty, .int (Int32.ofNat i)]) 2 rfl ?_
        refine f_getf rfl rfl (g := 298) rfl cty ty_nc ?_
        refine f_icmp (t := 65) rfl rfl false hq ?_
        refine f_go (pc1 := 66) (lv1 := [(4, .int (Int32.ofNat i)), (3, .null), (0, .ref ty), (1, .ref a), (2, .ref b)]) (st1 := [.int 0]) 3 rfl ?_
        exact f_rt rfl rfl
    | cons q r ih =>
      intro c i hc hf hn
      obtain ⟨hc1, hc2⟩ := hc
      subst hc1
      obtain ⟨c_q, q_shape, q_up⟩ := hf q List.mem_cons_self
      have hn2 : i + (r.length + 1) ≤ nn := hn
      have ih := ih (f q) (i + 1) hc2 (fun a ha => hf a (List.mem_cons_of_mem _ ha)) (by omega)
      show EF X (d - 1) 102 17 [(4, .int (Int32.ofNat i)), (3, .ref q), (0, .ref ty), (1, .ref a), (2, .ref b)] [] σ _ _
      refine f_go (pc1 := 20) (lv1 := [(4, .int (Int32.ofNat i)), (3, .ref q), (0, .ref ty), (1, .ref a), (2, .ref b)]) (st1 := [.ref ty, .int (Int32.ofNat i)]) 2 rfl ?_
      refine f_getf rfl rfl (g := 298) rfl cty ty_nc ?_
      refine f_icmp (t := 65) rfl rfl false (nat_lt (by omega) (by omega) (by omega)) ?_
      refine f_go (pc1 := 31) (lv1 := [(4, .int (Int32.ofNat i)), (3, .ref q), (0, .ref ty), (1, .ref a), (2, .ref b)]) (st1 := [.ref q]) 3 rfl ?_
      refine f_getf rfl rfl (g := 142) rfl c_q q_shape ?_
      refine f_go (pc1 := 35) (lv1 := [(4, .int (Int32.ofNat i)), (3, .ref q), (0, .ref ty), (1, .ref a), (2, .ref b)]) (st1 := [.ref b, .int (S q)]) 1 rfl ?_
      refine f_getf rfl rfl (g := 142) rfl c_b b_shape ?_
      by_cases x2 : S q = S b
      ·
        refine f_icmp (t := 54) rfl rfl false (ic_nen x2) ?_
        refine f_go (pc1 := 42) (lv1 := [(4, .int (Int32.ofNat i)), (3, .ref q), (0, .ref ty), (1, .ref a), (2, .ref b)]) (st1 := [.ref q]) 1 rfl ?_
        refine f_getf rfl rfl (g := 142) rfl c_q q_shape ?_
        refine f_go (pc1 := 46) (lv1 := [(4, .int (Int32.ofNat i)), (3, .ref q), (0, .ref ty), (1, .ref a), (2, .ref b)]) (st1 := [.ref a, .int (S q)]) 1 rfl ?_
        refine f_getf rfl rfl (g := 142) rfl c_a a_shape ?_
        by_cases x3 : S q = S a
        ·
          refine f_icmp (t := 54) rfl rfl true (ic_eq x3) ?_
          refine f_go (pc1 := 55) (lv1 := [(4, .int (Int32.ofNat i)), (3, .ref q), (0, .ref ty), (1, .ref a), (2, .ref b)]) (st1 := [.ref q]) 1 rfl ?_
          refine f_getf rfl rfl (g := 140) rfl c_q q_up ?_
          refine f_astn rfl (f q) rfl ?_
          refine f_inc [(3, va_rf (f q)), (0, .ref ty), (1, .ref a), (2, .ref b)] rfl rfl rfl (fj_v rfl rfl (fj_c rfl rfl rfl (fj_c rfl rfl rfl (fj_c rfl rfl rfl fj_0)))) ?_
          refine f_go (pc1 := 17) (lv1 := [(4, .int ((Int32.ofNat i) + 1)), (3, va_rf (f q)), (0, .ref ty), (1, .ref a), (2, .ref b)]) (st1 := []) 1 rfl ?_
          rw [nat_s i]
          rw [show (q :: r).any (fun c => decide (S c = S b) && !decide (S c = S a)) = r.any (fun c => decide (S c = S b) && !decide (S c = S a)) by simp [x3]]
          refine f_lv [(4, .int (Int32.ofNat (i + 1))), (3, va_rf (f q)), (0, .ref ty), (1, .ref a), (2, .ref b)] (fl_c rfl (fl_c rfl (fl_c rfl (fl_c rfl (fl_c rfl fl_0))))) ?_
          exact ih
        ·
          refine f_icmp (t := 54) rfl rfl false (ic_eqn x3) ?_
          refine f_go (pc1 := 53) (lv1 := [(4, .int (Int32.ofNat i)), (3, .ref q), (0, .ref ty), (1, .ref a), (2, .ref b)]) (st1 := [.int 1]) 1 rfl ?_
          rw [if_pos (by simp only [List.any_cons, x2, x3, decide_true, decide_false, Bool.not_false, Bool.and_true, Bool.true_or] <;> simp [← x2, x3])]
          exact f_rt rfl rfl
      ·
        refine f_icmp (t := 54) rfl rfl true (ic_ne x2) ?_
        refine f_go (pc1 := 55) (lv1 := [(4, .int (Int32.ofNat i)), (3, .ref q), (0, .ref ty), (1, .ref a), (2, .ref b)]) (st1 := [.ref q]) 1 rfl ?_
        refine f_getf rfl rfl (g := 140) rfl c_q q_up ?_
        refine f_astn rfl (f q) rfl ?_
        refine f_inc [(3, va_rf (f q)), (0, .ref ty), (1, .ref a), (2, .ref b)] rfl rfl rfl (fj_v rfl rfl (fj_c rfl rfl rfl (fj_c rfl rfl rfl (fj_c rfl rfl rfl fj_0)))) ?_
        refine f_go (pc1 := 17) (lv1 := [(4, .int ((Int32.ofNat i) + 1)), (3, va_rf (f q)), (0, .ref ty), (1, .ref a), (2, .ref b)]) (st1 := []) 1 rfl ?_
        rw [nat_s i]
        rw [show (q :: r).any (fun c => decide (S c = S b) && !decide (S c = S a)) = r.any (fun c => decide (S c = S b) && !decide (S c = S a)) by simp [x2]]
        refine f_lv [(4, .int (Int32.ofNat (i + 1))), (3, va_rf (f q)), (0, .ref ty), (1, .ref a), (2, .ref b)] (fl_c rfl (fl_c rfl (fl_c rfl (fl_c rfl (fl_c rfl fl_0))))) ?_
        exact ih
  have h := key l (f a) 0 hl hf (by omega)
  exact f_lv _ (fl_c rfl (fl_c rfl (fl_c rfl (fl_c rfl (fl_c rfl fl_0))))) h
theorem g_viewed1 {X : ev_X} {d : Nat} {σ : fl_S} (hd : 2 ≤ d) {ty u e p : Nat} {mk : Int32} {P dO nb sb dh nh mb dr uh ur RL : Nat} (cty : sC σ 9 ty = true) (hO : OW σ P dO nb sb dh nh mb dr uh ur RL) (c_u : sC σ 1 u = true) (u_mask : sF σ u 48 = .int mk) (hb : ((mk >>> (3 &&& 31)) &&& 1) = 1) (RL_elem : sF σ RL 134 = .ref e) (c_e : sC σ 4 e = true) (e_real : sF σ e 139 = .ref p) : CF X d 83 [.ref ty, .ref u, .ref P] σ (some (.ref p)) σ := by
  have hO9 := hO
  obtain ⟨P1, P2, P3, O1, O2, O3, b1, b2, b3, h1, h2, h3, h4, h5, h6, h7, h8, r1, r2, r3, r4, r5, uh1, uh2, ur1, ur2, RL1⟩ := hO
  refine f_meth (by omega) rfl ?_
  refine f_go (pc1 := 3) (lv1 := [(0, .ref ty), (1, .ref u), (2, .ref P)]) (st1 := [.ref P, .ref u, .ref ty]) 3 rfl ?_
  refine f_vt rfl rfl cty rfl (g_levelOf_O1 (by omega) hO9 c_u u_mask hb) ?_
  refine f_go (pc1 := 12) (lv1 := [(3, .ref RL), (0, .ref ty), (1, .ref u), (2, .ref P)]) (st1 := [.ref RL]) 4 rfl ?_
  refine f_getf rfl rfl (g := 134) rfl RL1 RL_elem ?_
  refine f_getf rfl rfl (g := 139) rfl c_e e_real ?_
  exact f_rt rfl rfl
theorem g_viewed2 {X : ev_X} {d : Nat} {σ : fl_S} (hd : 2 ≤ d) {ty u nn : Nat} {mk : Int32} {P dO nb sb dh nh mb dr uh ur RL : Nat} {f : Nat → Option Nat} {S : Nat → Int32} {l : List Nat} (cty : sC σ 9 ty = true) (ty_nc : sF σ ty 298 = .int (Int32.ofNat nn)) (hnn : nn < 100000) (hO : OW σ P dO nb sb dh nh mb dr uh ur RL) (c_u : sC σ 1 u = true) (u_mask : sF σ u 48 = .int mk) (hb : ¬ ((mk >>> (3 &&& 31)) &&& 1) = 1) (P_up : sF σ P 140 = va_rf (f P)) (P_shape : sF σ P 142 = .int (S P)) (sb_shape : sF σ sb 142 = .int (S sb)) (mb_shape : sF σ mb 142 = .int (S mb)) (hl : Chn f (f P) l) (hf : ∀ a ∈ l, sC σ 4 a = true ∧ sF σ a 142 = .int (S a) ∧ sF σ a 140 = va_rf (f a)) (hn : l.length ≤ nn) : CF X d 83 [.ref ty, .ref u, .ref P] σ (some (va_rf (l.find? (fun c => !decide (S c = S P) && toldAb S sb mb c (decide (((mk >>> (1 &&& 31)) &&& 1) = 1)))))) σ := by
  have hO9 := hO
  obtain ⟨P1, P2, P3, O1, O2, O3, b1, b2, b3, h1, h2, h3, h4, h5, h6, h7, h8, r1, r2, r3, r4, r5, uh1, uh2, ur1, ur2, RL1⟩ := hO
  refine f_meth (by omega) rfl ?_
  refine f_go (pc1 := 3) (lv1 := [(0, .ref ty), (1, .ref u), (2, .ref P)]) (st1 := [.ref P, .ref u, .ref ty]) 3 rfl ?_
  refine f_vt rfl rfl cty rfl (g_levelOf_O2 (by omega) hO9 c_u u_mask hb) ?_
  refine f_go (pc1 := 20) (lv1 := [(3, .null), (0, .ref ty), (1, .ref u), (2, .ref P)]) (st1 := [.ref P]) 4 rfl ?_
  refine f_getf rfl rfl (g := 140) rfl P1 P_up ?_
  refine f_ast rfl (f P) rfl ?_
  refine f_go (pc1 := 26) (lv1 := [(4, va_rf (f P)), (3, .null), (0, .ref ty), (1, .ref u), (2, .ref P)]) (st1 := [.int 0]) 1 rfl ?_
  refine f_ist [(4, va_rf (f P)), (3, .null), (0, .ref ty), (1, .ref u), (2, .ref P)] rfl rfl (fj_v rfl rfl (fj_c rfl rfl rfl (fj_c rfl rfl rfl (fj_c rfl rfl rfl (fj_c rfl rfl rfl fj_0))))) ?_
  have key : ∀ (l : List Nat) (c : Option Nat) (i : Nat), Chn f c l → (∀ a ∈ l, sC σ 4 a = true ∧ sF σ a 142 = .int (S a) ∧ sF σ a 140 = va_rf (f a)) → i + l.length ≤ nn → EF X (d - 1) 83 28 [(5, .int (Int32.ofNat i)), (4, va_rf c), (3, .null), (0, .ref ty), (1, .ref u), (2, .ref P)] [] σ (some (va_rf (l.find? (fun c => !decide (S c = S P) && toldAb S sb mb c (decide (((mk >>> (1 &&& 31)) &&& 1) = 1)))))) σ := by
    intro l
    induction l with
    | nil =>
      intro c i hc hf hn
      have hc : c = none := hc
      subst hc
      show EF X (d - 1) 83 28 [(5, .int (Int32.ofNat i)), (4, .null), (3, .null), (0, .ref ty), (1, .ref u), (2, .ref P)] [] σ (some .null) _
      cases hq : ev_ic .ge (Int32.ofNat i) (Int32.ofNat nn) with
      | true =>
        refine f_go (pc1 := 31) (lv1 := [(5, .int (Int32.ofNat i)), (4, .null), (3, .null), (0, .ref ty), (1, .ref u), (2, .ref P)]) (st1 := [.ref ty, .int (Int32.ofNat i)]) 2 rfl ?_
        refine f_getf rfl rfl (g := 298) rfl cty ty_nc ?_
        refine f_icmp (t := 80) rfl rfl true hq ?_
        refine f_go (pc1 := 81) (lv1 := [(5, .int (Int32.ofNat i)), (4, .null), (3, .null), (0, .ref ty), (1, .ref u), (2, .ref P)]) (st1 := [.null]) 1 rfl ?_
        exact f_rt rfl rfl
      | false =>
        refine f_go (pc1 := 31) (lv1 := [(5, .int (Int32.ofNat i)), (4, .null), (3, .null), (0, .ref ty), (1, .ref u), (2, .ref P)]) (st1 := [.ref ty, .int (Int32.ofNat i)]) 2 rfl ?_
        refine f_getf rfl rfl (g := 298) rfl cty ty_nc ?_
        refine f_icmp (t := 80) rfl rfl false hq ?_
        refine f_go (pc1 := 81) (lv1 := [(5, .int (Int32.ofNat i)), (4, .null), (3, .null), (0, .ref ty), (1, .ref u), (2, .ref P)]) (st1 := [.null]) 3 rfl ?_
        exact f_rt rfl rfl
    | cons q r ih =>
      intro c i hc hf hn
      obtain ⟨hc1, hc2⟩ := hc
      subst hc1
      obtain ⟨c_q, q_shape, q_up⟩ := hf q List.mem_cons_self
      have hn2 : i + (r.length + 1) ≤ nn := hn
      have ih := ih (f q) (i + 1) hc2 (fun a ha => hf a (List.mem_cons_of_mem _ ha)) (by omega)
      show EF X (d - 1) 83 28 [(5, .int (Int32.ofNat i)), (4, .ref q), (3, .null), (0, .ref ty), (1, .ref u), (2, .ref P)] [] σ _ _
      refine f_go (pc1 := 31) (lv1 := [(5, .int (Int32.ofNat i)), (4, .ref q), (3, .null), (0, .ref ty), (1, .ref u), (2, .ref P)]) (st1 := [.ref ty, .int (Int32.ofNat i)]) 2 rfl ?_
      refine f_getf rfl rfl (g := 298) rfl cty ty_nc ?_
      refine f_icmp (t := 80) rfl rfl false (nat_lt (by omega) (by omega) (by omega)) ?_
      refine f_go (pc1 := 44) (lv1 := [(5, .int (Int32.ofNat i)), (4, .ref q), (3, .null), (0, .ref ty), (1, .ref u), (2, .ref P)]) (st1 := [.ref q]) 3 rfl ?_
      refine f_getf rfl rfl (g := 142) rfl c_q q_shape ?_
      refine f_go (pc1 := 48) (lv1 := [(5, .int (Int32.ofNat i)), (4, .ref q), (3, .null), (0, .ref ty), (1, .ref u), (2, .ref P)]) (st1 := [.ref P, .int (S q)]) 1 rfl ?_
      refine f_getf rfl rfl (g := 142) rfl P1 P_shape ?_
      by_cases x2 : S q = S P
      ·
        refine f_icmp (t := 67) rfl rfl true (ic_eq x2) ?_
        refine f_go (pc1 := 69) (lv1 := [(5, .int (Int32.ofNat i)), (4, .ref q), (3, .null), (0, .ref ty), (1, .ref u), (2, .ref P)]) (st1 := [.ref q]) 1 rfl ?_
        refine f_getf rfl rfl (g := 140) rfl c_q q_up ?_
        refine f_ast rfl (f q) rfl ?_
        refine f_inc [(4, va_rf (f q)), (3, .null), (0, .ref ty), (1, .ref u), (2, .ref P)] rfl rfl rfl (fj_v rfl rfl (fj_c rfl rfl rfl (fj_c rfl rfl rfl (fj_c rfl rfl rfl (fj_c rfl rfl rfl fj_0))))) ?_
        refine f_go (pc1 := 28) (lv1 := [(5, .int ((Int32.ofNat i) + 1)), (4, va_rf (f q)), (3, .null), (0, .ref ty), (1, .ref u), (2, .ref P)]) (st1 := []) 1 rfl ?_
        rw [nat_s i]
        rw [show (q :: r).find? (fun c => !decide (S c = S P) && toldAb S sb mb c (decide (((mk >>> (1 &&& 31)) &&& 1) = 1))) = r.find? (fun c => !decide (S c = S P) && toldAb S sb mb c (decide (((mk >>> (1 &&& 31)) &&& 1) = 1))) by simp [x2]]
        refine f_lv [(5, .int (Int32.ofNat (i + 1))), (4, va_rf (f q)), (3, .null), (0, .ref ty), (1, .ref u), (2, .ref P)] (fl_c rfl (fl_c rfl (fl_c rfl (fl_c rfl (fl_c rfl (fl_c rfl fl_0)))))) ?_
        exact ih
      ·
        refine f_icmp (t := 67) rfl rfl false (ic_eqn x2) ?_
        refine f_go (pc1 := 58) (lv1 := [(5, .int (Int32.ofNat i)), (4, .ref q), (3, .null), (0, .ref ty), (1, .ref u), (2, .ref P)]) (st1 := [.ref q, .ref P, .ref u]) 3 rfl ?_
        refine f_st rfl rfl rfl rfl (g_isToldAbove (by omega) hO9 c_u u_mask c_q q_shape sb_shape mb_shape) ?_
        cases x3 : toldAb S sb mb q (decide (((mk >>> (1 &&& 31)) &&& 1) = 1)) with
        | true =>
          show EF X (d - 1) 83 61 [(5, .int (Int32.ofNat i)), (4, .ref q), (3, .null), (0, .ref ty), (1, .ref u), (2, .ref P)] [.int 1] σ _ _
          refine f_go (pc1 := 66) (lv1 := [(5, .int (Int32.ofNat i)), (4, .ref q), (3, .null), (0, .ref ty), (1, .ref u), (2, .ref P)]) (st1 := [.ref q]) 2 rfl ?_
          rw [show (q :: r).find? (fun c => !decide (S c = S P) && toldAb S sb mb c (decide (((mk >>> (1 &&& 31)) &&& 1) = 1))) = some q by simp [x2, x3]]
          exact f_rt rfl rfl
        | false =>
          show EF X (d - 1) 83 61 [(5, .int (Int32.ofNat i)), (4, .ref q), (3, .null), (0, .ref ty), (1, .ref u), (2, .ref P)] [.int 0] σ _ _
          refine f_go (pc1 := 69) (lv1 := [(5, .int (Int32.ofNat i)), (4, .ref q), (3, .null), (0, .ref ty), (1, .ref u), (2, .ref P)]) (st1 := [.ref q]) 2 rfl ?_
          refine f_getf rfl rfl (g := 140) rfl c_q q_up ?_
          refine f_ast rfl (f q) rfl ?_
          refine f_inc [(4, va_rf (f q)), (3, .null), (0, .ref ty), (1, .ref u), (2, .ref P)] rfl rfl rfl (fj_v rfl rfl (fj_c rfl rfl rfl (fj_c rfl rfl rfl (fj_c rfl rfl rfl (fj_c rfl rfl rfl fj_0))))) ?_
          refine f_go (pc1 := 28) (lv1 := [(5, .int ((Int32.ofNat i) + 1)), (4, va_rf (f q)), (3, .null), (0, .ref ty), (1, .ref u), (2, .ref P)]) (st1 := []) 1 rfl ?_
          rw [nat_s i]
          rw [show (q :: r).find? (fun c => !decide (S c = S P) && toldAb S sb mb c (decide (((mk >>> (1 &&& 31)) &&& 1) = 1))) = r.find? (fun c => !decide (S c = S P) && toldAb S sb mb c (decide (((mk >>> (1 &&& 31)) &&& 1) = 1))) by simp [x3]]
          refine f_lv [(5, .int (Int32.ofNat (i + 1))), (4, va_rf (f q)), (3, .null), (0, .ref ty), (1, .ref u), (2, .ref P)] (fl_c rfl (fl_c rfl (fl_c rfl (fl_c rfl (fl_c rfl (fl_c rfl fl_0)))))) ?_
          exact ih
  have h := key l (f P) 0 hl hf (by omega)
  exact f_lv _ (fl_c rfl (fl_c rfl (fl_c rfl (fl_c rfl (fl_c rfl (fl_c rfl fl_0)))))) h
