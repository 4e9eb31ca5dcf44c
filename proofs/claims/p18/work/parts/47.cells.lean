/-! CELLS -/
def sS (σ : fl_S) (g : Nat) (φ : Nat → Value) : fl_S := (σ.1, FS σ.2.1 g φ, σ.2.2)
theorem sS_same {g : Nat} {σ : fl_S} : sS σ g (fun b => sF σ b g) = σ := Prod.ext rfl (Prod.ext FS_same rfl)
theorem sU_sS {σ : fl_S} {g a : Nat} {φ : Nat → Value} {v : Value} : sU (sS σ g φ) a g v = sS σ g (fun b => bif Nat.beq b a then v else φ b) := Prod.ext rfl (Prod.ext FU_FS rfl)
theorem sU_same {σ : fl_S} {a g : Nat} {v : Value} (h : sF σ a g = v) : sU σ a g v = σ := by
  refine Prod.ext rfl (Prod.ext ?_ rfl)
  funext b k
  show FU σ.2.1 a g v b k = _
  unfold FU
  by_cases e : k = g
  · by_cases e2 : b = a
    · subst e e2; rw [nb_self, nb_self]; exact h.symm
    · rw [nb_ne e2]; cases Nat.beq k g <;> rfl
  · rw [nb_ne e]; rfl
theorem sS_at {σ : fl_S} {g a : Nat} {φ : Nat → Value} {v : Value} (h : φ a = v) : sF (sS σ g φ) a g = v := by
  show (bif Nat.beq g g then φ a else _) = v
  rw [nb_self]; exact h
theorem g_cells_1 {X : ev_X} {d : Nat} {σ : fl_S} (hd : 1 ≤ d) {a : Nat} {k : Int32} (c_a : sC σ 4 a = true) (a_kind : sF σ a 128 = .int k) (k3 : ¬ k = 3) (k4 : ¬ k = 4) : CF X d 97 [.ref a] σ (some (.int 1)) σ := by
  refine f_meth (by omega) rfl ?_
  refine f_go (pc1 := 1) (lv1 := [(0, .ref a)]) (st1 := [.ref a]) 1 rfl ?_
  refine f_getf rfl rfl (g := 128) rfl c_a a_kind ?_
  refine f_go (pc1 := 5) (lv1 := [(0, .ref a)]) (st1 := [.int 3, .int k]) 1 rfl ?_
  refine f_icmp (t := 64) rfl rfl true (ic_ne k3) ?_
  refine f_go (pc1 := 65) (lv1 := [(0, .ref a)]) (st1 := [.ref a]) 1 rfl ?_
  refine f_getf rfl rfl (g := 128) rfl c_a a_kind ?_
  refine f_go (pc1 := 69) (lv1 := [(0, .ref a)]) (st1 := [.int 4, .int k]) 1 rfl ?_
  refine f_icmp (t := 74) rfl rfl false (ic_eqn k4) ?_
  refine f_go (pc1 := 73) (lv1 := [(0, .ref a)]) (st1 := [.int 1]) 1 rfl ?_
  exact f_rt rfl rfl
theorem g_cells_no {X : ev_X} {d : Nat} {σ : fl_S} (hd : 1 ≤ d) {a e p : Nat} {hi : Int32} (c_a : sC σ 4 a = true) (a_kind : sF σ a 128 = .int 3) (a_elem : sF σ a 134 = .ref e) (a_lo : sF σ a 132 = .int 0) (a_hi : sF σ a 133 = .int hi) (c_e : sC σ 4 e = true) (e_real : sF σ e 139 = .ref p) (c_p : sC σ 4 p = true) (p_cells : sF σ p 143 = .int (-1)) (hh : ev_ic .gt 0 hi = false) : CF X d 97 [.ref a] σ (some (.int (-1))) σ := by
  refine f_meth (by omega) rfl ?_
  refine f_go (pc1 := 1) (lv1 := [(0, .ref a)]) (st1 := [.ref a]) 1 rfl ?_
  refine f_getf rfl rfl (g := 128) rfl c_a a_kind ?_
  refine f_go (pc1 := 9) (lv1 := [(0, .ref a)]) (st1 := [.ref a]) 3 rfl ?_
  refine f_getf rfl rfl (g := 134) rfl c_a a_elem ?_
  refine f_getf rfl rfl (g := 139) rfl c_e e_real ?_
  refine f_go (pc1 := 17) (lv1 := [(1, .ref p), (0, .ref a)]) (st1 := [.ref a]) 2 rfl ?_
  refine f_getf rfl rfl (g := 132) rfl c_a a_lo ?_
  refine f_go (pc1 := 21) (lv1 := [(1, .ref p), (0, .ref a)]) (st1 := [.ref a, .int 0]) 1 rfl ?_
  refine f_getf rfl rfl (g := 133) rfl c_a a_hi ?_
  refine f_icmp (t := 35) rfl rfl false hh ?_
  refine f_go (pc1 := 28) (lv1 := [(1, .ref p), (0, .ref a)]) (st1 := [.ref p]) 1 rfl ?_
  refine f_getf rfl rfl (g := 143) rfl c_p p_cells ?_
  refine f_go (pc1 := 36) (lv1 := [(1, .ref p), (0, .ref a)]) (st1 := [.int (-1)]) 3 rfl ?_
  exact f_rt rfl rfl
theorem g_cells_2 {X : ev_X} {d : Nat} {σ : fl_S} (hd : 1 ≤ d) {a e p : Nat} (c_a : sC σ 4 a = true) (a_kind : sF σ a 128 = .int 3) (a_elem : sF σ a 134 = .ref e) (a_lo : sF σ a 132 = .int 0) (a_hi : sF σ a 133 = .int 1) (c_e : sC σ 4 e = true) (e_real : sF σ e 139 = .ref p) (c_p : sC σ 4 p = true) (p_cells : sF σ p 143 = .int 1) : CF X d 97 [.ref a] σ (some (.int 2)) σ := by
  refine f_meth hd rfl ?_
  refine f_go (pc1 := 1) (lv1 := [(0, .ref a)]) (st1 := [.ref a]) 1 rfl ?_
  refine f_getf rfl rfl (g := 128) rfl c_a a_kind ?_
  refine f_go (pc1 := 9) (lv1 := [(0, .ref a)]) (st1 := [.ref a]) 3 rfl ?_
  refine f_getf rfl rfl (g := 134) rfl c_a a_elem ?_
  refine f_getf rfl rfl (g := 139) rfl c_e e_real ?_
  refine f_go (pc1 := 17) (lv1 := [(1, .ref p), (0, .ref a)]) (st1 := [.ref a]) 2 rfl ?_
  refine f_getf rfl rfl (g := 132) rfl c_a a_lo ?_
  refine f_go (pc1 := 21) (lv1 := [(1, .ref p), (0, .ref a)]) (st1 := [.ref a, .int 0]) 1 rfl ?_
  refine f_getf rfl rfl (g := 133) rfl c_a a_hi ?_
  refine f_go (pc1 := 28) (lv1 := [(1, .ref p), (0, .ref a)]) (st1 := [.ref p]) 2 rfl ?_
  refine f_getf rfl rfl (g := 143) rfl c_p p_cells ?_
  refine f_go (pc1 := 37) (lv1 := [(1, .ref p), (0, .ref a)]) (st1 := []) 2 rfl ?_
  refine f_ldc2 rfl ?_
  refine f_go (pc1 := 41) (lv1 := [(1, .ref p), (0, .ref a)]) (st1 := [.ref a, .long (Int64.ofInt 1000000000)]) 1 rfl ?_
  refine f_getf rfl rfl (g := 133) rfl c_a a_hi ?_
  refine f_go (pc1 := 45) (lv1 := [(1, .ref p), (0, .ref a)]) (st1 := [.long (Int32.toInt64 1), .long (Int64.ofInt 1000000000)]) 1 rfl ?_
  refine f_go (pc1 := 46) (lv1 := [(1, .ref p), (0, .ref a)]) (st1 := [.ref a, .long (Int32.toInt64 1), .long (Int64.ofInt 1000000000)]) 1 rfl ?_
  refine f_getf rfl rfl (g := 132) rfl c_a a_lo ?_
  refine f_go (pc1 := 50) (lv1 := [(1, .ref p), (0, .ref a)]) (st1 := [.long (Int32.toInt64 0), .long (Int32.toInt64 1), .long (Int64.ofInt 1000000000)]) 1 rfl ?_
  refine f_go (pc1 := 51) (lv1 := [(1, .ref p), (0, .ref a)]) (st1 := [.long ((Int32.toInt64 1) - (Int32.toInt64 0)), .long (Int64.ofInt 1000000000)]) 1 rfl ?_
  refine f_go (pc1 := 52) (lv1 := [(1, .ref p), (0, .ref a)]) (st1 := [.long 1, .long ((Int32.toInt64 1) - (Int32.toInt64 0)), .long (Int64.ofInt 1000000000)]) 1 rfl ?_
  refine f_go (pc1 := 53) (lv1 := [(1, .ref p), (0, .ref a)]) (st1 := [.long (((Int32.toInt64 1) - (Int32.toInt64 0)) + 1), .long (Int64.ofInt 1000000000)]) 1 rfl ?_
  refine f_go (pc1 := 54) (lv1 := [(1, .ref p), (0, .ref a)]) (st1 := [.ref p, .long (((Int32.toInt64 1) - (Int32.toInt64 0)) + 1), .long (Int64.ofInt 1000000000)]) 1 rfl ?_
  refine f_getf rfl rfl (g := 143) rfl c_p p_cells ?_
  refine f_go (pc1 := 58) (lv1 := [(1, .ref p), (0, .ref a)]) (st1 := [.long (Int32.toInt64 1), .long (((Int32.toInt64 1) - (Int32.toInt64 0)) + 1), .long (Int64.ofInt 1000000000)]) 1 rfl ?_
  refine f_go (pc1 := 59) (lv1 := [(1, .ref p), (0, .ref a)]) (st1 := [.long ((((Int32.toInt64 1) - (Int32.toInt64 0)) + 1) * (Int32.toInt64 1)), .long (Int64.ofInt 1000000000)]) 1 rfl ?_
  refine f_xm (st1 := [.long 2]) rfl rfl ?_
  refine f_go (pc1 := 63) (lv1 := [(1, .ref p), (0, .ref a)]) (st1 := [.int 2]) 1 rfl ?_
  exact f_rt rfl rfl
theorem g_cells_3 {X : ev_X} {d : Nat} {σ : fl_S} (hd : 1 ≤ d) {a e p : Nat} (c_a : sC σ 4 a = true) (a_kind : sF σ a 128 = .int 3) (a_elem : sF σ a 134 = .ref e) (a_lo : sF σ a 132 = .int 0) (a_hi : sF σ a 133 = .int 2) (c_e : sC σ 4 e = true) (e_real : sF σ e 139 = .ref p) (c_p : sC σ 4 p = true) (p_cells : sF σ p 143 = .int 1) : CF X d 97 [.ref a] σ (some (.int 3)) σ := by
  refine f_meth hd rfl ?_
  refine f_go (pc1 := 1) (lv1 := [(0, .ref a)]) (st1 := [.ref a]) 1 rfl ?_
  refine f_getf rfl rfl (g := 128) rfl c_a a_kind ?_
  refine f_go (pc1 := 9) (lv1 := [(0, .ref a)]) (st1 := [.ref a]) 3 rfl ?_
  refine f_getf rfl rfl (g := 134) rfl c_a a_elem ?_
  refine f_getf rfl rfl (g := 139) rfl c_e e_real ?_
  refine f_go (pc1 := 17) (lv1 := [(1, .ref p), (0, .ref a)]) (st1 := [.ref a]) 2 rfl ?_
  refine f_getf rfl rfl (g := 132) rfl c_a a_lo ?_
  refine f_go (pc1 := 21) (lv1 := [(1, .ref p), (0, .ref a)]) (st1 := [.ref a, .int 0]) 1 rfl ?_
  refine f_getf rfl rfl (g := 133) rfl c_a a_hi ?_
  refine f_go (pc1 := 28) (lv1 := [(1, .ref p), (0, .ref a)]) (st1 := [.ref p]) 2 rfl ?_
  refine f_getf rfl rfl (g := 143) rfl c_p p_cells ?_
  refine f_go (pc1 := 37) (lv1 := [(1, .ref p), (0, .ref a)]) (st1 := []) 2 rfl ?_
  refine f_ldc2 rfl ?_
  refine f_go (pc1 := 41) (lv1 := [(1, .ref p), (0, .ref a)]) (st1 := [.ref a, .long (Int64.ofInt 1000000000)]) 1 rfl ?_
  refine f_getf rfl rfl (g := 133) rfl c_a a_hi ?_
  refine f_go (pc1 := 45) (lv1 := [(1, .ref p), (0, .ref a)]) (st1 := [.long (Int32.toInt64 2), .long (Int64.ofInt 1000000000)]) 1 rfl ?_
  refine f_go (pc1 := 46) (lv1 := [(1, .ref p), (0, .ref a)]) (st1 := [.ref a, .long (Int32.toInt64 2), .long (Int64.ofInt 1000000000)]) 1 rfl ?_
  refine f_getf rfl rfl (g := 132) rfl c_a a_lo ?_
  refine f_go (pc1 := 50) (lv1 := [(1, .ref p), (0, .ref a)]) (st1 := [.long (Int32.toInt64 0), .long (Int32.toInt64 2), .long (Int64.ofInt 1000000000)]) 1 rfl ?_
  refine f_go (pc1 := 51) (lv1 := [(1, .ref p), (0, .ref a)]) (st1 := [.long ((Int32.toInt64 2) - (Int32.toInt64 0)), .long (Int64.ofInt 1000000000)]) 1 rfl ?_
  refine f_go (pc1 := 52) (lv1 := [(1, .ref p), (0, .ref a)]) (st1 := [.long 1, .long ((Int32.toInt64 2) - (Int32.toInt64 0)), .long (Int64.ofInt 1000000000)]) 1 rfl ?_
  refine f_go (pc1 := 53) (lv1 := [(1, .ref p), (0, .ref a)]) (st1 := [.long (((Int32.toInt64 2) - (Int32.toInt64 0)) + 1), .long (Int64.ofInt 1000000000)]) 1 rfl ?_
  refine f_go (pc1 := 54) (lv1 := [(1, .ref p), (0, .ref a)]) (st1 := [.ref p, .long (((Int32.toInt64 2) - (Int32.toInt64 0)) + 1), .long (Int64.ofInt 1000000000)]) 1 rfl ?_
  refine f_getf rfl rfl (g := 143) rfl c_p p_cells ?_
  refine f_go (pc1 := 58) (lv1 := [(1, .ref p), (0, .ref a)]) (st1 := [.long (Int32.toInt64 1), .long (((Int32.toInt64 2) - (Int32.toInt64 0)) + 1), .long (Int64.ofInt 1000000000)]) 1 rfl ?_
  refine f_go (pc1 := 59) (lv1 := [(1, .ref p), (0, .ref a)]) (st1 := [.long ((((Int32.toInt64 2) - (Int32.toInt64 0)) + 1) * (Int32.toInt64 1)), .long (Int64.ofInt 1000000000)]) 1 rfl ?_
  refine f_xm (st1 := [.long 3]) rfl rfl ?_
  refine f_go (pc1 := 63) (lv1 := [(1, .ref p), (0, .ref a)]) (st1 := [.int 3]) 1 rfl ?_
  exact f_rt rfl rfl
theorem g_firsts_no {X : ev_X} {d : Nat} {σ : fl_S} (hd : 1 ≤ d) {a : Nat} (c_a : sC σ 4 a = true) (a_cells : sF σ a 143 = .int (-1)) : CF X d 98 [.ref a] σ (some .null) σ := by
  refine f_meth (by omega) rfl ?_
  refine f_go (pc1 := 1) (lv1 := [(0, .ref a)]) (st1 := [.ref a]) 1 rfl ?_
  refine f_getf rfl rfl (g := 143) rfl c_a a_cells ?_
  refine f_go (pc1 := 19) (lv1 := [(0, .ref a)]) (st1 := [.null]) 3 rfl ?_
  exact f_rt rfl rfl
theorem g_firsts_1 {X : ev_X} {d : Nat} {σ : fl_S} (hd : 1 ≤ d) {a : Nat} {k : Int32} (c_a : sC σ 4 a = true) (a_cells : sF σ a 143 = .int 1) (a_kind : sF σ a 128 = .int k) (k2 : ¬ k = 2) (k3 : ¬ k = 3) (k4 : ¬ k = 4) : CF X d 98 [.ref a] σ (some .null) σ := by
  refine f_meth (by omega) rfl ?_
  refine f_go (pc1 := 1) (lv1 := [(0, .ref a)]) (st1 := [.ref a]) 1 rfl ?_
  refine f_getf rfl rfl (g := 143) rfl c_a a_cells ?_
  refine f_go (pc1 := 9) (lv1 := [(0, .ref a)]) (st1 := [.ref a]) 3 rfl ?_
  refine f_getf rfl rfl (g := 143) rfl c_a a_cells ?_
  refine f_go (pc1 := 23) (lv1 := [(1, .null), (0, .ref a)]) (st1 := [.ref a]) 5 rfl ?_
  refine f_getf rfl rfl (g := 128) rfl c_a a_kind ?_
  refine f_go (pc1 := 27) (lv1 := [(1, .null), (0, .ref a)]) (st1 := [.int 2, .int k]) 1 rfl ?_
  refine f_icmp (t := 72) rfl rfl true (ic_ne k2) ?_
  refine f_go (pc1 := 73) (lv1 := [(1, .null), (0, .ref a)]) (st1 := [.ref a]) 1 rfl ?_
  refine f_getf rfl rfl (g := 128) rfl c_a a_kind ?_
  refine f_go (pc1 := 77) (lv1 := [(1, .null), (0, .ref a)]) (st1 := [.int 3, .int k]) 1 rfl ?_
  refine f_icmp (t := 149) rfl rfl true (ic_ne k3) ?_
  refine f_go (pc1 := 150) (lv1 := [(1, .null), (0, .ref a)]) (st1 := [.ref a]) 1 rfl ?_
  refine f_getf rfl rfl (g := 128) rfl c_a a_kind ?_
  refine f_go (pc1 := 154) (lv1 := [(1, .null), (0, .ref a)]) (st1 := [.int 4, .int k]) 1 rfl ?_
  refine f_icmp (t := 230) rfl rfl true (ic_ne k4) ?_
  refine f_go (pc1 := 231) (lv1 := [(1, .null), (0, .ref a)]) (st1 := [.null]) 1 rfl ?_
  exact f_rt rfl rfl
theorem g_firsts_2 {X : ev_X} {d : Nat} {σ : fl_S} (hd : 1 ≤ d) {a e p : Nat} (c_a : sC σ 4 a = true) (a_cells : sF σ a 143 = .int 2) (a_kind : sF σ a 128 = .int 3) (a_elem : sF σ a 134 = .ref e) (c_e : sC σ 4 e = true) (e_real : sF σ e 139 = .ref p) (c_p : sC σ 4 p = true) (p_firsts : sF σ p 144 = .null) : CF X d 98 [.ref a] σ (some .null) σ := by
  refine f_meth (by omega) rfl ?_
  refine f_go (pc1 := 1) (lv1 := [(0, .ref a)]) (st1 := [.ref a]) 1 rfl ?_
  refine f_getf rfl rfl (g := 143) rfl c_a a_cells ?_
  refine f_go (pc1 := 9) (lv1 := [(0, .ref a)]) (st1 := [.ref a]) 3 rfl ?_
  refine f_getf rfl rfl (g := 143) rfl c_a a_cells ?_
  refine f_go (pc1 := 23) (lv1 := [(1, .null), (0, .ref a)]) (st1 := [.ref a]) 5 rfl ?_
  refine f_getf rfl rfl (g := 128) rfl c_a a_kind ?_
  refine f_go (pc1 := 73) (lv1 := [(1, .null), (0, .ref a)]) (st1 := [.ref a]) 3 rfl ?_
  refine f_getf rfl rfl (g := 128) rfl c_a a_kind ?_
  refine f_go (pc1 := 81) (lv1 := [(1, .null), (0, .ref a)]) (st1 := [.ref a]) 3 rfl ?_
  refine f_getf rfl rfl (g := 134) rfl c_a a_elem ?_
  refine f_getf rfl rfl (g := 139) rfl c_e e_real ?_
  refine f_getf rfl rfl (g := 144) rfl c_p p_firsts ?_
  refine f_go (pc1 := 150) (lv1 := [(1, .null), (0, .ref a)]) (st1 := [.ref a]) 2 rfl ?_
  refine f_getf rfl rfl (g := 128) rfl c_a a_kind ?_
  refine f_go (pc1 := 231) (lv1 := [(1, .null), (0, .ref a)]) (st1 := [.null]) 3 rfl ?_
  exact f_rt rfl rfl
theorem g_firsts_3 {X : ev_X} {d : Nat} {σ : fl_S} (hd : 1 ≤ d) {a e p : Nat} (c_a : sC σ 4 a = true) (a_cells : sF σ a 143 = .int 3) (a_kind : sF σ a 128 = .int 3) (a_elem : sF σ a 134 = .ref e) (c_e : sC σ 4 e = true) (e_real : sF σ e 139 = .ref p) (c_p : sC σ 4 p = true) (p_firsts : sF σ p 144 = .null) : CF X d 98 [.ref a] σ (some .null) σ := by
  refine f_meth (by omega) rfl ?_
  refine f_go (pc1 := 1) (lv1 := [(0, .ref a)]) (st1 := [.ref a]) 1 rfl ?_
  refine f_getf rfl rfl (g := 143) rfl c_a a_cells ?_
  refine f_go (pc1 := 9) (lv1 := [(0, .ref a)]) (st1 := [.ref a]) 3 rfl ?_
  refine f_getf rfl rfl (g := 143) rfl c_a a_cells ?_
  refine f_go (pc1 := 23) (lv1 := [(1, .null), (0, .ref a)]) (st1 := [.ref a]) 5 rfl ?_
  refine f_getf rfl rfl (g := 128) rfl c_a a_kind ?_
  refine f_go (pc1 := 73) (lv1 := [(1, .null), (0, .ref a)]) (st1 := [.ref a]) 3 rfl ?_
  refine f_getf rfl rfl (g := 128) rfl c_a a_kind ?_
  refine f_go (pc1 := 81) (lv1 := [(1, .null), (0, .ref a)]) (st1 := [.ref a]) 3 rfl ?_
  refine f_getf rfl rfl (g := 134) rfl c_a a_elem ?_
  refine f_getf rfl rfl (g := 139) rfl c_e e_real ?_
  refine f_getf rfl rfl (g := 144) rfl c_p p_firsts ?_
  refine f_go (pc1 := 150) (lv1 := [(1, .null), (0, .ref a)]) (st1 := [.ref a]) 2 rfl ?_
  refine f_getf rfl rfl (g := 128) rfl c_a a_kind ?_
  refine f_go (pc1 := 231) (lv1 := [(1, .null), (0, .ref a)]) (st1 := [.null]) 3 rfl ?_
  exact f_rt rfl rfl
/-- CELLS on the way: not yet found, 1, of an ARRAY 2 or 3 -/
def CI (ns : List Nat) (kd : Nat → Int32) (φ : Nat → Value) : Prop := ∀ n ∈ ns, φ n = .int (-1) ∨ (kd n ≠ 3 ∧ φ n = .int 1) ∨ (kd n = 3 ∧ (φ n = .int 2 ∨ φ n = .int 3))
/-- of the types looked at already that are no ARRAYs they are found -/
def CD (kd : Nat → Int32) (rl : Nat → Nat) (done : List Nat) (φ : Nat → Value) : Prop := ∀ n ∈ done, rl n = n → kd n ≠ 13 → kd n ≠ 3 → φ n = .int 1
/-- what findCells needs of the types -/
def CW (σ : fl_S) (ns : List Nat) (kd hi : Nat → Int32) (rl : Nat → Nat) (on : Nat → Option Nat) (el pt : Nat → Nat) : Prop :=
  Ll (fun a => sF σ a 146) (va_rf ns.head?) ns ∧ ns.Nodup ∧ (∀ a ∈ ns, SA σ kd rl on a) ∧ (∀ a ∈ ns, kd a ≠ 2 ∧ kd a ≠ 4) ∧ (∀ a ∈ ns, sF σ a 144 = .null) ∧
  (∀ a ∈ ns, kd a = 3 → rl a = a ∧ sF σ a 132 = .int 0 ∧ sF σ a 133 = .int (hi a) ∧ (hi a = 1 ∨ hi a = 2) ∧ sF σ a 134 = .ref (el a) ∧ sC σ 4 (el a) = true ∧ sF σ (el a) 139 = .ref (pt a) ∧ pt a ∈ ns ∧ kd (pt a) = 5)
section CELLS
variable {X : ev_X} {d : Nat} {σ : fl_S} {Q : Option Value → fl_S → Prop} {ty : Nat} {ns : List Nat} {kd hi : Nat → Int32} {rl : Nat → Nat} {on : Nat → Option Nat} {el pt : Nat → Nat}
theorem CI.put {φ : Nat → Value} (h : CI ns kd φ) {n : Nat} {v : Value} (hv : v = .int (-1) ∨ (kd n ≠ 3 ∧ v = .int 1) ∨ (kd n = 3 ∧ (v = .int 2 ∨ v = .int 3))) : CI ns kd (fun b => bif Nat.beq b n then v else φ b) := fun x hx => by
  by_cases e : x = n
  · subst e; simp only [nb_self, cond_true]; exact hv
  · simp only [nb_ne e, cond_false]; exact h x hx
theorem CD.put {φ : Nat → Value} {done : List Nat} (h : CD kd rl done φ) {n : Nat} {v : Value} (hv : rl n = n → kd n ≠ 13 → kd n ≠ 3 → v = .int 1) : CD kd rl (done ++ [n]) (fun b => bif Nat.beq b n then v else φ b) := fun x hx h1 h2 h3 => by
  by_cases e : x = n
  · subst e; simp only [nb_self, cond_true]; exact hv h1 h2 h3
  · simp only [nb_ne e, cond_false]
    rcases List.mem_append.mp hx with g | g
    · exact h x g h1 h2 h3
    · exact absurd (List.mem_singleton.mp g) e
theorem CD.skip {φ : Nat → Value} {done : List Nat} (h : CD kd rl done φ) {n : Nat} (hv : rl n = n → kd n ≠ 13 → kd n ≠ 3 → φ n = .int 1) : CD kd rl (done ++ [n]) φ := fun x hx h1 h2 h3 => by
  rcases List.mem_append.mp hx with g | g
  · exact h x g h1 h2 h3
  · rw [List.mem_singleton.mp g] at h1 h2 h3 ⊢; exact hv h1 h2 h3
theorem g_fc (hd : 2 ≤ d) (hW : CW σ ns kd hi rl on el pt) (hq : ∀ m φ, (m = 0 ∨ m = 1) → CI ns kd φ → CD kd rl ns φ → Q (some (.int m)) (sS σ 143 φ)) :
    ∀ (l done : List Nat) (m : Int32) (φ : Nat → Value), ns = done ++ l → (m = 0 ∨ m = 1) → CI ns kd φ → CD kd rl done φ → EQ X (d - 1) 96 7 [(2, va_rf l.head?), (1, .int m), (0, .ref ty)] [] (sS σ 143 φ) Q := by
  obtain ⟨hll, hnd, hA, hK, hF, hAr⟩ := hW
  intro l
  induction l with
  | nil =>
    intro done m φ hns hm hI hD
    rw [List.append_nil] at hns
    subst hns
    show EQ X (d - 1) 96 7 [(2, .null), (1, .int m), (0, .ref ty)] [] _ Q
    refine f_go (pc1 := 77) (lv1 := [(2, .null), (1, .int m), (0, .ref ty)]) (st1 := [.int m]) 3 rfl ?_
    rcases hm with rfl | rfl
    · exact f_rtQ rfl rfl (hq _ φ (Or.inl rfl) hI hD)
    · exact f_rtQ rfl rfl (hq _ φ (Or.inr rfl) hI hD)
  | cons n r ih =>
    intro done m φ hns hm hI hD
    have hn : n ∈ ns := by rw [hns]; exact List.mem_append_right _ List.mem_cons_self
    have hns2 : ns = (done ++ [n]) ++ r := by rw [hns]; simp
    have n_next : sF σ n 146 = va_rf r.head? := by
      rw [hns] at hll
      obtain ⟨w, h1, -⟩ := Ll.app hll
      exact h1.2.hd
    obtain ⟨A1, A2, A3, A4⟩ := hA n hn
    have hIn := hI n hn
    show EQ X (d - 1) 96 7 [(2, .ref n), (1, .int m), (0, .ref ty)] [] _ Q
    rcases hIn with hc | ⟨hk3, hc⟩ | ⟨hk3, hc | hc⟩
    ·
      refine f_go (pc1 := 12) (lv1 := [(2, .ref n), (1, .int m), (0, .ref ty)]) (st1 := [.ref n]) 3 rfl ?_
      refine f_getf rfl rfl (g := 143) rfl A1 (sS_at hc) ?_
      refine f_go (pc1 := 20) (lv1 := [(2, .ref n), (1, .int m), (0, .ref ty)]) (st1 := [.ref n]) 3 rfl ?_
      refine f_getf rfl rfl (g := 139) rfl A1 A3 ?_
      refine f_go (pc1 := 24) (lv1 := [(2, .ref n), (1, .int m), (0, .ref ty)]) (st1 := [.ref n, .ref (rl n)]) 1 rfl ?_
      by_cases x1 : rl n = n
      ·
        refine f_acmp (t := 68) rfl rfl false (by simp [x1]) ?_
        refine f_go (pc1 := 28) (lv1 := [(2, .ref n), (1, .int m), (0, .ref ty)]) (st1 := [.ref n]) 1 rfl ?_
        refine f_getf rfl rfl (g := 128) rfl A1 A2 ?_
        refine f_go (pc1 := 33) (lv1 := [(2, .ref n), (1, .int m), (0, .ref ty)]) (st1 := [.int 13, .int (kd n)]) 1 rfl ?_
        by_cases x2 : kd n = 13
        ·
          refine f_icmp (t := 68) rfl rfl true (ic_eq x2) ?_
          refine f_go (pc1 := 69) (lv1 := [(2, .ref n), (1, .int m), (0, .ref ty)]) (st1 := [.ref n]) 1 rfl ?_
          refine f_getf rfl rfl (g := 146) rfl A1 n_next ?_
          refine f_astn rfl r.head? rfl ?_
          refine f_go (pc1 := 7) (lv1 := [(2, va_rf r.head?), (1, .int m), (0, .ref ty)]) (st1 := []) 1 rfl ?_
          refine f_lv [(2, va_rf r.head?), (1, .int m), (0, .ref ty)] (fl_c rfl (fl_c rfl (fl_c rfl fl_0))) ?_
          exact ih _ m φ hns2 hm hI (hD.skip (fun _ h _ => absurd x2 h))
        ·
          refine f_icmp (t := 68) rfl rfl false (ic_eqn x2) ?_
          refine f_go (pc1 := 38) (lv1 := [(2, .ref n), (1, .int m), (0, .ref ty)]) (st1 := [.ref n, .ref n]) 2 rfl ?_
          by_cases x3 : kd n = 3
          ·
            obtain ⟨q1, q2, q3, q4, q5, q6, q7, q8, q9⟩ := hAr n hn x3
            obtain ⟨B1, B2, B3, B4⟩ := hA _ q8
            have A2x : sF (sS σ 143 φ) n 128 = .int 3 := by rw [← x3]; exact A2
            rcases hI _ q8 with hp | ⟨-, hp⟩ | ⟨hp, -⟩
            ·
              refine f_st rfl rfl rfl rfl (g_cells_no (by omega) A1 A2x q5 q2 q3 q6 q7 B1 (sS_at hp) (by rcases q4 with h | h <;> rw [h] <;> rfl)) ?_
              refine f_putf rfl rfl (g := 143) rfl A1 rfl ?_
              have hu1 : sF (sU (sS σ 143 φ) n 143 (.int (-1))) n 143 = .int (-1) := sU_at
              rw [sU_sS]
              have hc2 : sF (sS σ 143 (fun b => bif Nat.beq b n then Value.int (-1) else φ b)) n 143 = .int (-1) := sS_at (by simp only [nb_self, cond_true])
              refine f_go (pc1 := 46) (lv1 := [(2, .ref n), (1, .int m), (0, .ref ty)]) (st1 := [.ref n, .ref n]) 2 rfl ?_
              refine f_st rfl rfl rfl rfl (g_firsts_no (by omega) A1 hc2) ?_
              refine f_putf rfl rfl (g := 144) rfl A1 rfl ?_
              rw [sU_same (σ := sS σ 143 (fun b => bif Nat.beq b n then Value.int (-1) else φ b)) (g := 144) (hF n hn)]
              refine f_go (pc1 := 54) (lv1 := [(2, .ref n), (1, .int m), (0, .ref ty)]) (st1 := [.ref n, .int m]) 2 rfl ?_
              refine f_getf rfl rfl (g := 143) rfl A1 hc2 ?_
              refine f_go (pc1 := 67) (lv1 := [(2, .ref n), (1, .int m), (0, .ref ty)]) (st1 := [.int (m ||| 0)]) 4 rfl ?_
              rw [show (m ||| 0 : Int32) = m from (by rcases hm with rfl | rfl <;> rfl)]
              refine f_go (pc1 := 69) (lv1 := [(1, .int m), (2, .ref n), (0, .ref ty)]) (st1 := [.ref n]) 2 rfl ?_
              refine f_getf rfl rfl (g := 146) rfl A1 n_next ?_
              refine f_astn rfl r.head? rfl ?_
              refine f_go (pc1 := 7) (lv1 := [(2, va_rf r.head?), (1, .int m), (0, .ref ty)]) (st1 := []) 1 rfl ?_
              refine f_lv [(2, va_rf r.head?), (1, .int m), (0, .ref ty)] (fl_c rfl (fl_c rfl (fl_c rfl fl_0))) ?_
              exact ih _ m _ hns2 hm (hI.put (Or.inl rfl)) (hD.put (fun _ _ h => absurd x3 h))
            ·
              rcases q4 with q4 | q4
              ·
                rw [q4] at q3
                refine f_st rfl rfl rfl rfl (g_cells_2 (by omega) A1 A2x q5 q2 q3 q6 q7 B1 (sS_at hp)) ?_
                refine f_putf rfl rfl (g := 143) rfl A1 rfl ?_
                have hu3 : sF (sU (sS σ 143 φ) n 143 (.int 2)) n 143 = .int 2 := sU_at
                rw [sU_sS]
                have hc2 : sF (sS σ 143 (fun b => bif Nat.beq b n then Value.int 2 else φ b)) n 143 = .int 2 := sS_at (by simp only [nb_self, cond_true])
                refine f_go (pc1 := 46) (lv1 := [(2, .ref n), (1, .int m), (0, .ref ty)]) (st1 := [.ref n, .ref n]) 2 rfl ?_
                refine f_st rfl rfl rfl rfl (g_firsts_2 (by omega) A1 hc2 (by rw [← x3]; exact A2) q5 q6 q7 B1 (hF _ q8)) ?_
                refine f_putf rfl rfl (g := 144) rfl A1 rfl ?_
                rw [sU_same (σ := sS σ 143 (fun b => bif Nat.beq b n then Value.int 2 else φ b)) (g := 144) (hF n hn)]
                refine f_go (pc1 := 54) (lv1 := [(2, .ref n), (1, .int m), (0, .ref ty)]) (st1 := [.ref n, .int m]) 2 rfl ?_
                refine f_getf rfl rfl (g := 143) rfl A1 hc2 ?_
                refine f_go (pc1 := 67) (lv1 := [(2, .ref n), (1, .int m), (0, .ref ty)]) (st1 := [.int (m ||| 1)]) 5 rfl ?_
                rw [show (m ||| 1 : Int32) = 1 from (by rcases hm with rfl | rfl <;> rfl)]
                refine f_go (pc1 := 69) (lv1 := [(1, .int 1), (2, .ref n), (0, .ref ty)]) (st1 := [.ref n]) 2 rfl ?_
                refine f_getf rfl rfl (g := 146) rfl A1 n_next ?_
                refine f_astn rfl r.head? rfl ?_
                refine f_go (pc1 := 7) (lv1 := [(2, va_rf r.head?), (1, .int 1), (0, .ref ty)]) (st1 := []) 1 rfl ?_
                refine f_lv [(2, va_rf r.head?), (1, .int 1), (0, .ref ty)] (fl_c rfl (fl_c rfl (fl_c rfl fl_0))) ?_
                exact ih _ 1 _ hns2 (Or.inr rfl) (hI.put (Or.inr (Or.inr ⟨x3, Or.inl rfl⟩))) (hD.put (fun _ _ h => absurd x3 h))
              ·
                rw [q4] at q3
                refine f_st rfl rfl rfl rfl (g_cells_3 (by omega) A1 A2x q5 q2 q3 q6 q7 B1 (sS_at hp)) ?_
                refine f_putf rfl rfl (g := 143) rfl A1 rfl ?_
                have hu5 : sF (sU (sS σ 143 φ) n 143 (.int 3)) n 143 = .int 3 := sU_at
                rw [sU_sS]
                have hc2 : sF (sS σ 143 (fun b => bif Nat.beq b n then Value.int 3 else φ b)) n 143 = .int 3 := sS_at (by simp only [nb_self, cond_true])
                refine f_go (pc1 := 46) (lv1 := [(2, .ref n), (1, .int m), (0, .ref ty)]) (st1 := [.ref n, .ref n]) 2 rfl ?_
                refine f_st rfl rfl rfl rfl (g_firsts_3 (by omega) A1 hc2 (by rw [← x3]; exact A2) q5 q6 q7 B1 (hF _ q8)) ?_
                refine f_putf rfl rfl (g := 144) rfl A1 rfl ?_
                rw [sU_same (σ := sS σ 143 (fun b => bif Nat.beq b n then Value.int 3 else φ b)) (g := 144) (hF n hn)]
                refine f_go (pc1 := 54) (lv1 := [(2, .ref n), (1, .int m), (0, .ref ty)]) (st1 := [.ref n, .int m]) 2 rfl ?_
                refine f_getf rfl rfl (g := 143) rfl A1 hc2 ?_
                refine f_go (pc1 := 67) (lv1 := [(2, .ref n), (1, .int m), (0, .ref ty)]) (st1 := [.int (m ||| 1)]) 5 rfl ?_
                rw [show (m ||| 1 : Int32) = 1 from (by rcases hm with rfl | rfl <;> rfl)]
                refine f_go (pc1 := 69) (lv1 := [(1, .int 1), (2, .ref n), (0, .ref ty)]) (st1 := [.ref n]) 2 rfl ?_
                refine f_getf rfl rfl (g := 146) rfl A1 n_next ?_
                refine f_astn rfl r.head? rfl ?_
                refine f_go (pc1 := 7) (lv1 := [(2, va_rf r.head?), (1, .int 1), (0, .ref ty)]) (st1 := []) 1 rfl ?_
                refine f_lv [(2, va_rf r.head?), (1, .int 1), (0, .ref ty)] (fl_c rfl (fl_c rfl (fl_c rfl fl_0))) ?_
                exact ih _ 1 _ hns2 (Or.inr rfl) (hI.put (Or.inr (Or.inr ⟨x3, Or.inr rfl⟩))) (hD.put (fun _ _ h => absurd x3 h))
            · rw [q9] at hp; exact absurd hp (by decide)
          ·
            refine f_st rfl rfl rfl rfl (g_cells_1 (by omega) A1 A2 x3 (hK n hn).2) ?_
            refine f_putf rfl rfl (g := 143) rfl A1 rfl ?_
            have hu7 : sF (sU (sS σ 143 φ) n 143 (.int 1)) n 143 = .int 1 := sU_at
            rw [sU_sS]
            have hc2 : sF (sS σ 143 (fun b => bif Nat.beq b n then Value.int 1 else φ b)) n 143 = .int 1 := sS_at (by simp only [nb_self, cond_true])
            refine f_go (pc1 := 46) (lv1 := [(2, .ref n), (1, .int m), (0, .ref ty)]) (st1 := [.ref n, .ref n]) 2 rfl ?_
            refine f_st rfl rfl rfl rfl (g_firsts_1 (by omega) A1 hc2 A2 (hK n hn).1 x3 (hK n hn).2) ?_
            refine f_putf rfl rfl (g := 144) rfl A1 rfl ?_
            rw [sU_same (σ := sS σ 143 (fun b => bif Nat.beq b n then Value.int 1 else φ b)) (g := 144) (hF n hn)]
            refine f_go (pc1 := 54) (lv1 := [(2, .ref n), (1, .int m), (0, .ref ty)]) (st1 := [.ref n, .int m]) 2 rfl ?_
            refine f_getf rfl rfl (g := 143) rfl A1 hc2 ?_
            refine f_go (pc1 := 67) (lv1 := [(2, .ref n), (1, .int m), (0, .ref ty)]) (st1 := [.int (m ||| 1)]) 5 rfl ?_
            rw [show (m ||| 1 : Int32) = 1 from (by rcases hm with rfl | rfl <;> rfl)]
            refine f_go (pc1 := 69) (lv1 := [(1, .int 1), (2, .ref n), (0, .ref ty)]) (st1 := [.ref n]) 2 rfl ?_
            refine f_getf rfl rfl (g := 146) rfl A1 n_next ?_
            refine f_astn rfl r.head? rfl ?_
            refine f_go (pc1 := 7) (lv1 := [(2, va_rf r.head?), (1, .int 1), (0, .ref ty)]) (st1 := []) 1 rfl ?_
            refine f_lv [(2, va_rf r.head?), (1, .int 1), (0, .ref ty)] (fl_c rfl (fl_c rfl (fl_c rfl fl_0))) ?_
            exact ih _ 1 _ hns2 (Or.inr rfl) (hI.put (Or.inr (Or.inl ⟨x3, rfl⟩))) (hD.put (fun _ _ _ => rfl))
      ·
        refine f_acmp (t := 68) rfl rfl true (by simp [x1]) ?_
        refine f_go (pc1 := 69) (lv1 := [(2, .ref n), (1, .int m), (0, .ref ty)]) (st1 := [.ref n]) 1 rfl ?_
        refine f_getf rfl rfl (g := 146) rfl A1 n_next ?_
        refine f_astn rfl r.head? rfl ?_
        refine f_go (pc1 := 7) (lv1 := [(2, va_rf r.head?), (1, .int m), (0, .ref ty)]) (st1 := []) 1 rfl ?_
        refine f_lv [(2, va_rf r.head?), (1, .int m), (0, .ref ty)] (fl_c rfl (fl_c rfl (fl_c rfl fl_0))) ?_
        exact ih _ m φ hns2 hm hI (hD.skip (fun h _ _ => absurd h x1))
    ·
      refine f_go (pc1 := 12) (lv1 := [(2, .ref n), (1, .int m), (0, .ref ty)]) (st1 := [.ref n]) 3 rfl ?_
      refine f_getf rfl rfl (g := 143) rfl A1 (sS_at hc) ?_
      refine f_go (pc1 := 69) (lv1 := [(2, .ref n), (1, .int m), (0, .ref ty)]) (st1 := [.ref n]) 3 rfl ?_
      refine f_getf rfl rfl (g := 146) rfl A1 n_next ?_
      refine f_astn rfl r.head? rfl ?_
      refine f_go (pc1 := 7) (lv1 := [(2, va_rf r.head?), (1, .int m), (0, .ref ty)]) (st1 := []) 1 rfl ?_
      refine f_lv [(2, va_rf r.head?), (1, .int m), (0, .ref ty)] (fl_c rfl (fl_c rfl (fl_c rfl fl_0))) ?_
      exact ih _ m φ hns2 hm hI (hD.skip (fun _ _ _ => hc))
    ·
      refine f_go (pc1 := 12) (lv1 := [(2, .ref n), (1, .int m), (0, .ref ty)]) (st1 := [.ref n]) 3 rfl ?_
      refine f_getf rfl rfl (g := 143) rfl A1 (sS_at hc) ?_
      refine f_go (pc1 := 69) (lv1 := [(2, .ref n), (1, .int m), (0, .ref ty)]) (st1 := [.ref n]) 3 rfl ?_
      refine f_getf rfl rfl (g := 146) rfl A1 n_next ?_
      refine f_astn rfl r.head? rfl ?_
      refine f_go (pc1 := 7) (lv1 := [(2, va_rf r.head?), (1, .int m), (0, .ref ty)]) (st1 := []) 1 rfl ?_
      refine f_lv [(2, va_rf r.head?), (1, .int m), (0, .ref ty)] (fl_c rfl (fl_c rfl (fl_c rfl fl_0))) ?_
      exact ih _ m φ hns2 hm hI (hD.skip (fun _ _ h => absurd hk3 h))
    ·
      refine f_go (pc1 := 12) (lv1 := [(2, .ref n), (1, .int m), (0, .ref ty)]) (st1 := [.ref n]) 3 rfl ?_
      refine f_getf rfl rfl (g := 143) rfl A1 (sS_at hc) ?_
      refine f_go (pc1 := 69) (lv1 := [(2, .ref n), (1, .int m), (0, .ref ty)]) (st1 := [.ref n]) 3 rfl ?_
      refine f_getf rfl rfl (g := 146) rfl A1 n_next ?_
      refine f_astn rfl r.head? rfl ?_
      refine f_go (pc1 := 7) (lv1 := [(2, va_rf r.head?), (1, .int m), (0, .ref ty)]) (st1 := []) 1 rfl ?_
      refine f_lv [(2, va_rf r.head?), (1, .int m), (0, .ref ty)] (fl_c rfl (fl_c rfl (fl_c rfl fl_0))) ?_
      exact ih _ m φ hns2 hm hI (hD.skip (fun _ _ h => absurd hk3 h))
/-- findCells -/
theorem g_findCells (hd : 2 ≤ d) (cty : sC σ 9 ty = true) (ty_nodes : sF σ ty 297 = va_rf ns.head?) (hW : CW σ ns kd hi rl on el pt) {φ : Nat → Value} (hI : CI ns kd φ) : CQ X d 96 [.ref ty] (sS σ 143 φ) (fun v σ1 => ∃ m φ', (m = 0 ∨ m = 1) ∧ v = some (.int m) ∧ σ1 = sS σ 143 φ' ∧ CI ns kd φ' ∧ CD kd rl ns φ') := by
  refine f_meth (by omega) rfl ?_
  refine f_go (pc1 := 3) (lv1 := [(1, .int 0), (0, .ref ty)]) (st1 := [.ref ty]) 3 rfl ?_
  refine f_getf rfl rfl (g := 297) rfl cty ty_nodes ?_
  refine f_astn rfl ns.head? rfl ?_
  refine f_lv [(2, va_rf ns.head?), (1, .int 0), (0, .ref ty)] (fl_c rfl (fl_c rfl (fl_c rfl fl_0))) ?_
  exact g_fc hd hW (fun m φ' h1 h2 h3 => ⟨m, φ', h1, rfl, rfl, h2, h3⟩) ns [] 0 φ rfl (Or.inl rfl) hI (fun n hn => by cases hn)
end CELLS
