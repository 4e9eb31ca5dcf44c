/-! types as units see them -/
/-- the OPAQUE type, its declaration, its REVEALs, what they tell -/
def OW (σ : fl_S) (P dO nb sb dh nh mb dr uh ur RL : Nat) : Prop :=
  sC σ 4 P = true ∧ sF σ P 128 = .int 12 ∧ sF σ P 138 = .ref dO ∧ sC σ 1 dO = true ∧ sF σ dO 47 = .ref dh ∧ sF σ dO 39 = .ref nb ∧ sC σ 4 nb = true ∧ sF σ nb 139 = .ref sb ∧ sC σ 4 sb = true ∧
  sC σ 1 dh = true ∧ sF σ dh 32 = .int 6 ∧ sF σ dh 47 = .ref dr ∧ sF σ dh 36 = .ref uh ∧ sF σ dh 39 = .ref nh ∧ sC σ 4 nh = true ∧ sF σ nh 139 = .ref mb ∧ sC σ 4 mb = true ∧
  sC σ 1 dr = true ∧ sF σ dr 32 = .int 5 ∧ sF σ dr 47 = .null ∧ sF σ dr 36 = .ref ur ∧ sF σ dr 38 = .ref RL ∧ sC σ 1 uh = true ∧ sF σ uh 41 = .int 1 ∧ sC σ 1 ur = true ∧ sF σ ur 41 = .int 3 ∧ sC σ 4 RL = true
theorem g_levelOf_L {X : ev_X} {d : Nat} {σ : fl_S} (hd : 1 ≤ d) {ty u a : Nat} (c_a : sC σ 4 a = true) (a_kind : sF σ a 128 = .int 11) : CF X d 79 [.ref ty, .ref u, .ref a] σ (some (.ref a)) σ := by
  refine f_meth (by omega) rfl ?_
  refine f_go (pc1 := 1) (lv1 := [(0, .ref ty), (1, .ref u), (2, .ref a)]) (st1 := [.ref a]) 1 rfl ?_
  refine f_getf rfl rfl (g := 128) rfl c_a a_kind ?_
  refine f_go (pc1 := 10) (lv1 := [(0, .ref ty), (1, .ref u), (2, .ref a)]) (st1 := [.ref a]) 3 rfl ?_
  exact f_rt rfl rfl
theorem g_levelOf_LN {X : ev_X} {d : Nat} {σ : fl_S} (hd : 1 ≤ d) {ty a : Nat} (c_a : sC σ 4 a = true) (a_kind : sF σ a 128 = .int 11) : CF X d 79 [.ref ty, .null, .ref a] σ (some (.ref a)) σ := by
  refine f_meth (by omega) rfl ?_
  refine f_go (pc1 := 1) (lv1 := [(0, .ref ty), (1, .null), (2, .ref a)]) (st1 := [.ref a]) 1 rfl ?_
  refine f_getf rfl rfl (g := 128) rfl c_a a_kind ?_
  refine f_go (pc1 := 10) (lv1 := [(0, .ref ty), (1, .null), (2, .ref a)]) (st1 := [.ref a]) 3 rfl ?_
  exact f_rt rfl rfl
theorem g_levelOf_n {X : ev_X} {d : Nat} {σ : fl_S} (hd : 1 ≤ d) {ty u a : Nat} {k : Int32} (c_a : sC σ 4 a = true) (a_kind : sF σ a 128 = .int k) (k1 : ¬ k = 11) (k2 : ¬ k = 12) : CF X d 79 [.ref ty, .ref u, .ref a] σ (some .null) σ := by
  refine f_meth (by omega) rfl ?_
  refine f_go (pc1 := 1) (lv1 := [(0, .ref ty), (1, .ref u), (2, .ref a)]) (st1 := [.ref a]) 1 rfl ?_
  refine f_getf rfl rfl (g := 128) rfl c_a a_kind ?_
  refine f_go (pc1 := 6) (lv1 := [(0, .ref ty), (1, .ref u), (2, .ref a)]) (st1 := [.int 11, .int k]) 1 rfl ?_
  refine f_icmp (t := 11) rfl rfl true (ic_ne k1) ?_
  refine f_go (pc1 := 12) (lv1 := [(0, .ref ty), (1, .ref u), (2, .ref a)]) (st1 := [.ref a]) 1 rfl ?_
  refine f_getf rfl rfl (g := 128) rfl c_a a_kind ?_
  refine f_go (pc1 := 17) (lv1 := [(0, .ref ty), (1, .ref u), (2, .ref a)]) (st1 := [.int 12, .int k]) 1 rfl ?_
  refine f_icmp (t := 22) rfl rfl false (ic_eqn k2) ?_
  refine f_go (pc1 := 21) (lv1 := [(0, .ref ty), (1, .ref u), (2, .ref a)]) (st1 := [.null]) 1 rfl ?_
  exact f_rt rfl rfl
theorem g_levelOf_nN {X : ev_X} {d : Nat} {σ : fl_S} (hd : 1 ≤ d) {ty a : Nat} {k : Int32} (c_a : sC σ 4 a = true) (a_kind : sF σ a 128 = .int k) (k1 : ¬ k = 11) (k2 : ¬ k = 12) : CF X d 79 [.ref ty, .null, .ref a] σ (some .null) σ := by
  refine f_meth (by omega) rfl ?_
  refine f_go (pc1 := 1) (lv1 := [(0, .ref ty), (1, .null), (2, .ref a)]) (st1 := [.ref a]) 1 rfl ?_
  refine f_getf rfl rfl (g := 128) rfl c_a a_kind ?_
  refine f_go (pc1 := 6) (lv1 := [(0, .ref ty), (1, .null), (2, .ref a)]) (st1 := [.int 11, .int k]) 1 rfl ?_
  refine f_icmp (t := 11) rfl rfl true (ic_ne k1) ?_
  refine f_go (pc1 := 12) (lv1 := [(0, .ref ty), (1, .null), (2, .ref a)]) (st1 := [.ref a]) 1 rfl ?_
  refine f_getf rfl rfl (g := 128) rfl c_a a_kind ?_
  refine f_go (pc1 := 17) (lv1 := [(0, .ref ty), (1, .null), (2, .ref a)]) (st1 := [.int 12, .int k]) 1 rfl ?_
  refine f_icmp (t := 22) rfl rfl false (ic_eqn k2) ?_
  refine f_go (pc1 := 21) (lv1 := [(0, .ref ty), (1, .null), (2, .ref a)]) (st1 := [.null]) 1 rfl ?_
  exact f_rt rfl rfl
theorem g_levelOf_O0 {X : ev_X} {d : Nat} {σ : fl_S} (hd : 1 ≤ d) {ty : Nat} {P dO nb sb dh nh mb dr uh ur RL : Nat} (hO : OW σ P dO nb sb dh nh mb dr uh ur RL) : CF X d 79 [.ref ty, .null, .ref P] σ (some (.ref RL)) σ := by
  obtain ⟨P1, P2, P3, O1, O2, O3, b1, b2, b3, h1, h2, h3, h4, h5, h6, h7, h8, r1, r2, r3, r4, r5, uh1, uh2, ur1, ur2, RL1⟩ := hO
  refine f_meth (by omega) rfl ?_
  refine f_go (pc1 := 1) (lv1 := [(0, .ref ty), (1, .null), (2, .ref P)]) (st1 := [.ref P]) 1 rfl ?_
  refine f_getf rfl rfl (g := 128) rfl P1 P2 ?_
  refine f_go (pc1 := 12) (lv1 := [(0, .ref ty), (1, .null), (2, .ref P)]) (st1 := [.ref P]) 3 rfl ?_
  refine f_getf rfl rfl (g := 128) rfl P1 P2 ?_
  refine f_go (pc1 := 23) (lv1 := [(0, .ref ty), (1, .null), (2, .ref P)]) (st1 := [.ref P]) 3 rfl ?_
  refine f_getf rfl rfl (g := 138) rfl P1 P3 ?_
  refine f_getf rfl rfl (g := 47) rfl O1 O2 ?_
  refine f_go (pc1 := 35) (lv1 := [(3, .ref dh), (0, .ref ty), (1, .null), (2, .ref P)]) (st1 := [.ref dh]) 4 rfl ?_
  refine f_getf rfl rfl (g := 32) rfl h1 h2 ?_
  refine f_go (pc1 := 70) (lv1 := [(3, .ref dh), (0, .ref ty), (1, .null), (2, .ref P)]) (st1 := [.ref dh]) 3 rfl ?_
  refine f_getf rfl rfl (g := 47) rfl h1 h3 ?_
  refine f_go (pc1 := 35) (lv1 := [(3, .ref dr), (0, .ref ty), (1, .null), (2, .ref P)]) (st1 := [.ref dr]) 5 rfl ?_
  refine f_getf rfl rfl (g := 32) rfl r1 r2 ?_
  refine f_go (pc1 := 65) (lv1 := [(3, .ref dr), (0, .ref ty), (1, .null), (2, .ref P)]) (st1 := [.ref dr]) 5 rfl ?_
  refine f_getf rfl rfl (g := 38) rfl r1 r5 ?_
  exact f_rt rfl rfl
theorem g_levelOf_O1 {X : ev_X} {d : Nat} {σ : fl_S} (hd : 1 ≤ d) {ty u : Nat} {mk : Int32} {P dO nb sb dh nh mb dr uh ur RL : Nat} (hO : OW σ P dO nb sb dh nh mb dr uh ur RL) (c_u : sC σ 1 u = true) (u_mask : sF σ u 48 = .int mk) (hb : ((mk >>> (3 &&& 31)) &&& 1) = 1) : CF X d 79 [.ref ty, .ref u, .ref P] σ (some (.ref RL)) σ := by
  obtain ⟨P1, P2, P3, O1, O2, O3, b1, b2, b3, h1, h2, h3, h4, h5, h6, h7, h8, r1, r2, r3, r4, r5, uh1, uh2, ur1, ur2, RL1⟩ := hO
  refine f_meth (by omega) rfl ?_
  refine f_go (pc1 := 1) (lv1 := [(0, .ref ty), (1, .ref u), (2, .ref P)]) (st1 := [.ref P]) 1 rfl ?_
  refine f_getf rfl rfl (g := 128) rfl P1 P2 ?_
  refine f_go (pc1 := 12) (lv1 := [(0, .ref ty), (1, .ref u), (2, .ref P)]) (st1 := [.ref P]) 3 rfl ?_
  refine f_getf rfl rfl (g := 128) rfl P1 P2 ?_
  refine f_go (pc1 := 23) (lv1 := [(0, .ref ty), (1, .ref u), (2, .ref P)]) (st1 := [.ref P]) 3 rfl ?_
  refine f_getf rfl rfl (g := 138) rfl P1 P3 ?_
  refine f_getf rfl rfl (g := 47) rfl O1 O2 ?_
  refine f_go (pc1 := 35) (lv1 := [(3, .ref dh), (0, .ref ty), (1, .ref u), (2, .ref P)]) (st1 := [.ref dh]) 4 rfl ?_
  refine f_getf rfl rfl (g := 32) rfl h1 h2 ?_
  refine f_go (pc1 := 70) (lv1 := [(3, .ref dh), (0, .ref ty), (1, .ref u), (2, .ref P)]) (st1 := [.ref dh]) 3 rfl ?_
  refine f_getf rfl rfl (g := 47) rfl h1 h3 ?_
  refine f_go (pc1 := 35) (lv1 := [(3, .ref dr), (0, .ref ty), (1, .ref u), (2, .ref P)]) (st1 := [.ref dr]) 5 rfl ?_
  refine f_getf rfl rfl (g := 32) rfl r1 r2 ?_
  refine f_go (pc1 := 47) (lv1 := [(3, .ref dr), (0, .ref ty), (1, .ref u), (2, .ref P)]) (st1 := [.ref u]) 5 rfl ?_
  refine f_getf rfl rfl (g := 48) rfl c_u u_mask ?_
  refine f_go (pc1 := 51) (lv1 := [(3, .ref dr), (0, .ref ty), (1, .ref u), (2, .ref P)]) (st1 := [.ref dr, .int mk]) 1 rfl ?_
  refine f_getf rfl rfl (g := 36) rfl r1 r4 ?_
  refine f_getf rfl rfl (g := 41) rfl ur1 ur2 ?_
  refine f_go (pc1 := 61) (lv1 := [(3, .ref dr), (0, .ref ty), (1, .ref u), (2, .ref P)]) (st1 := [.int 1, .int ((mk >>> (3 &&& 31)) &&& 1)]) 4 rfl ?_
  refine f_icmp (t := 69) rfl rfl false (ic_nen hb) ?_
  refine f_go (pc1 := 65) (lv1 := [(3, .ref dr), (0, .ref ty), (1, .ref u), (2, .ref P)]) (st1 := [.ref dr]) 1 rfl ?_
  refine f_getf rfl rfl (g := 38) rfl r1 r5 ?_
  exact f_rt rfl rfl
theorem g_levelOf_O2 {X : ev_X} {d : Nat} {σ : fl_S} (hd : 1 ≤ d) {ty u : Nat} {mk : Int32} {P dO nb sb dh nh mb dr uh ur RL : Nat} (hO : OW σ P dO nb sb dh nh mb dr uh ur RL) (c_u : sC σ 1 u = true) (u_mask : sF σ u 48 = .int mk) (hb : ¬ ((mk >>> (3 &&& 31)) &&& 1) = 1) : CF X d 79 [.ref ty, .ref u, .ref P] σ (some .null) σ := by
  obtain ⟨P1, P2, P3, O1, O2, O3, b1, b2, b3, h1, h2, h3, h4, h5, h6, h7, h8, r1, r2, r3, r4, r5, uh1, uh2, ur1, ur2, RL1⟩ := hO
  refine f_meth (by omega) rfl ?_
  refine f_go (pc1 := 1) (lv1 := [(0, .ref ty), (1, .ref u), (2, .ref P)]) (st1 := [.ref P]) 1 rfl ?_
  refine f_getf rfl rfl (g := 128) rfl P1 P2 ?_
  refine f_go (pc1 := 12) (lv1 := [(0, .ref ty), (1, .ref u), (2, .ref P)]) (st1 := [.ref P]) 3 rfl ?_
  refine f_getf rfl rfl (g := 128) rfl P1 P2 ?_
  refine f_go (pc1 := 23) (lv1 := [(0, .ref ty), (1, .ref u), (2, .ref P)]) (st1 := [.ref P]) 3 rfl ?_
  refine f_getf rfl rfl (g := 138) rfl P1 P3 ?_
  refine f_getf rfl rfl (g := 47) rfl O1 O2 ?_
  refine f_go (pc1 := 35) (lv1 := [(3, .ref dh), (0, .ref ty), (1, .ref u), (2, .ref P)]) (st1 := [.ref dh]) 4 rfl ?_
  refine f_getf rfl rfl (g := 32) rfl h1 h2 ?_
  refine f_go (pc1 := 70) (lv1 := [(3, .ref dh), (0, .ref ty), (1, .ref u), (2, .ref P)]) (st1 := [.ref dh]) 3 rfl ?_
  refine f_getf rfl rfl (g := 47) rfl h1 h3 ?_
  refine f_go (pc1 := 35) (lv1 := [(3, .ref dr), (0, .ref ty), (1, .ref u), (2, .ref P)]) (st1 := [.ref dr]) 5 rfl ?_
  refine f_getf rfl rfl (g := 32) rfl r1 r2 ?_
  refine f_go (pc1 := 47) (lv1 := [(3, .ref dr), (0, .ref ty), (1, .ref u), (2, .ref P)]) (st1 := [.ref u]) 5 rfl ?_
  refine f_getf rfl rfl (g := 48) rfl c_u u_mask ?_
  refine f_go (pc1 := 51) (lv1 := [(3, .ref dr), (0, .ref ty), (1, .ref u), (2, .ref P)]) (st1 := [.ref dr, .int mk]) 1 rfl ?_
  refine f_getf rfl rfl (g := 36) rfl r1 r4 ?_
  refine f_getf rfl rfl (g := 41) rfl ur1 ur2 ?_
  refine f_go (pc1 := 61) (lv1 := [(3, .ref dr), (0, .ref ty), (1, .ref u), (2, .ref P)]) (st1 := [.int 1, .int ((mk >>> (3 &&& 31)) &&& 1)]) 4 rfl ?_
  refine f_icmp (t := 69) rfl rfl true (ic_ne hb) ?_
  refine f_go (pc1 := 70) (lv1 := [(3, .ref dr), (0, .ref ty), (1, .ref u), (2, .ref P)]) (st1 := [.ref dr]) 1 rfl ?_
  refine f_getf rfl rfl (g := 47) rfl r1 r3 ?_
  refine f_go (pc1 := 78) (lv1 := [(3, .null), (0, .ref ty), (1, .ref u), (2, .ref P)]) (st1 := [.null]) 5 rfl ?_
  exact f_rt rfl rfl
theorem g_aboveW_L {X : ev_X} {d : Nat} {σ : fl_S} (hd : 2 ≤ d) {ty a e p : Nat} (cty : sC σ 9 ty = true) (c_a : sC σ 4 a = true) (a_kind : sF σ a 128 = .int 11) (a_elem : sF σ a 134 = .ref e) (c_e : sC σ 4 e = true) (e_real : sF σ e 139 = .ref p) : CF X d 80 [.ref ty, .ref a] σ (some (.ref p)) σ := by
  refine f_meth (by omega) rfl ?_
  refine f_go (pc1 := 3) (lv1 := [(0, .ref ty), (1, .ref a)]) (st1 := [.ref a, .null, .ref ty]) 3 rfl ?_
  refine f_vt rfl rfl cty rfl (g_levelOf_LN (by omega) c_a a_kind) ?_
  refine f_go (pc1 := 16) (lv1 := [(2, .ref a), (0, .ref ty), (1, .ref a)]) (st1 := [.ref a]) 4 rfl ?_
  refine f_getf rfl rfl (g := 134) rfl c_a a_elem ?_
  refine f_getf rfl rfl (g := 139) rfl c_e e_real ?_
  exact f_rt rfl rfl
theorem g_aboveW_O {X : ev_X} {d : Nat} {σ : fl_S} (hd : 2 ≤ d) {ty e p : Nat} {P dO nb sb dh nh mb dr uh ur RL : Nat} (cty : sC σ 9 ty = true) (hO : OW σ P dO nb sb dh nh mb dr uh ur RL) (RL_elem : sF σ RL 134 = .ref e) (c_e : sC σ 4 e = true) (e_real : sF σ e 139 = .ref p) : CF X d 80 [.ref ty, .ref P] σ (some (.ref p)) σ := by
  have hO9 := hO
  obtain ⟨P1, P2, P3, O1, O2, O3, b1, b2, b3, h1, h2, h3, h4, h5, h6, h7, h8, r1, r2, r3, r4, r5, uh1, uh2, ur1, ur2, RL1⟩ := hO
  refine f_meth (by omega) rfl ?_
  refine f_go (pc1 := 3) (lv1 := [(0, .ref ty), (1, .ref P)]) (st1 := [.ref P, .null, .ref ty]) 3 rfl ?_
  refine f_vt rfl rfl cty rfl (g_levelOf_O0 (by omega) hO9) ?_
  refine f_go (pc1 := 16) (lv1 := [(2, .ref RL), (0, .ref ty), (1, .ref P)]) (st1 := [.ref RL]) 4 rfl ?_
  refine f_getf rfl rfl (g := 134) rfl RL1 RL_elem ?_
  refine f_getf rfl rfl (g := 139) rfl c_e e_real ?_
  exact f_rt rfl rfl
theorem g_aboveW_n {X : ev_X} {d : Nat} {σ : fl_S} (hd : 2 ≤ d) {ty a : Nat} {k : Int32} (cty : sC σ 9 ty = true) (c_a : sC σ 4 a = true) (a_kind : sF σ a 128 = .int k) (k1 : ¬ k = 11) (k2 : ¬ k = 12) : CF X d 80 [.ref ty, .ref a] σ (some .null) σ := by
  refine f_meth (by omega) rfl ?_
  refine f_go (pc1 := 3) (lv1 := [(0, .ref ty), (1, .ref a)]) (st1 := [.ref a, .null, .ref ty]) 3 rfl ?_
  refine f_vt rfl rfl cty rfl (g_levelOf_nN (by omega) c_a a_kind k1 k2) ?_
  refine f_go (pc1 := 22) (lv1 := [(2, .null), (0, .ref ty), (1, .ref a)]) (st1 := [.null]) 5 rfl ?_
  exact f_rt rfl rfl
theorem g_above_L {X : ev_X} {d : Nat} {σ : fl_S} (hd : 1 ≤ d) {ty u a e p : Nat} (c_a : sC σ 4 a = true) (a_kind : sF σ a 128 = .int 11) (a_elem : sF σ a 134 = .ref e) (c_e : sC σ 4 e = true) (e_real : sF σ e 139 = .ref p) : CF X d 81 [.ref ty, .ref u, .ref a] σ (some (.ref p)) σ := by
  refine f_meth (by omega) rfl ?_
  refine f_go (pc1 := 1) (lv1 := [(0, .ref ty), (1, .ref u), (2, .ref a)]) (st1 := [.ref a]) 1 rfl ?_
  refine f_getf rfl rfl (g := 128) rfl c_a a_kind ?_
  refine f_go (pc1 := 10) (lv1 := [(0, .ref ty), (1, .ref u), (2, .ref a)]) (st1 := [.ref a]) 3 rfl ?_
  refine f_getf rfl rfl (g := 134) rfl c_a a_elem ?_
  refine f_getf rfl rfl (g := 139) rfl c_e e_real ?_
  exact f_rt rfl rfl
theorem g_above_n {X : ev_X} {d : Nat} {σ : fl_S} (hd : 1 ≤ d) {ty u a : Nat} {k : Int32} (c_a : sC σ 4 a = true) (a_kind : sF σ a 128 = .int k) (k1 : ¬ k = 11) (k2 : ¬ k = 12) : CF X d 81 [.ref ty, .ref u, .ref a] σ (some .null) σ := by
  refine f_meth (by omega) rfl ?_
  refine f_go (pc1 := 1) (lv1 := [(0, .ref ty), (1, .ref u), (2, .ref a)]) (st1 := [.ref a]) 1 rfl ?_
  refine f_getf rfl rfl (g := 128) rfl c_a a_kind ?_
  refine f_go (pc1 := 6) (lv1 := [(0, .ref ty), (1, .ref u), (2, .ref a)]) (st1 := [.int 11, .int k]) 1 rfl ?_
  refine f_icmp (t := 17) rfl rfl true (ic_ne k1) ?_
  refine f_go (pc1 := 18) (lv1 := [(0, .ref ty), (1, .ref u), (2, .ref a)]) (st1 := [.ref a]) 1 rfl ?_
  refine f_getf rfl rfl (g := 128) rfl c_a a_kind ?_
  refine f_go (pc1 := 23) (lv1 := [(0, .ref ty), (1, .ref u), (2, .ref a)]) (st1 := [.int 12, .int k]) 1 rfl ?_
  refine f_icmp (t := 55) rfl rfl true (ic_ne k2) ?_
  refine f_go (pc1 := 56) (lv1 := [(0, .ref ty), (1, .ref u), (2, .ref a)]) (st1 := [.null]) 1 rfl ?_
  exact f_rt rfl rfl
theorem g_above_O {X : ev_X} {d : Nat} {σ : fl_S} (hd : 1 ≤ d) {ty a u vs m n p : Nat} {V : Nat → Option Nat} (c_a : sC σ 4 a = true) (a_kind : sF σ a 128 = .int 12) (a_views : sF σ a 141 = .ref vs) (c_u : sC σ 1 u = true) (u_number : sF σ u 41 = .int (Int32.ofNat n)) (a_vs : sR σ vs = some (3, m, V)) (hn : n < m) (hm : m < 2147483648) (hv : V n = some p) : CF X d 81 [.ref ty, .ref u, .ref a] σ (some (.ref p)) σ := by
  refine f_meth (by omega) rfl ?_
  refine f_go (pc1 := 1) (lv1 := [(0, .ref ty), (1, .ref u), (2, .ref a)]) (st1 := [.ref a]) 1 rfl ?_
  refine f_getf rfl rfl (g := 128) rfl c_a a_kind ?_
  refine f_go (pc1 := 18) (lv1 := [(0, .ref ty), (1, .ref u), (2, .ref a)]) (st1 := [.ref a]) 3 rfl ?_
  refine f_getf rfl rfl (g := 128) rfl c_a a_kind ?_
  refine f_go (pc1 := 27) (lv1 := [(0, .ref ty), (1, .ref u), (2, .ref a)]) (st1 := [.ref a]) 3 rfl ?_
  refine f_getf rfl rfl (g := 141) rfl c_a a_views ?_
  refine f_go (pc1 := 34) (lv1 := [(0, .ref ty), (1, .ref u), (2, .ref a)]) (st1 := [.ref u]) 2 rfl ?_
  refine f_getf rfl rfl (g := 41) rfl c_u u_number ?_
  refine f_go (pc1 := 38) (lv1 := [(0, .ref ty), (1, .ref u), (2, .ref a)]) (st1 := [.ref a, .int (Int32.ofNat n)]) 1 rfl ?_
  refine f_getf rfl rfl (g := 141) rfl c_a a_views ?_
  refine f_alR rfl a_vs rfl ?_
  refine f_icmp (t := 55) rfl rfl false (nat_lt (by omega) hm hn) ?_
  refine f_go (pc1 := 46) (lv1 := [(0, .ref ty), (1, .ref u), (2, .ref a)]) (st1 := [.ref a]) 1 rfl ?_
  refine f_getf rfl rfl (g := 141) rfl c_a a_views ?_
  refine f_go (pc1 := 50) (lv1 := [(0, .ref ty), (1, .ref u), (2, .ref a)]) (st1 := [.ref u, .ref vs]) 1 rfl ?_
  refine f_getf rfl rfl (g := 41) rfl c_u u_number ?_
  refine f_aald rfl a_vs (i := n) (o := (some p)) rfl hn (by omega) hv ?_
  show EF _ _ 81 54 [(0, .ref ty), (1, .ref u), (2, .ref a)] [.ref p] _ _ _
  exact f_rt rfl rfl
theorem g_isObject {X : ev_X} {d : Nat} {σ : fl_S} (hd : 1 ≤ d) {a : Nat} {k : Int32} (c_a : sC σ 4 a = true) (a_kind : sF σ a 128 = .int k) : CF X d 11 [.ref a] σ (some (.int (if k = 10 ∨ k = 11 ∨ k = 12 then 1 else 0))) σ := by
  refine f_meth hd rfl ?_
  refine f_go (pc1 := 1) (lv1 := [(0, .ref a)]) (st1 := [.ref a]) 1 rfl ?_
  refine f_getf rfl rfl (g := 128) rfl c_a a_kind ?_
  refine f_go (pc1 := 6) (lv1 := [(0, .ref a)]) (st1 := [.int 10, .int k]) 1 rfl ?_
  by_cases x10 : k = 10
  ·
    refine f_icmp (t := 27) rfl rfl true (ic_eq x10) ?_
    refine f_go (pc1 := 32) (lv1 := [(0, .ref a)]) (st1 := [.int 1]) 2 rfl ?_
    rw [if_pos (by simp [x10])]
    exact f_rt rfl rfl
  ·
    refine f_icmp (t := 27) rfl rfl false (ic_eqn x10) ?_
    refine f_go (pc1 := 10) (lv1 := [(0, .ref a)]) (st1 := [.ref a]) 1 rfl ?_
    refine f_getf rfl rfl (g := 128) rfl c_a a_kind ?_
    refine f_go (pc1 := 15) (lv1 := [(0, .ref a)]) (st1 := [.int 11, .int k]) 1 rfl ?_
    by_cases x11 : k = 11
    ·
      refine f_icmp (t := 27) rfl rfl true (ic_eq x11) ?_
      refine f_go (pc1 := 32) (lv1 := [(0, .ref a)]) (st1 := [.int 1]) 2 rfl ?_
      rw [if_pos (by simp [x11])]
      exact f_rt rfl rfl
    ·
      refine f_icmp (t := 27) rfl rfl false (ic_eqn x11) ?_
      refine f_go (pc1 := 19) (lv1 := [(0, .ref a)]) (st1 := [.ref a]) 1 rfl ?_
      refine f_getf rfl rfl (g := 128) rfl c_a a_kind ?_
      refine f_go (pc1 := 24) (lv1 := [(0, .ref a)]) (st1 := [.int 12, .int k]) 1 rfl ?_
      by_cases x12 : k = 12
      ·
        refine f_icmp (t := 31) rfl rfl false (ic_nen x12) ?_
        refine f_go (pc1 := 32) (lv1 := [(0, .ref a)]) (st1 := [.int 1]) 2 rfl ?_
        rw [if_pos (by simp [x12])]
        exact f_rt rfl rfl
      ·
        refine f_icmp (t := 31) rfl rfl true (ic_ne x12) ?_
        refine f_go (pc1 := 32) (lv1 := [(0, .ref a)]) (st1 := [.int 0]) 1 rfl ?_
        rw [if_neg (by simp [x10, x11, x12])]
        exact f_rt rfl rfl
def toldAb (S : Nat → Int32) (sb mb c : Nat) (hint : Bool) : Bool := decide (S sb = S c) || (hint && decide (S mb = S c))
theorem g_isToldAbove {X : ev_X} {d : Nat} {σ : fl_S} (hd : 1 ≤ d) {P dO nb sb dh nh mb dr uh ur RL : Nat} {u c : Nat} {mk : Int32} {S : Nat → Int32} (hO : OW σ P dO nb sb dh nh mb dr uh ur RL) (c_u : sC σ 1 u = true) (u_mask : sF σ u 48 = .int mk) (c_c : sC σ 4 c = true) (c_shape : sF σ c 142 = .int (S c)) (sb_shape : sF σ sb 142 = .int (S sb)) (mb_shape : sF σ mb 142 = .int (S mb)) : CF X d 84 [.ref u, .ref P, .ref c] σ (some (.int (if toldAb S sb mb c (decide (((mk >>> (1 &&& 31)) &&& 1) = 1)) then 1 else 0))) σ := by
  obtain ⟨P1, P2, P3, O1, O2, O3, b1, b2, b3, h1, h2, h3, h4, h5, h6, h7, h8, r1, r2, r3, r4, r5, uh1, uh2, ur1, ur2, RL1⟩ := hO
  refine f_meth hd rfl ?_
  refine f_go (pc1 := 1) (lv1 := [(0, .ref u), (1, .ref P), (2, .ref c)]) (st1 := [.ref P]) 1 rfl ?_
  refine f_getf rfl rfl (g := 138) rfl P1 P3 ?_
  refine f_getf rfl rfl (g := 39) rfl O1 O3 ?_
  refine f_getf rfl rfl (g := 139) rfl b1 b2 ?_
  refine f_getf rfl rfl (g := 142) rfl b3 sb_shape ?_
  refine f_go (pc1 := 14) (lv1 := [(0, .ref u), (1, .ref P), (2, .ref c)]) (st1 := [.ref c, .int (S sb)]) 1 rfl ?_
  refine f_getf rfl rfl (g := 142) rfl c_c c_shape ?_
  by_cases x1 : S sb = S c
  ·
    refine f_icmp (t := 22) rfl rfl false (ic_nen x1) ?_
    refine f_go (pc1 := 21) (lv1 := [(0, .ref u), (1, .ref P), (2, .ref c)]) (st1 := [.int 1]) 1 rfl ?_
    rw [if_pos (by simp [toldAb, x1])]
    exact f_rt rfl rfl
  ·
    refine f_icmp (t := 22) rfl rfl true (ic_ne x1) ?_
    refine f_go (pc1 := 23) (lv1 := [(0, .ref u), (1, .ref P), (2, .ref c)]) (st1 := [.ref P]) 1 rfl ?_
    refine f_getf rfl rfl (g := 138) rfl P1 P3 ?_
    refine f_getf rfl rfl (g := 47) rfl O1 O2 ?_
    refine f_go (pc1 := 35) (lv1 := [(3, .ref dh), (0, .ref u), (1, .ref P), (2, .ref c)]) (st1 := [.ref dh]) 4 rfl ?_
    refine f_getf rfl rfl (g := 32) rfl h1 h2 ?_
    refine f_go (pc1 := 44) (lv1 := [(3, .ref dh), (0, .ref u), (1, .ref P), (2, .ref c)]) (st1 := [.ref u]) 3 rfl ?_
    refine f_getf rfl rfl (g := 48) rfl c_u u_mask ?_
    refine f_go (pc1 := 48) (lv1 := [(3, .ref dh), (0, .ref u), (1, .ref P), (2, .ref c)]) (st1 := [.ref dh, .int mk]) 1 rfl ?_
    refine f_getf rfl rfl (g := 36) rfl h1 h4 ?_
    refine f_getf rfl rfl (g := 41) rfl uh1 uh2 ?_
    refine f_go (pc1 := 58) (lv1 := [(3, .ref dh), (0, .ref u), (1, .ref P), (2, .ref c)]) (st1 := [.int 1, .int ((mk >>> (1 &&& 31)) &&& 1)]) 4 rfl ?_
    by_cases x2 : ((mk >>> (1 &&& 31)) &&& 1) = 1
    ·
      refine f_icmp (t := 80) rfl rfl false (ic_nen x2) ?_
      refine f_go (pc1 := 62) (lv1 := [(3, .ref dh), (0, .ref u), (1, .ref P), (2, .ref c)]) (st1 := [.ref dh]) 1 rfl ?_
      refine f_getf rfl rfl (g := 39) rfl h1 h5 ?_
      refine f_getf rfl rfl (g := 139) rfl h6 h7 ?_
      refine f_getf rfl rfl (g := 142) rfl h8 mb_shape ?_
      refine f_go (pc1 := 72) (lv1 := [(3, .ref dh), (0, .ref u), (1, .ref P), (2, .ref c)]) (st1 := [.ref c, .int (S mb)]) 1 rfl ?_
      refine f_getf rfl rfl (g := 142) rfl c_c c_shape ?_
      by_cases x3 : S mb = S c
      ·
        refine f_icmp (t := 80) rfl rfl false (ic_nen x3) ?_
        refine f_go (pc1 := 79) (lv1 := [(3, .ref dh), (0, .ref u), (1, .ref P), (2, .ref c)]) (st1 := [.int 1]) 1 rfl ?_
        rw [if_pos (by simp [toldAb, x2, x3])]
        exact f_rt rfl rfl
      ·
        refine f_icmp (t := 80) rfl rfl true (ic_ne x3) ?_
        refine f_go (pc1 := 81) (lv1 := [(3, .ref dh), (0, .ref u), (1, .ref P), (2, .ref c)]) (st1 := [.ref dh]) 1 rfl ?_
        refine f_getf rfl rfl (g := 47) rfl h1 h3 ?_
        refine f_go (pc1 := 35) (lv1 := [(3, .ref dr), (0, .ref u), (1, .ref P), (2, .ref c)]) (st1 := [.ref dr]) 5 rfl ?_
        refine f_getf rfl rfl (g := 32) rfl r1 r2 ?_
        refine f_go (pc1 := 81) (lv1 := [(3, .ref dr), (0, .ref u), (1, .ref P), (2, .ref c)]) (st1 := [.ref dr]) 3 rfl ?_
        refine f_getf rfl rfl (g := 47) rfl r1 r3 ?_
        refine f_go (pc1 := 89) (lv1 := [(3, .null), (0, .ref u), (1, .ref P), (2, .ref c)]) (st1 := [.int 0]) 5 rfl ?_
        rw [if_neg (by simp [toldAb, x1, x3])]
        exact f_rt rfl rfl
    ·
      refine f_icmp (t := 80) rfl rfl true (ic_ne x2) ?_
      refine f_go (pc1 := 81) (lv1 := [(3, .ref dh), (0, .ref u), (1, .ref P), (2, .ref c)]) (st1 := [.ref dh]) 1 rfl ?_
      refine f_getf rfl rfl (g := 47) rfl h1 h3 ?_
      refine f_go (pc1 := 35) (lv1 := [(3, .ref dr), (0, .ref u), (1, .ref P), (2, .ref c)]) (st1 := [.ref dr]) 5 rfl ?_
      refine f_getf rfl rfl (g := 32) rfl r1 r2 ?_
      refine f_go (pc1 := 81) (lv1 := [(3, .ref dr), (0, .ref u), (1, .ref P), (2, .ref c)]) (st1 := [.ref dr]) 3 rfl ?_
      refine f_getf rfl rfl (g := 47) rfl r1 r3 ?_
      refine f_go (pc1 := 89) (lv1 := [(3, .null), (0, .ref u), (1, .ref P), (2, .ref c)]) (st1 := [.int 0]) 5 rfl ?_
      rw [if_neg (by simp [toldAb, x1, x2])]
      exact f_rt rfl rfl
