/-! what is asked -/
/-- a program that stands: its types in their row, its units -/
def QW (σ : fl_S) (x ty tr T ur U : Nat) (td tn rt us : Nat → Nat) : Prop := sC σ 10 x = true ∧ sF σ x 324 = .ref ty ∧ sC σ 9 ty = true ∧ sF σ ty 290 = .ref tr ∧ (∃ TR, sR σ tr = some (2, T, TR) ∧ ∀ i, i < T → TR i = some (td i)) ∧ T < 100000 ∧ (∀ i, i < T → sC σ 1 (td i) = true ∧ sF σ (td i) 38 = .ref (tn i) ∧ sC σ 4 (tn i) = true ∧ sF σ (tn i) 139 = .ref (rt i) ∧ sC σ 4 (rt i) = true) ∧ sF σ ty 289 = .ref ur ∧ (∃ UR, sR σ ur = some (2, U, UR) ∧ ∀ i, i < U → UR i = some (us i)) ∧ U < 100000
theorem nat_ltT {m n : Nat} (hm : m < 2147483648) (hn : n < 2147483648) (h : m < n) : ev_ic .lt (Int32.ofNat m) (Int32.ofNat n) = true := by simp [ev_ic, nat_li hm hn]; omega
theorem g_typeNumbered {X : ev_X} {d : Nat} {σ : fl_S} (hd : 1 ≤ d) {x ty tr T ur U : Nat} {td tn rt us : Nat → Nat} {i : Nat} (hQ : QW σ x ty tr T ur U td tn rt us) (hi : i < T) : CF X d 5 [.ref x, .int (Int32.ofNat i)] σ (some (.ref (rt i))) σ := by
  have hQ9 := hQ
  obtain ⟨c_x, x_prog, c_ty, ty_row, ⟨TR, htr, hTR⟩, hT, htd, ty_ur, ⟨UR, hur, hUR⟩, hU⟩ := hQ
  obtain ⟨t1, t2, t3, t4, t5⟩ := htd i hi
  refine f_meth (by omega) rfl ?_
  refine f_go (pc1 := 1) (lv1 := [(0, .ref x), (1, .int (Int32.ofNat i))]) (st1 := [.ref x]) 1 rfl ?_
  refine f_getf rfl rfl (g := 324) rfl c_x x_prog ?_
  refine f_go (pc1 := 8) (lv1 := [(0, .ref x), (1, .int (Int32.ofNat i))]) (st1 := [.int (Int32.ofNat i)]) 2 rfl ?_
  refine f_ifc (t := 23) rfl rfl false (nat_lt0 (by omega)) ?_
  refine f_go (pc1 := 13) (lv1 := [(0, .ref x), (1, .int (Int32.ofNat i))]) (st1 := [.ref x, .int (Int32.ofNat i)]) 2 rfl ?_
  refine f_getf rfl rfl (g := 324) rfl c_x x_prog ?_
  refine f_getf rfl rfl (g := 290) rfl c_ty ty_row ?_
  refine f_alR rfl htr rfl ?_
  refine f_icmp (t := 25) rfl rfl true (nat_ltT (by omega) (by omega) hi) ?_
  refine f_go (pc1 := 26) (lv1 := [(0, .ref x), (1, .int (Int32.ofNat i))]) (st1 := [.ref x]) 1 rfl ?_
  refine f_getf rfl rfl (g := 324) rfl c_x x_prog ?_
  refine f_getf rfl rfl (g := 290) rfl c_ty ty_row ?_
  refine f_go (pc1 := 33) (lv1 := [(0, .ref x), (1, .int (Int32.ofNat i))]) (st1 := [.int (Int32.ofNat i), .ref tr]) 1 rfl ?_
  refine f_aald rfl htr (i := i) (o := (some (td i))) rfl hi (by omega) (hTR i hi) ?_
  show EQ _ _ 5 34 [(0, .ref x), (1, .int (Int32.ofNat i))] [.ref (td i)] _ _
  refine f_getf rfl rfl (g := 38) rfl t1 t2 ?_
  refine f_getf rfl rfl (g := 139) rfl t3 t4 ?_
  exact f_rt rfl rfl
theorem g_unitNumbered {X : ev_X} {d : Nat} {σ : fl_S} (hd : 1 ≤ d) {x ty tr T ur U : Nat} {td tn rt us : Nat → Nat} {u : Nat} (hQ : QW σ x ty tr T ur U td tn rt us) (hu : u < U) : CF X d 6 [.ref x, .int (Int32.ofNat u)] σ (some (.ref (us u))) σ := by
  have hQ9 := hQ
  obtain ⟨c_x, x_prog, c_ty, ty_row, ⟨TR, htr, hTR⟩, hT, htd, ty_ur, ⟨UR, hur, hUR⟩, hU⟩ := hQ
  refine f_meth (by omega) rfl ?_
  refine f_go (pc1 := 1) (lv1 := [(0, .ref x), (1, .int (Int32.ofNat u))]) (st1 := [.ref x]) 1 rfl ?_
  refine f_getf rfl rfl (g := 324) rfl c_x x_prog ?_
  refine f_go (pc1 := 8) (lv1 := [(0, .ref x), (1, .int (Int32.ofNat u))]) (st1 := [.int (Int32.ofNat u)]) 2 rfl ?_
  refine f_ifc (t := 23) rfl rfl false (nat_lt0 (by omega)) ?_
  refine f_go (pc1 := 13) (lv1 := [(0, .ref x), (1, .int (Int32.ofNat u))]) (st1 := [.ref x, .int (Int32.ofNat u)]) 2 rfl ?_
  refine f_getf rfl rfl (g := 324) rfl c_x x_prog ?_
  refine f_getf rfl rfl (g := 289) rfl c_ty ty_ur ?_
  refine f_alR rfl hur rfl ?_
  refine f_icmp (t := 25) rfl rfl true (nat_ltT (by omega) (by omega) hu) ?_
  refine f_go (pc1 := 26) (lv1 := [(0, .ref x), (1, .int (Int32.ofNat u))]) (st1 := [.ref x]) 1 rfl ?_
  refine f_getf rfl rfl (g := 324) rfl c_x x_prog ?_
  refine f_getf rfl rfl (g := 289) rfl c_ty ty_ur ?_
  refine f_go (pc1 := 33) (lv1 := [(0, .ref x), (1, .int (Int32.ofNat u))]) (st1 := [.int (Int32.ofNat u), .ref ur]) 1 rfl ?_
  refine f_aald rfl hur (i := u) (o := (some (us u))) rfl hu (by omega) (hUR u hu) ?_
  show EQ _ _ 6 34 [(0, .ref x), (1, .int (Int32.ofNat u))] [.ref (us u)] _ _
  exact f_rt rfl rfl
theorem g_alike {X : ev_X} {d : Nat} {σ : fl_S} (hd : 2 ≤ d) {x ty tr T ur U : Nat} {td tn rt us : Nat → Nat} {i j : Nat} {S : Nat → Int32} (hQ : QW σ x ty tr T ur U td tn rt us) (hi : i < T) (hj : j < T) (si : sF σ (rt i) 142 = .int (S (rt i))) (sj : sF σ (rt j) 142 = .int (S (rt j))) : CF X d 7 [.ref x, .int (Int32.ofNat i), .int (Int32.ofNat j)] σ (some (.int (if S (rt i) = S (rt j) then 1 else 0))) σ := by
  have hQ9 := hQ
  obtain ⟨c_x, x_prog, c_ty, ty_row, ⟨TR, htr, hTR⟩, hT, htd, ty_ur, ⟨UR, hur, hUR⟩, hU⟩ := hQ
  have ci := (htd i hi).2.2.2.2
  have cj := (htd j hj).2.2.2.2
  refine f_meth (by omega) rfl ?_
  refine f_go (pc1 := 2) (lv1 := [(0, .ref x), (1, .int (Int32.ofNat i)), (2, .int (Int32.ofNat j))]) (st1 := [.int (Int32.ofNat i), .ref x]) 2 rfl ?_
  refine f_vt rfl rfl c_x rfl (g_typeNumbered (by omega) hQ9 hi) ?_
  refine f_go (pc1 := 8) (lv1 := [(3, .ref (rt i)), (0, .ref x), (1, .int (Int32.ofNat i)), (2, .int (Int32.ofNat j))]) (st1 := [.int (Int32.ofNat j), .ref x]) 3 rfl ?_
  refine f_vt rfl rfl c_x rfl (g_typeNumbered (by omega) hQ9 hj) ?_
  refine f_go (pc1 := 25) (lv1 := [(4, .ref (rt j)), (3, .ref (rt i)), (0, .ref x), (1, .int (Int32.ofNat i)), (2, .int (Int32.ofNat j))]) (st1 := [.ref (rt i)]) 6 rfl ?_
  refine f_getf rfl rfl (g := 142) rfl ci si ?_
  refine f_go (pc1 := 30) (lv1 := [(4, .ref (rt j)), (3, .ref (rt i)), (0, .ref x), (1, .int (Int32.ofNat i)), (2, .int (Int32.ofNat j))]) (st1 := [.ref (rt j), .int (S (rt i))]) 1 rfl ?_
  refine f_getf rfl rfl (g := 142) rfl cj sj ?_
  by_cases x1 : S (rt i) = S (rt j)
  ·
    refine f_icmp (t := 40) rfl rfl false (ic_nen x1) ?_
    refine f_go (pc1 := 41) (lv1 := [(4, .ref (rt j)), (3, .ref (rt i)), (0, .ref x), (1, .int (Int32.ofNat i)), (2, .int (Int32.ofNat j))]) (st1 := [.int 1]) 2 rfl ?_
    rw [if_pos x1]
    exact f_rt rfl rfl
  ·
    refine f_icmp (t := 40) rfl rfl true (ic_ne x1) ?_
    refine f_go (pc1 := 41) (lv1 := [(4, .ref (rt j)), (3, .ref (rt i)), (0, .ref x), (1, .int (Int32.ofNat i)), (2, .int (Int32.ofNat j))]) (st1 := [.int 0]) 1 rfl ?_
    rw [if_neg x1]
    exact f_rt rfl rfl
theorem g_below {X : ev_X} {d : Nat} {σ : fl_S} (hd : 3 ≤ d) {x ty tr T ur U : Nat} {td tn rt us : Nat → Nat} {u i j : Nat} {b : Bool} (hQ : QW σ x ty tr T ur U td tn rt us) (hu : u < U) (hi : i < T) (hj : j < T) (hB : CF X (d - 1) 95 [.ref ty, .ref (us u), .ref (rt i), .ref (rt j)] σ (some (.int (if b = true then 1 else 0))) σ) : CF X d 8 [.ref x, .int (Int32.ofNat u), .int (Int32.ofNat i), .int (Int32.ofNat j)] σ (some (.int (if b = true then 1 else 0))) σ := by
  have hQ9 := hQ
  obtain ⟨c_x, x_prog, c_ty, ty_row, ⟨TR, htr, hTR⟩, hT, htd, ty_ur, ⟨UR, hur, hUR⟩, hU⟩ := hQ
  refine f_meth (by omega) rfl ?_
  refine f_go (pc1 := 2) (lv1 := [(0, .ref x), (1, .int (Int32.ofNat u)), (2, .int (Int32.ofNat i)), (3, .int (Int32.ofNat j))]) (st1 := [.int (Int32.ofNat u), .ref x]) 2 rfl ?_
  refine f_vt rfl rfl c_x rfl (g_unitNumbered (by omega) hQ9 hu) ?_
  refine f_go (pc1 := 9) (lv1 := [(4, .ref (us u)), (0, .ref x), (1, .int (Int32.ofNat u)), (2, .int (Int32.ofNat i)), (3, .int (Int32.ofNat j))]) (st1 := [.int (Int32.ofNat i), .ref x]) 3 rfl ?_
  refine f_vt rfl rfl c_x rfl (g_typeNumbered (by omega) hQ9 hi) ?_
  refine f_go (pc1 := 16) (lv1 := [(5, .ref (rt i)), (4, .ref (us u)), (0, .ref x), (1, .int (Int32.ofNat u)), (2, .int (Int32.ofNat i)), (3, .int (Int32.ofNat j))]) (st1 := [.int (Int32.ofNat j), .ref x]) 3 rfl ?_
  refine f_vt rfl rfl c_x rfl (g_typeNumbered (by omega) hQ9 hj) ?_
  refine f_go (pc1 := 39) (lv1 := [(6, .ref (rt j)), (5, .ref (rt i)), (4, .ref (us u)), (0, .ref x), (1, .int (Int32.ofNat u)), (2, .int (Int32.ofNat i)), (3, .int (Int32.ofNat j))]) (st1 := [.ref x]) 8 rfl ?_
  refine f_getf rfl rfl (g := 324) rfl c_x x_prog ?_
  refine f_go (pc1 := 48) (lv1 := [(6, .ref (rt j)), (5, .ref (rt i)), (4, .ref (us u)), (0, .ref x), (1, .int (Int32.ofNat u)), (2, .int (Int32.ofNat i)), (3, .int (Int32.ofNat j))]) (st1 := [.ref (rt j), .ref (rt i), .ref (us u), .ref ty]) 3 rfl ?_
  refine f_vt rfl rfl c_ty rfl hB ?_
  cases b with
  | true =>
    show EQ _ _ 8 51 [(6, .ref (rt j)), (5, .ref (rt i)), (4, .ref (us u)), (0, .ref x), (1, .int (Int32.ofNat u)), (2, .int (Int32.ofNat i)), (3, .int (Int32.ofNat j))] [.int 1] _ _
    refine f_go (pc1 := 59) (lv1 := [(6, .ref (rt j)), (5, .ref (rt i)), (4, .ref (us u)), (0, .ref x), (1, .int (Int32.ofNat u)), (2, .int (Int32.ofNat i)), (3, .int (Int32.ofNat j))]) (st1 := [.int 1]) 3 rfl ?_
    exact f_rt rfl rfl
  | false =>
    show EQ _ _ 8 51 [(6, .ref (rt j)), (5, .ref (rt i)), (4, .ref (us u)), (0, .ref x), (1, .int (Int32.ofNat u)), (2, .int (Int32.ofNat i)), (3, .int (Int32.ofNat j))] [.int 0] _ _
    refine f_go (pc1 := 59) (lv1 := [(6, .ref (rt j)), (5, .ref (rt i)), (4, .ref (us u)), (0, .ref x), (1, .int (Int32.ofNat u)), (2, .int (Int32.ofNat i)), (3, .int (Int32.ofNat j))]) (st1 := [.int 0]) 2 rfl ?_
    exact f_rt rfl rfl
theorem g_type2 {X : ev_X} {d : Nat} {σ : fl_S} (hd : 2 ≤ d) {x ty tr T ur U : Nat} {td tn rt us : Nat → Nat} {i : Nat} {kn : Int32} (hQ : QW σ x ty tr T ur U td tn rt us) (hi : i < T) (hk : sF σ (rt i) 128 = .int kn) : CF X d 9 [.ref x, .int (Int32.ofNat i), .int 2] σ (some (.int kn)) σ := by
  have hQ9 := hQ
  obtain ⟨c_x, x_prog, c_ty, ty_row, ⟨TR, htr, hTR⟩, hT, htd, ty_ur, ⟨UR, hur, hUR⟩, hU⟩ := hQ
  obtain ⟨t1, t2, t3, t4, t5⟩ := htd i hi
  refine f_meth (by omega) rfl ?_
  refine f_go (pc1 := 2) (lv1 := [(0, .ref x), (1, .int (Int32.ofNat i)), (2, .int 2)]) (st1 := [.int (Int32.ofNat i), .ref x]) 2 rfl ?_
  refine f_vt rfl rfl c_x rfl (g_typeNumbered (by omega) hQ9 hi) ?_
  refine f_go (pc1 := 13) (lv1 := [(3, .ref (rt i)), (0, .ref x), (1, .int (Int32.ofNat i)), (2, .int 2)]) (st1 := [.ref x]) 4 rfl ?_
  refine f_getf rfl rfl (g := 324) rfl c_x x_prog ?_
  refine f_getf rfl rfl (g := 290) rfl c_ty ty_row ?_
  refine f_go (pc1 := 20) (lv1 := [(3, .ref (rt i)), (0, .ref x), (1, .int (Int32.ofNat i)), (2, .int 2)]) (st1 := [.int (Int32.ofNat i), .ref tr]) 1 rfl ?_
  refine f_aald rfl htr (i := i) (o := (some (td i))) rfl hi (by omega) (hTR i hi) ?_
  show EQ _ _ 9 21 [(3, .ref (rt i)), (0, .ref x), (1, .int (Int32.ofNat i)), (2, .int 2)] [.ref (td i)] _ _
  refine f_go (pc1 := 80) (lv1 := [(4, .ref (td i)), (3, .ref (rt i)), (0, .ref x), (1, .int (Int32.ofNat i)), (2, .int 2)]) (st1 := [.ref (rt i)]) 4 rfl ?_
  refine f_getf rfl rfl (g := 128) rfl t5 hk ?_
  exact f_rt rfl rfl
theorem g_type4 {X : ev_X} {d : Nat} {σ : fl_S} (hd : 2 ≤ d) {x ty tr T ur U : Nat} {td tn rt us : Nat → Nat} {i : Nat} {r : Int32} (hQ : QW σ x ty tr T ur U td tn rt us) (hi : i < T) (hC : CF X (d - 1) 85 [.ref ty, .ref (rt i)] σ (some (.int r)) σ) : CF X d 9 [.ref x, .int (Int32.ofNat i), .int 4] σ (some (.int r)) σ := by
  have hQ9 := hQ
  obtain ⟨c_x, x_prog, c_ty, ty_row, ⟨TR, htr, hTR⟩, hT, htd, ty_ur, ⟨UR, hur, hUR⟩, hU⟩ := hQ
  obtain ⟨t1, t2, t3, t4, t5⟩ := htd i hi
  refine f_meth (by omega) rfl ?_
  refine f_go (pc1 := 2) (lv1 := [(0, .ref x), (1, .int (Int32.ofNat i)), (2, .int 4)]) (st1 := [.int (Int32.ofNat i), .ref x]) 2 rfl ?_
  refine f_vt rfl rfl c_x rfl (g_typeNumbered (by omega) hQ9 hi) ?_
  refine f_go (pc1 := 13) (lv1 := [(3, .ref (rt i)), (0, .ref x), (1, .int (Int32.ofNat i)), (2, .int 4)]) (st1 := [.ref x]) 4 rfl ?_
  refine f_getf rfl rfl (g := 324) rfl c_x x_prog ?_
  refine f_getf rfl rfl (g := 290) rfl c_ty ty_row ?_
  refine f_go (pc1 := 20) (lv1 := [(3, .ref (rt i)), (0, .ref x), (1, .int (Int32.ofNat i)), (2, .int 4)]) (st1 := [.int (Int32.ofNat i), .ref tr]) 1 rfl ?_
  refine f_aald rfl htr (i := i) (o := (some (td i))) rfl hi (by omega) (hTR i hi) ?_
  show EQ _ _ 9 21 [(3, .ref (rt i)), (0, .ref x), (1, .int (Int32.ofNat i)), (2, .int 4)] [.ref (td i)] _ _
  refine f_go (pc1 := 90) (lv1 := [(4, .ref (td i)), (3, .ref (rt i)), (0, .ref x), (1, .int (Int32.ofNat i)), (2, .int 4)]) (st1 := [.ref x]) 4 rfl ?_
  refine f_getf rfl rfl (g := 324) rfl c_x x_prog ?_
  refine f_go (pc1 := 94) (lv1 := [(4, .ref (td i)), (3, .ref (rt i)), (0, .ref x), (1, .int (Int32.ofNat i)), (2, .int 4)]) (st1 := [.ref (rt i), .ref ty]) 1 rfl ?_
  refine f_vt rfl rfl c_ty rfl hC ?_
  exact f_rt rfl rfl
theorem g_type5 {X : ev_X} {d : Nat} {σ : fl_S} (hd : 2 ≤ d) {x ty tr T ur U : Nat} {td tn rt us : Nat → Nat} {i s le mny : Nat} {Lf : Nat → Int32} (hQ : QW σ x ty tr T ur U td tn rt us) (hi : i < T) (hs : sF σ (rt i) 142 = .int (Int32.ofNat s)) (ty_le : sF σ ty 292 = .ref le) (hle : sI σ le = some (mny, Lf)) (hsm : s < mny) (hm : mny < 100000) : CF X d 9 [.ref x, .int (Int32.ofNat i), .int 5] σ (some (.int (Lf s))) σ := by
  have hQ9 := hQ
  obtain ⟨c_x, x_prog, c_ty, ty_row, ⟨TR, htr, hTR⟩, hT, htd, ty_ur, ⟨UR, hur, hUR⟩, hU⟩ := hQ
  obtain ⟨t1, t2, t3, t4, t5⟩ := htd i hi
  refine f_meth (by omega) rfl ?_
  refine f_go (pc1 := 2) (lv1 := [(0, .ref x), (1, .int (Int32.ofNat i)), (2, .int 5)]) (st1 := [.int (Int32.ofNat i), .ref x]) 2 rfl ?_
  refine f_vt rfl rfl c_x rfl (g_typeNumbered (by omega) hQ9 hi) ?_
  refine f_go (pc1 := 13) (lv1 := [(3, .ref (rt i)), (0, .ref x), (1, .int (Int32.ofNat i)), (2, .int 5)]) (st1 := [.ref x]) 4 rfl ?_
  refine f_getf rfl rfl (g := 324) rfl c_x x_prog ?_
  refine f_getf rfl rfl (g := 290) rfl c_ty ty_row ?_
  refine f_go (pc1 := 20) (lv1 := [(3, .ref (rt i)), (0, .ref x), (1, .int (Int32.ofNat i)), (2, .int 5)]) (st1 := [.int (Int32.ofNat i), .ref tr]) 1 rfl ?_
  refine f_aald rfl htr (i := i) (o := (some (td i))) rfl hi (by omega) (hTR i hi) ?_
  show EQ _ _ 9 21 [(3, .ref (rt i)), (0, .ref x), (1, .int (Int32.ofNat i)), (2, .int 5)] [.ref (td i)] _ _
  refine f_go (pc1 := 99) (lv1 := [(4, .ref (td i)), (3, .ref (rt i)), (0, .ref x), (1, .int (Int32.ofNat i)), (2, .int 5)]) (st1 := [.ref x]) 4 rfl ?_
  refine f_getf rfl rfl (g := 324) rfl c_x x_prog ?_
  refine f_getf rfl rfl (g := 292) rfl c_ty ty_le ?_
  refine f_go (pc1 := 106) (lv1 := [(4, .ref (td i)), (3, .ref (rt i)), (0, .ref x), (1, .int (Int32.ofNat i)), (2, .int 5)]) (st1 := [.ref (rt i), .ref le]) 1 rfl ?_
  refine f_getf rfl rfl (g := 142) rfl t5 hs ?_
  refine f_iald rfl hle (i := s) hsm (by omega) rfl ?_
  exact f_rt rfl rfl
theorem g_sees {X : ev_X} {d : Nat} {σ : fl_S} (hd : 3 ≤ d) {x ty tr T ur U : Nat} {td tn rt us : Nat → Nat} {u i : Nat} {kn r : Int32} (hQ : QW σ x ty tr T ur U td tn rt us) (hu : u < U) (hi : i < T) (hk : sF σ (rt i) 128 = .int kn) (hk2 : kn = 10 ∨ kn = 11 ∨ kn = 12) (hC : CF X (d - 1) 86 [.ref ty, .ref (us u), .ref (rt i)] σ (some (.int r)) σ) : CF X d 10 [.ref x, .int (Int32.ofNat u), .int (Int32.ofNat i)] σ (some (.int r)) σ := by
  have hQ9 := hQ
  obtain ⟨c_x, x_prog, c_ty, ty_row, ⟨TR, htr, hTR⟩, hT, htd, ty_ur, ⟨UR, hur, hUR⟩, hU⟩ := hQ
  have ci := (htd i hi).2.2.2.2
  refine f_meth (by omega) rfl ?_
  refine f_go (pc1 := 2) (lv1 := [(0, .ref x), (1, .int (Int32.ofNat u)), (2, .int (Int32.ofNat i))]) (st1 := [.int (Int32.ofNat u), .ref x]) 2 rfl ?_
  refine f_vt rfl rfl c_x rfl (g_unitNumbered (by omega) hQ9 hu) ?_
  refine f_go (pc1 := 8) (lv1 := [(3, .ref (us u)), (0, .ref x), (1, .int (Int32.ofNat u)), (2, .int (Int32.ofNat i))]) (st1 := [.int (Int32.ofNat i), .ref x]) 3 rfl ?_
  refine f_vt rfl rfl c_x rfl (g_typeNumbered (by omega) hQ9 hi) ?_
  refine f_go (pc1 := 24) (lv1 := [(4, .ref (rt i)), (3, .ref (us u)), (0, .ref x), (1, .int (Int32.ofNat u)), (2, .int (Int32.ofNat i))]) (st1 := [.ref (rt i)]) 6 rfl ?_
  refine f_st rfl rfl rfl rfl (g_isObject (by omega) ci hk) ?_
  rw [if_pos hk2]
  refine f_go (pc1 := 33) (lv1 := [(4, .ref (rt i)), (3, .ref (us u)), (0, .ref x), (1, .int (Int32.ofNat u)), (2, .int (Int32.ofNat i))]) (st1 := [.ref x]) 2 rfl ?_
  refine f_getf rfl rfl (g := 324) rfl c_x x_prog ?_
  refine f_go (pc1 := 39) (lv1 := [(4, .ref (rt i)), (3, .ref (us u)), (0, .ref x), (1, .int (Int32.ofNat u)), (2, .int (Int32.ofNat i))]) (st1 := [.ref (rt i), .ref (us u), .ref ty]) 2 rfl ?_
  refine f_vt rfl rfl c_ty rfl hC ?_
  exact f_rt rfl rfl
