/-! small numbers compared; an array filled; models of a shape -/
theorem nat_li {m n : Nat} (hm : m < 2147483648) (hn : n < 2147483648) : (Int32.ofNat m < Int32.ofNat n) ↔ m < n := by rw [Int32.lt_iff_toInt_lt, nat_i hm, nat_i hn]; omega
theorem nat_le {m n : Nat} (hm : m < 2147483648) (hn : n < 2147483648) : (Int32.ofNat m ≤ Int32.ofNat n) ↔ m ≤ n := by rw [Int32.le_iff_toInt_le, nat_i hm, nat_i hn]; omega
theorem nat_e {m n : Nat} (hm : m < 2147483648) (hn : n < 2147483648) : (Int32.ofNat m = Int32.ofNat n) ↔ m = n := ⟨fun h => by have := congrArg Int32.toInt h; rw [nat_i hm, nat_i hn] at this; omega, fun h => by rw [h]⟩
theorem nat_geT {m n : Nat} (hm : m < 2147483648) (hn : n < 2147483648) (h : n ≤ m) : ev_ic .ge (Int32.ofNat m) (Int32.ofNat n) = true := by simp [ev_ic, nat_li hm hn]; omega
theorem nat_gtT {m n : Nat} (hm : m < 2147483648) (hn : n < 2147483648) (h : n < m) : ev_ic .gt (Int32.ofNat m) (Int32.ofNat n) = true := by simp [ev_ic, nat_le hm hn]; omega
theorem nat_gtF {m n : Nat} (hm : m < 2147483648) (hn : n < 2147483648) (h : m ≤ n) : ev_ic .gt (Int32.ofNat m) (Int32.ofNat n) = false := by simp [ev_ic, nat_le hm hn]; omega
theorem nat_leT {m n : Nat} (hm : m < 2147483648) (hn : n < 2147483648) (h : m ≤ n) : ev_ic .le (Int32.ofNat m) (Int32.ofNat n) = true := by simp [ev_ic, nat_le hm hn]; omega
theorem nat_leF {m n : Nat} (hm : m < 2147483648) (hn : n < 2147483648) (h : n < m) : ev_ic .le (Int32.ofNat m) (Int32.ofNat n) = false := by simp [ev_ic, nat_le hm hn]; omega
theorem nat_neT {m : Nat} (hm : m < 2147483648) : ev_ic .ne (Int32.ofNat m) (-1) = true := by
  have := nat_ne hm
  simp [ev_ic] at this ⊢
  exact this
theorem nat_lt0 {m : Nat} (hm : m < 2147483648) : ev_ic .lt (Int32.ofNat m) 0 = false := by
  show ev_ic .lt (Int32.ofNat m) (Int32.ofNat 0) = false
  simp only [ev_ic]
  rw [decide_eq_false_iff_not, nat_li hm (by decide)]
  omega
theorem sI1_twice (σ : fl_S) (a : Nat) (x y : Nat × (Nat → Int32)) : sI1 (sI1 σ a x) a y = sI1 σ a y := by
  unfold sI1
  refine Prod.ext rfl (Prod.ext rfl (Prod.ext ?_ rfl))
  funext b
  show aU (aU (sI σ) a x) a y b = aU (sI σ) a y b
  unfold aU
  cases Nat.beq b a <;> rfl
theorem sI1_same {σ : fl_S} {a : Nat} {x : Nat × (Nat → Int32)} (h : sI σ a = some x) : sI1 σ a x = σ := by
  unfold sI1
  refine Prod.ext rfl (Prod.ext rfl (Prod.ext ?_ rfl))
  funext b
  show aU (sI σ) a x b = sI σ b
  by_cases e : b = a
  · subst e; rw [aU_at, h]
  · rw [aU_ne e]
theorem g_fill {X : ev_X} {d : Nat} {σ : fl_S} (hd : 1 ≤ d) {a n : Nat} {f : Nat → Int32} {x : Int32} (ga : sI σ a = some (n, f)) (hn : n < 2147483648) : CF X d 118 [.ref a, .int x] σ none (sI1 σ a (n, fun j => if j < n then x else f j)) := by
  refine f_meth hd rfl ?_
  refine f_go (pc1 := 3) (lv1 := [(2, .int 0), (0, .ref a), (1, .int x)]) (st1 := [.ref a]) 3 rfl ?_
  refine f_alI rfl ga ?_
  refine f_go (pc1 := 5) (lv1 := [(3, .int (Int32.ofNat n)), (2, .int 0), (0, .ref a), (1, .int x)]) (st1 := []) 1 rfl ?_
  have key : ∀ m i, m + i = n → EF X (d - 1) 118 5 [(2, .int (Int32.ofNat i)), (3, .int (Int32.ofNat n)), (0, .ref a), (1, .int x)] [] (sI1 σ a (n, fun j => if j < i then x else f j)) none (sI1 σ a (n, fun j => if j < n then x else f j)) := by
    intro m
    induction m with
    | zero =>
      intro i hi
      have hi : i = n := by omega
      subst hi
      refine f_go (pc1 := 7) (lv1 := [(2, .int (Int32.ofNat i)), (3, .int (Int32.ofNat i)), (0, .ref a), (1, .int x)]) (st1 := [.int (Int32.ofNat i), .int (Int32.ofNat i)]) 2 rfl ?_
      refine f_icmp (t := 20) rfl rfl true (nat_geT hn hn (Nat.le_refl _)) ?_
      exact f_rt rfl rfl
    | succ m ih =>
      intro i hi
      have hi2 : i < n := by omega
      have ga2 : sI (sI1 σ a (n, fun j => if j < i then x else f j)) a = some (n, fun j => if j < i then x else f j) := aU_at
      refine f_go (pc1 := 7) (lv1 := [(2, .int (Int32.ofNat i)), (3, .int (Int32.ofNat n)), (0, .ref a), (1, .int x)]) (st1 := [.int (Int32.ofNat n), .int (Int32.ofNat i)]) 2 rfl ?_
      refine f_icmp (t := 20) rfl rfl false (nat_lt (by omega) hn hi2) ?_
      refine f_go (pc1 := 13) (lv1 := [(2, .int (Int32.ofNat i)), (3, .int (Int32.ofNat n)), (0, .ref a), (1, .int x)]) (st1 := [.int x, .int (Int32.ofNat i), .ref a]) 3 rfl ?_
      refine f_iast rfl ga2 (i := i) hi2 (by omega) ?_
      refine f_go (pc1 := 5) (lv1 := [(2, .int ((Int32.ofNat i) + 1)), (3, .int (Int32.ofNat n)), (0, .ref a), (1, .int x)]) (st1 := []) 2 rfl ?_
      rw [nat_s i, sI1_twice]
      have hf : upd (fun j => if j < i then x else f j) i x = fun j => if j < i + 1 then x else f j := by
        funext j
        by_cases h1 : j = i
        · simp [upd, h1]
        · by_cases h2 : j < i
          · simp [upd, h1, h2, Nat.lt_succ_of_lt h2]
          · simp [upd, h1, h2, show ¬ j < i + 1 by omega]
      rw [hf]
      exact ih (i + 1) (by omega)
  have h0 := key n 0 (by omega)
  rw [show (fun j => if j < 0 then x else f j) = f by funext j; simp, sI1_same ga] at h0
  exact f_lv _ (fl_c rfl (fl_c rfl (fl_c rfl (fl_c rfl fl_0)))) h0
theorem g_modelOf {X : ev_X} {d : Nat} {σ : fl_S} (hd : 3 ≤ d) {a ah ac am nn sN : Nat} {HE CH : Nat → Int32} {MO : Nat → Option Nat} {lk : Nat → Bool} {ks : List Nat} (hnn : nn < 2147483648) (ca : sC σ 4 a = true) (hs : sF σ a 142 = .int (Int32.ofNat sN)) (hsn : sN < nn) (gh : sI σ ah = some (nn, HE)) (gc : sI σ ac = some (nn, CH)) (gm : sR σ am = some (3, nn, MO)) (hk : mo_ch CH nn (HE sN) ks) (hl : ks.length ≤ nn)
    (hlk : ∀ m ∈ ks, ∃ b, MO m = some b ∧ CF X (d - 1) 90 [.ref b, .ref a] σ (some (.int (if lk m then 1 else 0))) σ) : CF X d 89 [.ref a, .ref ah, .ref ac, .ref am] σ (some (.int (mo_r (ks.find? lk)))) σ := by
  refine f_meth (by omega) rfl ?_
  refine f_go (pc1 := 2) (lv1 := [(0, .ref a), (1, .ref ah), (2, .ref ac), (3, .ref am)]) (st1 := [.ref a, .ref ah]) 2 rfl ?_
  refine f_getf rfl rfl (g := 142) rfl ca hs ?_
  refine f_iald rfl gh (i := sN) hsn (by omega) rfl ?_
  refine f_go (pc1 := 11) (lv1 := [(5, .int 0), (4, .int (HE sN)), (0, .ref a), (1, .ref ah), (2, .ref ac), (3, .ref am)]) (st1 := []) 3 rfl ?_
  generalize HE sN = k at hk ⊢
  have key : ∀ (ks : List Nat) (k : Int32) (i : Nat), mo_ch CH nn k ks → i + ks.length ≤ nn → (∀ m ∈ ks, ∃ b, MO m = some b ∧ CF X (d - 1) 90 [.ref b, .ref a] σ (some (.int (if lk m then 1 else 0))) σ) → EF X (d - 1) 89 11 [(5, .int (Int32.ofNat i)), (4, .int k), (0, .ref a), (1, .ref ah), (2, .ref ac), (3, .ref am)] [] σ (some (.int (mo_r (ks.find? lk)))) σ := by
    intro ks
    induction ks with
    | nil =>
      intro k i hk hl hlk
      have hk : k = -1 := hk
      subst hk
      cases hc : ev_ic .ge (Int32.ofNat i) (Int32.ofNat nn) with
      | true =>
        refine f_go (pc1 := 14) (lv1 := [(5, .int (Int32.ofNat i)), (4, .int (-1)), (0, .ref a), (1, .ref ah), (2, .ref ac), (3, .ref am)]) (st1 := [.ref am, .int (Int32.ofNat i)]) 2 rfl ?_
        refine f_alR rfl gm rfl ?_
        refine f_icmp (t := 47) rfl rfl true hc ?_
        refine f_go (pc1 := 49) (lv1 := [(5, .int (Int32.ofNat i)), (4, .int (-1)), (0, .ref a), (1, .ref ah), (2, .ref ac), (3, .ref am)]) (st1 := [.int (-1)]) 1 rfl ?_
        exact f_rt rfl rfl
      | false =>
        refine f_go (pc1 := 14) (lv1 := [(5, .int (Int32.ofNat i)), (4, .int (-1)), (0, .ref a), (1, .ref ah), (2, .ref ac), (3, .ref am)]) (st1 := [.ref am, .int (Int32.ofNat i)]) 2 rfl ?_
        refine f_alR rfl gm rfl ?_
        refine f_icmp (t := 47) rfl rfl false hc ?_
        refine f_go (pc1 := 49) (lv1 := [(5, .int (Int32.ofNat i)), (4, .int (-1)), (0, .ref a), (1, .ref ah), (2, .ref ac), (3, .ref am)]) (st1 := [.int (-1)]) 4 rfl ?_
        exact f_rt rfl rfl
    | cons m r ih =>
      intro k i hk hl hlk
      obtain ⟨hk1, hk2, hk3⟩ := hk
      subst hk1
      obtain ⟨b, hb, hC⟩ := hlk m List.mem_cons_self
      have hl2 : i + (r.length + 1) ≤ nn := hl
      have ih := ih (CH m) (i + 1) hk3 (by omega) (fun m hm => hlk m (List.mem_cons_of_mem _ hm))
      refine f_go (pc1 := 14) (lv1 := [(5, .int (Int32.ofNat i)), (4, .int (Int32.ofNat m)), (0, .ref a), (1, .ref ah), (2, .ref ac), (3, .ref am)]) (st1 := [.ref am, .int (Int32.ofNat i)]) 2 rfl ?_
      refine f_alR rfl gm rfl ?_
      refine f_icmp (t := 47) rfl rfl false (nat_lt (by omega) hnn (by omega)) ?_
      refine f_go (pc1 := 21) (lv1 := [(5, .int (Int32.ofNat i)), (4, .int (Int32.ofNat m)), (0, .ref a), (1, .ref ah), (2, .ref ac), (3, .ref am)]) (st1 := [.int (-1), .int (Int32.ofNat m)]) 2 rfl ?_
      refine f_icmp (t := 47) rfl rfl false (nat_ne (by omega)) ?_
      refine f_go (pc1 := 27) (lv1 := [(5, .int (Int32.ofNat i)), (4, .int (Int32.ofNat m)), (0, .ref a), (1, .ref ah), (2, .ref ac), (3, .ref am)]) (st1 := [.int (Int32.ofNat m), .ref am]) 2 rfl ?_
      refine f_aald rfl gm (i := m) (o := (some b)) rfl hk2 (by omega) hb ?_
      show EF _ _ 89 28 [(5, .int (Int32.ofNat i)), (4, .int (Int32.ofNat m)), (0, .ref a), (1, .ref ah), (2, .ref ac), (3, .ref am)] [.ref b] _ _ _
      refine f_go (pc1 := 29) (lv1 := [(5, .int (Int32.ofNat i)), (4, .int (Int32.ofNat m)), (0, .ref a), (1, .ref ah), (2, .ref ac), (3, .ref am)]) (st1 := [.ref a, .ref b]) 1 rfl ?_
      refine f_st rfl rfl rfl rfl hC ?_
      cases hm : lk m with
      | true =>
        rw [show (m :: r).find? lk = some m by simp [hm]]
        refine f_ifc (t := 47) rfl rfl true rfl ?_
        refine f_go (pc1 := 49) (lv1 := [(5, .int (Int32.ofNat i)), (4, .int (Int32.ofNat m)), (0, .ref a), (1, .ref ah), (2, .ref ac), (3, .ref am)]) (st1 := [.int (Int32.ofNat m)]) 1 rfl ?_
        exact f_rt rfl rfl
      | false =>
        rw [show (m :: r).find? lk = r.find? lk by simp [hm]]
        refine f_ifc (t := 47) rfl rfl false rfl ?_
        refine f_go (pc1 := 38) (lv1 := [(5, .int (Int32.ofNat i)), (4, .int (Int32.ofNat m)), (0, .ref a), (1, .ref ah), (2, .ref ac), (3, .ref am)]) (st1 := [.int (Int32.ofNat m), .ref ac]) 2 rfl ?_
        refine f_iald rfl gc (i := m) hk2 (by omega) rfl ?_
        refine f_go (pc1 := 11) (lv1 := [(5, .int ((Int32.ofNat i) + 1)), (4, .int (CH m)), (0, .ref a), (1, .ref ah), (2, .ref ac), (3, .ref am)]) (st1 := []) 3 rfl ?_
        rw [nat_s i]
        exact ih
  exact key ks k 0 hk (by omega) hlk
