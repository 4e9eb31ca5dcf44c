/-! the models of a shape, one after the other -/
theorem nat_n {m : Nat} (h : m < 2147483648) : q_n (Int32.ofNat m) = m := by
  show m % 4294967296 = m
  omega
theorem nat_c {m : Nat} (h : m < 2147483648) : (Int32.ofNat m).toNatClampNeg = m := by
  have h1 : q_ix (Int32.ofNat m) (m + 1) = true := by
    unfold q_ix
    rw [nat_n h, Bool.and_eq_true]
    exact ⟨Nat.ble_eq.mpr (by omega), Nat.ble_eq.mpr (Nat.le_refl _)⟩
  rw [(q_ix_ok h1).2, nat_n h]
theorem nat_ix {m n : Nat} (h : m < 2147483648) (hn : m < n) : ev_ix (Int32.ofNat m) n = true := by
  have h1 : q_ix (Int32.ofNat m) n = true := by
    unfold q_ix
    rw [nat_n h, Bool.and_eq_true]
    exact ⟨Nat.ble_eq.mpr (by omega), Nat.ble_eq.mpr hn⟩
  exact (q_ix_ok h1).1
theorem nat_i {m : Nat} (h : m < 2147483648) : (Int32.ofNat m).toInt = m := by
  have h1 := q_n_int (Int32.ofNat m)
  rw [nat_n h, if_pos h] at h1
  exact h1.symm
theorem nat_lt {m n : Nat} (hm : m < 2147483648) (hn : n < 2147483648) (h : m < n) : ev_ic .ge (Int32.ofNat m) (Int32.ofNat n) = false := by
  have h1 : Int32.ofNat m < Int32.ofNat n := by rw [Int32.lt_iff_toInt_lt, nat_i hm, nat_i hn]; omega
  simp [ev_ic, h1]
theorem nat_ne {m : Nat} (hm : m < 2147483648) : ev_ic .eq (Int32.ofNat m) (-1) = false := by
  have h1 : ¬ Int32.ofNat m = -1 := fun e => by
    have := congrArg Int32.toInt e
    rw [nat_i hm, show (-1 : Int32).toInt = -1 from rfl] at this
    omega
  simp [ev_ic, h1]
theorem nat_s (m : Nat) : Int32.ofNat m + 1 = Int32.ofNat (m + 1) := by
  rw [Int32.ofNat_add]; rfl
def mo_ch (CH : Nat → Int32) (nn : Nat) : Int32 → List Nat → Prop
  | k, [] => k = -1
  | k, m :: r => k = Int32.ofNat m ∧ m < nn ∧ mo_ch CH nn (CH m) r
def mo_r (o : Option Nat) : Int32 := match o with
  | some m => Int32.ofNat m
  | none => -1
theorem t_modelOf {X : ev_X} {d : Nat} {t : ev_T} {sz a ah ac am nn sN : Nat} {fa : List Value} {HE CH : Nat → Int32} {MO : Nat → Option Nat} {lk : Nat → Bool} {ks : List Nat} (hnn : nn < 2147483648) (ga : ev_g t a = some (.inr (4, fa))) (hs : ev_nth fa 14 = some (.int (Int32.ofNat sN))) (hsn : sN < nn) (gh : ev_g t ah = some (.inl (0, nn, .inl HE))) (gc : ev_g t ac = some (.inl (0, nn, .inl CH))) (gm : ev_g t am = some (.inl (3, nn, .inr (.inr (.inr (.inr MO)))))) (hk : mo_ch CH nn (HE sN) ks) (hl : ks.length ≤ nn)
    (hlk : ∀ m ∈ ks, ∃ b, MO m = some b ∧ Cd X d 90 [.ref b, .ref a] sz t (some (.int (if lk m then 1 else 0))) (sz, t, 0, 0)) : Cd X (d + 1) 89 [.ref a, .ref ah, .ref ac, .ref am] sz t (some (.int (mo_r (ks.find? lk)))) (sz, t, 0, 0) := by
  refine e_meth rfl ?_
  refine e_go (pc1 := 2) (lv1 := [(0, .ref a), (1, .ref ah), (2, .ref ac), (3, .ref am)]) (st1 := [.ref a, .ref ah]) 2 rfl ?_
  refine e_getf rfl ga hs ?_
  refine e_iald rfl gh (nat_ix (by omega) hsn) ?_
  rw [nat_c (by omega : sN < 2147483648)]
  refine e_go (pc1 := 11) (lv1 := [(5, .int 0), (4, .int (HE sN)), (0, .ref a), (1, .ref ah), (2, .ref ac), (3, .ref am)]) (st1 := []) 3 rfl ?_
  generalize HE sN = k at hk ⊢
  have key : ∀ (ks : List Nat) (k : Int32) (i : Nat), mo_ch CH nn k ks → i + ks.length ≤ nn → (∀ m ∈ ks, ∃ b, MO m = some b ∧ Cd X d 90 [.ref b, .ref a] sz t (some (.int (if lk m then 1 else 0))) (sz, t, 0, 0)) → EE X d 89 11 [(5, .int (Int32.ofNat i)), (4, .int k), (0, .ref a), (1, .ref ah), (2, .ref ac), (3, .ref am)] [] (sz, t, 0, 0) (some (.int (mo_r (ks.find? lk)))) (sz, t, 0, 0) := by
    intro ks
    induction ks with
    | nil =>
      intro k i hk hl hlk
      have hk : k = -1 := hk
      subst hk
      refine e_go (pc1 := 14) (lv1 := [(5, .int (Int32.ofNat i)), (4, .int (-1)), (0, .ref a), (1, .ref ah), (2, .ref ac), (3, .ref am)]) (st1 := [.ref am, .int (Int32.ofNat i)]) 2 rfl ?_
      refine e_alen rfl gm rfl ?_
      cases hc : ev_ic .ge (Int32.ofNat i) (Int32.ofNat nn) with
      | true =>
        refine e_icmp (t := 47) rfl rfl true hc ?_
        refine e_go (pc1 := 49) (lv1 := [(5, .int (Int32.ofNat i)), (4, .int (-1)), (0, .ref a), (1, .ref ah), (2, .ref ac), (3, .ref am)]) (st1 := [.int (-1)]) 1 rfl ?_
        exact e_rt rfl rfl
      | false =>
        refine e_icmp (t := 47) rfl rfl false hc ?_
        refine e_go (pc1 := 49) (lv1 := [(5, .int (Int32.ofNat i)), (4, .int (-1)), (0, .ref a), (1, .ref ah), (2, .ref ac), (3, .ref am)]) (st1 := [.int (-1)]) 4 rfl ?_
        exact e_rt rfl rfl
    | cons m r ih =>
      intro k i hk hl hlk
      obtain ⟨hk1, hk2, hk3⟩ := hk
      subst hk1
      obtain ⟨b, hb, hC⟩ := hlk m List.mem_cons_self
      have hl2 : i + (r.length + 1) ≤ nn := hl
      have ih := ih (CH m) (i + 1) hk3 (by omega) (fun m hm => hlk m (List.mem_cons_of_mem _ hm))
      refine e_go (pc1 := 14) (lv1 := [(5, .int (Int32.ofNat i)), (4, .int (Int32.ofNat m)), (0, .ref a), (1, .ref ah), (2, .ref ac), (3, .ref am)]) (st1 := [.ref am, .int (Int32.ofNat i)]) 2 rfl ?_
      refine e_alen rfl gm rfl ?_
      refine e_icmp (t := 47) rfl rfl false (nat_lt (by omega) hnn (by omega)) ?_
      refine e_go (pc1 := 21) (lv1 := [(5, .int (Int32.ofNat i)), (4, .int (Int32.ofNat m)), (0, .ref a), (1, .ref ah), (2, .ref ac), (3, .ref am)]) (st1 := [.int (-1), .int (Int32.ofNat m)]) 2 rfl ?_
      refine e_icmp (t := 47) rfl rfl false (nat_ne (by omega)) ?_
      refine e_go (pc1 := 27) (lv1 := [(5, .int (Int32.ofNat i)), (4, .int (Int32.ofNat m)), (0, .ref a), (1, .ref ah), (2, .ref ac), (3, .ref am)]) (st1 := [.int (Int32.ofNat m), .ref am]) 2 rfl ?_
      refine e_aald rfl gm rfl (nat_ix (by omega) hk2) ?_
      rw [nat_c (by omega : m < 2147483648), hb]
      refine e_go (pc1 := 29) (lv1 := [(5, .int (Int32.ofNat i)), (4, .int (Int32.ofNat m)), (0, .ref a), (1, .ref ah), (2, .ref ac), (3, .ref am)]) (st1 := [.ref a, .ref b]) 1 rfl ?_
      refine e_st rfl rfl rfl rfl hC ?_
      cases hm : lk m with
      | true =>
        rw [show (m :: r).find? lk = some m by simp [hm]]
        refine e_ifc (t := 47) rfl rfl true rfl ?_
        refine e_go (pc1 := 49) (lv1 := [(5, .int (Int32.ofNat i)), (4, .int (Int32.ofNat m)), (0, .ref a), (1, .ref ah), (2, .ref ac), (3, .ref am)]) (st1 := [.int (Int32.ofNat m)]) 1 rfl ?_
        exact e_rt rfl rfl
      | false =>
        rw [show (m :: r).find? lk = r.find? lk by simp [hm]]
        refine e_ifc (t := 47) rfl rfl false rfl ?_
        refine e_go (pc1 := 38) (lv1 := [(5, .int (Int32.ofNat i)), (4, .int (Int32.ofNat m)), (0, .ref a), (1, .ref ah), (2, .ref ac), (3, .ref am)]) (st1 := [.int (Int32.ofNat m), .ref ac]) 2 rfl ?_
        refine e_iald rfl gc (nat_ix (by omega) hk2) ?_
        rw [nat_c (by omega : m < 2147483648)]
        refine e_go (pc1 := 11) (lv1 := [(5, .int ((Int32.ofNat i) + 1)), (4, .int (CH m)), (0, .ref a), (1, .ref ah), (2, .ref ac), (3, .ref am)]) (st1 := []) 3 rfl ?_
        rw [nat_s i]
        exact ih
  exact key ks k 0 hk (by omega) hlk
