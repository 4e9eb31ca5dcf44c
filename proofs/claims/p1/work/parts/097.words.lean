def ws_cm_nameOf : List Cond := .code yX13_nameOf cX13_nameOf 5 (some .int) :: ([.fieldLink RX13 276 "LevelUnitsModel" "names" "I", .fieldLink RX13 33 "LevelUnitsModel" "nameFrom" "[I", .fieldLink RX13 279 "LevelUnitsModel" "lettered" "I", .fieldLink RX13 36 "LevelUnitsModel" "nameSize" "[I", .fieldLink RX13 39 "LevelUnitsModel" "letters" "[B"] ++ wsX130)
theorem in_cm_nameOf_RX13 : ∀ w ∈ wsX130, w ∈ ws_cm_nameOf := fun _ h => List.mem_cons_of_mem _ (List.mem_append_right _ h)
set_option maxHeartbeats 4000000 in
set_option maxRecDepth 100000 in
theorem cm_nameOf (l : Launch) (dC : Nat → ClassId) (dI : Nat → Nat → Nat) (h0 : Nat) (F : Nat → Value) (qf : Nat) (qs : Nat) (ql : Nat) (cqf : ClassId) (cqs : ClassId) (cql : ClassId) (fqf : Nat → Int32) (fqs : Nat → Int32) (fql : Nat → Int32) (N : Nat) (L : Nat) (n : Nat) (sz : Nat) (hq12 : F 12 = .int (nI N)) (hq16 : F 16 = .int (nI L)) (hq13 : F 13 = .ref qf) (hq14 : F 14 = .ref qs) (hq15 : F 15 = .ref ql) (hN : N < 6000) (hL : L + n ≤ 6600) (hinv : ∀ j : Nat, j < N → ∃ a b : Nat, fqf j = nI a ∧ fqs j = nI b ∧ a + b ≤ L) : Met l yX13_nameOf ws_cm_nameOf ({ frames := 0, cells := 0, slots := 0, locals := 0 }) (va_Pc [.ref h0, .int (nI n)] (fun U => U.heap.size = sz ∧ va_P (dC, dI) vwCl [(h0, .inr (15, fl 134 F)), (qf, .inl (cqf, 6000, .inl fqf)), (qs, .inl (cqs, 6000, .inl fqs)), (ql, .inl (cql, 6600, .inl fql))] U.heap ∧ va_K (dC, dI) vwCl [(cqf, .int), (cqs, .int), (cql, .byte)] U ∧ va_D (fun _ => True) [(h0, .inr (15, fl 134 F)), (qf, .inl (cqf, 6000, .inl fqf)), (qs, .inl (cqs, 6000, .inl fqs)), (ql, .inl (cql, 6600, .inl fql))])) (va_Qi (fun (r : Int32) (_ : Unit) => True) (fun _ t => ∃ F_a : Nat → Value, ∃ N_a : Nat, ∃ N_b : Nat, ∃ f_a : Nat → Int32, ∃ f_b : Nat → Int32, F_a 12 = .int (nI N_a) ∧ F_a 13 = .ref qf ∧ F_a 14 = .ref qs ∧ F_a 15 = .ref ql ∧ F_a 16 = .int (nI N_b) ∧ (∀ j : Nat, j ≠ 12 ∧ j ≠ 16 → F_a j = F j) ∧ (N_a ≤ N + 1) ∧ (N_b ≤ L + n) ∧ (∀ j : Nat, j < N_a → ∃ a b : Nat, f_a j = nI a ∧ f_b j = nI b ∧ a + b ≤ N_b) ∧ va_P (dC, dI) vwCl [(h0, .inr (15, fl 134 F_a)), (qf, .inl (cqf, 6000, .inl f_a)), (qs, .inl (cqs, 6000, .inl f_b)), (ql, .inl (cql, 6600, .inl fql))] t.heap ∧ va_K (dC, dI) vwCl [(cqf, .int), (cqs, .int), (cql, .byte)] t ∧ va_D (va_A [(h0, .inr (15, fl 134 F)), (qf, .inl (cqf, 6000, .inl fqf)), (qs, .inl (cqs, 6000, .inl fqs)), (ql, .inl (cql, 6600, .inl fql))] sz) [(h0, .inr (15, fl 134 F_a)), (qf, .inl (cqf, 6000, .inl f_a)), (qs, .inl (cqs, 6000, .inl f_b)), (ql, .inl (cql, 6600, .inl fql))]) (va_A [(h0, .inr (15, fl 134 F)), (qf, .inl (cqf, 6000, .inl fqf)), (qs, .inl (cqs, 6000, .inl fqs)), (ql, .inl (cql, 6600, .inl fql))] sz)) 0 0 (va_A [(h0, .inr (15, fl 134 F)), (qf, .inl (cqf, 6000, .inl fqf)), (qs, .inl (cqs, 6000, .inl fqs)), (ql, .inl (cql, 6600, .inl fql))] sz) := by
  refine Met.ofW (cc := cX13_nameOf) (maxL := 5) (ret := (some .int)) (by decide) rfl ?_
  intro p e s m args below meth c s₁ B hml hv
  obtain ⟨rfl, hsz, hP, hK, hD0⟩ := hv
  have hx := B.exec
  have hb := B.bytes
  have hr := B.returns
  have hts := atoms_spec (ws := ws_cm_nameOf) B.pre
  have hown : s.vm.findClass RX13 = some m.cls := findClass_of_methodNamed B.named
  have hlocks := B.notSynchronized
  subst hsz
  have hD := hD0.self (sz := s.heap.size)
  generalize hAe : va_A [(h0, .inr (15, fl 134 F)), (qf, .inl (cqf, 6000, .inl fqf)), (qs, .inl (cqs, 6000, .inl fqs)), (ql, .inl (cql, 6600, .inl fql))] s.heap.size = A at hD ⊢
  have hA : ∀ q : Nat, s.heap.size ≤ q → A q := fun q h => by rw [← hAe]; exact Or.inr h
  have hS : va_S A s.heap s.heap [] := va_S.rf
  have hP : va_P (dC, dI) vwCl [(h0, .inr (15, fl 134 F)), (qf, .inl (cqf, 6000, .inl fqf)), (qs, .inl (cqs, 6000, .inl fqs)), (ql, .inl (cql, 6600, .inl fql))] s.heap := hP
  have hl := lv_entry ([.ref h0, .int (nI n)]) (n := 5) (Nat.le_of_ble_eq_true rfl)
  rw [lg_entry_eq]
  generalize (lg_sl ([.ref h0, .int (nI n)]) ++ List.replicate (5 - (lg_sl ([.ref h0, .int (nI n)])).length) Slot.unset).toArray = ls at hl ⊢
  have hl : lv_has ls 5 [(0, .ref h0), (1, .int (nI n))] := hl
  refine lv_iconst (v := 0) hx hb dX13_nameOf_0 (by decide) ?_
  refine lv_istore_n (lv' := [(2, .int 0), (0, .ref h0), (1, .int (nI n))]) hx hb dX13_nameOf_1 rfl hl (by decide) rfl (fun ls hl => ?_)
  refine w_loop (V := (Nat)) (P := (fun k9 H locs ls => (k9 ≤ N) ∧ va_P (dC, dI) vwCl [(h0, .inr (15, fl 134 F)), (qf, .inl (cqf, 6000, .inl fqf)), (qs, .inl (cqs, 6000, .inl fqs)), (ql, .inl (cql, 6600, .inl fql))] H ∧ va_D A [(h0, .inr (15, fl 134 F)), (qf, .inl (cqf, 6000, .inl fqf)), (qs, .inl (cqs, 6000, .inl fqs)), (ql, .inl (cql, 6600, .inl fql))] ∧ va_S A s.heap H locs ∧ lv_has ls 5 [(2, .int (nI k9)), (0, .ref h0), (1, .int (nI n))])) (μ := fun k9 => N - k9) ?_ 0 ⟨(by omega), hP, hD, hS, lv_sub hl [0, 1, 2] rfl⟩
  rintro k9 ih H locs ls ⟨h9k, hP, hD, hS, hl⟩
  have hP : va_P (dC, dI) vwCl [(h0, .inr (15, fl 134 F)), (qf, .inl (cqf, 6000, .inl fqf)), (qs, .inl (cqs, 6000, .inl fqs)), (ql, .inl (cql, 6600, .inl fql))] H := hP
  have hD : va_D A [(h0, .inr (15, fl 134 F)), (qf, .inl (cqf, 6000, .inl fqf)), (qs, .inl (cqs, 6000, .inl fqs)), (ql, .inl (cql, 6600, .inl fql))] := hD
  have hl : lv_has ls 5 [(2, .int (nI k9)), (0, .ref h0), (1, .int (nI n))] := hl
  have ih_1 := ih
  refine lv_iload_n hx hb dX13_nameOf_2 rfl (lv_at hl 0 rfl) ?_
  refine lv_aload_n hx hb dX13_nameOf_3 rfl (lv_at hl 1 rfl) ?_
  refine va_get (D := (dC, dI)) (ci := 15) (v := .int (nI N)) (C := RX13) (T := TX13) (N := 134) hx hb hts in_cm_nameOf_RX13 hown hK hP 0 rfl rfl 12 (by decide) (hts (.fieldLink RX13 276 "LevelUnitsModel" "names" "I") (List.mem_of_getElem? (i := 1) rfl)) (fun _ h9 => h9) (fl_get (by decide) hq12) dX13_nameOf_4 ?_
  refine lv_icmp_ge (tgt := 92) hx hb dX13_nameOf_7 (by decide) (fun c_2 => ?_) (fun c_2 => ?_)
  · skip
    have c_2 : N ≤ k9 := (nI_leI (a := N) (b := k9) (by omega) (by omega)).mp c_2
    refine lv_aload_n hx hb dX13_nameOf_92 rfl (lv_at hl 1 rfl) ?_
    refine va_get (D := (dC, dI)) (ci := 15) (v := .ref qf) (C := RX13) (T := TX13) (N := 134) hx hb hts in_cm_nameOf_RX13 hown hK hP 0 rfl rfl 13 (by decide) (hts (.fieldLink RX13 33 "LevelUnitsModel" "nameFrom" "[I") (List.mem_of_getElem? (i := 2) rfl)) (fun _ h9 => h9) (fl_get (by decide) hq13) dX13_nameOf_93 ?_
    refine lv_aload_n hx hb dX13_nameOf_96 rfl (lv_at hl 1 rfl) ?_
    refine va_get (D := (dC, dI)) (ci := 15) (v := .int (nI N)) (C := RX13) (T := TX13) (N := 134) hx hb hts in_cm_nameOf_RX13 hown hK hP 0 rfl rfl 12 (by decide) (hts (.fieldLink RX13 276 "LevelUnitsModel" "names" "I") (List.mem_of_getElem? (i := 1) rfl)) (fun _ h9 => h9) (fl_get (by decide) hq12) dX13_nameOf_97 ?_
    refine lv_aload_n hx hb dX13_nameOf_100 rfl (lv_at hl 1 rfl) ?_
    refine va_get (D := (dC, dI)) (ci := 15) (v := .int (nI L)) (C := RX13) (T := TX13) (N := 134) hx hb hts in_cm_nameOf_RX13 hown hK hP 0 rfl rfl 16 (by decide) (hts (.fieldLink RX13 279 "LevelUnitsModel" "lettered" "I") (List.mem_of_getElem? (i := 3) rfl)) (fun _ h9 => h9) (fl_get (by decide) hq16) dX13_nameOf_101 ?_
    refine va_iast hx hb hK hP hD hS 1 0 rfl rfl (i := nI N) (vp_in_nI (by omega) (by omega)) dX13_nameOf_104 (fun H locs hP hD hS => ?_)
    obtain ⟨f_3, ef_3⟩ : ∃ z, z = upd fqf (Int32.toNatClampNeg (nI N)) (nI L) := ⟨_, rfl⟩
    rw [← ef_3] at hP hD
    rw [nI_clamp (by omega)] at ef_3
    have hP : va_P (dC, dI) vwCl [(h0, .inr (15, fl 134 F)), (qf, .inl (cqf, 6000, .inl f_3)), (qs, .inl (cqs, 6000, .inl fqs)), (ql, .inl (cql, 6600, .inl fql))] H := hP
    have hD : va_D A [(h0, .inr (15, fl 134 F)), (qf, .inl (cqf, 6000, .inl f_3)), (qs, .inl (cqs, 6000, .inl fqs)), (ql, .inl (cql, 6600, .inl fql))] := hD
    refine lv_aload_n hx hb dX13_nameOf_105 rfl (lv_at hl 1 rfl) ?_
    refine va_get (D := (dC, dI)) (ci := 15) (v := .ref qs) (C := RX13) (T := TX13) (N := 134) hx hb hts in_cm_nameOf_RX13 hown hK hP 0 rfl rfl 14 (by decide) (hts (.fieldLink RX13 36 "LevelUnitsModel" "nameSize" "[I") (List.mem_of_getElem? (i := 4) rfl)) (fun _ h9 => h9) (fl_get (by decide) hq14) dX13_nameOf_106 ?_
    refine lv_aload_n hx hb dX13_nameOf_109 rfl (lv_at hl 1 rfl) ?_
    refine va_get (D := (dC, dI)) (ci := 15) (v := .int (nI N)) (C := RX13) (T := TX13) (N := 134) hx hb hts in_cm_nameOf_RX13 hown hK hP 0 rfl rfl 12 (by decide) (hts (.fieldLink RX13 276 "LevelUnitsModel" "names" "I") (List.mem_of_getElem? (i := 1) rfl)) (fun _ h9 => h9) (fl_get (by decide) hq12) dX13_nameOf_110 ?_
    refine lv_iload_n hx hb dX13_nameOf_113 rfl (lv_at hl 2 rfl) ?_
    refine va_iast hx hb hK hP hD hS 2 1 rfl rfl (i := nI N) (vp_in_nI (by omega) (by omega)) dX13_nameOf_114 (fun H locs hP hD hS => ?_)
    obtain ⟨f_4, ef_4⟩ : ∃ z, z = upd fqs (Int32.toNatClampNeg (nI N)) (nI n) := ⟨_, rfl⟩
    rw [← ef_4] at hP hD
    rw [nI_clamp (by omega)] at ef_4
    have hP : va_P (dC, dI) vwCl [(h0, .inr (15, fl 134 F)), (qf, .inl (cqf, 6000, .inl f_3)), (qs, .inl (cqs, 6000, .inl f_4)), (ql, .inl (cql, 6600, .inl fql))] H := hP
    have hD : va_D A [(h0, .inr (15, fl 134 F)), (qf, .inl (cqf, 6000, .inl f_3)), (qs, .inl (cqs, 6000, .inl f_4)), (ql, .inl (cql, 6600, .inl fql))] := hD
    refine lv_aload_n hx hb dX13_nameOf_115 rfl (lv_at hl 1 rfl) ?_
    refine lv_dup hx hb dX13_nameOf_116 rfl ?_
    refine va_get (D := (dC, dI)) (ci := 15) (v := .int (nI L)) (C := RX13) (T := TX13) (N := 134) hx hb hts in_cm_nameOf_RX13 hown hK hP 0 rfl rfl 16 (by decide) (hts (.fieldLink RX13 279 "LevelUnitsModel" "lettered" "I") (List.mem_of_getElem? (i := 3) rfl)) (fun _ h9 => h9) (fl_get (by decide) hq16) dX13_nameOf_117 ?_
    refine lv_iload_n hx hb dX13_nameOf_120 rfl (lv_at hl 2 rfl) ?_
    refine lv_iadd hx hb dX13_nameOf_121 ?_
    refine lv_topi (fun x_5 ex_5 => ?_)
    have ex_5 : x_5 = nI (L + n) := ex_5.trans (nI_add L n)
    subst ex_5
    refine va_put (D := (dC, dI)) (ci := 15) (v := .int (nI (L + n))) (ty := .int) (C := RX13) (T := TX13) (N := 134) hx hb hts in_cm_nameOf_RX13 tyX13 tyX13_ok nmX13 hown hK hP hD hS 0 rfl rfl 16 (by decide) (hts (.fieldLink RX13 279 "LevelUnitsModel" "lettered" "I") (List.mem_of_getElem? (i := 3) rfl)) (fun _ h9 => h9) rfl (by decide +kernel) rfl rfl (fl_lt (by decide)) dX13_nameOf_122 (fun H locs hP hD hS => ?_)
    obtain ⟨F_6, eF_6⟩ : ∃ z, z = fu F 16 (.int (nI (L + n))) := ⟨_, rfl⟩
    have hP : va_P (dC, dI) vwCl [(h0, .inr (15, fl 134 F_6)), (qf, .inl (cqf, 6000, .inl f_3)), (qs, .inl (cqs, 6000, .inl f_4)), (ql, .inl (cql, 6600, .inl fql))] H := by rw [eF_6, ← fl_set (n := 134) (k := 16) (by decide)]; exact hP
    have hD : va_D A [(h0, .inr (15, fl 134 F_6)), (qf, .inl (cqf, 6000, .inl f_3)), (qs, .inl (cqs, 6000, .inl f_4)), (ql, .inl (cql, 6600, .inl fql))] := by rw [eF_6, ← fl_set (n := 134) (k := 16) (by decide)]; exact hD
    have hfr_7 : ∀ j : Nat, j ≠ 16 → F_6 j = F j := fun j hj => (fu_out eF_6 (by omega))
    have hk_8 : F_6 12 = .int (nI N) := (fu_ne eF_6 (by decide) hq12)
    have hk_9 : F_6 13 = .ref qf := (fu_ne eF_6 (by decide) hq13)
    have hk_10 : F_6 14 = .ref qs := (fu_ne eF_6 (by decide) hq14)
    have hk_11 : F_6 15 = .ref ql := (fu_ne eF_6 (by decide) hq15)
    have hk_12 : F_6 16 = .int (nI (L + n)) := (fu_eq eF_6)
    refine lv_aload_n hx hb dX13_nameOf_125 rfl (lv_at hl 1 rfl) ?_
    refine lv_dup hx hb dX13_nameOf_126 rfl ?_
    refine va_get (D := (dC, dI)) (ci := 15) (v := .int (nI N)) (C := RX13) (T := TX13) (N := 134) hx hb hts in_cm_nameOf_RX13 hown hK hP 0 rfl rfl 12 (by decide) (hts (.fieldLink RX13 276 "LevelUnitsModel" "names" "I") (List.mem_of_getElem? (i := 1) rfl)) (fun _ h9 => h9) (fl_get (by decide) hk_8) dX13_nameOf_127 ?_
    refine lv_iconst (v := 1) hx hb dX13_nameOf_130 (by decide) ?_
    refine lv_iadd hx hb dX13_nameOf_131 ?_
    refine lv_topi (fun x_13 ex_13 => ?_)
    have ex_13 : x_13 = nI (N + 1) := ex_13.trans (nI_add N 1)
    subst ex_13
    refine va_put (D := (dC, dI)) (ci := 15) (v := .int (nI (N + 1))) (ty := .int) (C := RX13) (T := TX13) (N := 134) hx hb hts in_cm_nameOf_RX13 tyX13 tyX13_ok nmX13 hown hK hP hD hS 0 rfl rfl 12 (by decide) (hts (.fieldLink RX13 276 "LevelUnitsModel" "names" "I") (List.mem_of_getElem? (i := 1) rfl)) (fun _ h9 => h9) rfl (by decide +kernel) rfl rfl (fl_lt (by decide)) dX13_nameOf_132 (fun H locs hP hD hS => ?_)
    obtain ⟨F_14, eF_14⟩ : ∃ z, z = fu F_6 12 (.int (nI (N + 1))) := ⟨_, rfl⟩
    have hP : va_P (dC, dI) vwCl [(h0, .inr (15, fl 134 F_14)), (qf, .inl (cqf, 6000, .inl f_3)), (qs, .inl (cqs, 6000, .inl f_4)), (ql, .inl (cql, 6600, .inl fql))] H := by rw [eF_14, ← fl_set (n := 134) (k := 12) (by decide)]; exact hP
    have hD : va_D A [(h0, .inr (15, fl 134 F_14)), (qf, .inl (cqf, 6000, .inl f_3)), (qs, .inl (cqs, 6000, .inl f_4)), (ql, .inl (cql, 6600, .inl fql))] := by rw [eF_14, ← fl_set (n := 134) (k := 12) (by decide)]; exact hD
    have hfr_15 : ∀ j : Nat, j ≠ 12 ∧ j ≠ 16 → F_14 j = F j := fun j hj => (fu_out eF_14 (by omega)).trans (hfr_7 j (by omega))
    have hk_16 : F_14 13 = .ref qf := (fu_ne eF_14 (by decide) hk_9)
    have hk_17 : F_14 14 = .ref qs := (fu_ne eF_14 (by decide) hk_10)
    have hk_18 : F_14 15 = .ref ql := (fu_ne eF_14 (by decide) hk_11)
    have hk_19 : F_14 16 = .int (nI (L + n)) := (fu_ne eF_14 (by decide) hk_12)
    have hk_20 : F_14 12 = .int (nI (N + 1)) := (fu_eq eF_14)
    refine lv_aload_n hx hb dX13_nameOf_135 rfl (lv_at hl 1 rfl) ?_
    refine va_get (D := (dC, dI)) (ci := 15) (v := .int (nI (N + 1))) (C := RX13) (T := TX13) (N := 134) hx hb hts in_cm_nameOf_RX13 hown hK hP 0 rfl rfl 12 (by decide) (hts (.fieldLink RX13 276 "LevelUnitsModel" "names" "I") (List.mem_of_getElem? (i := 1) rfl)) (fun _ h9 => h9) (fl_get (by decide) hk_20) dX13_nameOf_136 ?_
    refine lv_iconst (v := 1) hx hb dX13_nameOf_139 (by decide) ?_
    refine lv_isub hx hb dX13_nameOf_140 ?_
    refine lv_topi (fun x_21 ex_21 => ?_)
    obtain ⟨N_22, eN_22⟩ : ∃ z, z = (N + 1) := ⟨_, rfl⟩
    obtain ⟨N_23, eN_23⟩ : ∃ z, z = (L + n) := ⟨_, rfl⟩
    have hP : va_P (dC, dI) vwCl [(h0, .inr (15, fl 134 F_14)), (qf, .inl (cqf, 6000, .inl f_3)), (qs, .inl (cqs, 6000, .inl f_4)), (ql, .inl (cql, 6600, .inl fql))] H := by exact hP
    have hD : va_D A [(h0, .inr (15, fl 134 F_14)), (qf, .inl (cqf, 6000, .inl f_3)), (qs, .inl (cqs, 6000, .inl f_4)), (ql, .inl (cql, 6600, .inl fql))] := by exact hD
    have hP9 := hP.sub (ws' := [(h0, .inr (15, fl 134 F_14)), (qf, .inl (cqf, 6000, .inl f_3)), (qs, .inl (cqs, 6000, .inl f_4)), (ql, .inl (cql, 6600, .inl fql))]) [0, 1, 2, 3] rfl
    have hD9 := hD.sub (ws' := [(h0, .inr (15, fl 134 F_14)), (qf, .inl (cqf, 6000, .inl f_3)), (qs, .inl (cqs, 6000, .inl f_4)), (ql, .inl (cql, 6600, .inl fql))]) [0, 1, 2, 3] (by decide) rfl
    have hK9 := hK.sub (tys' := [(cqf, .int), (cqs, .int), (cql, .byte)]) [0, 1, 2] rfl
    refine W.widen (k := 0) (n := 0) (Nat.le_of_ble_eq_true rfl) (Nat.le_of_ble_eq_true rfl) ?_
    exact W.iret (v := x_21) hx hb hr (fun t ht hW => ⟨⟨x_21, (), rfl, trivial, F_14, N_22, N_23, f_3, f_4, (by rw [eN_22]; exact hk_20), hk_16, hk_17, hk_18, (by rw [eN_23]; exact hk_19), hfr_15, (by omega), (by omega), (fun j hj => by by_cases h9 : j = N; exact ⟨L, n, by rw [ef_3, h9]; simp [upd], by rw [ef_4, h9]; simp [upd], by omega⟩; obtain ⟨a, b, h1, h2, h3⟩ := hinv j (by omega); exact ⟨a, b, by rw [ef_3]; simp [upd, h9, h1], by rw [ef_4]; simp [upd, h9, h2], by omega⟩), by rw [ht]; exact hP9, va_K.moved hW.alike hK9, hD9⟩, hS.F ht⟩) hS.2.2 dX13_nameOf_141
  · skip
    have c_2 : ¬ (N ≤ k9) := fun h9 => c_2 ((nI_leI (a := N) (b := k9) (by omega) (by omega)).mpr h9)
    refine lv_aload_n hx hb dX13_nameOf_10 rfl (lv_at hl 1 rfl) ?_
    refine va_get (D := (dC, dI)) (ci := 15) (v := .ref qs) (C := RX13) (T := TX13) (N := 134) hx hb hts in_cm_nameOf_RX13 hown hK hP 0 rfl rfl 14 (by decide) (hts (.fieldLink RX13 36 "LevelUnitsModel" "nameSize" "[I") (List.mem_of_getElem? (i := 4) rfl)) (fun _ h9 => h9) (fl_get (by decide) hq14) dX13_nameOf_11 ?_
    refine lv_iload_n hx hb dX13_nameOf_14 rfl (lv_at hl 0 rfl) ?_
    refine va_iald hx hb hK hP 2 1 rfl rfl (i := nI k9) (vp_in_nI (by omega) (by omega)) dX13_nameOf_15 ?_
    refine lv_topi (fun x_24 ex_24 => ?_)
    rw [nI_clamp (by omega)] at ex_24
    obtain ⟨a9, b9, hfa9, hfb9, hab9⟩ := hinv k9 (by omega)
    have ex_24 : x_24 = nI b9 := ex_24.trans hfb9
    subst ex_24
    refine lv_iload_n hx hb dX13_nameOf_16 rfl (lv_at hl 2 rfl) ?_
    refine lv_icmp_ne (tgt := 24) hx hb dX13_nameOf_17 (by decide) (fun c_25 => ?_) (fun c_25 => ?_)
    · skip
      have c_25 : ¬ (b9 = n) := fun h9 => c_25 ((nI_eq (a := b9) (b := n) (by omega) (by omega)).mpr h9)
      refine lv_iconst (v := 0) hx hb dX13_nameOf_24 (by decide) ?_
      refine lv_istore_n (lv' := [(3, .int 0), (2, .int (nI k9)), (0, .ref h0), (1, .int (nI n))]) hx hb dX13_nameOf_25 rfl hl (by decide) rfl (fun ls hl => ?_)
      refine lv_iconst (v := 0) hx hb dX13_nameOf_26 (by decide) ?_
      refine lv_istore (lv' := [(4, .int 0), (3, .int 0), (2, .int (nI k9)), (0, .ref h0), (1, .int (nI n))]) hx hb dX13_nameOf_27 hl (by decide) rfl (fun ls hl => ?_)
      refine w_loop (V := (Int32) × (Nat)) (P := (fun ⟨t9, i9⟩ H locs ls => (i9 ≤ n) ∧ (t9 = 0 ∨ b9 = n) ∧ va_P (dC, dI) vwCl [(h0, .inr (15, fl 134 F)), (qf, .inl (cqf, 6000, .inl fqf)), (qs, .inl (cqs, 6000, .inl fqs)), (ql, .inl (cql, 6600, .inl fql))] H ∧ va_D A [(h0, .inr (15, fl 134 F)), (qf, .inl (cqf, 6000, .inl fqf)), (qs, .inl (cqs, 6000, .inl fqs)), (ql, .inl (cql, 6600, .inl fql))] ∧ va_S A s.heap H locs ∧ lv_has ls 5 [(4, .int (nI i9)), (3, .int t9), (2, .int (nI k9)), (0, .ref h0), (1, .int (nI n))])) (μ := fun ⟨t9, i9⟩ => n - i9) ?_ (0, 0) ⟨(by omega), (Or.inl rfl), hP, hD, hS, lv_sub hl [0, 1, 2, 3, 4] rfl⟩
      rintro ⟨t9, i9⟩ ih H locs ls ⟨h9i, h9t, hP, hD, hS, hl⟩
      have hP : va_P (dC, dI) vwCl [(h0, .inr (15, fl 134 F)), (qf, .inl (cqf, 6000, .inl fqf)), (qs, .inl (cqs, 6000, .inl fqs)), (ql, .inl (cql, 6600, .inl fql))] H := hP
      have hD : va_D A [(h0, .inr (15, fl 134 F)), (qf, .inl (cqf, 6000, .inl fqf)), (qs, .inl (cqs, 6000, .inl fqs)), (ql, .inl (cql, 6600, .inl fql))] := hD
      have hl : lv_has ls 5 [(4, .int (nI i9)), (3, .int t9), (2, .int (nI k9)), (0, .ref h0), (1, .int (nI n))] := hl
      have ih_26 := ih
      refine lv_iload_n hx hb dX13_nameOf_29 rfl (lv_at hl 1 rfl) ?_
      refine lv_if_eq (tgt := 80) hx hb dX13_nameOf_30 (by decide) (fun c_27 => ?_) (fun c_27 => ?_)
      · skip
        refine lv_iload_n hx hb dX13_nameOf_80 rfl (lv_at hl 1 rfl) ?_
        refine lv_if_eq (tgt := 86) hx hb dX13_nameOf_81 (by decide) (fun c_28 => ?_) (fun c_28 => ?_)
        · skip
          refine lv_iinc (v := nI (k9 + 1)) (lv' := [(2, .int (nI (k9 + 1))), (4, .int (nI i9)), (3, .int t9), (0, .ref h0), (1, .int (nI n))]) hx hb dX13_nameOf_86 hl (k := 2) rfl (nI_add k9 1) (by decide) rfl (fun ls hl => ?_)
          refine lv_goto (tgt := 2) hx hb dX13_nameOf_89 (by decide) ?_
          refine ih_1 ((k9 + 1)) ?_ _ _ _ ⟨(by omega), hP, hD, hS, lv_sub hl [0, 3, 4] rfl⟩
          show N - (k9 + 1) < N - k9
          omega
        · skip
          refine lv_iload_n hx hb dX13_nameOf_84 rfl (lv_at hl 2 rfl) ?_
          have hfr_29 : ∀ j : Nat, j ≠ 12 ∧ j ≠ 16 → F j = F j := fun _ _ => rfl
          obtain ⟨F_30, eF_30⟩ : ∃ z, z = F := ⟨_, rfl⟩
          have hfr_31 : ∀ j : Nat, j ≠ 12 ∧ j ≠ 16 → F_30 j = F j := fun j hj => (congrFun eF_30 j).trans (hfr_29 j hj)
          obtain ⟨f_32, ef_32⟩ : ∃ z, z = fqf := ⟨_, rfl⟩
          obtain ⟨f_33, ef_33⟩ : ∃ z, z = fqs := ⟨_, rfl⟩
          obtain ⟨N_34, eN_34⟩ : ∃ z, z = N := ⟨_, rfl⟩
          obtain ⟨N_35, eN_35⟩ : ∃ z, z = L := ⟨_, rfl⟩
          have hP : va_P (dC, dI) vwCl [(h0, .inr (15, fl 134 F_30)), (qf, .inl (cqf, 6000, .inl f_32)), (qs, .inl (cqs, 6000, .inl f_33)), (ql, .inl (cql, 6600, .inl fql))] H := by rw [eF_30, ef_32, ef_33]; exact hP
          have hD : va_D A [(h0, .inr (15, fl 134 F_30)), (qf, .inl (cqf, 6000, .inl f_32)), (qs, .inl (cqs, 6000, .inl f_33)), (ql, .inl (cql, 6600, .inl fql))] := by rw [eF_30, ef_32, ef_33]; exact hD
          have hP9 := hP.sub (ws' := [(h0, .inr (15, fl 134 F_30)), (qf, .inl (cqf, 6000, .inl f_32)), (qs, .inl (cqs, 6000, .inl f_33)), (ql, .inl (cql, 6600, .inl fql))]) [0, 1, 2, 3] rfl
          have hD9 := hD.sub (ws' := [(h0, .inr (15, fl 134 F_30)), (qf, .inl (cqf, 6000, .inl f_32)), (qs, .inl (cqs, 6000, .inl f_33)), (ql, .inl (cql, 6600, .inl fql))]) [0, 1, 2, 3] (by decide) rfl
          have hK9 := hK.sub (tys' := [(cqf, .int), (cqs, .int), (cql, .byte)]) [0, 1, 2] rfl
          refine W.widen (k := 0) (n := 0) (Nat.le_of_ble_eq_true rfl) (Nat.le_of_ble_eq_true rfl) ?_
          exact W.iret (v := nI k9) hx hb hr (fun t ht hW => ⟨⟨nI k9, (), rfl, trivial, F_30, N_34, N_35, f_32, f_33, (by rw [eN_34]; exact (by rw [eF_30]; exact hq12)), (by rw [eF_30]; exact hq13), (by rw [eF_30]; exact hq14), (by rw [eF_30]; exact hq15), (by rw [eN_35]; exact (by rw [eF_30]; exact hq16)), hfr_31, (by omega), (by omega), (fun j hj => by rw [ef_32, ef_33, eN_35]; exact hinv j (by omega)), by rw [ht]; exact hP9, va_K.moved hW.alike hK9, hD9⟩, hS.F ht⟩) hS.2.2 dX13_nameOf_85
      · skip
        have hb9 : b9 = n := h9t.resolve_left c_27
        refine lv_iload hx hb dX13_nameOf_33 (lv_at hl 0 rfl) ?_
        refine lv_iload_n hx hb dX13_nameOf_35 rfl (lv_at hl 4 rfl) ?_
        refine lv_icmp_ge (tgt := 80) hx hb dX13_nameOf_36 (by decide) (fun c_36 => ?_) (fun c_36 => ?_)
        · skip
          have c_36 : n ≤ i9 := (nI_leI (a := n) (b := i9) (by omega) (by omega)).mp c_36
          refine lv_iload_n hx hb dX13_nameOf_80 rfl (lv_at hl 1 rfl) ?_
          refine lv_if_eq (tgt := 86) hx hb dX13_nameOf_81 (by decide) (fun c_37 => ?_) (fun c_37 => ?_)
          · skip
            refine lv_iinc (v := nI (k9 + 1)) (lv' := [(2, .int (nI (k9 + 1))), (4, .int (nI i9)), (3, .int t9), (0, .ref h0), (1, .int (nI n))]) hx hb dX13_nameOf_86 hl (k := 2) rfl (nI_add k9 1) (by decide) rfl (fun ls hl => ?_)
            refine lv_goto (tgt := 2) hx hb dX13_nameOf_89 (by decide) ?_
            refine ih_1 ((k9 + 1)) ?_ _ _ _ ⟨(by omega), hP, hD, hS, lv_sub hl [0, 3, 4] rfl⟩
            show N - (k9 + 1) < N - k9
            omega
          · skip
            refine lv_iload_n hx hb dX13_nameOf_84 rfl (lv_at hl 2 rfl) ?_
            have hfr_38 : ∀ j : Nat, j ≠ 12 ∧ j ≠ 16 → F j = F j := fun _ _ => rfl
            obtain ⟨F_39, eF_39⟩ : ∃ z, z = F := ⟨_, rfl⟩
            have hfr_40 : ∀ j : Nat, j ≠ 12 ∧ j ≠ 16 → F_39 j = F j := fun j hj => (congrFun eF_39 j).trans (hfr_38 j hj)
            obtain ⟨f_41, ef_41⟩ : ∃ z, z = fqf := ⟨_, rfl⟩
            obtain ⟨f_42, ef_42⟩ : ∃ z, z = fqs := ⟨_, rfl⟩
            obtain ⟨N_43, eN_43⟩ : ∃ z, z = N := ⟨_, rfl⟩
            obtain ⟨N_44, eN_44⟩ : ∃ z, z = L := ⟨_, rfl⟩
            have hP : va_P (dC, dI) vwCl [(h0, .inr (15, fl 134 F_39)), (qf, .inl (cqf, 6000, .inl f_41)), (qs, .inl (cqs, 6000, .inl f_42)), (ql, .inl (cql, 6600, .inl fql))] H := by rw [eF_39, ef_41, ef_42]; exact hP
            have hD : va_D A [(h0, .inr (15, fl 134 F_39)), (qf, .inl (cqf, 6000, .inl f_41)), (qs, .inl (cqs, 6000, .inl f_42)), (ql, .inl (cql, 6600, .inl fql))] := by rw [eF_39, ef_41, ef_42]; exact hD
            have hP9 := hP.sub (ws' := [(h0, .inr (15, fl 134 F_39)), (qf, .inl (cqf, 6000, .inl f_41)), (qs, .inl (cqs, 6000, .inl f_42)), (ql, .inl (cql, 6600, .inl fql))]) [0, 1, 2, 3] rfl
            have hD9 := hD.sub (ws' := [(h0, .inr (15, fl 134 F_39)), (qf, .inl (cqf, 6000, .inl f_41)), (qs, .inl (cqs, 6000, .inl f_42)), (ql, .inl (cql, 6600, .inl fql))]) [0, 1, 2, 3] (by decide) rfl
            have hK9 := hK.sub (tys' := [(cqf, .int), (cqs, .int), (cql, .byte)]) [0, 1, 2] rfl
            refine W.widen (k := 0) (n := 0) (Nat.le_of_ble_eq_true rfl) (Nat.le_of_ble_eq_true rfl) ?_
            exact W.iret (v := nI k9) hx hb hr (fun t ht hW => ⟨⟨nI k9, (), rfl, trivial, F_39, N_43, N_44, f_41, f_42, (by rw [eN_43]; exact (by rw [eF_39]; exact hq12)), (by rw [eF_39]; exact hq13), (by rw [eF_39]; exact hq14), (by rw [eF_39]; exact hq15), (by rw [eN_44]; exact (by rw [eF_39]; exact hq16)), hfr_40, (by omega), (by omega), (fun j hj => by rw [ef_41, ef_42, eN_44]; exact hinv j (by omega)), by rw [ht]; exact hP9, va_K.moved hW.alike hK9, hD9⟩, hS.F ht⟩) hS.2.2 dX13_nameOf_85
        · skip
          have c_36 : ¬ (n ≤ i9) := fun h9 => c_36 ((nI_leI (a := n) (b := i9) (by omega) (by omega)).mpr h9)
          refine lv_aload_n hx hb dX13_nameOf_39 rfl (lv_at hl 3 rfl) ?_
          refine va_get (D := (dC, dI)) (ci := 15) (v := .ref ql) (C := RX13) (T := TX13) (N := 134) hx hb hts in_cm_nameOf_RX13 hown hK hP 0 rfl rfl 15 (by decide) (hts (.fieldLink RX13 39 "LevelUnitsModel" "letters" "[B") (List.mem_of_getElem? (i := 5) rfl)) (fun _ h9 => h9) (fl_get (by decide) hq15) dX13_nameOf_40 ?_
          refine lv_aload_n hx hb dX13_nameOf_43 rfl (lv_at hl 3 rfl) ?_
          refine va_get (D := (dC, dI)) (ci := 15) (v := .ref qf) (C := RX13) (T := TX13) (N := 134) hx hb hts in_cm_nameOf_RX13 hown hK hP 0 rfl rfl 13 (by decide) (hts (.fieldLink RX13 33 "LevelUnitsModel" "nameFrom" "[I") (List.mem_of_getElem? (i := 2) rfl)) (fun _ h9 => h9) (fl_get (by decide) hq13) dX13_nameOf_44 ?_
          refine lv_iload_n hx hb dX13_nameOf_47 rfl (lv_at hl 2 rfl) ?_
          refine va_iald hx hb hK hP 1 0 rfl rfl (i := nI k9) (vp_in_nI (by omega) (by omega)) dX13_nameOf_48 ?_
          refine lv_topi (fun x_45 ex_45 => ?_)
          rw [nI_clamp (by omega)] at ex_45
          have ex_45 : x_45 = nI a9 := ex_45.trans hfa9
          subst ex_45
          refine lv_iload hx hb dX13_nameOf_49 (lv_at hl 0 rfl) ?_
          refine lv_iadd hx hb dX13_nameOf_51 ?_
          refine lv_topi (fun x_46 ex_46 => ?_)
          have ex_46 : x_46 = nI (a9 + i9) := ex_46.trans (nI_add a9 i9)
          subst ex_46
          refine va_bald hx hb hK hP 3 2 rfl rfl (i := nI (a9 + i9)) (vp_in_nI (by omega) (by omega)) dX13_nameOf_52 ?_
          refine lv_topi (fun x_47 ex_47 => ?_)
          rw [nI_clamp (by omega)] at ex_47
          refine lv_aload_n hx hb dX13_nameOf_53 rfl (lv_at hl 3 rfl) ?_
          refine va_get (D := (dC, dI)) (ci := 15) (v := .ref ql) (C := RX13) (T := TX13) (N := 134) hx hb hts in_cm_nameOf_RX13 hown hK hP 0 rfl rfl 15 (by decide) (hts (.fieldLink RX13 39 "LevelUnitsModel" "letters" "[B") (List.mem_of_getElem? (i := 5) rfl)) (fun _ h9 => h9) (fl_get (by decide) hq15) dX13_nameOf_54 ?_
          refine lv_aload_n hx hb dX13_nameOf_57 rfl (lv_at hl 3 rfl) ?_
          refine va_get (D := (dC, dI)) (ci := 15) (v := .int (nI L)) (C := RX13) (T := TX13) (N := 134) hx hb hts in_cm_nameOf_RX13 hown hK hP 0 rfl rfl 16 (by decide) (hts (.fieldLink RX13 279 "LevelUnitsModel" "lettered" "I") (List.mem_of_getElem? (i := 3) rfl)) (fun _ h9 => h9) (fl_get (by decide) hq16) dX13_nameOf_58 ?_
          refine lv_iload hx hb dX13_nameOf_61 (lv_at hl 0 rfl) ?_
          refine lv_iadd hx hb dX13_nameOf_63 ?_
          refine lv_topi (fun x_48 ex_48 => ?_)
          have ex_48 : x_48 = nI (L + i9) := ex_48.trans (nI_add L i9)
          subst ex_48
          refine va_bald hx hb hK hP 3 2 rfl rfl (i := nI (L + i9)) (vp_in_nI (by omega) (by omega)) dX13_nameOf_64 ?_
          refine lv_topi (fun x_49 ex_49 => ?_)
          rw [nI_clamp (by omega)] at ex_49
          refine lv_icmp_ne (tgt := 72) hx hb dX13_nameOf_65 (by decide) (fun c_50 => ?_) (fun c_50 => ?_)
          · skip
            refine lv_iconst (v := 0) hx hb dX13_nameOf_72 (by decide) ?_
            refine lv_istore_n (lv' := [(3, .int 0), (4, .int (nI i9)), (2, .int (nI k9)), (0, .ref h0), (1, .int (nI n))]) hx hb dX13_nameOf_73 rfl hl (by decide) rfl (fun ls hl => ?_)
            refine lv_iinc (v := nI (i9 + 1)) (lv' := [(4, .int (nI (i9 + 1))), (3, .int 0), (2, .int (nI k9)), (0, .ref h0), (1, .int (nI n))]) hx hb dX13_nameOf_74 hl (k := 1) rfl (nI_add i9 1) (by decide) rfl (fun ls hl => ?_)
            refine lv_goto (tgt := 29) hx hb dX13_nameOf_77 (by decide) ?_
            refine ih_26 (0, (i9 + 1)) ?_ _ _ _ ⟨(by omega), (Or.inl rfl), hP, hD, hS, lv_sub hl [0, 1, 2, 3, 4] rfl⟩
            show n - (i9 + 1) < n - i9
            omega
          · skip
            refine lv_iconst (v := 1) hx hb dX13_nameOf_68 (by decide) ?_
            refine lv_goto (tgt := 73) hx hb dX13_nameOf_69 (by decide) ?_
            refine lv_istore_n (lv' := [(3, .int 1), (4, .int (nI i9)), (2, .int (nI k9)), (0, .ref h0), (1, .int (nI n))]) hx hb dX13_nameOf_73 rfl hl (by decide) rfl (fun ls hl => ?_)
            refine lv_iinc (v := nI (i9 + 1)) (lv' := [(4, .int (nI (i9 + 1))), (3, .int 1), (2, .int (nI k9)), (0, .ref h0), (1, .int (nI n))]) hx hb dX13_nameOf_74 hl (k := 1) rfl (nI_add i9 1) (by decide) rfl (fun ls hl => ?_)
            refine lv_goto (tgt := 29) hx hb dX13_nameOf_77 (by decide) ?_
            refine ih_26 (1, (i9 + 1)) ?_ _ _ _ ⟨(by omega), (Or.inr (by omega)), hP, hD, hS, lv_sub hl [0, 1, 2, 3, 4] rfl⟩
            show n - (i9 + 1) < n - i9
            omega
    · skip
      have c_25 : b9 = n := (nI_eq (a := b9) (b := n) (by omega) (by omega)).mp c_25
      refine lv_iconst (v := 1) hx hb dX13_nameOf_20 (by decide) ?_
      refine lv_goto (tgt := 25) hx hb dX13_nameOf_21 (by decide) ?_
      refine lv_istore_n (lv' := [(3, .int 1), (2, .int (nI k9)), (0, .ref h0), (1, .int (nI n))]) hx hb dX13_nameOf_25 rfl hl (by decide) rfl (fun ls hl => ?_)
      refine lv_iconst (v := 0) hx hb dX13_nameOf_26 (by decide) ?_
      refine lv_istore (lv' := [(4, .int 0), (3, .int 1), (2, .int (nI k9)), (0, .ref h0), (1, .int (nI n))]) hx hb dX13_nameOf_27 hl (by decide) rfl (fun ls hl => ?_)
      refine w_loop (V := (Int32) × (Nat)) (P := (fun ⟨t9, i9⟩ H locs ls => (i9 ≤ n) ∧ (t9 = 0 ∨ b9 = n) ∧ va_P (dC, dI) vwCl [(h0, .inr (15, fl 134 F)), (qf, .inl (cqf, 6000, .inl fqf)), (qs, .inl (cqs, 6000, .inl fqs)), (ql, .inl (cql, 6600, .inl fql))] H ∧ va_D A [(h0, .inr (15, fl 134 F)), (qf, .inl (cqf, 6000, .inl fqf)), (qs, .inl (cqs, 6000, .inl fqs)), (ql, .inl (cql, 6600, .inl fql))] ∧ va_S A s.heap H locs ∧ lv_has ls 5 [(4, .int (nI i9)), (3, .int t9), (2, .int (nI k9)), (0, .ref h0), (1, .int (nI n))])) (μ := fun ⟨t9, i9⟩ => n - i9) ?_ (1, 0) ⟨(by omega), (Or.inr (by omega)), hP, hD, hS, lv_sub hl [0, 1, 2, 3, 4] rfl⟩
      rintro ⟨t9, i9⟩ ih H locs ls ⟨h9i, h9t, hP, hD, hS, hl⟩
      have hP : va_P (dC, dI) vwCl [(h0, .inr (15, fl 134 F)), (qf, .inl (cqf, 6000, .inl fqf)), (qs, .inl (cqs, 6000, .inl fqs)), (ql, .inl (cql, 6600, .inl fql))] H := hP
      have hD : va_D A [(h0, .inr (15, fl 134 F)), (qf, .inl (cqf, 6000, .inl fqf)), (qs, .inl (cqs, 6000, .inl fqs)), (ql, .inl (cql, 6600, .inl fql))] := hD
      have hl : lv_has ls 5 [(4, .int (nI i9)), (3, .int t9), (2, .int (nI k9)), (0, .ref h0), (1, .int (nI n))] := hl
      have ih_51 := ih
      refine lv_iload_n hx hb dX13_nameOf_29 rfl (lv_at hl 1 rfl) ?_
      refine lv_if_eq (tgt := 80) hx hb dX13_nameOf_30 (by decide) (fun c_52 => ?_) (fun c_52 => ?_)
      · skip
        refine lv_iload_n hx hb dX13_nameOf_80 rfl (lv_at hl 1 rfl) ?_
        refine lv_if_eq (tgt := 86) hx hb dX13_nameOf_81 (by decide) (fun c_53 => ?_) (fun c_53 => ?_)
        · skip
          refine lv_iinc (v := nI (k9 + 1)) (lv' := [(2, .int (nI (k9 + 1))), (4, .int (nI i9)), (3, .int t9), (0, .ref h0), (1, .int (nI n))]) hx hb dX13_nameOf_86 hl (k := 2) rfl (nI_add k9 1) (by decide) rfl (fun ls hl => ?_)
          refine lv_goto (tgt := 2) hx hb dX13_nameOf_89 (by decide) ?_
          refine ih_1 ((k9 + 1)) ?_ _ _ _ ⟨(by omega), hP, hD, hS, lv_sub hl [0, 3, 4] rfl⟩
          show N - (k9 + 1) < N - k9
          omega
        · skip
          refine lv_iload_n hx hb dX13_nameOf_84 rfl (lv_at hl 2 rfl) ?_
          have hfr_54 : ∀ j : Nat, j ≠ 12 ∧ j ≠ 16 → F j = F j := fun _ _ => rfl
          obtain ⟨F_55, eF_55⟩ : ∃ z, z = F := ⟨_, rfl⟩
          have hfr_56 : ∀ j : Nat, j ≠ 12 ∧ j ≠ 16 → F_55 j = F j := fun j hj => (congrFun eF_55 j).trans (hfr_54 j hj)
          obtain ⟨f_57, ef_57⟩ : ∃ z, z = fqf := ⟨_, rfl⟩
          obtain ⟨f_58, ef_58⟩ : ∃ z, z = fqs := ⟨_, rfl⟩
          obtain ⟨N_59, eN_59⟩ : ∃ z, z = N := ⟨_, rfl⟩
          obtain ⟨N_60, eN_60⟩ : ∃ z, z = L := ⟨_, rfl⟩
          have hP : va_P (dC, dI) vwCl [(h0, .inr (15, fl 134 F_55)), (qf, .inl (cqf, 6000, .inl f_57)), (qs, .inl (cqs, 6000, .inl f_58)), (ql, .inl (cql, 6600, .inl fql))] H := by rw [eF_55, ef_57, ef_58]; exact hP
          have hD : va_D A [(h0, .inr (15, fl 134 F_55)), (qf, .inl (cqf, 6000, .inl f_57)), (qs, .inl (cqs, 6000, .inl f_58)), (ql, .inl (cql, 6600, .inl fql))] := by rw [eF_55, ef_57, ef_58]; exact hD
          have hP9 := hP.sub (ws' := [(h0, .inr (15, fl 134 F_55)), (qf, .inl (cqf, 6000, .inl f_57)), (qs, .inl (cqs, 6000, .inl f_58)), (ql, .inl (cql, 6600, .inl fql))]) [0, 1, 2, 3] rfl
          have hD9 := hD.sub (ws' := [(h0, .inr (15, fl 134 F_55)), (qf, .inl (cqf, 6000, .inl f_57)), (qs, .inl (cqs, 6000, .inl f_58)), (ql, .inl (cql, 6600, .inl fql))]) [0, 1, 2, 3] (by decide) rfl
          have hK9 := hK.sub (tys' := [(cqf, .int), (cqs, .int), (cql, .byte)]) [0, 1, 2] rfl
          refine W.widen (k := 0) (n := 0) (Nat.le_of_ble_eq_true rfl) (Nat.le_of_ble_eq_true rfl) ?_
          exact W.iret (v := nI k9) hx hb hr (fun t ht hW => ⟨⟨nI k9, (), rfl, trivial, F_55, N_59, N_60, f_57, f_58, (by rw [eN_59]; exact (by rw [eF_55]; exact hq12)), (by rw [eF_55]; exact hq13), (by rw [eF_55]; exact hq14), (by rw [eF_55]; exact hq15), (by rw [eN_60]; exact (by rw [eF_55]; exact hq16)), hfr_56, (by omega), (by omega), (fun j hj => by rw [ef_57, ef_58, eN_60]; exact hinv j (by omega)), by rw [ht]; exact hP9, va_K.moved hW.alike hK9, hD9⟩, hS.F ht⟩) hS.2.2 dX13_nameOf_85
      · skip
        have hb9 : b9 = n := h9t.resolve_left c_52
        refine lv_iload hx hb dX13_nameOf_33 (lv_at hl 0 rfl) ?_
        refine lv_iload_n hx hb dX13_nameOf_35 rfl (lv_at hl 4 rfl) ?_
        refine lv_icmp_ge (tgt := 80) hx hb dX13_nameOf_36 (by decide) (fun c_61 => ?_) (fun c_61 => ?_)
        · skip
          have c_61 : n ≤ i9 := (nI_leI (a := n) (b := i9) (by omega) (by omega)).mp c_61
          refine lv_iload_n hx hb dX13_nameOf_80 rfl (lv_at hl 1 rfl) ?_
          refine lv_if_eq (tgt := 86) hx hb dX13_nameOf_81 (by decide) (fun c_62 => ?_) (fun c_62 => ?_)
          · skip
            refine lv_iinc (v := nI (k9 + 1)) (lv' := [(2, .int (nI (k9 + 1))), (4, .int (nI i9)), (3, .int t9), (0, .ref h0), (1, .int (nI n))]) hx hb dX13_nameOf_86 hl (k := 2) rfl (nI_add k9 1) (by decide) rfl (fun ls hl => ?_)
            refine lv_goto (tgt := 2) hx hb dX13_nameOf_89 (by decide) ?_
            refine ih_1 ((k9 + 1)) ?_ _ _ _ ⟨(by omega), hP, hD, hS, lv_sub hl [0, 3, 4] rfl⟩
            show N - (k9 + 1) < N - k9
            omega
          · skip
            refine lv_iload_n hx hb dX13_nameOf_84 rfl (lv_at hl 2 rfl) ?_
            have hfr_63 : ∀ j : Nat, j ≠ 12 ∧ j ≠ 16 → F j = F j := fun _ _ => rfl
            obtain ⟨F_64, eF_64⟩ : ∃ z, z = F := ⟨_, rfl⟩
            have hfr_65 : ∀ j : Nat, j ≠ 12 ∧ j ≠ 16 → F_64 j = F j := fun j hj => (congrFun eF_64 j).trans (hfr_63 j hj)
            obtain ⟨f_66, ef_66⟩ : ∃ z, z = fqf := ⟨_, rfl⟩
            obtain ⟨f_67, ef_67⟩ : ∃ z, z = fqs := ⟨_, rfl⟩
            obtain ⟨N_68, eN_68⟩ : ∃ z, z = N := ⟨_, rfl⟩
            obtain ⟨N_69, eN_69⟩ : ∃ z, z = L := ⟨_, rfl⟩
            have hP : va_P (dC, dI) vwCl [(h0, .inr (15, fl 134 F_64)), (qf, .inl (cqf, 6000, .inl f_66)), (qs, .inl (cqs, 6000, .inl f_67)), (ql, .inl (cql, 6600, .inl fql))] H := by rw [eF_64, ef_66, ef_67]; exact hP
            have hD : va_D A [(h0, .inr (15, fl 134 F_64)), (qf, .inl (cqf, 6000, .inl f_66)), (qs, .inl (cqs, 6000, .inl f_67)), (ql, .inl (cql, 6600, .inl fql))] := by rw [eF_64, ef_66, ef_67]; exact hD
            have hP9 := hP.sub (ws' := [(h0, .inr (15, fl 134 F_64)), (qf, .inl (cqf, 6000, .inl f_66)), (qs, .inl (cqs, 6000, .inl f_67)), (ql, .inl (cql, 6600, .inl fql))]) [0, 1, 2, 3] rfl
            have hD9 := hD.sub (ws' := [(h0, .inr (15, fl 134 F_64)), (qf, .inl (cqf, 6000, .inl f_66)), (qs, .inl (cqs, 6000, .inl f_67)), (ql, .inl (cql, 6600, .inl fql))]) [0, 1, 2, 3] (by decide) rfl
            have hK9 := hK.sub (tys' := [(cqf, .int), (cqs, .int), (cql, .byte)]) [0, 1, 2] rfl
            refine W.widen (k := 0) (n := 0) (Nat.le_of_ble_eq_true rfl) (Nat.le_of_ble_eq_true rfl) ?_
            exact W.iret (v := nI k9) hx hb hr (fun t ht hW => ⟨⟨nI k9, (), rfl, trivial, F_64, N_68, N_69, f_66, f_67, (by rw [eN_68]; exact (by rw [eF_64]; exact hq12)), (by rw [eF_64]; exact hq13), (by rw [eF_64]; exact hq14), (by rw [eF_64]; exact hq15), (by rw [eN_69]; exact (by rw [eF_64]; exact hq16)), hfr_65, (by omega), (by omega), (fun j hj => by rw [ef_66, ef_67, eN_69]; exact hinv j (by omega)), by rw [ht]; exact hP9, va_K.moved hW.alike hK9, hD9⟩, hS.F ht⟩) hS.2.2 dX13_nameOf_85
        · skip
          have c_61 : ¬ (n ≤ i9) := fun h9 => c_61 ((nI_leI (a := n) (b := i9) (by omega) (by omega)).mpr h9)
          refine lv_aload_n hx hb dX13_nameOf_39 rfl (lv_at hl 3 rfl) ?_
          refine va_get (D := (dC, dI)) (ci := 15) (v := .ref ql) (C := RX13) (T := TX13) (N := 134) hx hb hts in_cm_nameOf_RX13 hown hK hP 0 rfl rfl 15 (by decide) (hts (.fieldLink RX13 39 "LevelUnitsModel" "letters" "[B") (List.mem_of_getElem? (i := 5) rfl)) (fun _ h9 => h9) (fl_get (by decide) hq15) dX13_nameOf_40 ?_
          refine lv_aload_n hx hb dX13_nameOf_43 rfl (lv_at hl 3 rfl) ?_
          refine va_get (D := (dC, dI)) (ci := 15) (v := .ref qf) (C := RX13) (T := TX13) (N := 134) hx hb hts in_cm_nameOf_RX13 hown hK hP 0 rfl rfl 13 (by decide) (hts (.fieldLink RX13 33 "LevelUnitsModel" "nameFrom" "[I") (List.mem_of_getElem? (i := 2) rfl)) (fun _ h9 => h9) (fl_get (by decide) hq13) dX13_nameOf_44 ?_
          refine lv_iload_n hx hb dX13_nameOf_47 rfl (lv_at hl 2 rfl) ?_
          refine va_iald hx hb hK hP 1 0 rfl rfl (i := nI k9) (vp_in_nI (by omega) (by omega)) dX13_nameOf_48 ?_
          refine lv_topi (fun x_70 ex_70 => ?_)
          rw [nI_clamp (by omega)] at ex_70
          have ex_70 : x_70 = nI a9 := ex_70.trans hfa9
          subst ex_70
          refine lv_iload hx hb dX13_nameOf_49 (lv_at hl 0 rfl) ?_
          refine lv_iadd hx hb dX13_nameOf_51 ?_
          refine lv_topi (fun x_71 ex_71 => ?_)
          have ex_71 : x_71 = nI (a9 + i9) := ex_71.trans (nI_add a9 i9)
          subst ex_71
          refine va_bald hx hb hK hP 3 2 rfl rfl (i := nI (a9 + i9)) (vp_in_nI (by omega) (by omega)) dX13_nameOf_52 ?_
          refine lv_topi (fun x_72 ex_72 => ?_)
          rw [nI_clamp (by omega)] at ex_72
          refine lv_aload_n hx hb dX13_nameOf_53 rfl (lv_at hl 3 rfl) ?_
          refine va_get (D := (dC, dI)) (ci := 15) (v := .ref ql) (C := RX13) (T := TX13) (N := 134) hx hb hts in_cm_nameOf_RX13 hown hK hP 0 rfl rfl 15 (by decide) (hts (.fieldLink RX13 39 "LevelUnitsModel" "letters" "[B") (List.mem_of_getElem? (i := 5) rfl)) (fun _ h9 => h9) (fl_get (by decide) hq15) dX13_nameOf_54 ?_
          refine lv_aload_n hx hb dX13_nameOf_57 rfl (lv_at hl 3 rfl) ?_
          refine va_get (D := (dC, dI)) (ci := 15) (v := .int (nI L)) (C := RX13) (T := TX13) (N := 134) hx hb hts in_cm_nameOf_RX13 hown hK hP 0 rfl rfl 16 (by decide) (hts (.fieldLink RX13 279 "LevelUnitsModel" "lettered" "I") (List.mem_of_getElem? (i := 3) rfl)) (fun _ h9 => h9) (fl_get (by decide) hq16) dX13_nameOf_58 ?_
          refine lv_iload hx hb dX13_nameOf_61 (lv_at hl 0 rfl) ?_
          refine lv_iadd hx hb dX13_nameOf_63 ?_
          refine lv_topi (fun x_73 ex_73 => ?_)
          have ex_73 : x_73 = nI (L + i9) := ex_73.trans (nI_add L i9)
          subst ex_73
          refine va_bald hx hb hK hP 3 2 rfl rfl (i := nI (L + i9)) (vp_in_nI (by omega) (by omega)) dX13_nameOf_64 ?_
          refine lv_topi (fun x_74 ex_74 => ?_)
          rw [nI_clamp (by omega)] at ex_74
          refine lv_icmp_ne (tgt := 72) hx hb dX13_nameOf_65 (by decide) (fun c_75 => ?_) (fun c_75 => ?_)
          · skip
            refine lv_iconst (v := 0) hx hb dX13_nameOf_72 (by decide) ?_
            refine lv_istore_n (lv' := [(3, .int 0), (4, .int (nI i9)), (2, .int (nI k9)), (0, .ref h0), (1, .int (nI n))]) hx hb dX13_nameOf_73 rfl hl (by decide) rfl (fun ls hl => ?_)
            refine lv_iinc (v := nI (i9 + 1)) (lv' := [(4, .int (nI (i9 + 1))), (3, .int 0), (2, .int (nI k9)), (0, .ref h0), (1, .int (nI n))]) hx hb dX13_nameOf_74 hl (k := 1) rfl (nI_add i9 1) (by decide) rfl (fun ls hl => ?_)
            refine lv_goto (tgt := 29) hx hb dX13_nameOf_77 (by decide) ?_
            refine ih_51 (0, (i9 + 1)) ?_ _ _ _ ⟨(by omega), (Or.inl rfl), hP, hD, hS, lv_sub hl [0, 1, 2, 3, 4] rfl⟩
            show n - (i9 + 1) < n - i9
            omega
          · skip
            refine lv_iconst (v := 1) hx hb dX13_nameOf_68 (by decide) ?_
            refine lv_goto (tgt := 73) hx hb dX13_nameOf_69 (by decide) ?_
            refine lv_istore_n (lv' := [(3, .int 1), (4, .int (nI i9)), (2, .int (nI k9)), (0, .ref h0), (1, .int (nI n))]) hx hb dX13_nameOf_73 rfl hl (by decide) rfl (fun ls hl => ?_)
            refine lv_iinc (v := nI (i9 + 1)) (lv' := [(4, .int (nI (i9 + 1))), (3, .int 1), (2, .int (nI k9)), (0, .ref h0), (1, .int (nI n))]) hx hb dX13_nameOf_74 hl (k := 1) rfl (nI_add i9 1) (by decide) rfl (fun ls hl => ?_)
            refine lv_goto (tgt := 29) hx hb dX13_nameOf_77 (by decide) ?_
            refine ih_51 (1, (i9 + 1)) ?_ _ _ _ ⟨(by omega), (Or.inr (by omega)), hP, hD, hS, lv_sub hl [0, 1, 2, 3, 4] rfl⟩
            show n - (i9 + 1) < n - i9
            omega
def ws_cm_knowWords : List Cond := .code yX13_knowWords cX13_knowWords 4 none :: ([.fieldLink RX13 276 "LevelUnitsModel" "names" "I", .fieldLink RX13 279 "LevelUnitsModel" "lettered" "I", .fieldLink RJ0 9 "java/lang/String" "value" "[B", .fieldLink RJ0 38 "java/lang/String" "COMPACT_STRINGS" "Z", .fieldLink RJ0 15 "java/lang/String" "coder" "B", .code yJ0_coder_7d493 cJ0_coder_7d493 1 (some .byte), .methodLink RJ0 335 yJ0_coder_7d493, .instanceMethod yJ0_coder_7d493, .selects RJ0 yJ0_coder_7d493 yJ0_coder_7d493, .initialized RJ0, .code yJ0_length_8abf5 cJ0_length_8abf5 1 (some .int), .methodLink RX13 284 yJ0_length_8abf5, .instanceMethod yJ0_length_8abf5, .selects RJ0 yJ0_length_8abf5 yJ0_length_8abf5, .code yJ0_isLatin1_aae02 cJ0_isLatin1_aae02 1 (some .boolean), .methodLink RJ0 492 yJ0_isLatin1_aae02, .instanceMethod yJ0_isLatin1_aae02, .selects RJ0 yJ0_isLatin1_aae02 yJ0_isLatin1_aae02, .fieldLink RJ0 1053 "jdk/internal/util/Preconditions" "SIOOBE_FORMATTER" "Ljava/util/function/BiFunction;", .code yJ3_checkIndex_8e157 cJ3_checkIndex_8e157 3 (some .int), .methodLink RJ0 1059 yJ3_checkIndex_8e157, .static yJ3_checkIndex_8e157, .initialized RJ3, .code yJ0_checkIndex_df160 cJ0_checkIndex_df160 2 none, .methodLink RJ1 9 yJ0_checkIndex_df160, .static yJ0_checkIndex_df160, .code yJ1_charAt_3b067 cJ1_charAt_3b067 2 (some .char), .methodLink RJ0 495 yJ1_charAt_3b067, .static yJ1_charAt_3b067, .initialized RJ1, .code yJ0_charAt_5068e cJ0_charAt_5068e 2 (some .char), .methodLink RX13 290 yJ0_charAt_5068e, .instanceMethod yJ0_charAt_5068e, .selects RJ0 yJ0_charAt_5068e yJ0_charAt_5068e, .fieldLink RX13 39 "LevelUnitsModel" "letters" "[B", .fieldLink RX13 33 "LevelUnitsModel" "nameFrom" "[I", .fieldLink RX13 36 "LevelUnitsModel" "nameSize" "[I", .code yX13_nameOf cX13_nameOf 5 (some .int), .methodLink RX13 294 yX13_nameOf, .instanceMethod yX13_nameOf, .selects RX13 yX13_nameOf yX13_nameOf, .initialized RX13] ++ wsX130)
theorem in_cm_knowWords_RX13 : ∀ w ∈ wsX130, w ∈ ws_cm_knowWords := fun _ h => List.mem_cons_of_mem _ (List.mem_append_right _ h)
theorem g0_cm_knowWords_cj_length_284 : GoodIn ws_cm_knowWords ws_cj_length := goodIn_r _ [11, 3, 4, 5, 6, 7, 8, 9, 10] (by decide +kernel) (by decide +kernel)
theorem gg_cm_knowWords_cj_length_284 : GoodIn ws_cm_knowWords (wsV RX13 284 RJ0 yJ0_length_8abf5 ws_cj_length) := goodIn_app (goodIn_of _ (by decide +kernel)) g0_cm_knowWords_cj_length_284
theorem g0_cm_knowWords_cj_charAt_290 : GoodIn ws_cm_knowWords ws_cj_charAt := goodIn_r _ [31, 4, 5, 15, 16, 17, 18, 10, 3, 19, 20, 21, 22, 23, 24, 25, 26, 27, 28, 29, 30] (by decide +kernel) (by decide +kernel)
theorem gg_cm_knowWords_cj_charAt_290 : GoodIn ws_cm_knowWords (wsV RX13 290 RJ0 yJ0_charAt_5068e ws_cj_charAt) := goodIn_app (goodIn_of _ (by decide +kernel)) g0_cm_knowWords_cj_charAt_290
theorem g0_cm_knowWords_cm_nameOf_294 : GoodIn ws_cm_knowWords ws_cm_nameOf := goodIn_r _ [38, 1, 36, 2, 37, 35, 43, 44, 45, 46, 47, 48, 49, 50, 51, 52, 53, 54, 55, 56, 57, 58, 59, 60, 61, 62, 63, 64, 65, 66, 67, 68, 69, 70, 71, 72, 73, 74, 75, 76, 77, 78, 79, 80, 81, 82, 83, 84, 85, 86, 87, 88, 89, 90, 91, 92, 93, 94, 95, 96, 97, 98, 99, 100, 101, 102, 103, 104, 105, 106, 107, 108, 109, 110, 111, 112, 113, 114, 115, 116, 117, 118, 119, 120, 121, 122, 123, 124, 125, 126, 127, 128, 129, 130, 131, 132, 133, 134, 135, 136, 137, 138, 139, 140, 141, 142, 143, 144, 145, 146, 147, 148, 149, 150, 151, 152, 153, 154, 155, 156, 157, 158, 159, 160, 161, 162, 163, 164, 165, 166, 167, 168, 169, 170, 171, 172, 173, 174, 175, 176] (by decide +kernel) (by decide +kernel)
theorem gg_cm_knowWords_cm_nameOf_294 : GoodIn ws_cm_knowWords (wsV RX13 294 RX13 yX13_nameOf ws_cm_nameOf) := goodIn_app (goodIn_of _ (by decide +kernel)) g0_cm_knowWords_cm_nameOf_294
set_option maxHeartbeats 4000000 in
set_option maxRecDepth 100000 in
theorem cm_knowWords (l : Launch) (dC : Nat → ClassId) (dI : Nat → Nat → Nat) (h0 : Nat) (F : Nat → Value) (qf : Nat) (qs : Nat) (ql : Nat) (cqf : ClassId) (cqs : ClassId) (cql : ClassId) (fqf : Nat → Int32) (fqs : Nat → Int32) (fql : Nat → Int32) (q : Nat) (v : Nat) (f : Nat → Int32) (sz : Nat) (hq13 : F 13 = .ref qf) (hq14 : F 14 = .ref qs) (hq15 : F 15 = .ref ql) : Met l yX13_knowWords ws_cm_knowWords ({ frames := 4, cells := 0, slots := 0, locals := 85 }) (va_Pc [.ref h0] (fun U => U.heap.size = sz ∧ va_P (dC, dI) vwCl [(h0, .inr (15, fl 134 F)), (qf, .inl (cqf, 6000, .inl fqf)), (qs, .inl (cqs, 6000, .inl fqs)), (ql, .inl (cql, 6600, .inl fql))] U.heap ∧ va_K (dC, dI) vwCl [(cqf, .int), (cqs, .int), (cql, .byte)] U ∧ va_D (fun _ => True) [(h0, .inr (15, fl 134 F)), (qf, .inl (cqf, 6000, .inl fqf)), (qs, .inl (cqs, 6000, .inl fqs)), (ql, .inl (cql, 6600, .inl fql))] ∧ vk_R RX13 282 kwT q U ∧ ks q v 345 f (va_A [(h0, .inr (15, fl 134 F)), (qf, .inl (cqf, 6000, .inl fqf)), (qs, .inl (cqs, 6000, .inl fqs)), (ql, .inl (cql, 6600, .inl fql))] sz) U U.heap ∧ va_Z "java/lang/String" "COMPACT_STRINGS" "Z" (.int 1) (va_A [(h0, .inr (15, fl 134 F)), (qf, .inl (cqf, 6000, .inl fqf)), (qs, .inl (cqs, 6000, .inl fqs)), (ql, .inl (cql, 6600, .inl fql))] sz) U U.heap ∧ va_Zq "jdk/internal/util/Preconditions" "SIOOBE_FORMATTER" "Ljava/util/function/BiFunction;" (va_A [(h0, .inr (15, fl 134 F)), (qf, .inl (cqf, 6000, .inl fqf)), (qs, .inl (cqs, 6000, .inl fqs)), (ql, .inl (cql, 6600, .inl fql))] sz) U U.heap)) (va_Qv (fun _ : Unit => True) (fun _ t => ∃ F_a : Nat → Value, ∃ f_a : Nat → Int32, ∃ f_b : Nat → Int32, ∃ f_c : Nat → Int32, (∀ j : Nat, j ≠ 12 ∧ j ≠ 16 → F_a j = F j) ∧ va_P (dC, dI) vwCl [(h0, .inr (15, fl 134 F_a)), (qf, .inl (cqf, 6000, .inl f_a)), (qs, .inl (cqs, 6000, .inl f_b)), (ql, .inl (cql, 6600, .inl f_c))] t.heap ∧ va_K (dC, dI) vwCl [(cqf, .int), (cqs, .int), (cql, .byte)] t ∧ va_D (va_A [(h0, .inr (15, fl 134 F)), (qf, .inl (cqf, 6000, .inl fqf)), (qs, .inl (cqs, 6000, .inl fqs)), (ql, .inl (cql, 6600, .inl fql))] sz) [(h0, .inr (15, fl 134 F_a)), (qf, .inl (cqf, 6000, .inl f_a)), (qs, .inl (cqs, 6000, .inl f_b)), (ql, .inl (cql, 6600, .inl f_c))]) (va_A [(h0, .inr (15, fl 134 F)), (qf, .inl (cqf, 6000, .inl fqf)), (qs, .inl (cqs, 6000, .inl fqs)), (ql, .inl (cql, 6600, .inl fql))] sz)) 0 0 (va_A [(h0, .inr (15, fl 134 F)), (qf, .inl (cqf, 6000, .inl fqf)), (qs, .inl (cqs, 6000, .inl fqs)), (ql, .inl (cql, 6600, .inl fql))] sz) := by
  refine Met.ofW (cc := cX13_knowWords) (maxL := 4) (ret := none) (by decide) rfl ?_
  intro p e s m args below meth c s₁ B hml hv
  obtain ⟨rfl, hsz, hP, hK, hD0, hN0, hN1, hN2, hN3⟩ := hv
  have hx := B.exec
  have hb := B.bytes
  have hr := B.returns
  have hts := atoms_spec (ws := ws_cm_knowWords) B.pre
  have hown : s.vm.findClass RX13 = some m.cls := findClass_of_methodNamed B.named
  have hlocks := B.notSynchronized
  subst hsz
  have hD := hD0.self (sz := s.heap.size)
  generalize hAe : va_A [(h0, .inr (15, fl 134 F)), (qf, .inl (cqf, 6000, .inl fqf)), (qs, .inl (cqs, 6000, .inl fqs)), (ql, .inl (cql, 6600, .inl fql))] s.heap.size = A at hD hN1 hN2 hN3 ⊢
  have hA : ∀ q : Nat, s.heap.size ≤ q → A q := fun q h => by rw [← hAe]; exact Or.inr h
  have hS : va_S A s.heap s.heap [] := va_S.rf
  have hP : va_P (dC, dI) vwCl [(h0, .inr (15, fl 134 F)), (qf, .inl (cqf, 6000, .inl fqf)), (qs, .inl (cqs, 6000, .inl fqs)), (ql, .inl (cql, 6600, .inl fql))] s.heap := hP
  have hl := lv_entry ([.ref h0]) (n := 4) (Nat.le_of_ble_eq_true rfl)
  rw [lg_entry_eq]
  generalize (lg_sl ([.ref h0]) ++ List.replicate (4 - (lg_sl ([.ref h0])).length) Slot.unset).toArray = ls at hl ⊢
  have hl : lv_has ls 4 [(0, .ref h0)] := hl
  refine lv_aload_n hx hb dX13_knowWords_0 rfl (lv_at hl 0 rfl) ?_
  refine lv_iconst (v := 0) hx hb dX13_knowWords_1 (by decide) ?_
  refine va_put (D := (dC, dI)) (ci := 15) (v := .int 0) (ty := .int) (C := RX13) (T := TX13) (N := 134) hx hb hts in_cm_knowWords_RX13 tyX13 tyX13_ok nmX13 hown hK hP hD hS 0 rfl rfl 12 (by decide) (hts (.fieldLink RX13 276 "LevelUnitsModel" "names" "I") (List.mem_of_getElem? (i := 1) rfl)) (fun _ h9 => h9) rfl (by decide +kernel) rfl rfl (fl_lt (by decide)) dX13_knowWords_2 (fun H locs hP hD hS => ?_)
  obtain ⟨F_1, eF_1⟩ : ∃ z, z = fu F 12 (.int 0) := ⟨_, rfl⟩
  have hP : va_P (dC, dI) vwCl [(h0, .inr (15, fl 134 F_1)), (qf, .inl (cqf, 6000, .inl fqf)), (qs, .inl (cqs, 6000, .inl fqs)), (ql, .inl (cql, 6600, .inl fql))] H := by rw [eF_1, ← fl_set (n := 134) (k := 12) (by decide)]; exact hP
  have hD : va_D A [(h0, .inr (15, fl 134 F_1)), (qf, .inl (cqf, 6000, .inl fqf)), (qs, .inl (cqs, 6000, .inl fqs)), (ql, .inl (cql, 6600, .inl fql))] := by rw [eF_1, ← fl_set (n := 134) (k := 12) (by decide)]; exact hD
  have hfr_2 : ∀ j : Nat, j ≠ 12 → F_1 j = F j := fun j hj => (fu_out eF_1 (by omega))
  have hk_3 : F_1 13 = .ref qf := (fu_ne eF_1 (by decide) hq13)
  have hk_4 : F_1 14 = .ref qs := (fu_ne eF_1 (by decide) hq14)
  have hk_5 : F_1 15 = .ref ql := (fu_ne eF_1 (by decide) hq15)
  have hk_6 : F_1 12 = .int 0 := (fu_eq eF_1)
  refine lv_aload_n hx hb dX13_knowWords_5 rfl (lv_at hl 0 rfl) ?_
  refine lv_iconst (v := 0) hx hb dX13_knowWords_6 (by decide) ?_
  refine va_put (D := (dC, dI)) (ci := 15) (v := .int 0) (ty := .int) (C := RX13) (T := TX13) (N := 134) hx hb hts in_cm_knowWords_RX13 tyX13 tyX13_ok nmX13 hown hK hP hD hS 0 rfl rfl 16 (by decide) (hts (.fieldLink RX13 279 "LevelUnitsModel" "lettered" "I") (List.mem_of_getElem? (i := 2) rfl)) (fun _ h9 => h9) rfl (by decide +kernel) rfl rfl (fl_lt (by decide)) dX13_knowWords_7 (fun H locs hP hD hS => ?_)
  obtain ⟨F_7, eF_7⟩ : ∃ z, z = fu F_1 16 (.int 0) := ⟨_, rfl⟩
  have hP : va_P (dC, dI) vwCl [(h0, .inr (15, fl 134 F_7)), (qf, .inl (cqf, 6000, .inl fqf)), (qs, .inl (cqs, 6000, .inl fqs)), (ql, .inl (cql, 6600, .inl fql))] H := by rw [eF_7, ← fl_set (n := 134) (k := 16) (by decide)]; exact hP
  have hD : va_D A [(h0, .inr (15, fl 134 F_7)), (qf, .inl (cqf, 6000, .inl fqf)), (qs, .inl (cqs, 6000, .inl fqs)), (ql, .inl (cql, 6600, .inl fql))] := by rw [eF_7, ← fl_set (n := 134) (k := 16) (by decide)]; exact hD
  have hfr_8 : ∀ j : Nat, j ≠ 12 ∧ j ≠ 16 → F_7 j = F j := fun j hj => (fu_out eF_7 (by omega)).trans (hfr_2 j (by omega))
  have hk_9 : F_7 13 = .ref qf := (fu_ne eF_7 (by decide) hk_3)
  have hk_10 : F_7 14 = .ref qs := (fu_ne eF_7 (by decide) hk_4)
  have hk_11 : F_7 15 = .ref ql := (fu_ne eF_7 (by decide) hk_5)
  have hk_12 : F_7 12 = .int 0 := (fu_ne eF_7 (by decide) hk_6)
  have hk_13 : F_7 16 = .int 0 := (fu_eq eF_7)
  refine lv_iconst (v := 0) hx hb dX13_knowWords_10 (by decide) ?_
  refine lv_istore_n (lv' := [(1, .int 0), (0, .ref h0)]) hx hb dX13_knowWords_11 rfl hl (by decide) rfl (fun ls hl => ?_)
  refine lv_iconst (v := 0) hx hb dX13_knowWords_12 (by decide) ?_
  refine lv_istore_n (lv' := [(2, .int 0), (1, .int 0), (0, .ref h0)]) hx hb dX13_knowWords_13 rfl hl (by decide) rfl (fun ls hl => ?_)
  refine w_loop (V := (Nat) × (Nat) × (Nat) × (Nat) × (Nat → Value) × (Nat → Int32) × (Nat → Int32) × (Nat → Int32)) (P := (fun ⟨k9, n9, N9, L9, F_900, f_901, f_902, f_903⟩ H locs ls => (k9 ≤ 345) ∧ (N9 ≤ k9) ∧ (L9 + n9 ≤ k9) ∧ (∀ j : Nat, j < N9 → ∃ a b : Nat, f_901 j = nI a ∧ f_902 j = nI b ∧ a + b ≤ L9) ∧ (F_900 12 = .int (nI N9)) ∧ (F_900 13 = .ref qf) ∧ (F_900 14 = .ref qs) ∧ (F_900 15 = .ref ql) ∧ (F_900 16 = .int (nI L9)) ∧ (∀ j : Nat, j ≠ 12 ∧ j ≠ 16 → F_900 j = F j) ∧ va_P (dC, dI) vwCl [(h0, .inr (15, fl 134 F_900)), (qf, .inl (cqf, 6000, .inl f_901)), (qs, .inl (cqs, 6000, .inl f_902)), (ql, .inl (cql, 6600, .inl f_903))] H ∧ va_D A [(h0, .inr (15, fl 134 F_900)), (qf, .inl (cqf, 6000, .inl f_901)), (qs, .inl (cqs, 6000, .inl f_902)), (ql, .inl (cql, 6600, .inl f_903))] ∧ va_S A s.heap H locs ∧ lv_has ls 4 [(2, .int (nI k9)), (1, .int (nI n9)), (0, .ref h0)])) (μ := fun ⟨k9, n9, N9, L9, F_900, f_901, f_902, f_903⟩ => 345 - k9) ?_ (0, 0, 0, 0, F_7, fqf, fqs, fql) ⟨(by omega), (by omega), (by omega), (fun j hj => absurd hj (Nat.not_lt_zero _)), hk_12, hk_9, hk_10, hk_11, hk_13, hfr_8, hP, hD, hS, lv_sub hl [0, 1, 2] rfl⟩
  rintro ⟨k9, n9, N9, L9, F_900, f_901, f_902, f_903⟩ ih H locs ls ⟨h9k, h9N, h9L, h9inv, h9F12, h9F13, h9F14, h9F15, h9F16, h9fr, hP, hD, hS, hl⟩
  have hP : va_P (dC, dI) vwCl [(h0, .inr (15, fl 134 F_900)), (qf, .inl (cqf, 6000, .inl f_901)), (qs, .inl (cqs, 6000, .inl f_902)), (ql, .inl (cql, 6600, .inl f_903))] H := hP
  have hD : va_D A [(h0, .inr (15, fl 134 F_900)), (qf, .inl (cqf, 6000, .inl f_901)), (qs, .inl (cqs, 6000, .inl f_902)), (ql, .inl (cql, 6600, .inl f_903))] := hD
  have hl : lv_has ls 4 [(2, .int (nI k9)), (1, .int (nI n9)), (0, .ref h0)] := hl
  have ih_14 := ih
  refine lv_iload_n hx hb dX13_knowWords_14 rfl (lv_at hl 0 rfl) ?_
  refine va_ldcSW hx hb hown hN0 dX13_knowWords_15 ?_
  have hPc := hP.sub (ws' := []) [] rfl
  have hDc := hD.sub (ws' := []) [] (by decide) rfl
  have hKc := hK.sub (tys' := []) [] rfl
  have hFc := va_free (wc := []) hD hS hA [] rfl
  refine va_calli (va_runV (As := []) (rest := [.int (nI k9)]) ⟨hx, hb, hml, hown, hts⟩ (cj_length l dC dI q v 345 f H.size (by omega)) (cwV 0 hts gg_cm_knowWords_cj_length_284 rfl rfl rfl (by decide +kernel) ⟨(Nat.le_of_ble_eq_true rfl), (Nat.le_of_ble_eq_true rfl)⟩) ⟨fun a U g mk q => by obtain ⟨q0, q1, qP, qK, qD, qN0, qN1⟩ := q; exact ⟨q0, q1, qP, va_K.moved (u := U) (U := U.calling g mk a) (Vm.Alike.refl U.vm) qK, qD, ks.moved (u := U) (U := U.calling g mk a) (Vm.Alike.refl U.vm) qN0, va_Z.moved (u := U) (U := U.calling g mk a) (Vm.Alike.refl U.vm) qN1⟩, ks_recv hN1 hS, fun U hU hW => ⟨rfl, by rw [hU], by rw [hU]; exact hPc, va_K.moved hW.alike hKc, hDc.weaken (fun _ _ _ _ => trivial), (by rw [hU]; exact ks.moved hW.alike ((hN1.kept (fun a h1 h2 => hS.2.1 a h1 h2)).narrow hFc)), (by rw [hU]; exact va_Z.moved hW.alike ((hN2.kept (fun a h1 h2 => hS.2.1 a h1 h2)).narrow hFc))⟩⟩ rfl rfl hl.1 rfl (lv_room (Nat.le_of_ble_eq_true rfl)) dX13_knowWords_18 ⟨(Nat.le_of_ble_eq_true rfl), (Nat.le_of_ble_eq_true rfl)⟩) hS (fun q _ h => hFc q h) hFc (fun r9 u t H1 locs ht hvm hw hB hz1 hk1 hS => ?_)
  obtain ⟨hP1, hK1, hD1⟩ := hB
  rw [ht] at hP1
  have hK1 := va_K.moved hvm.symm hK1
  obtain ⟨hP, hD⟩ := va_join (wr := [(h0, .inr (15, fl 134 F_900)), (qf, .inl (cqf, 6000, .inl f_901)), (qs, .inl (cqs, 6000, .inl f_902)), (ql, .inl (cql, 6600, .inl f_903))]) (w1 := []) hP hD [] [0, 1, 2, 3] rfl rfl (by decide) (by decide) hk1 hFc hP1 hD1
  have hK := (hK.sub (tys' := [(cqf, .int), (cqs, .int), (cql, .byte)]) [0, 1, 2] rfl).app hK1
  generalize H1 = H at hP hS ⊢
  have hK : va_K (dC, dI) vwCl [(cqf, .int), (cqs, .int), (cql, .byte)] s := hK
  have hP : va_P (dC, dI) vwCl [(h0, .inr (15, fl 134 F_900)), (qf, .inl (cqf, 6000, .inl f_901)), (qs, .inl (cqs, 6000, .inl f_902)), (ql, .inl (cql, 6600, .inl f_903))] H := hP
  have hD : va_D A [(h0, .inr (15, fl 134 F_900)), (qf, .inl (cqf, 6000, .inl f_901)), (qs, .inl (cqs, 6000, .inl f_902)), (ql, .inl (cql, 6600, .inl f_903))] := hD
  refine W.widen (k := 0) (n := 0) (Nat.le_of_ble_eq_true rfl) (Nat.le_of_ble_eq_true rfl) ?_
  obtain rfl : r9 = (nI 345) := hw
  refine lv_icmp_ge (tgt := 75) hx hb dX13_knowWords_21 (by decide) (fun c_15 => ?_) (fun c_15 => ?_)
  · skip
    have c_15 : 345 ≤ k9 := (nI_leI (a := 345) (b := k9) (by omega) (by omega)).mp c_15
    have hP9 := hP.sub (ws' := [(h0, .inr (15, fl 134 F_900)), (qf, .inl (cqf, 6000, .inl f_901)), (qs, .inl (cqs, 6000, .inl f_902)), (ql, .inl (cql, 6600, .inl f_903))]) [0, 1, 2, 3] rfl
    have hD9 := hD.sub (ws' := [(h0, .inr (15, fl 134 F_900)), (qf, .inl (cqf, 6000, .inl f_901)), (qs, .inl (cqs, 6000, .inl f_902)), (ql, .inl (cql, 6600, .inl f_903))]) [0, 1, 2, 3] (by decide) rfl
    have hK9 := hK.sub (tys' := [(cqf, .int), (cqs, .int), (cql, .byte)]) [0, 1, 2] rfl
    refine W.widen (k := 0) (n := 0) (Nat.le_of_ble_eq_true rfl) (Nat.le_of_ble_eq_true rfl) ?_
    exact W.vret hx hb hr (fun t ht hW => ⟨⟨(), rfl, trivial, F_900, f_901, f_902, f_903, h9fr, by rw [ht]; exact hP9, va_K.moved hW.alike hK9, hD9⟩, hS.F ht⟩) hS.2.2 dX13_knowWords_75
  · skip
    have c_15 : ¬ (345 ≤ k9) := fun h9 => c_15 ((nI_leI (a := 345) (b := k9) (by omega) (by omega)).mpr h9)
    refine va_ldcSW hx hb hown hN0 dX13_knowWords_24 ?_
    refine lv_iload_n hx hb dX13_knowWords_27 rfl (lv_at hl 0 rfl) ?_
    have hPc := hP.sub (ws' := []) [] rfl
    have hDc := hD.sub (ws' := []) [] (by decide) rfl
    have hKc := hK.sub (tys' := []) [] rfl
    have hFc := va_free (wc := []) hD hS hA [] rfl
    refine va_calli (va_runV (As := [.int (nI k9)]) (rest := []) ⟨hx, hb, hml, hown, hts⟩ (cj_charAt l dC dI q v 345 f k9 H.size (by omega) (by omega)) (cwV 1 hts gg_cm_knowWords_cj_charAt_290 rfl rfl rfl (by decide +kernel) ⟨(Nat.le_of_ble_eq_true rfl), (Nat.le_of_ble_eq_true rfl)⟩) ⟨fun a U g mk q => by obtain ⟨q0, q1, qP, qK, qD, qN0, qN1, qN2⟩ := q; exact ⟨q0, q1, qP, va_K.moved (u := U) (U := U.calling g mk a) (Vm.Alike.refl U.vm) qK, qD, ks.moved (u := U) (U := U.calling g mk a) (Vm.Alike.refl U.vm) qN0, va_Z.moved (u := U) (U := U.calling g mk a) (Vm.Alike.refl U.vm) qN1, va_Zq.moved (u := U) (U := U.calling g mk a) (Vm.Alike.refl U.vm) qN2⟩, ks_recv hN1 hS, fun U hU hW => ⟨rfl, by rw [hU], by rw [hU]; exact hPc, va_K.moved hW.alike hKc, hDc.weaken (fun _ _ _ _ => trivial), (by rw [hU]; exact ks.moved hW.alike ((hN1.kept (fun a h1 h2 => hS.2.1 a h1 h2)).narrow hFc)), (by rw [hU]; exact va_Z.moved hW.alike ((hN2.kept (fun a h1 h2 => hS.2.1 a h1 h2)).narrow hFc)), (by rw [hU]; exact va_Zq.moved hW.alike ((hN3.kept (fun a h1 h2 => hS.2.1 a h1 h2)).narrow hFc))⟩⟩ rfl rfl hl.1 rfl (lv_room (Nat.le_of_ble_eq_true rfl)) dX13_knowWords_28 ⟨(Nat.le_of_ble_eq_true rfl), (Nat.le_of_ble_eq_true rfl)⟩) hS (fun q _ h => hFc q h) hFc (fun x_16 u t H1 locs ht hvm hw hB hz1 hk1 hS => ?_)
    obtain ⟨hP1, hK1, hD1⟩ := hB
    rw [ht] at hP1
    have hK1 := va_K.moved hvm.symm hK1
    obtain ⟨hP, hD⟩ := va_join (wr := [(h0, .inr (15, fl 134 F_900)), (qf, .inl (cqf, 6000, .inl f_901)), (qs, .inl (cqs, 6000, .inl f_902)), (ql, .inl (cql, 6600, .inl f_903))]) (w1 := []) hP hD [] [0, 1, 2, 3] rfl rfl (by decide) (by decide) hk1 hFc hP1 hD1
    have hK := (hK.sub (tys' := [(cqf, .int), (cqs, .int), (cql, .byte)]) [0, 1, 2] rfl).app hK1
    generalize H1 = H at hP hS ⊢
    have hK : va_K (dC, dI) vwCl [(cqf, .int), (cqs, .int), (cql, .byte)] s := hK
    have hP : va_P (dC, dI) vwCl [(h0, .inr (15, fl 134 F_900)), (qf, .inl (cqf, 6000, .inl f_901)), (qs, .inl (cqs, 6000, .inl f_902)), (ql, .inl (cql, 6600, .inl f_903))] H := hP
    have hD : va_D A [(h0, .inr (15, fl 134 F_900)), (qf, .inl (cqf, 6000, .inl f_901)), (qs, .inl (cqs, 6000, .inl f_902)), (ql, .inl (cql, 6600, .inl f_903))] := hD
    refine W.widen (k := 0) (n := 0) (Nat.le_of_ble_eq_true rfl) (Nat.le_of_ble_eq_true rfl) ?_
    have hx_16 : narrow .char (.int x_16) = .int x_16 := hw
    refine lv_bipush (v := 32) hx hb dX13_knowWords_31 (by decide) ?_
    refine lv_icmp_ne (tgt := 47) hx hb dX13_knowWords_33 (by decide) (fun c_17 => ?_) (fun c_17 => ?_)
    · skip
      refine lv_aload_n hx hb dX13_knowWords_47 rfl (lv_at hl 2 rfl) ?_
      refine va_get (D := (dC, dI)) (ci := 15) (v := .ref ql) (C := RX13) (T := TX13) (N := 134) hx hb hts in_cm_knowWords_RX13 hown hK hP 0 rfl rfl 15 (by decide) (hts (.fieldLink RX13 39 "LevelUnitsModel" "letters" "[B") (List.mem_of_getElem? (i := 35) rfl)) (fun _ h9 => h9) (fl_get (by decide) h9F15) dX13_knowWords_48 ?_
      refine lv_aload_n hx hb dX13_knowWords_51 rfl (lv_at hl 2 rfl) ?_
      refine va_get (D := (dC, dI)) (ci := 15) (v := .int (nI L9)) (C := RX13) (T := TX13) (N := 134) hx hb hts in_cm_knowWords_RX13 hown hK hP 0 rfl rfl 16 (by decide) (hts (.fieldLink RX13 279 "LevelUnitsModel" "lettered" "I") (List.mem_of_getElem? (i := 2) rfl)) (fun _ h9 => h9) (fl_get (by decide) h9F16) dX13_knowWords_52 ?_
      refine lv_iload_n hx hb dX13_knowWords_55 rfl (lv_at hl 1 rfl) ?_
      refine lv_iadd hx hb dX13_knowWords_56 ?_
      refine lv_topi (fun x_18 ex_18 => ?_)
      have ex_18 : x_18 = nI (L9 + n9) := ex_18.trans (nI_add L9 n9)
      subst ex_18
      refine va_ldcSW hx hb hown hN0 dX13_knowWords_57 ?_
      refine lv_iload_n hx hb dX13_knowWords_60 rfl (lv_at hl 0 rfl) ?_
      have hPc := hP.sub (ws' := []) [] rfl
      have hDc := hD.sub (ws' := []) [] (by decide) rfl
      have hKc := hK.sub (tys' := []) [] rfl
      have hFc := va_free (wc := []) hD hS hA [] rfl
      refine va_calli (va_runV (As := [.int (nI k9)]) (rest := [.int (nI (L9 + n9)), .ref ql]) ⟨hx, hb, hml, hown, hts⟩ (cj_charAt l dC dI q v 345 f k9 H.size (by omega) (by omega)) (cwV 1 hts gg_cm_knowWords_cj_charAt_290 rfl rfl rfl (by decide +kernel) ⟨(Nat.le_of_ble_eq_true rfl), (Nat.le_of_ble_eq_true rfl)⟩) ⟨fun a U g mk q => by obtain ⟨q0, q1, qP, qK, qD, qN0, qN1, qN2⟩ := q; exact ⟨q0, q1, qP, va_K.moved (u := U) (U := U.calling g mk a) (Vm.Alike.refl U.vm) qK, qD, ks.moved (u := U) (U := U.calling g mk a) (Vm.Alike.refl U.vm) qN0, va_Z.moved (u := U) (U := U.calling g mk a) (Vm.Alike.refl U.vm) qN1, va_Zq.moved (u := U) (U := U.calling g mk a) (Vm.Alike.refl U.vm) qN2⟩, ks_recv hN1 hS, fun U hU hW => ⟨rfl, by rw [hU], by rw [hU]; exact hPc, va_K.moved hW.alike hKc, hDc.weaken (fun _ _ _ _ => trivial), (by rw [hU]; exact ks.moved hW.alike ((hN1.kept (fun a h1 h2 => hS.2.1 a h1 h2)).narrow hFc)), (by rw [hU]; exact va_Z.moved hW.alike ((hN2.kept (fun a h1 h2 => hS.2.1 a h1 h2)).narrow hFc)), (by rw [hU]; exact va_Zq.moved hW.alike ((hN3.kept (fun a h1 h2 => hS.2.1 a h1 h2)).narrow hFc))⟩⟩ rfl rfl hl.1 rfl (lv_room (Nat.le_of_ble_eq_true rfl)) dX13_knowWords_61 ⟨(Nat.le_of_ble_eq_true rfl), (Nat.le_of_ble_eq_true rfl)⟩) hS (fun q _ h => hFc q h) hFc (fun x_19 u t H1 locs ht hvm hw hB hz1 hk1 hS => ?_)
      obtain ⟨hP1, hK1, hD1⟩ := hB
      rw [ht] at hP1
      have hK1 := va_K.moved hvm.symm hK1
      obtain ⟨hP, hD⟩ := va_join (wr := [(h0, .inr (15, fl 134 F_900)), (qf, .inl (cqf, 6000, .inl f_901)), (qs, .inl (cqs, 6000, .inl f_902)), (ql, .inl (cql, 6600, .inl f_903))]) (w1 := []) hP hD [] [0, 1, 2, 3] rfl rfl (by decide) (by decide) hk1 hFc hP1 hD1
      have hK := (hK.sub (tys' := [(cqf, .int), (cqs, .int), (cql, .byte)]) [0, 1, 2] rfl).app hK1
      generalize H1 = H at hP hS ⊢
      have hK : va_K (dC, dI) vwCl [(cqf, .int), (cqs, .int), (cql, .byte)] s := hK
      have hP : va_P (dC, dI) vwCl [(h0, .inr (15, fl 134 F_900)), (qf, .inl (cqf, 6000, .inl f_901)), (qs, .inl (cqs, 6000, .inl f_902)), (ql, .inl (cql, 6600, .inl f_903))] H := hP
      have hD : va_D A [(h0, .inr (15, fl 134 F_900)), (qf, .inl (cqf, 6000, .inl f_901)), (qs, .inl (cqs, 6000, .inl f_902)), (ql, .inl (cql, 6600, .inl f_903))] := hD
      refine W.widen (k := 0) (n := 0) (Nat.le_of_ble_eq_true rfl) (Nat.le_of_ble_eq_true rfl) ?_
      have hx_19 : narrow .char (.int x_19) = .int x_19 := hw
      refine lv_i2b hx hb dX13_knowWords_64 rfl ?_
      refine lv_topi (fun x_20 ex_20 => ?_)
      refine va_bast hx hb hK hP hD hS 3 2 rfl rfl (i := nI (L9 + n9)) (vp_in_nI (by omega) (by omega)) dX13_knowWords_65 (fun H locs hP hD hS => ?_)
      obtain ⟨f_21, ef_21⟩ : ∃ z, z = upd f_903 (Int32.toNatClampNeg (nI (L9 + n9))) (vp_nar .byte x_20) := ⟨_, rfl⟩
      rw [← ef_21] at hP hD
      rw [nI_clamp (by omega)] at ef_21
      have hP : va_P (dC, dI) vwCl [(h0, .inr (15, fl 134 F_900)), (qf, .inl (cqf, 6000, .inl f_901)), (qs, .inl (cqs, 6000, .inl f_902)), (ql, .inl (cql, 6600, .inl f_21))] H := hP
      have hD : va_D A [(h0, .inr (15, fl 134 F_900)), (qf, .inl (cqf, 6000, .inl f_901)), (qs, .inl (cqs, 6000, .inl f_902)), (ql, .inl (cql, 6600, .inl f_21))] := hD
      refine lv_iinc (v := nI (n9 + 1)) (lv' := [(1, .int (nI (n9 + 1))), (2, .int (nI k9)), (0, .ref h0)]) hx hb dX13_knowWords_66 hl (k := 1) rfl (nI_add n9 1) (by decide) rfl (fun ls hl => ?_)
      refine lv_iinc (v := nI (k9 + 1)) (lv' := [(2, .int (nI (k9 + 1))), (1, .int (nI (n9 + 1))), (0, .ref h0)]) hx hb dX13_knowWords_69 hl (k := 1) rfl (nI_add k9 1) (by decide) rfl (fun ls hl => ?_)
      refine lv_goto (tgt := 14) hx hb dX13_knowWords_72 (by decide) ?_
      refine ih_14 ((k9 + 1), (n9 + 1), N9, L9, F_900, f_901, f_902, f_21) ?_ _ _ _ ⟨(by omega), (by omega), (by omega), h9inv, h9F12, h9F13, h9F14, h9F15, h9F16, h9fr, hP, hD, hS, lv_sub hl [0, 1, 2] rfl⟩
      show 345 - (k9 + 1) < 345 - k9
      omega
    · skip
      refine lv_aload_n hx hb dX13_knowWords_36 rfl (lv_at hl 2 rfl) ?_
      refine lv_iload_n hx hb dX13_knowWords_37 rfl (lv_at hl 1 rfl) ?_
      have hPc := hP.sub (ws' := [(h0, .inr (15, fl 134 F_900)), (qf, .inl (cqf, 6000, .inl f_901)), (qs, .inl (cqs, 6000, .inl f_902)), (ql, .inl (cql, 6600, .inl f_903))]) [0, 1, 2, 3] rfl
      have hDc := hD.sub (ws' := [(h0, .inr (15, fl 134 F_900)), (qf, .inl (cqf, 6000, .inl f_901)), (qs, .inl (cqs, 6000, .inl f_902)), (ql, .inl (cql, 6600, .inl f_903))]) [0, 1, 2, 3] (by decide) rfl
      have hKc := hK.sub (tys' := [(cqf, .int), (cqs, .int), (cql, .byte)]) [0, 1, 2] rfl
      have hFc := va_free (wc := [(h0, .inr (15, fl 134 F_900)), (qf, .inl (cqf, 6000, .inl f_901)), (qs, .inl (cqs, 6000, .inl f_902)), (ql, .inl (cql, 6600, .inl f_903))]) hD hS hA [0, 1, 2, 3] rfl
      refine va_calli (va_runV (As := [.int (nI n9)]) (rest := []) ⟨hx, hb, hml, hown, hts⟩ (cm_nameOf l dC dI h0 F_900 qf qs ql cqf cqs cql f_901 f_902 f_903 N9 L9 n9 H.size h9F12 h9F16 h9F13 h9F14 h9F15 (by omega) (by omega) h9inv) (cwV 1 hts gg_cm_knowWords_cm_nameOf_294 rfl rfl rfl (by decide +kernel) ⟨(Nat.le_of_ble_eq_true rfl), (Nat.le_of_ble_eq_true rfl)⟩) ⟨fun a U g mk q => by obtain ⟨q0, q1, qP, qK, qD⟩ := q; exact ⟨q0, q1, qP, va_K.moved (u := U) (U := U.calling g mk a) (Vm.Alike.refl U.vm) qK, qD⟩, va_recv hKc hPc (ci := 15) (q0 := 0) rfl rfl, fun U hU hW => ⟨rfl, by rw [hU], by rw [hU]; exact hPc, va_K.moved hW.alike hKc, hDc.weaken (fun _ _ _ _ => trivial)⟩⟩ rfl rfl hl.1 rfl (lv_room (Nat.le_of_ble_eq_true rfl)) dX13_knowWords_38 ⟨(Nat.le_of_ble_eq_true rfl), (Nat.le_of_ble_eq_true rfl)⟩) hS (fun q _ h => hFc q h) hFc (fun x_22 u t H1 locs ht hvm hw hB hz1 hk1 hS => ?_)
      obtain ⟨F_23, N_24, N_25, f_26, f_27, hf_28, hf_29, hf_30, hf_31, hf_32, hx_33, hx_34, hx_35, hx_36, hP1, hK1, hD1⟩ := hB
      rw [ht] at hP1
      have hK1 := va_K.moved hvm.symm hK1
      have hfr_37 : ∀ j : Nat, j ≠ 12 ∧ j ≠ 16 → F_23 j = F j := fun j hj => (hx_33 j (by omega)).trans (h9fr j (by omega))
      have hk_38 : F_23 12 = .int (nI N_24) := hf_28
      have hk_39 : F_23 13 = .ref qf := hf_29
      have hk_40 : F_23 14 = .ref qs := hf_30
      have hk_41 : F_23 15 = .ref ql := hf_31
      have hk_42 : F_23 16 = .int (nI N_25) := hf_32
      obtain ⟨hP, hD⟩ := va_join (wr := []) (w1 := [(h0, .inr (15, fl 134 F_23)), (qf, .inl (cqf, 6000, .inl f_26)), (qs, .inl (cqs, 6000, .inl f_27)), (ql, .inl (cql, 6600, .inl f_903))]) hP hD [0, 1, 2, 3] [] rfl rfl (by decide) (by decide) hk1 hFc hP1 hD1
      have hK := (hK.sub (tys' := []) [] rfl).app hK1
      generalize H1 = H at hP hS ⊢
      have hK : va_K (dC, dI) vwCl [(cqf, .int), (cqs, .int), (cql, .byte)] s := hK
      have hP : va_P (dC, dI) vwCl [(h0, .inr (15, fl 134 F_23)), (qf, .inl (cqf, 6000, .inl f_26)), (qs, .inl (cqs, 6000, .inl f_27)), (ql, .inl (cql, 6600, .inl f_903))] H := hP
      have hD : va_D A [(h0, .inr (15, fl 134 F_23)), (qf, .inl (cqf, 6000, .inl f_26)), (qs, .inl (cqs, 6000, .inl f_27)), (ql, .inl (cql, 6600, .inl f_903))] := hD
      refine W.widen (k := 0) (n := 0) (Nat.le_of_ble_eq_true rfl) (Nat.le_of_ble_eq_true rfl) ?_
      refine lv_istore_n (lv' := [(3, .int x_22), (2, .int (nI k9)), (1, .int (nI n9)), (0, .ref h0)]) hx hb dX13_knowWords_41 rfl hl (by decide) rfl (fun ls hl => ?_)
      refine lv_iconst (v := 0) hx hb dX13_knowWords_42 (by decide) ?_
      refine lv_istore_n (lv' := [(1, .int 0), (3, .int x_22), (2, .int (nI k9)), (0, .ref h0)]) hx hb dX13_knowWords_43 rfl hl (by decide) rfl (fun ls hl => ?_)
      refine lv_goto (tgt := 69) hx hb dX13_knowWords_44 (by decide) ?_
      refine lv_iinc (v := nI (k9 + 1)) (lv' := [(2, .int (nI (k9 + 1))), (1, .int 0), (3, .int x_22), (0, .ref h0)]) hx hb dX13_knowWords_69 hl (k := 2) rfl (nI_add k9 1) (by decide) rfl (fun ls hl => ?_)
      refine lv_goto (tgt := 14) hx hb dX13_knowWords_72 (by decide) ?_
      refine ih_14 ((k9 + 1), 0, N_24, N_25, F_23, f_26, f_27, f_903) ?_ _ _ _ ⟨(by omega), (by omega), (by omega), hx_36, hk_38, hk_39, hk_40, hk_41, hk_42, hfr_37, hP, hD, hS, lv_sub hl [0, 1, 3] rfl⟩
      show 345 - (k9 + 1) < 345 - k9
      omega
