def ws_cm_four_0 : List Cond := .code yX13_four cX13_four 3 none :: ([.fieldLink RX13 16 "LevelUnitsModel" "tape" "[B", .fieldLink RX13 255 "LevelUnitsModel" "taped" "I"] ++ wsX130)
theorem in_cm_four_0_RX13 : ∀ w ∈ wsX130, w ∈ ws_cm_four_0 := fun _ h => List.mem_cons_of_mem _ (List.mem_append_right _ h)
set_option maxHeartbeats 4000000 in
set_option maxRecDepth 100000 in
theorem cm_four_0 (l : Launch) (dC : Nat → ClassId) (dI : Nat → Nat → Nat) (h0 : Nat) (F : Nat → Value) (qt : Nat) (cy : ClassId) (f : Nat → Int32) (i : Int32) (sz : Nat) (hk2 : F 2 = .ref qt) (hk3 : F 3 = .int 0) : Met l yX13_four ws_cm_four_0 ({ frames := 0, cells := 0, slots := 0, locals := 0 }) (va_Pc [.ref h0, .int i] (fun U => U.heap.size = sz ∧ va_P (dC, dI) vwCl [(h0, .inr (15, fl 134 F)), (qt, .inl (cy, 6000, .inl f))] U.heap ∧ va_K (dC, dI) vwCl [(cy, .byte)] U ∧ va_D (fun _ => True) [(h0, .inr (15, fl 134 F)), (qt, .inl (cy, 6000, .inl f))])) (va_Qv (fun _ : Unit => True) (fun _ t => ∃ F_a : Nat → Value, ∃ f_a : Nat → Int32, F_a 2 = .ref qt ∧ F_a 3 = .int 4 ∧ va_P (dC, dI) vwCl [(h0, .inr (15, fl 134 F_a)), (qt, .inl (cy, 6000, .inl f_a))] t.heap ∧ va_K (dC, dI) vwCl [(cy, .byte)] t ∧ va_D (va_A [(h0, .inr (15, fl 134 F)), (qt, .inl (cy, 6000, .inl f))] sz) [(h0, .inr (15, fl 134 F_a)), (qt, .inl (cy, 6000, .inl f_a))]) (va_A [(h0, .inr (15, fl 134 F)), (qt, .inl (cy, 6000, .inl f))] sz)) 0 0 (va_A [(h0, .inr (15, fl 134 F)), (qt, .inl (cy, 6000, .inl f))] sz) := by
  refine Met.ofW (cc := cX13_four) (maxL := 3) (ret := none) (by decide) rfl ?_
  intro p e s m args below meth c s₁ B hml hv
  obtain ⟨rfl, hsz, hP, hK, hD0⟩ := hv
  have hx := B.exec
  have hb := B.bytes
  have hr := B.returns
  have hts := atoms_spec (ws := ws_cm_four_0) B.pre
  have hown : s.vm.findClass RX13 = some m.cls := findClass_of_methodNamed B.named
  have hlocks := B.notSynchronized
  subst hsz
  have hD := hD0.self (sz := s.heap.size)
  generalize hAe : va_A [(h0, .inr (15, fl 134 F)), (qt, .inl (cy, 6000, .inl f))] s.heap.size = A at hD ⊢
  have hA : ∀ q : Nat, s.heap.size ≤ q → A q := fun q h => by rw [← hAe]; exact Or.inr h
  have hS : va_S A s.heap s.heap [] := va_S.rf
  have hP : va_P (dC, dI) vwCl [(h0, .inr (15, fl 134 F)), (qt, .inl (cy, 6000, .inl f))] s.heap := hP
  have hl := lv_entry ([.ref h0, .int i]) (n := 3) (Nat.le_of_ble_eq_true rfl)
  rw [lg_entry_eq]
  generalize (lg_sl ([.ref h0, .int i]) ++ List.replicate (3 - (lg_sl ([.ref h0, .int i])).length) Slot.unset).toArray = ls at hl ⊢
  have hl : lv_has ls 3 [(0, .ref h0), (1, .int i)] := hl
  refine lv_bipush (v := 24) hx hb dX13_four_0 (by decide) ?_
  refine lv_istore_n (lv' := [(2, .int 24), (0, .ref h0), (1, .int i)]) hx hb dX13_four_2 rfl hl (by decide) rfl (fun ls hl => ?_)
  refine lv_iload_n hx hb dX13_four_3 rfl (lv_at hl 0 rfl) ?_
  refine lv_if_lt (tgt := 36) hx hb dX13_four_4 (by decide) (fun c9 => absurd c9 (by decide)) (fun c9 => ?_)
  clear c9
  refine lv_aload_n hx hb dX13_four_7 rfl (lv_at hl 1 rfl) ?_
  refine va_get (D := (dC, dI)) (ci := 15) (v := .ref qt) (C := RX13) (T := TX13) (N := 134) hx hb hts in_cm_four_0_RX13 hown hK hP 0 rfl rfl 2 (by decide) (hts (.fieldLink RX13 16 "LevelUnitsModel" "tape" "[B") (List.mem_of_getElem? (i := 1) rfl)) (fun _ h9 => h9) (fl_get (by decide) hk2) dX13_four_8 ?_
  refine lv_aload_n hx hb dX13_four_11 rfl (lv_at hl 1 rfl) ?_
  refine va_get (D := (dC, dI)) (ci := 15) (v := .int 0) (C := RX13) (T := TX13) (N := 134) hx hb hts in_cm_four_0_RX13 hown hK hP 0 rfl rfl 3 (by decide) (hts (.fieldLink RX13 255 "LevelUnitsModel" "taped" "I") (List.mem_of_getElem? (i := 2) rfl)) (fun _ h9 => h9) (fl_get (by decide) hk3) dX13_four_12 ?_
  refine lv_iload_n hx hb dX13_four_15 rfl (lv_at hl 2 rfl) ?_
  refine lv_iload_n hx hb dX13_four_16 rfl (lv_at hl 0 rfl) ?_
  refine lv_ishr hx hb dX13_four_17 ?_
  refine lv_topi (fun x_1 ex_1 => ?_)
  refine lv_i2b hx hb dX13_four_18 rfl ?_
  refine lv_topi (fun x_2 ex_2 => ?_)
  refine va_bast hx hb hK hP hD hS 1 0 rfl rfl (i := 0) (by unfold vp_in; decide) dX13_four_19 (fun H locs hP hD hS => ?_)
  obtain ⟨f_3, ef_3⟩ : ∃ z, z = upd f (Int32.toNatClampNeg 0) (vp_nar .byte x_2) := ⟨_, rfl⟩
  rw [← ef_3] at hP hD
  have hP : va_P (dC, dI) vwCl [(h0, .inr (15, fl 134 F)), (qt, .inl (cy, 6000, .inl f_3))] H := hP
  have hD : va_D A [(h0, .inr (15, fl 134 F)), (qt, .inl (cy, 6000, .inl f_3))] := hD
  refine lv_aload_n hx hb dX13_four_20 rfl (lv_at hl 1 rfl) ?_
  refine lv_dup hx hb dX13_four_21 rfl ?_
  refine va_get (D := (dC, dI)) (ci := 15) (v := .int 0) (C := RX13) (T := TX13) (N := 134) hx hb hts in_cm_four_0_RX13 hown hK hP 0 rfl rfl 3 (by decide) (hts (.fieldLink RX13 255 "LevelUnitsModel" "taped" "I") (List.mem_of_getElem? (i := 2) rfl)) (fun _ h9 => h9) (fl_get (by decide) hk3) dX13_four_22 ?_
  refine lv_iconst (v := 1) hx hb dX13_four_25 (by decide) ?_
  refine lv_iadd hx hb dX13_four_26 ?_
  refine lv_topi (fun y9 e9 => ?_)
  have e9 : y9 = 1 := by rw [e9]; decide
  subst e9
  refine va_put (D := (dC, dI)) (ci := 15) (v := .int 1) (ty := .int) (C := RX13) (T := TX13) (N := 134) hx hb hts in_cm_four_0_RX13 tyX13 tyX13_ok nmX13 hown hK hP hD hS 0 rfl rfl 3 (by decide) (hts (.fieldLink RX13 255 "LevelUnitsModel" "taped" "I") (List.mem_of_getElem? (i := 2) rfl)) (fun _ h9 => h9) rfl (by decide +kernel) rfl rfl (fl_lt (by decide)) dX13_four_27 (fun H locs hP hD hS => ?_)
  obtain ⟨F_4, eF_4⟩ : ∃ z, z = fu F 3 (.int 1) := ⟨_, rfl⟩
  have hP : va_P (dC, dI) vwCl [(h0, .inr (15, fl 134 F_4)), (qt, .inl (cy, 6000, .inl f_3))] H := by rw [eF_4, ← fl_set (n := 134) (k := 3) (by decide)]; exact hP
  have hD : va_D A [(h0, .inr (15, fl 134 F_4)), (qt, .inl (cy, 6000, .inl f_3))] := by rw [eF_4, ← fl_set (n := 134) (k := 3) (by decide)]; exact hD
  refine lv_iinc (v := 16) (lv' := [(2, .int 16), (0, .ref h0), (1, .int i)]) hx hb dX13_four_30 hl (k := 0) rfl (by decide) (by decide) rfl (fun ls hl => ?_)
  refine lv_goto (tgt := 3) hx hb dX13_four_33 (by decide) ?_
  refine lv_iload_n hx hb dX13_four_3 rfl (lv_at hl 0 rfl) ?_
  refine lv_if_lt (tgt := 36) hx hb dX13_four_4 (by decide) (fun c9 => absurd c9 (by decide)) (fun c9 => ?_)
  clear c9
  refine lv_aload_n hx hb dX13_four_7 rfl (lv_at hl 1 rfl) ?_
  refine va_get (D := (dC, dI)) (ci := 15) (v := .ref qt) (C := RX13) (T := TX13) (N := 134) hx hb hts in_cm_four_0_RX13 hown hK hP 0 rfl rfl 2 (by decide) (hts (.fieldLink RX13 16 "LevelUnitsModel" "tape" "[B") (List.mem_of_getElem? (i := 1) rfl)) (fun _ h9 => h9) (fl_get (by decide) (fu_ne eF_4 (by decide) hk2)) dX13_four_8 ?_
  refine lv_aload_n hx hb dX13_four_11 rfl (lv_at hl 1 rfl) ?_
  refine va_get (D := (dC, dI)) (ci := 15) (v := .int 1) (C := RX13) (T := TX13) (N := 134) hx hb hts in_cm_four_0_RX13 hown hK hP 0 rfl rfl 3 (by decide) (hts (.fieldLink RX13 255 "LevelUnitsModel" "taped" "I") (List.mem_of_getElem? (i := 2) rfl)) (fun _ h9 => h9) (fl_get (by decide) (fu_eq eF_4)) dX13_four_12 ?_
  refine lv_iload_n hx hb dX13_four_15 rfl (lv_at hl 2 rfl) ?_
  refine lv_iload_n hx hb dX13_four_16 rfl (lv_at hl 0 rfl) ?_
  refine lv_ishr hx hb dX13_four_17 ?_
  refine lv_topi (fun x_5 ex_5 => ?_)
  refine lv_i2b hx hb dX13_four_18 rfl ?_
  refine lv_topi (fun x_6 ex_6 => ?_)
  refine va_bast hx hb hK hP hD hS 1 0 rfl rfl (i := 1) (by unfold vp_in; decide) dX13_four_19 (fun H locs hP hD hS => ?_)
  obtain ⟨f_7, ef_7⟩ : ∃ z, z = upd f_3 (Int32.toNatClampNeg 1) (vp_nar .byte x_6) := ⟨_, rfl⟩
  rw [← ef_7] at hP hD
  have hP : va_P (dC, dI) vwCl [(h0, .inr (15, fl 134 F_4)), (qt, .inl (cy, 6000, .inl f_7))] H := hP
  have hD : va_D A [(h0, .inr (15, fl 134 F_4)), (qt, .inl (cy, 6000, .inl f_7))] := hD
  refine lv_aload_n hx hb dX13_four_20 rfl (lv_at hl 1 rfl) ?_
  refine lv_dup hx hb dX13_four_21 rfl ?_
  refine va_get (D := (dC, dI)) (ci := 15) (v := .int 1) (C := RX13) (T := TX13) (N := 134) hx hb hts in_cm_four_0_RX13 hown hK hP 0 rfl rfl 3 (by decide) (hts (.fieldLink RX13 255 "LevelUnitsModel" "taped" "I") (List.mem_of_getElem? (i := 2) rfl)) (fun _ h9 => h9) (fl_get (by decide) (fu_eq eF_4)) dX13_four_22 ?_
  refine lv_iconst (v := 1) hx hb dX13_four_25 (by decide) ?_
  refine lv_iadd hx hb dX13_four_26 ?_
  refine lv_topi (fun y9 e9 => ?_)
  have e9 : y9 = 2 := by rw [e9]; decide
  subst e9
  refine va_put (D := (dC, dI)) (ci := 15) (v := .int 2) (ty := .int) (C := RX13) (T := TX13) (N := 134) hx hb hts in_cm_four_0_RX13 tyX13 tyX13_ok nmX13 hown hK hP hD hS 0 rfl rfl 3 (by decide) (hts (.fieldLink RX13 255 "LevelUnitsModel" "taped" "I") (List.mem_of_getElem? (i := 2) rfl)) (fun _ h9 => h9) rfl (by decide +kernel) rfl rfl (fl_lt (by decide)) dX13_four_27 (fun H locs hP hD hS => ?_)
  obtain ⟨F_8, eF_8⟩ : ∃ z, z = fu F_4 3 (.int 2) := ⟨_, rfl⟩
  have hP : va_P (dC, dI) vwCl [(h0, .inr (15, fl 134 F_8)), (qt, .inl (cy, 6000, .inl f_7))] H := by rw [eF_8, ← fl_set (n := 134) (k := 3) (by decide)]; exact hP
  have hD : va_D A [(h0, .inr (15, fl 134 F_8)), (qt, .inl (cy, 6000, .inl f_7))] := by rw [eF_8, ← fl_set (n := 134) (k := 3) (by decide)]; exact hD
  refine lv_iinc (v := 8) (lv' := [(2, .int 8), (0, .ref h0), (1, .int i)]) hx hb dX13_four_30 hl (k := 0) rfl (by decide) (by decide) rfl (fun ls hl => ?_)
  refine lv_goto (tgt := 3) hx hb dX13_four_33 (by decide) ?_
  refine lv_iload_n hx hb dX13_four_3 rfl (lv_at hl 0 rfl) ?_
  refine lv_if_lt (tgt := 36) hx hb dX13_four_4 (by decide) (fun c9 => absurd c9 (by decide)) (fun c9 => ?_)
  clear c9
  refine lv_aload_n hx hb dX13_four_7 rfl (lv_at hl 1 rfl) ?_
  refine va_get (D := (dC, dI)) (ci := 15) (v := .ref qt) (C := RX13) (T := TX13) (N := 134) hx hb hts in_cm_four_0_RX13 hown hK hP 0 rfl rfl 2 (by decide) (hts (.fieldLink RX13 16 "LevelUnitsModel" "tape" "[B") (List.mem_of_getElem? (i := 1) rfl)) (fun _ h9 => h9) (fl_get (by decide) (fu_ne eF_8 (by decide) (fu_ne eF_4 (by decide) hk2))) dX13_four_8 ?_
  refine lv_aload_n hx hb dX13_four_11 rfl (lv_at hl 1 rfl) ?_
  refine va_get (D := (dC, dI)) (ci := 15) (v := .int 2) (C := RX13) (T := TX13) (N := 134) hx hb hts in_cm_four_0_RX13 hown hK hP 0 rfl rfl 3 (by decide) (hts (.fieldLink RX13 255 "LevelUnitsModel" "taped" "I") (List.mem_of_getElem? (i := 2) rfl)) (fun _ h9 => h9) (fl_get (by decide) (fu_eq eF_8)) dX13_four_12 ?_
  refine lv_iload_n hx hb dX13_four_15 rfl (lv_at hl 2 rfl) ?_
  refine lv_iload_n hx hb dX13_four_16 rfl (lv_at hl 0 rfl) ?_
  refine lv_ishr hx hb dX13_four_17 ?_
  refine lv_topi (fun x_9 ex_9 => ?_)
  refine lv_i2b hx hb dX13_four_18 rfl ?_
  refine lv_topi (fun x_10 ex_10 => ?_)
  refine va_bast hx hb hK hP hD hS 1 0 rfl rfl (i := 2) (by unfold vp_in; decide) dX13_four_19 (fun H locs hP hD hS => ?_)
  obtain ⟨f_11, ef_11⟩ : ∃ z, z = upd f_7 (Int32.toNatClampNeg 2) (vp_nar .byte x_10) := ⟨_, rfl⟩
  rw [← ef_11] at hP hD
  have hP : va_P (dC, dI) vwCl [(h0, .inr (15, fl 134 F_8)), (qt, .inl (cy, 6000, .inl f_11))] H := hP
  have hD : va_D A [(h0, .inr (15, fl 134 F_8)), (qt, .inl (cy, 6000, .inl f_11))] := hD
  refine lv_aload_n hx hb dX13_four_20 rfl (lv_at hl 1 rfl) ?_
  refine lv_dup hx hb dX13_four_21 rfl ?_
  refine va_get (D := (dC, dI)) (ci := 15) (v := .int 2) (C := RX13) (T := TX13) (N := 134) hx hb hts in_cm_four_0_RX13 hown hK hP 0 rfl rfl 3 (by decide) (hts (.fieldLink RX13 255 "LevelUnitsModel" "taped" "I") (List.mem_of_getElem? (i := 2) rfl)) (fun _ h9 => h9) (fl_get (by decide) (fu_eq eF_8)) dX13_four_22 ?_
  refine lv_iconst (v := 1) hx hb dX13_four_25 (by decide) ?_
  refine lv_iadd hx hb dX13_four_26 ?_
  refine lv_topi (fun y9 e9 => ?_)
  have e9 : y9 = 3 := by rw [e9]; decide
  subst e9
  refine va_put (D := (dC, dI)) (ci := 15) (v := .int 3) (ty := .int) (C := RX13) (T := TX13) (N := 134) hx hb hts in_cm_four_0_RX13 tyX13 tyX13_ok nmX13 hown hK hP hD hS 0 rfl rfl 3 (by decide) (hts (.fieldLink RX13 255 "LevelUnitsModel" "taped" "I") (List.mem_of_getElem? (i := 2) rfl)) (fun _ h9 => h9) rfl (by decide +kernel) rfl rfl (fl_lt (by decide)) dX13_four_27 (fun H locs hP hD hS => ?_)
  obtain ⟨F_12, eF_12⟩ : ∃ z, z = fu F_8 3 (.int 3) := ⟨_, rfl⟩
  have hP : va_P (dC, dI) vwCl [(h0, .inr (15, fl 134 F_12)), (qt, .inl (cy, 6000, .inl f_11))] H := by rw [eF_12, ← fl_set (n := 134) (k := 3) (by decide)]; exact hP
  have hD : va_D A [(h0, .inr (15, fl 134 F_12)), (qt, .inl (cy, 6000, .inl f_11))] := by rw [eF_12, ← fl_set (n := 134) (k := 3) (by decide)]; exact hD
  refine lv_iinc (v := 0) (lv' := [(2, .int 0), (0, .ref h0), (1, .int i)]) hx hb dX13_four_30 hl (k := 0) rfl (by decide) (by decide) rfl (fun ls hl => ?_)
  refine lv_goto (tgt := 3) hx hb dX13_four_33 (by decide) ?_
  refine lv_iload_n hx hb dX13_four_3 rfl (lv_at hl 0 rfl) ?_
  refine lv_if_lt (tgt := 36) hx hb dX13_four_4 (by decide) (fun c9 => absurd c9 (by decide)) (fun c9 => ?_)
  clear c9
  refine lv_aload_n hx hb dX13_four_7 rfl (lv_at hl 1 rfl) ?_
  refine va_get (D := (dC, dI)) (ci := 15) (v := .ref qt) (C := RX13) (T := TX13) (N := 134) hx hb hts in_cm_four_0_RX13 hown hK hP 0 rfl rfl 2 (by decide) (hts (.fieldLink RX13 16 "LevelUnitsModel" "tape" "[B") (List.mem_of_getElem? (i := 1) rfl)) (fun _ h9 => h9) (fl_get (by decide) (fu_ne eF_12 (by decide) (fu_ne eF_8 (by decide) (fu_ne eF_4 (by decide) hk2)))) dX13_four_8 ?_
  refine lv_aload_n hx hb dX13_four_11 rfl (lv_at hl 1 rfl) ?_
  refine va_get (D := (dC, dI)) (ci := 15) (v := .int 3) (C := RX13) (T := TX13) (N := 134) hx hb hts in_cm_four_0_RX13 hown hK hP 0 rfl rfl 3 (by decide) (hts (.fieldLink RX13 255 "LevelUnitsModel" "taped" "I") (List.mem_of_getElem? (i := 2) rfl)) (fun _ h9 => h9) (fl_get (by decide) (fu_eq eF_12)) dX13_four_12 ?_
  refine lv_iload_n hx hb dX13_four_15 rfl (lv_at hl 2 rfl) ?_
  refine lv_iload_n hx hb dX13_four_16 rfl (lv_at hl 0 rfl) ?_
  refine lv_ishr hx hb dX13_four_17 ?_
  refine lv_topi (fun x_13 ex_13 => ?_)
  refine lv_i2b hx hb dX13_four_18 rfl ?_
  refine lv_topi (fun x_14 ex_14 => ?_)
  refine va_bast hx hb hK hP hD hS 1 0 rfl rfl (i := 3) (by unfold vp_in; decide) dX13_four_19 (fun H locs hP hD hS => ?_)
  obtain ⟨f_15, ef_15⟩ : ∃ z, z = upd f_11 (Int32.toNatClampNeg 3) (vp_nar .byte x_14) := ⟨_, rfl⟩
  rw [← ef_15] at hP hD
  have hP : va_P (dC, dI) vwCl [(h0, .inr (15, fl 134 F_12)), (qt, .inl (cy, 6000, .inl f_15))] H := hP
  have hD : va_D A [(h0, .inr (15, fl 134 F_12)), (qt, .inl (cy, 6000, .inl f_15))] := hD
  refine lv_aload_n hx hb dX13_four_20 rfl (lv_at hl 1 rfl) ?_
  refine lv_dup hx hb dX13_four_21 rfl ?_
  refine va_get (D := (dC, dI)) (ci := 15) (v := .int 3) (C := RX13) (T := TX13) (N := 134) hx hb hts in_cm_four_0_RX13 hown hK hP 0 rfl rfl 3 (by decide) (hts (.fieldLink RX13 255 "LevelUnitsModel" "taped" "I") (List.mem_of_getElem? (i := 2) rfl)) (fun _ h9 => h9) (fl_get (by decide) (fu_eq eF_12)) dX13_four_22 ?_
  refine lv_iconst (v := 1) hx hb dX13_four_25 (by decide) ?_
  refine lv_iadd hx hb dX13_four_26 ?_
  refine lv_topi (fun y9 e9 => ?_)
  have e9 : y9 = 4 := by rw [e9]; decide
  subst e9
  refine va_put (D := (dC, dI)) (ci := 15) (v := .int 4) (ty := .int) (C := RX13) (T := TX13) (N := 134) hx hb hts in_cm_four_0_RX13 tyX13 tyX13_ok nmX13 hown hK hP hD hS 0 rfl rfl 3 (by decide) (hts (.fieldLink RX13 255 "LevelUnitsModel" "taped" "I") (List.mem_of_getElem? (i := 2) rfl)) (fun _ h9 => h9) rfl (by decide +kernel) rfl rfl (fl_lt (by decide)) dX13_four_27 (fun H locs hP hD hS => ?_)
  obtain ⟨F_16, eF_16⟩ : ∃ z, z = fu F_12 3 (.int 4) := ⟨_, rfl⟩
  have hP : va_P (dC, dI) vwCl [(h0, .inr (15, fl 134 F_16)), (qt, .inl (cy, 6000, .inl f_15))] H := by rw [eF_16, ← fl_set (n := 134) (k := 3) (by decide)]; exact hP
  have hD : va_D A [(h0, .inr (15, fl 134 F_16)), (qt, .inl (cy, 6000, .inl f_15))] := by rw [eF_16, ← fl_set (n := 134) (k := 3) (by decide)]; exact hD
  refine lv_iinc (v := (-8)) (lv' := [(2, .int ((-8))), (0, .ref h0), (1, .int i)]) hx hb dX13_four_30 hl (k := 0) rfl (by decide) (by decide) rfl (fun ls hl => ?_)
  refine lv_goto (tgt := 3) hx hb dX13_four_33 (by decide) ?_
  refine lv_iload_n hx hb dX13_four_3 rfl (lv_at hl 0 rfl) ?_
  refine lv_if_lt (tgt := 36) hx hb dX13_four_4 (by decide) (fun c9 => ?_) (fun c9 => absurd (by decide) c9)
  clear c9
  have hP9 := hP.sub (ws' := [(h0, .inr (15, fl 134 F_16)), (qt, .inl (cy, 6000, .inl f_15))]) [0, 1] rfl
  have hD9 := hD.sub (ws' := [(h0, .inr (15, fl 134 F_16)), (qt, .inl (cy, 6000, .inl f_15))]) [0, 1] (by decide) rfl
  have hK9 := hK.sub (tys' := [(cy, .byte)]) [0] rfl
  refine W.widen (k := 0) (n := 0) (Nat.le_of_ble_eq_true rfl) (Nat.le_of_ble_eq_true rfl) ?_
  exact W.vret hx hb hr (fun t ht hW => ⟨⟨(), rfl, trivial, F_16, f_15, (fu_ne eF_16 (by decide) (fu_ne eF_12 (by decide) (fu_ne eF_8 (by decide) (fu_ne eF_4 (by decide) hk2)))), (fu_eq eF_16), by rw [ht]; exact hP9, va_K.moved hW.alike hK9, hD9⟩, hS.F ht⟩) hS.2.2 dX13_four_36
def ws_cm_four_4 : List Cond := .code yX13_four cX13_four 3 none :: ([.fieldLink RX13 16 "LevelUnitsModel" "tape" "[B", .fieldLink RX13 255 "LevelUnitsModel" "taped" "I"] ++ wsX130)
theorem in_cm_four_4_RX13 : ∀ w ∈ wsX130, w ∈ ws_cm_four_4 := fun _ h => List.mem_cons_of_mem _ (List.mem_append_right _ h)
set_option maxHeartbeats 4000000 in
set_option maxRecDepth 100000 in
theorem cm_four_4 (l : Launch) (dC : Nat → ClassId) (dI : Nat → Nat → Nat) (h0 : Nat) (F : Nat → Value) (qt : Nat) (cy : ClassId) (f : Nat → Int32) (i : Int32) (sz : Nat) (hk2 : F 2 = .ref qt) (hk3 : F 3 = .int 4) : Met l yX13_four ws_cm_four_4 ({ frames := 0, cells := 0, slots := 0, locals := 0 }) (va_Pc [.ref h0, .int i] (fun U => U.heap.size = sz ∧ va_P (dC, dI) vwCl [(h0, .inr (15, fl 134 F)), (qt, .inl (cy, 6000, .inl f))] U.heap ∧ va_K (dC, dI) vwCl [(cy, .byte)] U ∧ va_D (fun _ => True) [(h0, .inr (15, fl 134 F)), (qt, .inl (cy, 6000, .inl f))])) (va_Qv (fun _ : Unit => True) (fun _ t => ∃ F_a : Nat → Value, ∃ f_a : Nat → Int32, F_a 2 = .ref qt ∧ F_a 3 = .int 8 ∧ va_P (dC, dI) vwCl [(h0, .inr (15, fl 134 F_a)), (qt, .inl (cy, 6000, .inl f_a))] t.heap ∧ va_K (dC, dI) vwCl [(cy, .byte)] t ∧ va_D (va_A [(h0, .inr (15, fl 134 F)), (qt, .inl (cy, 6000, .inl f))] sz) [(h0, .inr (15, fl 134 F_a)), (qt, .inl (cy, 6000, .inl f_a))]) (va_A [(h0, .inr (15, fl 134 F)), (qt, .inl (cy, 6000, .inl f))] sz)) 0 0 (va_A [(h0, .inr (15, fl 134 F)), (qt, .inl (cy, 6000, .inl f))] sz) := by
  refine Met.ofW (cc := cX13_four) (maxL := 3) (ret := none) (by decide) rfl ?_
  intro p e s m args below meth c s₁ B hml hv
  obtain ⟨rfl, hsz, hP, hK, hD0⟩ := hv
  have hx := B.exec
  have hb := B.bytes
  have hr := B.returns
  have hts := atoms_spec (ws := ws_cm_four_4) B.pre
  have hown : s.vm.findClass RX13 = some m.cls := findClass_of_methodNamed B.named
  have hlocks := B.notSynchronized
  subst hsz
  have hD := hD0.self (sz := s.heap.size)
  generalize hAe : va_A [(h0, .inr (15, fl 134 F)), (qt, .inl (cy, 6000, .inl f))] s.heap.size = A at hD ⊢
  have hA : ∀ q : Nat, s.heap.size ≤ q → A q := fun q h => by rw [← hAe]; exact Or.inr h
  have hS : va_S A s.heap s.heap [] := va_S.rf
  have hP : va_P (dC, dI) vwCl [(h0, .inr (15, fl 134 F)), (qt, .inl (cy, 6000, .inl f))] s.heap := hP
  have hl := lv_entry ([.ref h0, .int i]) (n := 3) (Nat.le_of_ble_eq_true rfl)
  rw [lg_entry_eq]
  generalize (lg_sl ([.ref h0, .int i]) ++ List.replicate (3 - (lg_sl ([.ref h0, .int i])).length) Slot.unset).toArray = ls at hl ⊢
  have hl : lv_has ls 3 [(0, .ref h0), (1, .int i)] := hl
  refine lv_bipush (v := 24) hx hb dX13_four_0 (by decide) ?_
  refine lv_istore_n (lv' := [(2, .int 24), (0, .ref h0), (1, .int i)]) hx hb dX13_four_2 rfl hl (by decide) rfl (fun ls hl => ?_)
  refine lv_iload_n hx hb dX13_four_3 rfl (lv_at hl 0 rfl) ?_
  refine lv_if_lt (tgt := 36) hx hb dX13_four_4 (by decide) (fun c9 => absurd c9 (by decide)) (fun c9 => ?_)
  clear c9
  refine lv_aload_n hx hb dX13_four_7 rfl (lv_at hl 1 rfl) ?_
  refine va_get (D := (dC, dI)) (ci := 15) (v := .ref qt) (C := RX13) (T := TX13) (N := 134) hx hb hts in_cm_four_4_RX13 hown hK hP 0 rfl rfl 2 (by decide) (hts (.fieldLink RX13 16 "LevelUnitsModel" "tape" "[B") (List.mem_of_getElem? (i := 1) rfl)) (fun _ h9 => h9) (fl_get (by decide) hk2) dX13_four_8 ?_
  refine lv_aload_n hx hb dX13_four_11 rfl (lv_at hl 1 rfl) ?_
  refine va_get (D := (dC, dI)) (ci := 15) (v := .int 4) (C := RX13) (T := TX13) (N := 134) hx hb hts in_cm_four_4_RX13 hown hK hP 0 rfl rfl 3 (by decide) (hts (.fieldLink RX13 255 "LevelUnitsModel" "taped" "I") (List.mem_of_getElem? (i := 2) rfl)) (fun _ h9 => h9) (fl_get (by decide) hk3) dX13_four_12 ?_
  refine lv_iload_n hx hb dX13_four_15 rfl (lv_at hl 2 rfl) ?_
  refine lv_iload_n hx hb dX13_four_16 rfl (lv_at hl 0 rfl) ?_
  refine lv_ishr hx hb dX13_four_17 ?_
  refine lv_topi (fun x_1 ex_1 => ?_)
  refine lv_i2b hx hb dX13_four_18 rfl ?_
  refine lv_topi (fun x_2 ex_2 => ?_)
  refine va_bast hx hb hK hP hD hS 1 0 rfl rfl (i := 4) (by unfold vp_in; decide) dX13_four_19 (fun H locs hP hD hS => ?_)
  obtain ⟨f_3, ef_3⟩ : ∃ z, z = upd f (Int32.toNatClampNeg 4) (vp_nar .byte x_2) := ⟨_, rfl⟩
  rw [← ef_3] at hP hD
  have hP : va_P (dC, dI) vwCl [(h0, .inr (15, fl 134 F)), (qt, .inl (cy, 6000, .inl f_3))] H := hP
  have hD : va_D A [(h0, .inr (15, fl 134 F)), (qt, .inl (cy, 6000, .inl f_3))] := hD
  refine lv_aload_n hx hb dX13_four_20 rfl (lv_at hl 1 rfl) ?_
  refine lv_dup hx hb dX13_four_21 rfl ?_
  refine va_get (D := (dC, dI)) (ci := 15) (v := .int 4) (C := RX13) (T := TX13) (N := 134) hx hb hts in_cm_four_4_RX13 hown hK hP 0 rfl rfl 3 (by decide) (hts (.fieldLink RX13 255 "LevelUnitsModel" "taped" "I") (List.mem_of_getElem? (i := 2) rfl)) (fun _ h9 => h9) (fl_get (by decide) hk3) dX13_four_22 ?_
  refine lv_iconst (v := 1) hx hb dX13_four_25 (by decide) ?_
  refine lv_iadd hx hb dX13_four_26 ?_
  refine lv_topi (fun y9 e9 => ?_)
  have e9 : y9 = 5 := by rw [e9]; decide
  subst e9
  refine va_put (D := (dC, dI)) (ci := 15) (v := .int 5) (ty := .int) (C := RX13) (T := TX13) (N := 134) hx hb hts in_cm_four_4_RX13 tyX13 tyX13_ok nmX13 hown hK hP hD hS 0 rfl rfl 3 (by decide) (hts (.fieldLink RX13 255 "LevelUnitsModel" "taped" "I") (List.mem_of_getElem? (i := 2) rfl)) (fun _ h9 => h9) rfl (by decide +kernel) rfl rfl (fl_lt (by decide)) dX13_four_27 (fun H locs hP hD hS => ?_)
  obtain ⟨F_4, eF_4⟩ : ∃ z, z = fu F 3 (.int 5) := ⟨_, rfl⟩
  have hP : va_P (dC, dI) vwCl [(h0, .inr (15, fl 134 F_4)), (qt, .inl (cy, 6000, .inl f_3))] H := by rw [eF_4, ← fl_set (n := 134) (k := 3) (by decide)]; exact hP
  have hD : va_D A [(h0, .inr (15, fl 134 F_4)), (qt, .inl (cy, 6000, .inl f_3))] := by rw [eF_4, ← fl_set (n := 134) (k := 3) (by decide)]; exact hD
  refine lv_iinc (v := 16) (lv' := [(2, .int 16), (0, .ref h0), (1, .int i)]) hx hb dX13_four_30 hl (k := 0) rfl (by decide) (by decide) rfl (fun ls hl => ?_)
  refine lv_goto (tgt := 3) hx hb dX13_four_33 (by decide) ?_
  refine lv_iload_n hx hb dX13_four_3 rfl (lv_at hl 0 rfl) ?_
  refine lv_if_lt (tgt := 36) hx hb dX13_four_4 (by decide) (fun c9 => absurd c9 (by decide)) (fun c9 => ?_)
  clear c9
  refine lv_aload_n hx hb dX13_four_7 rfl (lv_at hl 1 rfl) ?_
  refine va_get (D := (dC, dI)) (ci := 15) (v := .ref qt) (C := RX13) (T := TX13) (N := 134) hx hb hts in_cm_four_4_RX13 hown hK hP 0 rfl rfl 2 (by decide) (hts (.fieldLink RX13 16 "LevelUnitsModel" "tape" "[B") (List.mem_of_getElem? (i := 1) rfl)) (fun _ h9 => h9) (fl_get (by decide) (fu_ne eF_4 (by decide) hk2)) dX13_four_8 ?_
  refine lv_aload_n hx hb dX13_four_11 rfl (lv_at hl 1 rfl) ?_
  refine va_get (D := (dC, dI)) (ci := 15) (v := .int 5) (C := RX13) (T := TX13) (N := 134) hx hb hts in_cm_four_4_RX13 hown hK hP 0 rfl rfl 3 (by decide) (hts (.fieldLink RX13 255 "LevelUnitsModel" "taped" "I") (List.mem_of_getElem? (i := 2) rfl)) (fun _ h9 => h9) (fl_get (by decide) (fu_eq eF_4)) dX13_four_12 ?_
  refine lv_iload_n hx hb dX13_four_15 rfl (lv_at hl 2 rfl) ?_
  refine lv_iload_n hx hb dX13_four_16 rfl (lv_at hl 0 rfl) ?_
  refine lv_ishr hx hb dX13_four_17 ?_
  refine lv_topi (fun x_5 ex_5 => ?_)
  refine lv_i2b hx hb dX13_four_18 rfl ?_
  refine lv_topi (fun x_6 ex_6 => ?_)
  refine va_bast hx hb hK hP hD hS 1 0 rfl rfl (i := 5) (by unfold vp_in; decide) dX13_four_19 (fun H locs hP hD hS => ?_)
  obtain ⟨f_7, ef_7⟩ : ∃ z, z = upd f_3 (Int32.toNatClampNeg 5) (vp_nar .byte x_6) := ⟨_, rfl⟩
  rw [← ef_7] at hP hD
  have hP : va_P (dC, dI) vwCl [(h0, .inr (15, fl 134 F_4)), (qt, .inl (cy, 6000, .inl f_7))] H := hP
  have hD : va_D A [(h0, .inr (15, fl 134 F_4)), (qt, .inl (cy, 6000, .inl f_7))] := hD
  refine lv_aload_n hx hb dX13_four_20 rfl (lv_at hl 1 rfl) ?_
  refine lv_dup hx hb dX13_four_21 rfl ?_
  refine va_get (D := (dC, dI)) (ci := 15) (v := .int 5) (C := RX13) (T := TX13) (N := 134) hx hb hts in_cm_four_4_RX13 hown hK hP 0 rfl rfl 3 (by decide) (hts (.fieldLink RX13 255 "LevelUnitsModel" "taped" "I") (List.mem_of_getElem? (i := 2) rfl)) (fun _ h9 => h9) (fl_get (by decide) (fu_eq eF_4)) dX13_four_22 ?_
  refine lv_iconst (v := 1) hx hb dX13_four_25 (by decide) ?_
  refine lv_iadd hx hb dX13_four_26 ?_
  refine lv_topi (fun y9 e9 => ?_)
  have e9 : y9 = 6 := by rw [e9]; decide
  subst e9
  refine va_put (D := (dC, dI)) (ci := 15) (v := .int 6) (ty := .int) (C := RX13) (T := TX13) (N := 134) hx hb hts in_cm_four_4_RX13 tyX13 tyX13_ok nmX13 hown hK hP hD hS 0 rfl rfl 3 (by decide) (hts (.fieldLink RX13 255 "LevelUnitsModel" "taped" "I") (List.mem_of_getElem? (i := 2) rfl)) (fun _ h9 => h9) rfl (by decide +kernel) rfl rfl (fl_lt (by decide)) dX13_four_27 (fun H locs hP hD hS => ?_)
  obtain ⟨F_8, eF_8⟩ : ∃ z, z = fu F_4 3 (.int 6) := ⟨_, rfl⟩
  have hP : va_P (dC, dI) vwCl [(h0, .inr (15, fl 134 F_8)), (qt, .inl (cy, 6000, .inl f_7))] H := by rw [eF_8, ← fl_set (n := 134) (k := 3) (by decide)]; exact hP
  have hD : va_D A [(h0, .inr (15, fl 134 F_8)), (qt, .inl (cy, 6000, .inl f_7))] := by rw [eF_8, ← fl_set (n := 134) (k := 3) (by decide)]; exact hD
  refine lv_iinc (v := 8) (lv' := [(2, .int 8), (0, .ref h0), (1, .int i)]) hx hb dX13_four_30 hl (k := 0) rfl (by decide) (by decide) rfl (fun ls hl => ?_)
  refine lv_goto (tgt := 3) hx hb dX13_four_33 (by decide) ?_
  refine lv_iload_n hx hb dX13_four_3 rfl (lv_at hl 0 rfl) ?_
  refine lv_if_lt (tgt := 36) hx hb dX13_four_4 (by decide) (fun c9 => absurd c9 (by decide)) (fun c9 => ?_)
  clear c9
  refine lv_aload_n hx hb dX13_four_7 rfl (lv_at hl 1 rfl) ?_
  refine va_get (D := (dC, dI)) (ci := 15) (v := .ref qt) (C := RX13) (T := TX13) (N := 134) hx hb hts in_cm_four_4_RX13 hown hK hP 0 rfl rfl 2 (by decide) (hts (.fieldLink RX13 16 "LevelUnitsModel" "tape" "[B") (List.mem_of_getElem? (i := 1) rfl)) (fun _ h9 => h9) (fl_get (by decide) (fu_ne eF_8 (by decide) (fu_ne eF_4 (by decide) hk2))) dX13_four_8 ?_
  refine lv_aload_n hx hb dX13_four_11 rfl (lv_at hl 1 rfl) ?_
  refine va_get (D := (dC, dI)) (ci := 15) (v := .int 6) (C := RX13) (T := TX13) (N := 134) hx hb hts in_cm_four_4_RX13 hown hK hP 0 rfl rfl 3 (by decide) (hts (.fieldLink RX13 255 "LevelUnitsModel" "taped" "I") (List.mem_of_getElem? (i := 2) rfl)) (fun _ h9 => h9) (fl_get (by decide) (fu_eq eF_8)) dX13_four_12 ?_
  refine lv_iload_n hx hb dX13_four_15 rfl (lv_at hl 2 rfl) ?_
  refine lv_iload_n hx hb dX13_four_16 rfl (lv_at hl 0 rfl) ?_
  refine lv_ishr hx hb dX13_four_17 ?_
  refine lv_topi (fun x_9 ex_9 => ?_)
  refine lv_i2b hx hb dX13_four_18 rfl ?_
  refine lv_topi (fun x_10 ex_10 => ?_)
  refine va_bast hx hb hK hP hD hS 1 0 rfl rfl (i := 6) (by unfold vp_in; decide) dX13_four_19 (fun H locs hP hD hS => ?_)
  obtain ⟨f_11, ef_11⟩ : ∃ z, z = upd f_7 (Int32.toNatClampNeg 6) (vp_nar .byte x_10) := ⟨_, rfl⟩
  rw [← ef_11] at hP hD
  have hP : va_P (dC, dI) vwCl [(h0, .inr (15, fl 134 F_8)), (qt, .inl (cy, 6000, .inl f_11))] H := hP
  have hD : va_D A [(h0, .inr (15, fl 134 F_8)), (qt, .inl (cy, 6000, .inl f_11))] := hD
  refine lv_aload_n hx hb dX13_four_20 rfl (lv_at hl 1 rfl) ?_
  refine lv_dup hx hb dX13_four_21 rfl ?_
  refine va_get (D := (dC, dI)) (ci := 15) (v := .int 6) (C := RX13) (T := TX13) (N := 134) hx hb hts in_cm_four_4_RX13 hown hK hP 0 rfl rfl 3 (by decide) (hts (.fieldLink RX13 255 "LevelUnitsModel" "taped" "I") (List.mem_of_getElem? (i := 2) rfl)) (fun _ h9 => h9) (fl_get (by decide) (fu_eq eF_8)) dX13_four_22 ?_
  refine lv_iconst (v := 1) hx hb dX13_four_25 (by decide) ?_
  refine lv_iadd hx hb dX13_four_26 ?_
  refine lv_topi (fun y9 e9 => ?_)
  have e9 : y9 = 7 := by rw [e9]; decide
  subst e9
  refine va_put (D := (dC, dI)) (ci := 15) (v := .int 7) (ty := .int) (C := RX13) (T := TX13) (N := 134) hx hb hts in_cm_four_4_RX13 tyX13 tyX13_ok nmX13 hown hK hP hD hS 0 rfl rfl 3 (by decide) (hts (.fieldLink RX13 255 "LevelUnitsModel" "taped" "I") (List.mem_of_getElem? (i := 2) rfl)) (fun _ h9 => h9) rfl (by decide +kernel) rfl rfl (fl_lt (by decide)) dX13_four_27 (fun H locs hP hD hS => ?_)
  obtain ⟨F_12, eF_12⟩ : ∃ z, z = fu F_8 3 (.int 7) := ⟨_, rfl⟩
  have hP : va_P (dC, dI) vwCl [(h0, .inr (15, fl 134 F_12)), (qt, .inl (cy, 6000, .inl f_11))] H := by rw [eF_12, ← fl_set (n := 134) (k := 3) (by decide)]; exact hP
  have hD : va_D A [(h0, .inr (15, fl 134 F_12)), (qt, .inl (cy, 6000, .inl f_11))] := by rw [eF_12, ← fl_set (n := 134) (k := 3) (by decide)]; exact hD
  refine lv_iinc (v := 0) (lv' := [(2, .int 0), (0, .ref h0), (1, .int i)]) hx hb dX13_four_30 hl (k := 0) rfl (by decide) (by decide) rfl (fun ls hl => ?_)
  refine lv_goto (tgt := 3) hx hb dX13_four_33 (by decide) ?_
  refine lv_iload_n hx hb dX13_four_3 rfl (lv_at hl 0 rfl) ?_
  refine lv_if_lt (tgt := 36) hx hb dX13_four_4 (by decide) (fun c9 => absurd c9 (by decide)) (fun c9 => ?_)
  clear c9
  refine lv_aload_n hx hb dX13_four_7 rfl (lv_at hl 1 rfl) ?_
  refine va_get (D := (dC, dI)) (ci := 15) (v := .ref qt) (C := RX13) (T := TX13) (N := 134) hx hb hts in_cm_four_4_RX13 hown hK hP 0 rfl rfl 2 (by decide) (hts (.fieldLink RX13 16 "LevelUnitsModel" "tape" "[B") (List.mem_of_getElem? (i := 1) rfl)) (fun _ h9 => h9) (fl_get (by decide) (fu_ne eF_12 (by decide) (fu_ne eF_8 (by decide) (fu_ne eF_4 (by decide) hk2)))) dX13_four_8 ?_
  refine lv_aload_n hx hb dX13_four_11 rfl (lv_at hl 1 rfl) ?_
  refine va_get (D := (dC, dI)) (ci := 15) (v := .int 7) (C := RX13) (T := TX13) (N := 134) hx hb hts in_cm_four_4_RX13 hown hK hP 0 rfl rfl 3 (by decide) (hts (.fieldLink RX13 255 "LevelUnitsModel" "taped" "I") (List.mem_of_getElem? (i := 2) rfl)) (fun _ h9 => h9) (fl_get (by decide) (fu_eq eF_12)) dX13_four_12 ?_
  refine lv_iload_n hx hb dX13_four_15 rfl (lv_at hl 2 rfl) ?_
  refine lv_iload_n hx hb dX13_four_16 rfl (lv_at hl 0 rfl) ?_
  refine lv_ishr hx hb dX13_four_17 ?_
  refine lv_topi (fun x_13 ex_13 => ?_)
  refine lv_i2b hx hb dX13_four_18 rfl ?_
  refine lv_topi (fun x_14 ex_14 => ?_)
  refine va_bast hx hb hK hP hD hS 1 0 rfl rfl (i := 7) (by unfold vp_in; decide) dX13_four_19 (fun H locs hP hD hS => ?_)
  obtain ⟨f_15, ef_15⟩ : ∃ z, z = upd f_11 (Int32.toNatClampNeg 7) (vp_nar .byte x_14) := ⟨_, rfl⟩
  rw [← ef_15] at hP hD
  have hP : va_P (dC, dI) vwCl [(h0, .inr (15, fl 134 F_12)), (qt, .inl (cy, 6000, .inl f_15))] H := hP
  have hD : va_D A [(h0, .inr (15, fl 134 F_12)), (qt, .inl (cy, 6000, .inl f_15))] := hD
  refine lv_aload_n hx hb dX13_four_20 rfl (lv_at hl 1 rfl) ?_
  refine lv_dup hx hb dX13_four_21 rfl ?_
  refine va_get (D := (dC, dI)) (ci := 15) (v := .int 7) (C := RX13) (T := TX13) (N := 134) hx hb hts in_cm_four_4_RX13 hown hK hP 0 rfl rfl 3 (by decide) (hts (.fieldLink RX13 255 "LevelUnitsModel" "taped" "I") (List.mem_of_getElem? (i := 2) rfl)) (fun _ h9 => h9) (fl_get (by decide) (fu_eq eF_12)) dX13_four_22 ?_
  refine lv_iconst (v := 1) hx hb dX13_four_25 (by decide) ?_
  refine lv_iadd hx hb dX13_four_26 ?_
  refine lv_topi (fun y9 e9 => ?_)
  have e9 : y9 = 8 := by rw [e9]; decide
  subst e9
  refine va_put (D := (dC, dI)) (ci := 15) (v := .int 8) (ty := .int) (C := RX13) (T := TX13) (N := 134) hx hb hts in_cm_four_4_RX13 tyX13 tyX13_ok nmX13 hown hK hP hD hS 0 rfl rfl 3 (by decide) (hts (.fieldLink RX13 255 "LevelUnitsModel" "taped" "I") (List.mem_of_getElem? (i := 2) rfl)) (fun _ h9 => h9) rfl (by decide +kernel) rfl rfl (fl_lt (by decide)) dX13_four_27 (fun H locs hP hD hS => ?_)
  obtain ⟨F_16, eF_16⟩ : ∃ z, z = fu F_12 3 (.int 8) := ⟨_, rfl⟩
  have hP : va_P (dC, dI) vwCl [(h0, .inr (15, fl 134 F_16)), (qt, .inl (cy, 6000, .inl f_15))] H := by rw [eF_16, ← fl_set (n := 134) (k := 3) (by decide)]; exact hP
  have hD : va_D A [(h0, .inr (15, fl 134 F_16)), (qt, .inl (cy, 6000, .inl f_15))] := by rw [eF_16, ← fl_set (n := 134) (k := 3) (by decide)]; exact hD
  refine lv_iinc (v := (-8)) (lv' := [(2, .int ((-8))), (0, .ref h0), (1, .int i)]) hx hb dX13_four_30 hl (k := 0) rfl (by decide) (by decide) rfl (fun ls hl => ?_)
  refine lv_goto (tgt := 3) hx hb dX13_four_33 (by decide) ?_
  refine lv_iload_n hx hb dX13_four_3 rfl (lv_at hl 0 rfl) ?_
  refine lv_if_lt (tgt := 36) hx hb dX13_four_4 (by decide) (fun c9 => ?_) (fun c9 => absurd (by decide) c9)
  clear c9
  have hP9 := hP.sub (ws' := [(h0, .inr (15, fl 134 F_16)), (qt, .inl (cy, 6000, .inl f_15))]) [0, 1] rfl
  have hD9 := hD.sub (ws' := [(h0, .inr (15, fl 134 F_16)), (qt, .inl (cy, 6000, .inl f_15))]) [0, 1] (by decide) rfl
  have hK9 := hK.sub (tys' := [(cy, .byte)]) [0] rfl
  refine W.widen (k := 0) (n := 0) (Nat.le_of_ble_eq_true rfl) (Nat.le_of_ble_eq_true rfl) ?_
  exact W.vret hx hb hr (fun t ht hW => ⟨⟨(), rfl, trivial, F_16, f_15, (fu_ne eF_16 (by decide) (fu_ne eF_12 (by decide) (fu_ne eF_8 (by decide) (fu_ne eF_4 (by decide) hk2)))), (fu_eq eF_16), by rw [ht]; exact hP9, va_K.moved hW.alike hK9, hD9⟩, hS.F ht⟩) hS.2.2 dX13_four_36
def ws_cm_four_8 : List Cond := .code yX13_four cX13_four 3 none :: ([.fieldLink RX13 16 "LevelUnitsModel" "tape" "[B", .fieldLink RX13 255 "LevelUnitsModel" "taped" "I"] ++ wsX130)
theorem in_cm_four_8_RX13 : ∀ w ∈ wsX130, w ∈ ws_cm_four_8 := fun _ h => List.mem_cons_of_mem _ (List.mem_append_right _ h)
set_option maxHeartbeats 4000000 in
set_option maxRecDepth 100000 in
theorem cm_four_8 (l : Launch) (dC : Nat → ClassId) (dI : Nat → Nat → Nat) (h0 : Nat) (F : Nat → Value) (qt : Nat) (cy : ClassId) (f : Nat → Int32) (i : Int32) (sz : Nat) (hk2 : F 2 = .ref qt) (hk3 : F 3 = .int 8) : Met l yX13_four ws_cm_four_8 ({ frames := 0, cells := 0, slots := 0, locals := 0 }) (va_Pc [.ref h0, .int i] (fun U => U.heap.size = sz ∧ va_P (dC, dI) vwCl [(h0, .inr (15, fl 134 F)), (qt, .inl (cy, 6000, .inl f))] U.heap ∧ va_K (dC, dI) vwCl [(cy, .byte)] U ∧ va_D (fun _ => True) [(h0, .inr (15, fl 134 F)), (qt, .inl (cy, 6000, .inl f))])) (va_Qv (fun _ : Unit => True) (fun _ t => ∃ F_a : Nat → Value, ∃ f_a : Nat → Int32, F_a 2 = .ref qt ∧ F_a 3 = .int 12 ∧ va_P (dC, dI) vwCl [(h0, .inr (15, fl 134 F_a)), (qt, .inl (cy, 6000, .inl f_a))] t.heap ∧ va_K (dC, dI) vwCl [(cy, .byte)] t ∧ va_D (va_A [(h0, .inr (15, fl 134 F)), (qt, .inl (cy, 6000, .inl f))] sz) [(h0, .inr (15, fl 134 F_a)), (qt, .inl (cy, 6000, .inl f_a))]) (va_A [(h0, .inr (15, fl 134 F)), (qt, .inl (cy, 6000, .inl f))] sz)) 0 0 (va_A [(h0, .inr (15, fl 134 F)), (qt, .inl (cy, 6000, .inl f))] sz) := by
  refine Met.ofW (cc := cX13_four) (maxL := 3) (ret := none) (by decide) rfl ?_
  intro p e s m args below meth c s₁ B hml hv
  obtain ⟨rfl, hsz, hP, hK, hD0⟩ := hv
  have hx := B.exec
  have hb := B.bytes
  have hr := B.returns
  have hts := atoms_spec (ws := ws_cm_four_8) B.pre
  have hown : s.vm.findClass RX13 = some m.cls := findClass_of_methodNamed B.named
  have hlocks := B.notSynchronized
  subst hsz
  have hD := hD0.self (sz := s.heap.size)
  generalize hAe : va_A [(h0, .inr (15, fl 134 F)), (qt, .inl (cy, 6000, .inl f))] s.heap.size = A at hD ⊢
  have hA : ∀ q : Nat, s.heap.size ≤ q → A q := fun q h => by rw [← hAe]; exact Or.inr h
  have hS : va_S A s.heap s.heap [] := va_S.rf
  have hP : va_P (dC, dI) vwCl [(h0, .inr (15, fl 134 F)), (qt, .inl (cy, 6000, .inl f))] s.heap := hP
  have hl := lv_entry ([.ref h0, .int i]) (n := 3) (Nat.le_of_ble_eq_true rfl)
  rw [lg_entry_eq]
  generalize (lg_sl ([.ref h0, .int i]) ++ List.replicate (3 - (lg_sl ([.ref h0, .int i])).length) Slot.unset).toArray = ls at hl ⊢
  have hl : lv_has ls 3 [(0, .ref h0), (1, .int i)] := hl
  refine lv_bipush (v := 24) hx hb dX13_four_0 (by decide) ?_
  refine lv_istore_n (lv' := [(2, .int 24), (0, .ref h0), (1, .int i)]) hx hb dX13_four_2 rfl hl (by decide) rfl (fun ls hl => ?_)
  refine lv_iload_n hx hb dX13_four_3 rfl (lv_at hl 0 rfl) ?_
  refine lv_if_lt (tgt := 36) hx hb dX13_four_4 (by decide) (fun c9 => absurd c9 (by decide)) (fun c9 => ?_)
  clear c9
  refine lv_aload_n hx hb dX13_four_7 rfl (lv_at hl 1 rfl) ?_
  refine va_get (D := (dC, dI)) (ci := 15) (v := .ref qt) (C := RX13) (T := TX13) (N := 134) hx hb hts in_cm_four_8_RX13 hown hK hP 0 rfl rfl 2 (by decide) (hts (.fieldLink RX13 16 "LevelUnitsModel" "tape" "[B") (List.mem_of_getElem? (i := 1) rfl)) (fun _ h9 => h9) (fl_get (by decide) hk2) dX13_four_8 ?_
  refine lv_aload_n hx hb dX13_four_11 rfl (lv_at hl 1 rfl) ?_
  refine va_get (D := (dC, dI)) (ci := 15) (v := .int 8) (C := RX13) (T := TX13) (N := 134) hx hb hts in_cm_four_8_RX13 hown hK hP 0 rfl rfl 3 (by decide) (hts (.fieldLink RX13 255 "LevelUnitsModel" "taped" "I") (List.mem_of_getElem? (i := 2) rfl)) (fun _ h9 => h9) (fl_get (by decide) hk3) dX13_four_12 ?_
  refine lv_iload_n hx hb dX13_four_15 rfl (lv_at hl 2 rfl) ?_
  refine lv_iload_n hx hb dX13_four_16 rfl (lv_at hl 0 rfl) ?_
  refine lv_ishr hx hb dX13_four_17 ?_
  refine lv_topi (fun x_1 ex_1 => ?_)
  refine lv_i2b hx hb dX13_four_18 rfl ?_
  refine lv_topi (fun x_2 ex_2 => ?_)
  refine va_bast hx hb hK hP hD hS 1 0 rfl rfl (i := 8) (by unfold vp_in; decide) dX13_four_19 (fun H locs hP hD hS => ?_)
  obtain ⟨f_3, ef_3⟩ : ∃ z, z = upd f (Int32.toNatClampNeg 8) (vp_nar .byte x_2) := ⟨_, rfl⟩
  rw [← ef_3] at hP hD
  have hP : va_P (dC, dI) vwCl [(h0, .inr (15, fl 134 F)), (qt, .inl (cy, 6000, .inl f_3))] H := hP
  have hD : va_D A [(h0, .inr (15, fl 134 F)), (qt, .inl (cy, 6000, .inl f_3))] := hD
  refine lv_aload_n hx hb dX13_four_20 rfl (lv_at hl 1 rfl) ?_
  refine lv_dup hx hb dX13_four_21 rfl ?_
  refine va_get (D := (dC, dI)) (ci := 15) (v := .int 8) (C := RX13) (T := TX13) (N := 134) hx hb hts in_cm_four_8_RX13 hown hK hP 0 rfl rfl 3 (by decide) (hts (.fieldLink RX13 255 "LevelUnitsModel" "taped" "I") (List.mem_of_getElem? (i := 2) rfl)) (fun _ h9 => h9) (fl_get (by decide) hk3) dX13_four_22 ?_
  refine lv_iconst (v := 1) hx hb dX13_four_25 (by decide) ?_
  refine lv_iadd hx hb dX13_four_26 ?_
  refine lv_topi (fun y9 e9 => ?_)
  have e9 : y9 = 9 := by rw [e9]; decide
  subst e9
  refine va_put (D := (dC, dI)) (ci := 15) (v := .int 9) (ty := .int) (C := RX13) (T := TX13) (N := 134) hx hb hts in_cm_four_8_RX13 tyX13 tyX13_ok nmX13 hown hK hP hD hS 0 rfl rfl 3 (by decide) (hts (.fieldLink RX13 255 "LevelUnitsModel" "taped" "I") (List.mem_of_getElem? (i := 2) rfl)) (fun _ h9 => h9) rfl (by decide +kernel) rfl rfl (fl_lt (by decide)) dX13_four_27 (fun H locs hP hD hS => ?_)
  obtain ⟨F_4, eF_4⟩ : ∃ z, z = fu F 3 (.int 9) := ⟨_, rfl⟩
  have hP : va_P (dC, dI) vwCl [(h0, .inr (15, fl 134 F_4)), (qt, .inl (cy, 6000, .inl f_3))] H := by rw [eF_4, ← fl_set (n := 134) (k := 3) (by decide)]; exact hP
  have hD : va_D A [(h0, .inr (15, fl 134 F_4)), (qt, .inl (cy, 6000, .inl f_3))] := by rw [eF_4, ← fl_set (n := 134) (k := 3) (by decide)]; exact hD
  refine lv_iinc (v := 16) (lv' := [(2, .int 16), (0, .ref h0), (1, .int i)]) hx hb dX13_four_30 hl (k := 0) rfl (by decide) (by decide) rfl (fun ls hl => ?_)
  refine lv_goto (tgt := 3) hx hb dX13_four_33 (by decide) ?_
  refine lv_iload_n hx hb dX13_four_3 rfl (lv_at hl 0 rfl) ?_
  refine lv_if_lt (tgt := 36) hx hb dX13_four_4 (by decide) (fun c9 => absurd c9 (by decide)) (fun c9 => ?_)
  clear c9
  refine lv_aload_n hx hb dX13_four_7 rfl (lv_at hl 1 rfl) ?_
  refine va_get (D := (dC, dI)) (ci := 15) (v := .ref qt) (C := RX13) (T := TX13) (N := 134) hx hb hts in_cm_four_8_RX13 hown hK hP 0 rfl rfl 2 (by decide) (hts (.fieldLink RX13 16 "LevelUnitsModel" "tape" "[B") (List.mem_of_getElem? (i := 1) rfl)) (fun _ h9 => h9) (fl_get (by decide) (fu_ne eF_4 (by decide) hk2)) dX13_four_8 ?_
  refine lv_aload_n hx hb dX13_four_11 rfl (lv_at hl 1 rfl) ?_
  refine va_get (D := (dC, dI)) (ci := 15) (v := .int 9) (C := RX13) (T := TX13) (N := 134) hx hb hts in_cm_four_8_RX13 hown hK hP 0 rfl rfl 3 (by decide) (hts (.fieldLink RX13 255 "LevelUnitsModel" "taped" "I") (List.mem_of_getElem? (i := 2) rfl)) (fun _ h9 => h9) (fl_get (by decide) (fu_eq eF_4)) dX13_four_12 ?_
  refine lv_iload_n hx hb dX13_four_15 rfl (lv_at hl 2 rfl) ?_
  refine lv_iload_n hx hb dX13_four_16 rfl (lv_at hl 0 rfl) ?_
  refine lv_ishr hx hb dX13_four_17 ?_
  refine lv_topi (fun x_5 ex_5 => ?_)
  refine lv_i2b hx hb dX13_four_18 rfl ?_
  refine lv_topi (fun x_6 ex_6 => ?_)
  refine va_bast hx hb hK hP hD hS 1 0 rfl rfl (i := 9) (by unfold vp_in; decide) dX13_four_19 (fun H locs hP hD hS => ?_)
  obtain ⟨f_7, ef_7⟩ : ∃ z, z = upd f_3 (Int32.toNatClampNeg 9) (vp_nar .byte x_6) := ⟨_, rfl⟩
  rw [← ef_7] at hP hD
  have hP : va_P (dC, dI) vwCl [(h0, .inr (15, fl 134 F_4)), (qt, .inl (cy, 6000, .inl f_7))] H := hP
  have hD : va_D A [(h0, .inr (15, fl 134 F_4)), (qt, .inl (cy, 6000, .inl f_7))] := hD
  refine lv_aload_n hx hb dX13_four_20 rfl (lv_at hl 1 rfl) ?_
  refine lv_dup hx hb dX13_four_21 rfl ?_
  refine va_get (D := (dC, dI)) (ci := 15) (v := .int 9) (C := RX13) (T := TX13) (N := 134) hx hb hts in_cm_four_8_RX13 hown hK hP 0 rfl rfl 3 (by decide) (hts (.fieldLink RX13 255 "LevelUnitsModel" "taped" "I") (List.mem_of_getElem? (i := 2) rfl)) (fun _ h9 => h9) (fl_get (by decide) (fu_eq eF_4)) dX13_four_22 ?_
  refine lv_iconst (v := 1) hx hb dX13_four_25 (by decide) ?_
  refine lv_iadd hx hb dX13_four_26 ?_
  refine lv_topi (fun y9 e9 => ?_)
  have e9 : y9 = 10 := by rw [e9]; decide
  subst e9
  refine va_put (D := (dC, dI)) (ci := 15) (v := .int 10) (ty := .int) (C := RX13) (T := TX13) (N := 134) hx hb hts in_cm_four_8_RX13 tyX13 tyX13_ok nmX13 hown hK hP hD hS 0 rfl rfl 3 (by decide) (hts (.fieldLink RX13 255 "LevelUnitsModel" "taped" "I") (List.mem_of_getElem? (i := 2) rfl)) (fun _ h9 => h9) rfl (by decide +kernel) rfl rfl (fl_lt (by decide)) dX13_four_27 (fun H locs hP hD hS => ?_)
  obtain ⟨F_8, eF_8⟩ : ∃ z, z = fu F_4 3 (.int 10) := ⟨_, rfl⟩
  have hP : va_P (dC, dI) vwCl [(h0, .inr (15, fl 134 F_8)), (qt, .inl (cy, 6000, .inl f_7))] H := by rw [eF_8, ← fl_set (n := 134) (k := 3) (by decide)]; exact hP
  have hD : va_D A [(h0, .inr (15, fl 134 F_8)), (qt, .inl (cy, 6000, .inl f_7))] := by rw [eF_8, ← fl_set (n := 134) (k := 3) (by decide)]; exact hD
  refine lv_iinc (v := 8) (lv' := [(2, .int 8), (0, .ref h0), (1, .int i)]) hx hb dX13_four_30 hl (k := 0) rfl (by decide) (by decide) rfl (fun ls hl => ?_)
  refine lv_goto (tgt := 3) hx hb dX13_four_33 (by decide) ?_
  refine lv_iload_n hx hb dX13_four_3 rfl (lv_at hl 0 rfl) ?_
  refine lv_if_lt (tgt := 36) hx hb dX13_four_4 (by decide) (fun c9 => absurd c9 (by decide)) (fun c9 => ?_)
  clear c9
  refine lv_aload_n hx hb dX13_four_7 rfl (lv_at hl 1 rfl) ?_
  refine va_get (D := (dC, dI)) (ci := 15) (v := .ref qt) (C := RX13) (T := TX13) (N := 134) hx hb hts in_cm_four_8_RX13 hown hK hP 0 rfl rfl 2 (by decide) (hts (.fieldLink RX13 16 "LevelUnitsModel" "tape" "[B") (List.mem_of_getElem? (i := 1) rfl)) (fun _ h9 => h9) (fl_get (by decide) (fu_ne eF_8 (by decide) (fu_ne eF_4 (by decide) hk2))) dX13_four_8 ?_
  refine lv_aload_n hx hb dX13_four_11 rfl (lv_at hl 1 rfl) ?_
  refine va_get (D := (dC, dI)) (ci := 15) (v := .int 10) (C := RX13) (T := TX13) (N := 134) hx hb hts in_cm_four_8_RX13 hown hK hP 0 rfl rfl 3 (by decide) (hts (.fieldLink RX13 255 "LevelUnitsModel" "taped" "I") (List.mem_of_getElem? (i := 2) rfl)) (fun _ h9 => h9) (fl_get (by decide) (fu_eq eF_8)) dX13_four_12 ?_
  refine lv_iload_n hx hb dX13_four_15 rfl (lv_at hl 2 rfl) ?_
  refine lv_iload_n hx hb dX13_four_16 rfl (lv_at hl 0 rfl) ?_
  refine lv_ishr hx hb dX13_four_17 ?_
  refine lv_topi (fun x_9 ex_9 => ?_)
  refine lv_i2b hx hb dX13_four_18 rfl ?_
  refine lv_topi (fun x_10 ex_10 => ?_)
  refine va_bast hx hb hK hP hD hS 1 0 rfl rfl (i := 10) (by unfold vp_in; decide) dX13_four_19 (fun H locs hP hD hS => ?_)
  obtain ⟨f_11, ef_11⟩ : ∃ z, z = upd f_7 (Int32.toNatClampNeg 10) (vp_nar .byte x_10) := ⟨_, rfl⟩
  rw [← ef_11] at hP hD
  have hP : va_P (dC, dI) vwCl [(h0, .inr (15, fl 134 F_8)), (qt, .inl (cy, 6000, .inl f_11))] H := hP
  have hD : va_D A [(h0, .inr (15, fl 134 F_8)), (qt, .inl (cy, 6000, .inl f_11))] := hD
  refine lv_aload_n hx hb dX13_four_20 rfl (lv_at hl 1 rfl) ?_
  refine lv_dup hx hb dX13_four_21 rfl ?_
  refine va_get (D := (dC, dI)) (ci := 15) (v := .int 10) (C := RX13) (T := TX13) (N := 134) hx hb hts in_cm_four_8_RX13 hown hK hP 0 rfl rfl 3 (by decide) (hts (.fieldLink RX13 255 "LevelUnitsModel" "taped" "I") (List.mem_of_getElem? (i := 2) rfl)) (fun _ h9 => h9) (fl_get (by decide) (fu_eq eF_8)) dX13_four_22 ?_
  refine lv_iconst (v := 1) hx hb dX13_four_25 (by decide) ?_
  refine lv_iadd hx hb dX13_four_26 ?_
  refine lv_topi (fun y9 e9 => ?_)
  have e9 : y9 = 11 := by rw [e9]; decide
  subst e9
  refine va_put (D := (dC, dI)) (ci := 15) (v := .int 11) (ty := .int) (C := RX13) (T := TX13) (N := 134) hx hb hts in_cm_four_8_RX13 tyX13 tyX13_ok nmX13 hown hK hP hD hS 0 rfl rfl 3 (by decide) (hts (.fieldLink RX13 255 "LevelUnitsModel" "taped" "I") (List.mem_of_getElem? (i := 2) rfl)) (fun _ h9 => h9) rfl (by decide +kernel) rfl rfl (fl_lt (by decide)) dX13_four_27 (fun H locs hP hD hS => ?_)
  obtain ⟨F_12, eF_12⟩ : ∃ z, z = fu F_8 3 (.int 11) := ⟨_, rfl⟩
  have hP : va_P (dC, dI) vwCl [(h0, .inr (15, fl 134 F_12)), (qt, .inl (cy, 6000, .inl f_11))] H := by rw [eF_12, ← fl_set (n := 134) (k := 3) (by decide)]; exact hP
  have hD : va_D A [(h0, .inr (15, fl 134 F_12)), (qt, .inl (cy, 6000, .inl f_11))] := by rw [eF_12, ← fl_set (n := 134) (k := 3) (by decide)]; exact hD
  refine lv_iinc (v := 0) (lv' := [(2, .int 0), (0, .ref h0), (1, .int i)]) hx hb dX13_four_30 hl (k := 0) rfl (by decide) (by decide) rfl (fun ls hl => ?_)
  refine lv_goto (tgt := 3) hx hb dX13_four_33 (by decide) ?_
  refine lv_iload_n hx hb dX13_four_3 rfl (lv_at hl 0 rfl) ?_
  refine lv_if_lt (tgt := 36) hx hb dX13_four_4 (by decide) (fun c9 => absurd c9 (by decide)) (fun c9 => ?_)
  clear c9
  refine lv_aload_n hx hb dX13_four_7 rfl (lv_at hl 1 rfl) ?_
  refine va_get (D := (dC, dI)) (ci := 15) (v := .ref qt) (C := RX13) (T := TX13) (N := 134) hx hb hts in_cm_four_8_RX13 hown hK hP 0 rfl rfl 2 (by decide) (hts (.fieldLink RX13 16 "LevelUnitsModel" "tape" "[B") (List.mem_of_getElem? (i := 1) rfl)) (fun _ h9 => h9) (fl_get (by decide) (fu_ne eF_12 (by decide) (fu_ne eF_8 (by decide) (fu_ne eF_4 (by decide) hk2)))) dX13_four_8 ?_
  refine lv_aload_n hx hb dX13_four_11 rfl (lv_at hl 1 rfl) ?_
  refine va_get (D := (dC, dI)) (ci := 15) (v := .int 11) (C := RX13) (T := TX13) (N := 134) hx hb hts in_cm_four_8_RX13 hown hK hP 0 rfl rfl 3 (by decide) (hts (.fieldLink RX13 255 "LevelUnitsModel" "taped" "I") (List.mem_of_getElem? (i := 2) rfl)) (fun _ h9 => h9) (fl_get (by decide) (fu_eq eF_12)) dX13_four_12 ?_
  refine lv_iload_n hx hb dX13_four_15 rfl (lv_at hl 2 rfl) ?_
  refine lv_iload_n hx hb dX13_four_16 rfl (lv_at hl 0 rfl) ?_
  refine lv_ishr hx hb dX13_four_17 ?_
  refine lv_topi (fun x_13 ex_13 => ?_)
  refine lv_i2b hx hb dX13_four_18 rfl ?_
  refine lv_topi (fun x_14 ex_14 => ?_)
  refine va_bast hx hb hK hP hD hS 1 0 rfl rfl (i := 11) (by unfold vp_in; decide) dX13_four_19 (fun H locs hP hD hS => ?_)
  obtain ⟨f_15, ef_15⟩ : ∃ z, z = upd f_11 (Int32.toNatClampNeg 11) (vp_nar .byte x_14) := ⟨_, rfl⟩
  rw [← ef_15] at hP hD
  have hP : va_P (dC, dI) vwCl [(h0, .inr (15, fl 134 F_12)), (qt, .inl (cy, 6000, .inl f_15))] H := hP
  have hD : va_D A [(h0, .inr (15, fl 134 F_12)), (qt, .inl (cy, 6000, .inl f_15))] := hD
  refine lv_aload_n hx hb dX13_four_20 rfl (lv_at hl 1 rfl) ?_
  refine lv_dup hx hb dX13_four_21 rfl ?_
  refine va_get (D := (dC, dI)) (ci := 15) (v := .int 11) (C := RX13) (T := TX13) (N := 134) hx hb hts in_cm_four_8_RX13 hown hK hP 0 rfl rfl 3 (by decide) (hts (.fieldLink RX13 255 "LevelUnitsModel" "taped" "I") (List.mem_of_getElem? (i := 2) rfl)) (fun _ h9 => h9) (fl_get (by decide) (fu_eq eF_12)) dX13_four_22 ?_
  refine lv_iconst (v := 1) hx hb dX13_four_25 (by decide) ?_
  refine lv_iadd hx hb dX13_four_26 ?_
  refine lv_topi (fun y9 e9 => ?_)
  have e9 : y9 = 12 := by rw [e9]; decide
  subst e9
  refine va_put (D := (dC, dI)) (ci := 15) (v := .int 12) (ty := .int) (C := RX13) (T := TX13) (N := 134) hx hb hts in_cm_four_8_RX13 tyX13 tyX13_ok nmX13 hown hK hP hD hS 0 rfl rfl 3 (by decide) (hts (.fieldLink RX13 255 "LevelUnitsModel" "taped" "I") (List.mem_of_getElem? (i := 2) rfl)) (fun _ h9 => h9) rfl (by decide +kernel) rfl rfl (fl_lt (by decide)) dX13_four_27 (fun H locs hP hD hS => ?_)
  obtain ⟨F_16, eF_16⟩ : ∃ z, z = fu F_12 3 (.int 12) := ⟨_, rfl⟩
  have hP : va_P (dC, dI) vwCl [(h0, .inr (15, fl 134 F_16)), (qt, .inl (cy, 6000, .inl f_15))] H := by rw [eF_16, ← fl_set (n := 134) (k := 3) (by decide)]; exact hP
  have hD : va_D A [(h0, .inr (15, fl 134 F_16)), (qt, .inl (cy, 6000, .inl f_15))] := by rw [eF_16, ← fl_set (n := 134) (k := 3) (by decide)]; exact hD
  refine lv_iinc (v := (-8)) (lv' := [(2, .int ((-8))), (0, .ref h0), (1, .int i)]) hx hb dX13_four_30 hl (k := 0) rfl (by decide) (by decide) rfl (fun ls hl => ?_)
  refine lv_goto (tgt := 3) hx hb dX13_four_33 (by decide) ?_
  refine lv_iload_n hx hb dX13_four_3 rfl (lv_at hl 0 rfl) ?_
  refine lv_if_lt (tgt := 36) hx hb dX13_four_4 (by decide) (fun c9 => ?_) (fun c9 => absurd (by decide) c9)
  clear c9
  have hP9 := hP.sub (ws' := [(h0, .inr (15, fl 134 F_16)), (qt, .inl (cy, 6000, .inl f_15))]) [0, 1] rfl
  have hD9 := hD.sub (ws' := [(h0, .inr (15, fl 134 F_16)), (qt, .inl (cy, 6000, .inl f_15))]) [0, 1] (by decide) rfl
  have hK9 := hK.sub (tys' := [(cy, .byte)]) [0] rfl
  refine W.widen (k := 0) (n := 0) (Nat.le_of_ble_eq_true rfl) (Nat.le_of_ble_eq_true rfl) ?_
  exact W.vret hx hb hr (fun t ht hW => ⟨⟨(), rfl, trivial, F_16, f_15, (fu_ne eF_16 (by decide) (fu_ne eF_12 (by decide) (fu_ne eF_8 (by decide) (fu_ne eF_4 (by decide) hk2)))), (fu_eq eF_16), by rw [ht]; exact hP9, va_K.moved hW.alike hK9, hD9⟩, hS.F ht⟩) hS.2.2 dX13_four_36
def ws_cm_four_12 : List Cond := .code yX13_four cX13_four 3 none :: ([.fieldLink RX13 16 "LevelUnitsModel" "tape" "[B", .fieldLink RX13 255 "LevelUnitsModel" "taped" "I"] ++ wsX130)
theorem in_cm_four_12_RX13 : ∀ w ∈ wsX130, w ∈ ws_cm_four_12 := fun _ h => List.mem_cons_of_mem _ (List.mem_append_right _ h)
set_option maxHeartbeats 4000000 in
set_option maxRecDepth 100000 in
theorem cm_four_12 (l : Launch) (dC : Nat → ClassId) (dI : Nat → Nat → Nat) (h0 : Nat) (F : Nat → Value) (qt : Nat) (cy : ClassId) (f : Nat → Int32) (i : Int32) (sz : Nat) (hk2 : F 2 = .ref qt) (hk3 : F 3 = .int 12) : Met l yX13_four ws_cm_four_12 ({ frames := 0, cells := 0, slots := 0, locals := 0 }) (va_Pc [.ref h0, .int i] (fun U => U.heap.size = sz ∧ va_P (dC, dI) vwCl [(h0, .inr (15, fl 134 F)), (qt, .inl (cy, 6000, .inl f))] U.heap ∧ va_K (dC, dI) vwCl [(cy, .byte)] U ∧ va_D (fun _ => True) [(h0, .inr (15, fl 134 F)), (qt, .inl (cy, 6000, .inl f))])) (va_Qv (fun _ : Unit => True) (fun _ t => ∃ F_a : Nat → Value, ∃ f_a : Nat → Int32, F_a 2 = .ref qt ∧ F_a 3 = .int 16 ∧ va_P (dC, dI) vwCl [(h0, .inr (15, fl 134 F_a)), (qt, .inl (cy, 6000, .inl f_a))] t.heap ∧ va_K (dC, dI) vwCl [(cy, .byte)] t ∧ va_D (va_A [(h0, .inr (15, fl 134 F)), (qt, .inl (cy, 6000, .inl f))] sz) [(h0, .inr (15, fl 134 F_a)), (qt, .inl (cy, 6000, .inl f_a))]) (va_A [(h0, .inr (15, fl 134 F)), (qt, .inl (cy, 6000, .inl f))] sz)) 0 0 (va_A [(h0, .inr (15, fl 134 F)), (qt, .inl (cy, 6000, .inl f))] sz) := by
  refine Met.ofW (cc := cX13_four) (maxL := 3) (ret := none) (by decide) rfl ?_
  intro p e s m args below meth c s₁ B hml hv
  obtain ⟨rfl, hsz, hP, hK, hD0⟩ := hv
  have hx := B.exec
  have hb := B.bytes
  have hr := B.returns
  have hts := atoms_spec (ws := ws_cm_four_12) B.pre
  have hown : s.vm.findClass RX13 = some m.cls := findClass_of_methodNamed B.named
  have hlocks := B.notSynchronized
  subst hsz
  have hD := hD0.self (sz := s.heap.size)
  generalize hAe : va_A [(h0, .inr (15, fl 134 F)), (qt, .inl (cy, 6000, .inl f))] s.heap.size = A at hD ⊢
  have hA : ∀ q : Nat, s.heap.size ≤ q → A q := fun q h => by rw [← hAe]; exact Or.inr h
  have hS : va_S A s.heap s.heap [] := va_S.rf
  have hP : va_P (dC, dI) vwCl [(h0, .inr (15, fl 134 F)), (qt, .inl (cy, 6000, .inl f))] s.heap := hP
  have hl := lv_entry ([.ref h0, .int i]) (n := 3) (Nat.le_of_ble_eq_true rfl)
  rw [lg_entry_eq]
  generalize (lg_sl ([.ref h0, .int i]) ++ List.replicate (3 - (lg_sl ([.ref h0, .int i])).length) Slot.unset).toArray = ls at hl ⊢
  have hl : lv_has ls 3 [(0, .ref h0), (1, .int i)] := hl
  refine lv_bipush (v := 24) hx hb dX13_four_0 (by decide) ?_
  refine lv_istore_n (lv' := [(2, .int 24), (0, .ref h0), (1, .int i)]) hx hb dX13_four_2 rfl hl (by decide) rfl (fun ls hl => ?_)
  refine lv_iload_n hx hb dX13_four_3 rfl (lv_at hl 0 rfl) ?_
  refine lv_if_lt (tgt := 36) hx hb dX13_four_4 (by decide) (fun c9 => absurd c9 (by decide)) (fun c9 => ?_)
  clear c9
  refine lv_aload_n hx hb dX13_four_7 rfl (lv_at hl 1 rfl) ?_
  refine va_get (D := (dC, dI)) (ci := 15) (v := .ref qt) (C := RX13) (T := TX13) (N := 134) hx hb hts in_cm_four_12_RX13 hown hK hP 0 rfl rfl 2 (by decide) (hts (.fieldLink RX13 16 "LevelUnitsModel" "tape" "[B") (List.mem_of_getElem? (i := 1) rfl)) (fun _ h9 => h9) (fl_get (by decide) hk2) dX13_four_8 ?_
  refine lv_aload_n hx hb dX13_four_11 rfl (lv_at hl 1 rfl) ?_
  refine va_get (D := (dC, dI)) (ci := 15) (v := .int 12) (C := RX13) (T := TX13) (N := 134) hx hb hts in_cm_four_12_RX13 hown hK hP 0 rfl rfl 3 (by decide) (hts (.fieldLink RX13 255 "LevelUnitsModel" "taped" "I") (List.mem_of_getElem? (i := 2) rfl)) (fun _ h9 => h9) (fl_get (by decide) hk3) dX13_four_12 ?_
  refine lv_iload_n hx hb dX13_four_15 rfl (lv_at hl 2 rfl) ?_
  refine lv_iload_n hx hb dX13_four_16 rfl (lv_at hl 0 rfl) ?_
  refine lv_ishr hx hb dX13_four_17 ?_
  refine lv_topi (fun x_1 ex_1 => ?_)
  refine lv_i2b hx hb dX13_four_18 rfl ?_
  refine lv_topi (fun x_2 ex_2 => ?_)
  refine va_bast hx hb hK hP hD hS 1 0 rfl rfl (i := 12) (by unfold vp_in; decide) dX13_four_19 (fun H locs hP hD hS => ?_)
  obtain ⟨f_3, ef_3⟩ : ∃ z, z = upd f (Int32.toNatClampNeg 12) (vp_nar .byte x_2) := ⟨_, rfl⟩
  rw [← ef_3] at hP hD
  have hP : va_P (dC, dI) vwCl [(h0, .inr (15, fl 134 F)), (qt, .inl (cy, 6000, .inl f_3))] H := hP
  have hD : va_D A [(h0, .inr (15, fl 134 F)), (qt, .inl (cy, 6000, .inl f_3))] := hD
  refine lv_aload_n hx hb dX13_four_20 rfl (lv_at hl 1 rfl) ?_
  refine lv_dup hx hb dX13_four_21 rfl ?_
  refine va_get (D := (dC, dI)) (ci := 15) (v := .int 12) (C := RX13) (T := TX13) (N := 134) hx hb hts in_cm_four_12_RX13 hown hK hP 0 rfl rfl 3 (by decide) (hts (.fieldLink RX13 255 "LevelUnitsModel" "taped" "I") (List.mem_of_getElem? (i := 2) rfl)) (fun _ h9 => h9) (fl_get (by decide) hk3) dX13_four_22 ?_
  refine lv_iconst (v := 1) hx hb dX13_four_25 (by decide) ?_
  refine lv_iadd hx hb dX13_four_26 ?_
  refine lv_topi (fun y9 e9 => ?_)
  have e9 : y9 = 13 := by rw [e9]; decide
  subst e9
  refine va_put (D := (dC, dI)) (ci := 15) (v := .int 13) (ty := .int) (C := RX13) (T := TX13) (N := 134) hx hb hts in_cm_four_12_RX13 tyX13 tyX13_ok nmX13 hown hK hP hD hS 0 rfl rfl 3 (by decide) (hts (.fieldLink RX13 255 "LevelUnitsModel" "taped" "I") (List.mem_of_getElem? (i := 2) rfl)) (fun _ h9 => h9) rfl (by decide +kernel) rfl rfl (fl_lt (by decide)) dX13_four_27 (fun H locs hP hD hS => ?_)
  obtain ⟨F_4, eF_4⟩ : ∃ z, z = fu F 3 (.int 13) := ⟨_, rfl⟩
  have hP : va_P (dC, dI) vwCl [(h0, .inr (15, fl 134 F_4)), (qt, .inl (cy, 6000, .inl f_3))] H := by rw [eF_4, ← fl_set (n := 134) (k := 3) (by decide)]; exact hP
  have hD : va_D A [(h0, .inr (15, fl 134 F_4)), (qt, .inl (cy, 6000, .inl f_3))] := by rw [eF_4, ← fl_set (n := 134) (k := 3) (by decide)]; exact hD
  refine lv_iinc (v := 16) (lv' := [(2, .int 16), (0, .ref h0), (1, .int i)]) hx hb dX13_four_30 hl (k := 0) rfl (by decide) (by decide) rfl (fun ls hl => ?_)
  refine lv_goto (tgt := 3) hx hb dX13_four_33 (by decide) ?_
  refine lv_iload_n hx hb dX13_four_3 rfl (lv_at hl 0 rfl) ?_
  refine lv_if_lt (tgt := 36) hx hb dX13_four_4 (by decide) (fun c9 => absurd c9 (by decide)) (fun c9 => ?_)
  clear c9
  refine lv_aload_n hx hb dX13_four_7 rfl (lv_at hl 1 rfl) ?_
  refine va_get (D := (dC, dI)) (ci := 15) (v := .ref qt) (C := RX13) (T := TX13) (N := 134) hx hb hts in_cm_four_12_RX13 hown hK hP 0 rfl rfl 2 (by decide) (hts (.fieldLink RX13 16 "LevelUnitsModel" "tape" "[B") (List.mem_of_getElem? (i := 1) rfl)) (fun _ h9 => h9) (fl_get (by decide) (fu_ne eF_4 (by decide) hk2)) dX13_four_8 ?_
  refine lv_aload_n hx hb dX13_four_11 rfl (lv_at hl 1 rfl) ?_
  refine va_get (D := (dC, dI)) (ci := 15) (v := .int 13) (C := RX13) (T := TX13) (N := 134) hx hb hts in_cm_four_12_RX13 hown hK hP 0 rfl rfl 3 (by decide) (hts (.fieldLink RX13 255 "LevelUnitsModel" "taped" "I") (List.mem_of_getElem? (i := 2) rfl)) (fun _ h9 => h9) (fl_get (by decide) (fu_eq eF_4)) dX13_four_12 ?_
  refine lv_iload_n hx hb dX13_four_15 rfl (lv_at hl 2 rfl) ?_
  refine lv_iload_n hx hb dX13_four_16 rfl (lv_at hl 0 rfl) ?_
  refine lv_ishr hx hb dX13_four_17 ?_
  refine lv_topi (fun x_5 ex_5 => ?_)
  refine lv_i2b hx hb dX13_four_18 rfl ?_
  refine lv_topi (fun x_6 ex_6 => ?_)
  refine va_bast hx hb hK hP hD hS 1 0 rfl rfl (i := 13) (by unfold vp_in; decide) dX13_four_19 (fun H locs hP hD hS => ?_)
  obtain ⟨f_7, ef_7⟩ : ∃ z, z = upd f_3 (Int32.toNatClampNeg 13) (vp_nar .byte x_6) := ⟨_, rfl⟩
  rw [← ef_7] at hP hD
  have hP : va_P (dC, dI) vwCl [(h0, .inr (15, fl 134 F_4)), (qt, .inl (cy, 6000, .inl f_7))] H := hP
  have hD : va_D A [(h0, .inr (15, fl 134 F_4)), (qt, .inl (cy, 6000, .inl f_7))] := hD
  refine lv_aload_n hx hb dX13_four_20 rfl (lv_at hl 1 rfl) ?_
  refine lv_dup hx hb dX13_four_21 rfl ?_
  refine va_get (D := (dC, dI)) (ci := 15) (v := .int 13) (C := RX13) (T := TX13) (N := 134) hx hb hts in_cm_four_12_RX13 hown hK hP 0 rfl rfl 3 (by decide) (hts (.fieldLink RX13 255 "LevelUnitsModel" "taped" "I") (List.mem_of_getElem? (i := 2) rfl)) (fun _ h9 => h9) (fl_get (by decide) (fu_eq eF_4)) dX13_four_22 ?_
  refine lv_iconst (v := 1) hx hb dX13_four_25 (by decide) ?_
  refine lv_iadd hx hb dX13_four_26 ?_
  refine lv_topi (fun y9 e9 => ?_)
  have e9 : y9 = 14 := by rw [e9]; decide
  subst e9
  refine va_put (D := (dC, dI)) (ci := 15) (v := .int 14) (ty := .int) (C := RX13) (T := TX13) (N := 134) hx hb hts in_cm_four_12_RX13 tyX13 tyX13_ok nmX13 hown hK hP hD hS 0 rfl rfl 3 (by decide) (hts (.fieldLink RX13 255 "LevelUnitsModel" "taped" "I") (List.mem_of_getElem? (i := 2) rfl)) (fun _ h9 => h9) rfl (by decide +kernel) rfl rfl (fl_lt (by decide)) dX13_four_27 (fun H locs hP hD hS => ?_)
  obtain ⟨F_8, eF_8⟩ : ∃ z, z = fu F_4 3 (.int 14) := ⟨_, rfl⟩
  have hP : va_P (dC, dI) vwCl [(h0, .inr (15, fl 134 F_8)), (qt, .inl (cy, 6000, .inl f_7))] H := by rw [eF_8, ← fl_set (n := 134) (k := 3) (by decide)]; exact hP
  have hD : va_D A [(h0, .inr (15, fl 134 F_8)), (qt, .inl (cy, 6000, .inl f_7))] := by rw [eF_8, ← fl_set (n := 134) (k := 3) (by decide)]; exact hD
  refine lv_iinc (v := 8) (lv' := [(2, .int 8), (0, .ref h0), (1, .int i)]) hx hb dX13_four_30 hl (k := 0) rfl (by decide) (by decide) rfl (fun ls hl => ?_)
  refine lv_goto (tgt := 3) hx hb dX13_four_33 (by decide) ?_
  refine lv_iload_n hx hb dX13_four_3 rfl (lv_at hl 0 rfl) ?_
  refine lv_if_lt (tgt := 36) hx hb dX13_four_4 (by decide) (fun c9 => absurd c9 (by decide)) (fun c9 => ?_)
  clear c9
  refine lv_aload_n hx hb dX13_four_7 rfl (lv_at hl 1 rfl) ?_
  refine va_get (D := (dC, dI)) (ci := 15) (v := .ref qt) (C := RX13) (T := TX13) (N := 134) hx hb hts in_cm_four_12_RX13 hown hK hP 0 rfl rfl 2 (by decide) (hts (.fieldLink RX13 16 "LevelUnitsModel" "tape" "[B") (List.mem_of_getElem? (i := 1) rfl)) (fun _ h9 => h9) (fl_get (by decide) (fu_ne eF_8 (by decide) (fu_ne eF_4 (by decide) hk2))) dX13_four_8 ?_
  refine lv_aload_n hx hb dX13_four_11 rfl (lv_at hl 1 rfl) ?_
  refine va_get (D := (dC, dI)) (ci := 15) (v := .int 14) (C := RX13) (T := TX13) (N := 134) hx hb hts in_cm_four_12_RX13 hown hK hP 0 rfl rfl 3 (by decide) (hts (.fieldLink RX13 255 "LevelUnitsModel" "taped" "I") (List.mem_of_getElem? (i := 2) rfl)) (fun _ h9 => h9) (fl_get (by decide) (fu_eq eF_8)) dX13_four_12 ?_
  refine lv_iload_n hx hb dX13_four_15 rfl (lv_at hl 2 rfl) ?_
  refine lv_iload_n hx hb dX13_four_16 rfl (lv_at hl 0 rfl) ?_
  refine lv_ishr hx hb dX13_four_17 ?_
  refine lv_topi (fun x_9 ex_9 => ?_)
  refine lv_i2b hx hb dX13_four_18 rfl ?_
  refine lv_topi (fun x_10 ex_10 => ?_)
  refine va_bast hx hb hK hP hD hS 1 0 rfl rfl (i := 14) (by unfold vp_in; decide) dX13_four_19 (fun H locs hP hD hS => ?_)
  obtain ⟨f_11, ef_11⟩ : ∃ z, z = upd f_7 (Int32.toNatClampNeg 14) (vp_nar .byte x_10) := ⟨_, rfl⟩
  rw [← ef_11] at hP hD
  have hP : va_P (dC, dI) vwCl [(h0, .inr (15, fl 134 F_8)), (qt, .inl (cy, 6000, .inl f_11))] H := hP
  have hD : va_D A [(h0, .inr (15, fl 134 F_8)), (qt, .inl (cy, 6000, .inl f_11))] := hD
  refine lv_aload_n hx hb dX13_four_20 rfl (lv_at hl 1 rfl) ?_
  refine lv_dup hx hb dX13_four_21 rfl ?_
  refine va_get (D := (dC, dI)) (ci := 15) (v := .int 14) (C := RX13) (T := TX13) (N := 134) hx hb hts in_cm_four_12_RX13 hown hK hP 0 rfl rfl 3 (by decide) (hts (.fieldLink RX13 255 "LevelUnitsModel" "taped" "I") (List.mem_of_getElem? (i := 2) rfl)) (fun _ h9 => h9) (fl_get (by decide) (fu_eq eF_8)) dX13_four_22 ?_
  refine lv_iconst (v := 1) hx hb dX13_four_25 (by decide) ?_
  refine lv_iadd hx hb dX13_four_26 ?_
  refine lv_topi (fun y9 e9 => ?_)
  have e9 : y9 = 15 := by rw [e9]; decide
  subst e9
  refine va_put (D := (dC, dI)) (ci := 15) (v := .int 15) (ty := .int) (C := RX13) (T := TX13) (N := 134) hx hb hts in_cm_four_12_RX13 tyX13 tyX13_ok nmX13 hown hK hP hD hS 0 rfl rfl 3 (by decide) (hts (.fieldLink RX13 255 "LevelUnitsModel" "taped" "I") (List.mem_of_getElem? (i := 2) rfl)) (fun _ h9 => h9) rfl (by decide +kernel) rfl rfl (fl_lt (by decide)) dX13_four_27 (fun H locs hP hD hS => ?_)
  obtain ⟨F_12, eF_12⟩ : ∃ z, z = fu F_8 3 (.int 15) := ⟨_, rfl⟩
  have hP : va_P (dC, dI) vwCl [(h0, .inr (15, fl 134 F_12)), (qt, .inl (cy, 6000, .inl f_11))] H := by rw [eF_12, ← fl_set (n := 134) (k := 3) (by decide)]; exact hP
  have hD : va_D A [(h0, .inr (15, fl 134 F_12)), (qt, .inl (cy, 6000, .inl f_11))] := by rw [eF_12, ← fl_set (n := 134) (k := 3) (by decide)]; exact hD
  refine lv_iinc (v := 0) (lv' := [(2, .int 0), (0, .ref h0), (1, .int i)]) hx hb dX13_four_30 hl (k := 0) rfl (by decide) (by decide) rfl (fun ls hl => ?_)
  refine lv_goto (tgt := 3) hx hb dX13_four_33 (by decide) ?_
  refine lv_iload_n hx hb dX13_four_3 rfl (lv_at hl 0 rfl) ?_
  refine lv_if_lt (tgt := 36) hx hb dX13_four_4 (by decide) (fun c9 => absurd c9 (by decide)) (fun c9 => ?_)
  clear c9
  refine lv_aload_n hx hb dX13_four_7 rfl (lv_at hl 1 rfl) ?_
  refine va_get (D := (dC, dI)) (ci := 15) (v := .ref qt) (C := RX13) (T := TX13) (N := 134) hx hb hts in_cm_four_12_RX13 hown hK hP 0 rfl rfl 2 (by decide) (hts (.fieldLink RX13 16 "LevelUnitsModel" "tape" "[B") (List.mem_of_getElem? (i := 1) rfl)) (fun _ h9 => h9) (fl_get (by decide) (fu_ne eF_12 (by decide) (fu_ne eF_8 (by decide) (fu_ne eF_4 (by decide) hk2)))) dX13_four_8 ?_
  refine lv_aload_n hx hb dX13_four_11 rfl (lv_at hl 1 rfl) ?_
  refine va_get (D := (dC, dI)) (ci := 15) (v := .int 15) (C := RX13) (T := TX13) (N := 134) hx hb hts in_cm_four_12_RX13 hown hK hP 0 rfl rfl 3 (by decide) (hts (.fieldLink RX13 255 "LevelUnitsModel" "taped" "I") (List.mem_of_getElem? (i := 2) rfl)) (fun _ h9 => h9) (fl_get (by decide) (fu_eq eF_12)) dX13_four_12 ?_
  refine lv_iload_n hx hb dX13_four_15 rfl (lv_at hl 2 rfl) ?_
  refine lv_iload_n hx hb dX13_four_16 rfl (lv_at hl 0 rfl) ?_
  refine lv_ishr hx hb dX13_four_17 ?_
  refine lv_topi (fun x_13 ex_13 => ?_)
  refine lv_i2b hx hb dX13_four_18 rfl ?_
  refine lv_topi (fun x_14 ex_14 => ?_)
  refine va_bast hx hb hK hP hD hS 1 0 rfl rfl (i := 15) (by unfold vp_in; decide) dX13_four_19 (fun H locs hP hD hS => ?_)
  obtain ⟨f_15, ef_15⟩ : ∃ z, z = upd f_11 (Int32.toNatClampNeg 15) (vp_nar .byte x_14) := ⟨_, rfl⟩
  rw [← ef_15] at hP hD
  have hP : va_P (dC, dI) vwCl [(h0, .inr (15, fl 134 F_12)), (qt, .inl (cy, 6000, .inl f_15))] H := hP
  have hD : va_D A [(h0, .inr (15, fl 134 F_12)), (qt, .inl (cy, 6000, .inl f_15))] := hD
  refine lv_aload_n hx hb dX13_four_20 rfl (lv_at hl 1 rfl) ?_
  refine lv_dup hx hb dX13_four_21 rfl ?_
  refine va_get (D := (dC, dI)) (ci := 15) (v := .int 15) (C := RX13) (T := TX13) (N := 134) hx hb hts in_cm_four_12_RX13 hown hK hP 0 rfl rfl 3 (by decide) (hts (.fieldLink RX13 255 "LevelUnitsModel" "taped" "I") (List.mem_of_getElem? (i := 2) rfl)) (fun _ h9 => h9) (fl_get (by decide) (fu_eq eF_12)) dX13_four_22 ?_
  refine lv_iconst (v := 1) hx hb dX13_four_25 (by decide) ?_
  refine lv_iadd hx hb dX13_four_26 ?_
  refine lv_topi (fun y9 e9 => ?_)
  have e9 : y9 = 16 := by rw [e9]; decide
  subst e9
  refine va_put (D := (dC, dI)) (ci := 15) (v := .int 16) (ty := .int) (C := RX13) (T := TX13) (N := 134) hx hb hts in_cm_four_12_RX13 tyX13 tyX13_ok nmX13 hown hK hP hD hS 0 rfl rfl 3 (by decide) (hts (.fieldLink RX13 255 "LevelUnitsModel" "taped" "I") (List.mem_of_getElem? (i := 2) rfl)) (fun _ h9 => h9) rfl (by decide +kernel) rfl rfl (fl_lt (by decide)) dX13_four_27 (fun H locs hP hD hS => ?_)
  obtain ⟨F_16, eF_16⟩ : ∃ z, z = fu F_12 3 (.int 16) := ⟨_, rfl⟩
  have hP : va_P (dC, dI) vwCl [(h0, .inr (15, fl 134 F_16)), (qt, .inl (cy, 6000, .inl f_15))] H := by rw [eF_16, ← fl_set (n := 134) (k := 3) (by decide)]; exact hP
  have hD : va_D A [(h0, .inr (15, fl 134 F_16)), (qt, .inl (cy, 6000, .inl f_15))] := by rw [eF_16, ← fl_set (n := 134) (k := 3) (by decide)]; exact hD
  refine lv_iinc (v := (-8)) (lv' := [(2, .int ((-8))), (0, .ref h0), (1, .int i)]) hx hb dX13_four_30 hl (k := 0) rfl (by decide) (by decide) rfl (fun ls hl => ?_)
  refine lv_goto (tgt := 3) hx hb dX13_four_33 (by decide) ?_
  refine lv_iload_n hx hb dX13_four_3 rfl (lv_at hl 0 rfl) ?_
  refine lv_if_lt (tgt := 36) hx hb dX13_four_4 (by decide) (fun c9 => ?_) (fun c9 => absurd (by decide) c9)
  clear c9
  have hP9 := hP.sub (ws' := [(h0, .inr (15, fl 134 F_16)), (qt, .inl (cy, 6000, .inl f_15))]) [0, 1] rfl
  have hD9 := hD.sub (ws' := [(h0, .inr (15, fl 134 F_16)), (qt, .inl (cy, 6000, .inl f_15))]) [0, 1] (by decide) rfl
  have hK9 := hK.sub (tys' := [(cy, .byte)]) [0] rfl
  refine W.widen (k := 0) (n := 0) (Nat.le_of_ble_eq_true rfl) (Nat.le_of_ble_eq_true rfl) ?_
  exact W.vret hx hb hr (fun t ht hW => ⟨⟨(), rfl, trivial, F_16, f_15, (fu_ne eF_16 (by decide) (fu_ne eF_12 (by decide) (fu_ne eF_8 (by decide) (fu_ne eF_4 (by decide) hk2)))), (fu_eq eF_16), by rw [ht]; exact hP9, va_K.moved hW.alike hK9, hD9⟩, hS.F ht⟩) hS.2.2 dX13_four_36
def ws_cm_four_16 : List Cond := .code yX13_four cX13_four 3 none :: ([.fieldLink RX13 16 "LevelUnitsModel" "tape" "[B", .fieldLink RX13 255 "LevelUnitsModel" "taped" "I"] ++ wsX130)
theorem in_cm_four_16_RX13 : ∀ w ∈ wsX130, w ∈ ws_cm_four_16 := fun _ h => List.mem_cons_of_mem _ (List.mem_append_right _ h)
set_option maxHeartbeats 4000000 in
set_option maxRecDepth 100000 in
theorem cm_four_16 (l : Launch) (dC : Nat → ClassId) (dI : Nat → Nat → Nat) (h0 : Nat) (F : Nat → Value) (qt : Nat) (cy : ClassId) (f : Nat → Int32) (i : Int32) (sz : Nat) (hk2 : F 2 = .ref qt) (hk3 : F 3 = .int 16) : Met l yX13_four ws_cm_four_16 ({ frames := 0, cells := 0, slots := 0, locals := 0 }) (va_Pc [.ref h0, .int i] (fun U => U.heap.size = sz ∧ va_P (dC, dI) vwCl [(h0, .inr (15, fl 134 F)), (qt, .inl (cy, 6000, .inl f))] U.heap ∧ va_K (dC, dI) vwCl [(cy, .byte)] U ∧ va_D (fun _ => True) [(h0, .inr (15, fl 134 F)), (qt, .inl (cy, 6000, .inl f))])) (va_Qv (fun _ : Unit => True) (fun _ t => ∃ F_a : Nat → Value, ∃ f_a : Nat → Int32, F_a 2 = .ref qt ∧ F_a 3 = .int 20 ∧ va_P (dC, dI) vwCl [(h0, .inr (15, fl 134 F_a)), (qt, .inl (cy, 6000, .inl f_a))] t.heap ∧ va_K (dC, dI) vwCl [(cy, .byte)] t ∧ va_D (va_A [(h0, .inr (15, fl 134 F)), (qt, .inl (cy, 6000, .inl f))] sz) [(h0, .inr (15, fl 134 F_a)), (qt, .inl (cy, 6000, .inl f_a))]) (va_A [(h0, .inr (15, fl 134 F)), (qt, .inl (cy, 6000, .inl f))] sz)) 0 0 (va_A [(h0, .inr (15, fl 134 F)), (qt, .inl (cy, 6000, .inl f))] sz) := by
  refine Met.ofW (cc := cX13_four) (maxL := 3) (ret := none) (by decide) rfl ?_
  intro p e s m args below meth c s₁ B hml hv
  obtain ⟨rfl, hsz, hP, hK, hD0⟩ := hv
  have hx := B.exec
  have hb := B.bytes
  have hr := B.returns
  have hts := atoms_spec (ws := ws_cm_four_16) B.pre
  have hown : s.vm.findClass RX13 = some m.cls := findClass_of_methodNamed B.named
  have hlocks := B.notSynchronized
  subst hsz
  have hD := hD0.self (sz := s.heap.size)
  generalize hAe : va_A [(h0, .inr (15, fl 134 F)), (qt, .inl (cy, 6000, .inl f))] s.heap.size = A at hD ⊢
  have hA : ∀ q : Nat, s.heap.size ≤ q → A q := fun q h => by rw [← hAe]; exact Or.inr h
  have hS : va_S A s.heap s.heap [] := va_S.rf
  have hP : va_P (dC, dI) vwCl [(h0, .inr (15, fl 134 F)), (qt, .inl (cy, 6000, .inl f))] s.heap := hP
  have hl := lv_entry ([.ref h0, .int i]) (n := 3) (Nat.le_of_ble_eq_true rfl)
  rw [lg_entry_eq]
  generalize (lg_sl ([.ref h0, .int i]) ++ List.replicate (3 - (lg_sl ([.ref h0, .int i])).length) Slot.unset).toArray = ls at hl ⊢
  have hl : lv_has ls 3 [(0, .ref h0), (1, .int i)] := hl
  refine lv_bipush (v := 24) hx hb dX13_four_0 (by decide) ?_
  refine lv_istore_n (lv' := [(2, .int 24), (0, .ref h0), (1, .int i)]) hx hb dX13_four_2 rfl hl (by decide) rfl (fun ls hl => ?_)
  refine lv_iload_n hx hb dX13_four_3 rfl (lv_at hl 0 rfl) ?_
  refine lv_if_lt (tgt := 36) hx hb dX13_four_4 (by decide) (fun c9 => absurd c9 (by decide)) (fun c9 => ?_)
  clear c9
  refine lv_aload_n hx hb dX13_four_7 rfl (lv_at hl 1 rfl) ?_
  refine va_get (D := (dC, dI)) (ci := 15) (v := .ref qt) (C := RX13) (T := TX13) (N := 134) hx hb hts in_cm_four_16_RX13 hown hK hP 0 rfl rfl 2 (by decide) (hts (.fieldLink RX13 16 "LevelUnitsModel" "tape" "[B") (List.mem_of_getElem? (i := 1) rfl)) (fun _ h9 => h9) (fl_get (by decide) hk2) dX13_four_8 ?_
  refine lv_aload_n hx hb dX13_four_11 rfl (lv_at hl 1 rfl) ?_
  refine va_get (D := (dC, dI)) (ci := 15) (v := .int 16) (C := RX13) (T := TX13) (N := 134) hx hb hts in_cm_four_16_RX13 hown hK hP 0 rfl rfl 3 (by decide) (hts (.fieldLink RX13 255 "LevelUnitsModel" "taped" "I") (List.mem_of_getElem? (i := 2) rfl)) (fun _ h9 => h9) (fl_get (by decide) hk3) dX13_four_12 ?_
  refine lv_iload_n hx hb dX13_four_15 rfl (lv_at hl 2 rfl) ?_
  refine lv_iload_n hx hb dX13_four_16 rfl (lv_at hl 0 rfl) ?_
  refine lv_ishr hx hb dX13_four_17 ?_
  refine lv_topi (fun x_1 ex_1 => ?_)
  refine lv_i2b hx hb dX13_four_18 rfl ?_
  refine lv_topi (fun x_2 ex_2 => ?_)
  refine va_bast hx hb hK hP hD hS 1 0 rfl rfl (i := 16) (by unfold vp_in; decide) dX13_four_19 (fun H locs hP hD hS => ?_)
  obtain ⟨f_3, ef_3⟩ : ∃ z, z = upd f (Int32.toNatClampNeg 16) (vp_nar .byte x_2) := ⟨_, rfl⟩
  rw [← ef_3] at hP hD
  have hP : va_P (dC, dI) vwCl [(h0, .inr (15, fl 134 F)), (qt, .inl (cy, 6000, .inl f_3))] H := hP
  have hD : va_D A [(h0, .inr (15, fl 134 F)), (qt, .inl (cy, 6000, .inl f_3))] := hD
  refine lv_aload_n hx hb dX13_four_20 rfl (lv_at hl 1 rfl) ?_
  refine lv_dup hx hb dX13_four_21 rfl ?_
  refine va_get (D := (dC, dI)) (ci := 15) (v := .int 16) (C := RX13) (T := TX13) (N := 134) hx hb hts in_cm_four_16_RX13 hown hK hP 0 rfl rfl 3 (by decide) (hts (.fieldLink RX13 255 "LevelUnitsModel" "taped" "I") (List.mem_of_getElem? (i := 2) rfl)) (fun _ h9 => h9) (fl_get (by decide) hk3) dX13_four_22 ?_
  refine lv_iconst (v := 1) hx hb dX13_four_25 (by decide) ?_
  refine lv_iadd hx hb dX13_four_26 ?_
  refine lv_topi (fun y9 e9 => ?_)
  have e9 : y9 = 17 := by rw [e9]; decide
  subst e9
  refine va_put (D := (dC, dI)) (ci := 15) (v := .int 17) (ty := .int) (C := RX13) (T := TX13) (N := 134) hx hb hts in_cm_four_16_RX13 tyX13 tyX13_ok nmX13 hown hK hP hD hS 0 rfl rfl 3 (by decide) (hts (.fieldLink RX13 255 "LevelUnitsModel" "taped" "I") (List.mem_of_getElem? (i := 2) rfl)) (fun _ h9 => h9) rfl (by decide +kernel) rfl rfl (fl_lt (by decide)) dX13_four_27 (fun H locs hP hD hS => ?_)
  obtain ⟨F_4, eF_4⟩ : ∃ z, z = fu F 3 (.int 17) := ⟨_, rfl⟩
  have hP : va_P (dC, dI) vwCl [(h0, .inr (15, fl 134 F_4)), (qt, .inl (cy, 6000, .inl f_3))] H := by rw [eF_4, ← fl_set (n := 134) (k := 3) (by decide)]; exact hP
  have hD : va_D A [(h0, .inr (15, fl 134 F_4)), (qt, .inl (cy, 6000, .inl f_3))] := by rw [eF_4, ← fl_set (n := 134) (k := 3) (by decide)]; exact hD
  refine lv_iinc (v := 16) (lv' := [(2, .int 16), (0, .ref h0), (1, .int i)]) hx hb dX13_four_30 hl (k := 0) rfl (by decide) (by decide) rfl (fun ls hl => ?_)
  refine lv_goto (tgt := 3) hx hb dX13_four_33 (by decide) ?_
  refine lv_iload_n hx hb dX13_four_3 rfl (lv_at hl 0 rfl) ?_
  refine lv_if_lt (tgt := 36) hx hb dX13_four_4 (by decide) (fun c9 => absurd c9 (by decide)) (fun c9 => ?_)
  clear c9
  refine lv_aload_n hx hb dX13_four_7 rfl (lv_at hl 1 rfl) ?_
  refine va_get (D := (dC, dI)) (ci := 15) (v := .ref qt) (C := RX13) (T := TX13) (N := 134) hx hb hts in_cm_four_16_RX13 hown hK hP 0 rfl rfl 2 (by decide) (hts (.fieldLink RX13 16 "LevelUnitsModel" "tape" "[B") (List.mem_of_getElem? (i := 1) rfl)) (fun _ h9 => h9) (fl_get (by decide) (fu_ne eF_4 (by decide) hk2)) dX13_four_8 ?_
  refine lv_aload_n hx hb dX13_four_11 rfl (lv_at hl 1 rfl) ?_
  refine va_get (D := (dC, dI)) (ci := 15) (v := .int 17) (C := RX13) (T := TX13) (N := 134) hx hb hts in_cm_four_16_RX13 hown hK hP 0 rfl rfl 3 (by decide) (hts (.fieldLink RX13 255 "LevelUnitsModel" "taped" "I") (List.mem_of_getElem? (i := 2) rfl)) (fun _ h9 => h9) (fl_get (by decide) (fu_eq eF_4)) dX13_four_12 ?_
  refine lv_iload_n hx hb dX13_four_15 rfl (lv_at hl 2 rfl) ?_
  refine lv_iload_n hx hb dX13_four_16 rfl (lv_at hl 0 rfl) ?_
  refine lv_ishr hx hb dX13_four_17 ?_
  refine lv_topi (fun x_5 ex_5 => ?_)
  refine lv_i2b hx hb dX13_four_18 rfl ?_
  refine lv_topi (fun x_6 ex_6 => ?_)
  refine va_bast hx hb hK hP hD hS 1 0 rfl rfl (i := 17) (by unfold vp_in; decide) dX13_four_19 (fun H locs hP hD hS => ?_)
  obtain ⟨f_7, ef_7⟩ : ∃ z, z = upd f_3 (Int32.toNatClampNeg 17) (vp_nar .byte x_6) := ⟨_, rfl⟩
  rw [← ef_7] at hP hD
  have hP : va_P (dC, dI) vwCl [(h0, .inr (15, fl 134 F_4)), (qt, .inl (cy, 6000, .inl f_7))] H := hP
  have hD : va_D A [(h0, .inr (15, fl 134 F_4)), (qt, .inl (cy, 6000, .inl f_7))] := hD
  refine lv_aload_n hx hb dX13_four_20 rfl (lv_at hl 1 rfl) ?_
  refine lv_dup hx hb dX13_four_21 rfl ?_
  refine va_get (D := (dC, dI)) (ci := 15) (v := .int 17) (C := RX13) (T := TX13) (N := 134) hx hb hts in_cm_four_16_RX13 hown hK hP 0 rfl rfl 3 (by decide) (hts (.fieldLink RX13 255 "LevelUnitsModel" "taped" "I") (List.mem_of_getElem? (i := 2) rfl)) (fun _ h9 => h9) (fl_get (by decide) (fu_eq eF_4)) dX13_four_22 ?_
  refine lv_iconst (v := 1) hx hb dX13_four_25 (by decide) ?_
  refine lv_iadd hx hb dX13_four_26 ?_
  refine lv_topi (fun y9 e9 => ?_)
  have e9 : y9 = 18 := by rw [e9]; decide
  subst e9
  refine va_put (D := (dC, dI)) (ci := 15) (v := .int 18) (ty := .int) (C := RX13) (T := TX13) (N := 134) hx hb hts in_cm_four_16_RX13 tyX13 tyX13_ok nmX13 hown hK hP hD hS 0 rfl rfl 3 (by decide) (hts (.fieldLink RX13 255 "LevelUnitsModel" "taped" "I") (List.mem_of_getElem? (i := 2) rfl)) (fun _ h9 => h9) rfl (by decide +kernel) rfl rfl (fl_lt (by decide)) dX13_four_27 (fun H locs hP hD hS => ?_)
  obtain ⟨F_8, eF_8⟩ : ∃ z, z = fu F_4 3 (.int 18) := ⟨_, rfl⟩
  have hP : va_P (dC, dI) vwCl [(h0, .inr (15, fl 134 F_8)), (qt, .inl (cy, 6000, .inl f_7))] H := by rw [eF_8, ← fl_set (n := 134) (k := 3) (by decide)]; exact hP
  have hD : va_D A [(h0, .inr (15, fl 134 F_8)), (qt, .inl (cy, 6000, .inl f_7))] := by rw [eF_8, ← fl_set (n := 134) (k := 3) (by decide)]; exact hD
  refine lv_iinc (v := 8) (lv' := [(2, .int 8), (0, .ref h0), (1, .int i)]) hx hb dX13_four_30 hl (k := 0) rfl (by decide) (by decide) rfl (fun ls hl => ?_)
  refine lv_goto (tgt := 3) hx hb dX13_four_33 (by decide) ?_
  refine lv_iload_n hx hb dX13_four_3 rfl (lv_at hl 0 rfl) ?_
  refine lv_if_lt (tgt := 36) hx hb dX13_four_4 (by decide) (fun c9 => absurd c9 (by decide)) (fun c9 => ?_)
  clear c9
  refine lv_aload_n hx hb dX13_four_7 rfl (lv_at hl 1 rfl) ?_
  refine va_get (D := (dC, dI)) (ci := 15) (v := .ref qt) (C := RX13) (T := TX13) (N := 134) hx hb hts in_cm_four_16_RX13 hown hK hP 0 rfl rfl 2 (by decide) (hts (.fieldLink RX13 16 "LevelUnitsModel" "tape" "[B") (List.mem_of_getElem? (i := 1) rfl)) (fun _ h9 => h9) (fl_get (by decide) (fu_ne eF_8 (by decide) (fu_ne eF_4 (by decide) hk2))) dX13_four_8 ?_
  refine lv_aload_n hx hb dX13_four_11 rfl (lv_at hl 1 rfl) ?_
  refine va_get (D := (dC, dI)) (ci := 15) (v := .int 18) (C := RX13) (T := TX13) (N := 134) hx hb hts in_cm_four_16_RX13 hown hK hP 0 rfl rfl 3 (by decide) (hts (.fieldLink RX13 255 "LevelUnitsModel" "taped" "I") (List.mem_of_getElem? (i := 2) rfl)) (fun _ h9 => h9) (fl_get (by decide) (fu_eq eF_8)) dX13_four_12 ?_
  refine lv_iload_n hx hb dX13_four_15 rfl (lv_at hl 2 rfl) ?_
  refine lv_iload_n hx hb dX13_four_16 rfl (lv_at hl 0 rfl) ?_
  refine lv_ishr hx hb dX13_four_17 ?_
  refine lv_topi (fun x_9 ex_9 => ?_)
  refine lv_i2b hx hb dX13_four_18 rfl ?_
  refine lv_topi (fun x_10 ex_10 => ?_)
  refine va_bast hx hb hK hP hD hS 1 0 rfl rfl (i := 18) (by unfold vp_in; decide) dX13_four_19 (fun H locs hP hD hS => ?_)
  obtain ⟨f_11, ef_11⟩ : ∃ z, z = upd f_7 (Int32.toNatClampNeg 18) (vp_nar .byte x_10) := ⟨_, rfl⟩
  rw [← ef_11] at hP hD
  have hP : va_P (dC, dI) vwCl [(h0, .inr (15, fl 134 F_8)), (qt, .inl (cy, 6000, .inl f_11))] H := hP
  have hD : va_D A [(h0, .inr (15, fl 134 F_8)), (qt, .inl (cy, 6000, .inl f_11))] := hD
  refine lv_aload_n hx hb dX13_four_20 rfl (lv_at hl 1 rfl) ?_
  refine lv_dup hx hb dX13_four_21 rfl ?_
  refine va_get (D := (dC, dI)) (ci := 15) (v := .int 18) (C := RX13) (T := TX13) (N := 134) hx hb hts in_cm_four_16_RX13 hown hK hP 0 rfl rfl 3 (by decide) (hts (.fieldLink RX13 255 "LevelUnitsModel" "taped" "I") (List.mem_of_getElem? (i := 2) rfl)) (fun _ h9 => h9) (fl_get (by decide) (fu_eq eF_8)) dX13_four_22 ?_
  refine lv_iconst (v := 1) hx hb dX13_four_25 (by decide) ?_
  refine lv_iadd hx hb dX13_four_26 ?_
  refine lv_topi (fun y9 e9 => ?_)
  have e9 : y9 = 19 := by rw [e9]; decide
  subst e9
  refine va_put (D := (dC, dI)) (ci := 15) (v := .int 19) (ty := .int) (C := RX13) (T := TX13) (N := 134) hx hb hts in_cm_four_16_RX13 tyX13 tyX13_ok nmX13 hown hK hP hD hS 0 rfl rfl 3 (by decide) (hts (.fieldLink RX13 255 "LevelUnitsModel" "taped" "I") (List.mem_of_getElem? (i := 2) rfl)) (fun _ h9 => h9) rfl (by decide +kernel) rfl rfl (fl_lt (by decide)) dX13_four_27 (fun H locs hP hD hS => ?_)
  obtain ⟨F_12, eF_12⟩ : ∃ z, z = fu F_8 3 (.int 19) := ⟨_, rfl⟩
  have hP : va_P (dC, dI) vwCl [(h0, .inr (15, fl 134 F_12)), (qt, .inl (cy, 6000, .inl f_11))] H := by rw [eF_12, ← fl_set (n := 134) (k := 3) (by decide)]; exact hP
  have hD : va_D A [(h0, .inr (15, fl 134 F_12)), (qt, .inl (cy, 6000, .inl f_11))] := by rw [eF_12, ← fl_set (n := 134) (k := 3) (by decide)]; exact hD
  refine lv_iinc (v := 0) (lv' := [(2, .int 0), (0, .ref h0), (1, .int i)]) hx hb dX13_four_30 hl (k := 0) rfl (by decide) (by decide) rfl (fun ls hl => ?_)
  refine lv_goto (tgt := 3) hx hb dX13_four_33 (by decide) ?_
  refine lv_iload_n hx hb dX13_four_3 rfl (lv_at hl 0 rfl) ?_
  refine lv_if_lt (tgt := 36) hx hb dX13_four_4 (by decide) (fun c9 => absurd c9 (by decide)) (fun c9 => ?_)
  clear c9
  refine lv_aload_n hx hb dX13_four_7 rfl (lv_at hl 1 rfl) ?_
  refine va_get (D := (dC, dI)) (ci := 15) (v := .ref qt) (C := RX13) (T := TX13) (N := 134) hx hb hts in_cm_four_16_RX13 hown hK hP 0 rfl rfl 2 (by decide) (hts (.fieldLink RX13 16 "LevelUnitsModel" "tape" "[B") (List.mem_of_getElem? (i := 1) rfl)) (fun _ h9 => h9) (fl_get (by decide) (fu_ne eF_12 (by decide) (fu_ne eF_8 (by decide) (fu_ne eF_4 (by decide) hk2)))) dX13_four_8 ?_
  refine lv_aload_n hx hb dX13_four_11 rfl (lv_at hl 1 rfl) ?_
  refine va_get (D := (dC, dI)) (ci := 15) (v := .int 19) (C := RX13) (T := TX13) (N := 134) hx hb hts in_cm_four_16_RX13 hown hK hP 0 rfl rfl 3 (by decide) (hts (.fieldLink RX13 255 "LevelUnitsModel" "taped" "I") (List.mem_of_getElem? (i := 2) rfl)) (fun _ h9 => h9) (fl_get (by decide) (fu_eq eF_12)) dX13_four_12 ?_
  refine lv_iload_n hx hb dX13_four_15 rfl (lv_at hl 2 rfl) ?_
  refine lv_iload_n hx hb dX13_four_16 rfl (lv_at hl 0 rfl) ?_
  refine lv_ishr hx hb dX13_four_17 ?_
  refine lv_topi (fun x_13 ex_13 => ?_)
  refine lv_i2b hx hb dX13_four_18 rfl ?_
  refine lv_topi (fun x_14 ex_14 => ?_)
  refine va_bast hx hb hK hP hD hS 1 0 rfl rfl (i := 19) (by unfold vp_in; decide) dX13_four_19 (fun H locs hP hD hS => ?_)
  obtain ⟨f_15, ef_15⟩ : ∃ z, z = upd f_11 (Int32.toNatClampNeg 19) (vp_nar .byte x_14) := ⟨_, rfl⟩
  rw [← ef_15] at hP hD
  have hP : va_P (dC, dI) vwCl [(h0, .inr (15, fl 134 F_12)), (qt, .inl (cy, 6000, .inl f_15))] H := hP
  have hD : va_D A [(h0, .inr (15, fl 134 F_12)), (qt, .inl (cy, 6000, .inl f_15))] := hD
  refine lv_aload_n hx hb dX13_four_20 rfl (lv_at hl 1 rfl) ?_
  refine lv_dup hx hb dX13_four_21 rfl ?_
  refine va_get (D := (dC, dI)) (ci := 15) (v := .int 19) (C := RX13) (T := TX13) (N := 134) hx hb hts in_cm_four_16_RX13 hown hK hP 0 rfl rfl 3 (by decide) (hts (.fieldLink RX13 255 "LevelUnitsModel" "taped" "I") (List.mem_of_getElem? (i := 2) rfl)) (fun _ h9 => h9) (fl_get (by decide) (fu_eq eF_12)) dX13_four_22 ?_
  refine lv_iconst (v := 1) hx hb dX13_four_25 (by decide) ?_
  refine lv_iadd hx hb dX13_four_26 ?_
  refine lv_topi (fun y9 e9 => ?_)
  have e9 : y9 = 20 := by rw [e9]; decide
  subst e9
  refine va_put (D := (dC, dI)) (ci := 15) (v := .int 20) (ty := .int) (C := RX13) (T := TX13) (N := 134) hx hb hts in_cm_four_16_RX13 tyX13 tyX13_ok nmX13 hown hK hP hD hS 0 rfl rfl 3 (by decide) (hts (.fieldLink RX13 255 "LevelUnitsModel" "taped" "I") (List.mem_of_getElem? (i := 2) rfl)) (fun _ h9 => h9) rfl (by decide +kernel) rfl rfl (fl_lt (by decide)) dX13_four_27 (fun H locs hP hD hS => ?_)
  obtain ⟨F_16, eF_16⟩ : ∃ z, z = fu F_12 3 (.int 20) := ⟨_, rfl⟩
  have hP : va_P (dC, dI) vwCl [(h0, .inr (15, fl 134 F_16)), (qt, .inl (cy, 6000, .inl f_15))] H := by rw [eF_16, ← fl_set (n := 134) (k := 3) (by decide)]; exact hP
  have hD : va_D A [(h0, .inr (15, fl 134 F_16)), (qt, .inl (cy, 6000, .inl f_15))] := by rw [eF_16, ← fl_set (n := 134) (k := 3) (by decide)]; exact hD
  refine lv_iinc (v := (-8)) (lv' := [(2, .int ((-8))), (0, .ref h0), (1, .int i)]) hx hb dX13_four_30 hl (k := 0) rfl (by decide) (by decide) rfl (fun ls hl => ?_)
  refine lv_goto (tgt := 3) hx hb dX13_four_33 (by decide) ?_
  refine lv_iload_n hx hb dX13_four_3 rfl (lv_at hl 0 rfl) ?_
  refine lv_if_lt (tgt := 36) hx hb dX13_four_4 (by decide) (fun c9 => ?_) (fun c9 => absurd (by decide) c9)
  clear c9
  have hP9 := hP.sub (ws' := [(h0, .inr (15, fl 134 F_16)), (qt, .inl (cy, 6000, .inl f_15))]) [0, 1] rfl
  have hD9 := hD.sub (ws' := [(h0, .inr (15, fl 134 F_16)), (qt, .inl (cy, 6000, .inl f_15))]) [0, 1] (by decide) rfl
  have hK9 := hK.sub (tys' := [(cy, .byte)]) [0] rfl
  refine W.widen (k := 0) (n := 0) (Nat.le_of_ble_eq_true rfl) (Nat.le_of_ble_eq_true rfl) ?_
  exact W.vret hx hb hr (fun t ht hW => ⟨⟨(), rfl, trivial, F_16, f_15, (fu_ne eF_16 (by decide) (fu_ne eF_12 (by decide) (fu_ne eF_8 (by decide) (fu_ne eF_4 (by decide) hk2)))), (fu_eq eF_16), by rw [ht]; exact hP9, va_K.moved hW.alike hK9, hD9⟩, hS.F ht⟩) hS.2.2 dX13_four_36
def ws_cm_feed : List Cond := .code yX13_feed cX13_feed 6 (some .int) :: ([.fieldLink RX13 251 "LevelUnitsModel" "thrown" "I", .fieldLink RX13 255 "LevelUnitsModel" "taped" "I", .fieldLink RX13 16 "LevelUnitsModel" "tape" "[B", .code yX13_four cX13_four 3 none, .methodLink RX13 258 yX13_four, .instanceMethod yX13_four, .selects RX13 yX13_four yX13_four, .initialized RX13] ++ wsX130)
theorem in_cm_feed_RX13 : ∀ w ∈ wsX130, w ∈ ws_cm_feed := fun _ h => List.mem_cons_of_mem _ (List.mem_append_right _ h)
theorem g0_cm_feed_cm_four_0_258 : GoodIn ws_cm_feed ws_cm_four_0 := goodIn_r _ [4, 3, 2, 9, 10, 11, 12, 13, 14, 15, 16, 17, 18, 19, 20, 21, 22, 23, 24, 25, 26, 27, 28, 29, 30, 31, 32, 33, 34, 35, 36, 37, 38, 39, 40, 41, 42, 43, 44, 45, 46, 47, 48, 49, 50, 51, 52, 53, 54, 55, 56, 57, 58, 59, 60, 61, 62, 63, 64, 65, 66, 67, 68, 69, 70, 71, 72, 73, 74, 75, 76, 77, 78, 79, 80, 81, 82, 83, 84, 85, 86, 87, 88, 89, 90, 91, 92, 93, 94, 95, 96, 97, 98, 99, 100, 101, 102, 103, 104, 105, 106, 107, 108, 109, 110, 111, 112, 113, 114, 115, 116, 117, 118, 119, 120, 121, 122, 123, 124, 125, 126, 127, 128, 129, 130, 131, 132, 133, 134, 135, 136, 137, 138, 139, 140, 141, 142] (by decide +kernel) (by decide +kernel)
theorem gg_cm_feed_cm_four_0_258 : GoodIn ws_cm_feed (wsV RX13 258 RX13 yX13_four ws_cm_four_0) := goodIn_app (goodIn_of _ (by decide +kernel)) g0_cm_feed_cm_four_0_258
theorem g0_cm_feed_cm_four_4_258 : GoodIn ws_cm_feed ws_cm_four_4 := goodIn_r _ [4, 3, 2, 9, 10, 11, 12, 13, 14, 15, 16, 17, 18, 19, 20, 21, 22, 23, 24, 25, 26, 27, 28, 29, 30, 31, 32, 33, 34, 35, 36, 37, 38, 39, 40, 41, 42, 43, 44, 45, 46, 47, 48, 49, 50, 51, 52, 53, 54, 55, 56, 57, 58, 59, 60, 61, 62, 63, 64, 65, 66, 67, 68, 69, 70, 71, 72, 73, 74, 75, 76, 77, 78, 79, 80, 81, 82, 83, 84, 85, 86, 87, 88, 89, 90, 91, 92, 93, 94, 95, 96, 97, 98, 99, 100, 101, 102, 103, 104, 105, 106, 107, 108, 109, 110, 111, 112, 113, 114, 115, 116, 117, 118, 119, 120, 121, 122, 123, 124, 125, 126, 127, 128, 129, 130, 131, 132, 133, 134, 135, 136, 137, 138, 139, 140, 141, 142] (by decide +kernel) (by decide +kernel)
theorem gg_cm_feed_cm_four_4_258 : GoodIn ws_cm_feed (wsV RX13 258 RX13 yX13_four ws_cm_four_4) := goodIn_app (goodIn_of _ (by decide +kernel)) g0_cm_feed_cm_four_4_258
theorem g0_cm_feed_cm_four_8_258 : GoodIn ws_cm_feed ws_cm_four_8 := goodIn_r _ [4, 3, 2, 9, 10, 11, 12, 13, 14, 15, 16, 17, 18, 19, 20, 21, 22, 23, 24, 25, 26, 27, 28, 29, 30, 31, 32, 33, 34, 35, 36, 37, 38, 39, 40, 41, 42, 43, 44, 45, 46, 47, 48, 49, 50, 51, 52, 53, 54, 55, 56, 57, 58, 59, 60, 61, 62, 63, 64, 65, 66, 67, 68, 69, 70, 71, 72, 73, 74, 75, 76, 77, 78, 79, 80, 81, 82, 83, 84, 85, 86, 87, 88, 89, 90, 91, 92, 93, 94, 95, 96, 97, 98, 99, 100, 101, 102, 103, 104, 105, 106, 107, 108, 109, 110, 111, 112, 113, 114, 115, 116, 117, 118, 119, 120, 121, 122, 123, 124, 125, 126, 127, 128, 129, 130, 131, 132, 133, 134, 135, 136, 137, 138, 139, 140, 141, 142] (by decide +kernel) (by decide +kernel)
theorem gg_cm_feed_cm_four_8_258 : GoodIn ws_cm_feed (wsV RX13 258 RX13 yX13_four ws_cm_four_8) := goodIn_app (goodIn_of _ (by decide +kernel)) g0_cm_feed_cm_four_8_258
theorem g0_cm_feed_cm_four_12_258 : GoodIn ws_cm_feed ws_cm_four_12 := goodIn_r _ [4, 3, 2, 9, 10, 11, 12, 13, 14, 15, 16, 17, 18, 19, 20, 21, 22, 23, 24, 25, 26, 27, 28, 29, 30, 31, 32, 33, 34, 35, 36, 37, 38, 39, 40, 41, 42, 43, 44, 45, 46, 47, 48, 49, 50, 51, 52, 53, 54, 55, 56, 57, 58, 59, 60, 61, 62, 63, 64, 65, 66, 67, 68, 69, 70, 71, 72, 73, 74, 75, 76, 77, 78, 79, 80, 81, 82, 83, 84, 85, 86, 87, 88, 89, 90, 91, 92, 93, 94, 95, 96, 97, 98, 99, 100, 101, 102, 103, 104, 105, 106, 107, 108, 109, 110, 111, 112, 113, 114, 115, 116, 117, 118, 119, 120, 121, 122, 123, 124, 125, 126, 127, 128, 129, 130, 131, 132, 133, 134, 135, 136, 137, 138, 139, 140, 141, 142] (by decide +kernel) (by decide +kernel)
theorem gg_cm_feed_cm_four_12_258 : GoodIn ws_cm_feed (wsV RX13 258 RX13 yX13_four ws_cm_four_12) := goodIn_app (goodIn_of _ (by decide +kernel)) g0_cm_feed_cm_four_12_258
theorem g0_cm_feed_cm_four_16_258 : GoodIn ws_cm_feed ws_cm_four_16 := goodIn_r _ [4, 3, 2, 9, 10, 11, 12, 13, 14, 15, 16, 17, 18, 19, 20, 21, 22, 23, 24, 25, 26, 27, 28, 29, 30, 31, 32, 33, 34, 35, 36, 37, 38, 39, 40, 41, 42, 43, 44, 45, 46, 47, 48, 49, 50, 51, 52, 53, 54, 55, 56, 57, 58, 59, 60, 61, 62, 63, 64, 65, 66, 67, 68, 69, 70, 71, 72, 73, 74, 75, 76, 77, 78, 79, 80, 81, 82, 83, 84, 85, 86, 87, 88, 89, 90, 91, 92, 93, 94, 95, 96, 97, 98, 99, 100, 101, 102, 103, 104, 105, 106, 107, 108, 109, 110, 111, 112, 113, 114, 115, 116, 117, 118, 119, 120, 121, 122, 123, 124, 125, 126, 127, 128, 129, 130, 131, 132, 133, 134, 135, 136, 137, 138, 139, 140, 141, 142] (by decide +kernel) (by decide +kernel)
theorem gg_cm_feed_cm_four_16_258 : GoodIn ws_cm_feed (wsV RX13 258 RX13 yX13_four ws_cm_four_16) := goodIn_app (goodIn_of _ (by decide +kernel)) g0_cm_feed_cm_four_16_258
set_option maxHeartbeats 4000000 in
set_option maxRecDepth 100000 in
theorem cm_feed (l : Launch) (dC : Nat → ClassId) (dI : Nat → Nat → Nat) (h0 : Nat) (F : Nat → Value) (qt : Nat) (cy : ClassId) (f : Nat → Int32) (i0 : Int32) (i1 : Int32) (i2 : Int32) (i3 : Int32) (i4 : Int32) (sz : Nat) (hk2 : F 2 = .ref qt) (hk3 : F 3 = .int 0) : Met l yX13_feed ws_cm_feed ({ frames := 1, cells := 0, slots := 0, locals := 22 }) (va_Pc [.ref h0, .int i0, .int i1, .int i2, .int i3, .int i4] (fun U => U.heap.size = sz ∧ va_P (dC, dI) vwCl [(h0, .inr (15, fl 134 F)), (qt, .inl (cy, 6000, .inl f))] U.heap ∧ va_K (dC, dI) vwCl [(cy, .byte)] U ∧ va_D (fun _ => True) [(h0, .inr (15, fl 134 F)), (qt, .inl (cy, 6000, .inl f))])) (va_Qi (fun (r : Int32) (_ : Unit) => r = 20) (fun _ t => va_P (dC, dI) vwCl [] t.heap ∧ va_K (dC, dI) vwCl [] t ∧ va_D (va_A [(h0, .inr (15, fl 134 F)), (qt, .inl (cy, 6000, .inl f))] sz) []) (va_A [(h0, .inr (15, fl 134 F)), (qt, .inl (cy, 6000, .inl f))] sz)) 0 0 (va_A [(h0, .inr (15, fl 134 F)), (qt, .inl (cy, 6000, .inl f))] sz) := by
  refine Met.ofW (cc := cX13_feed) (maxL := 6) (ret := (some .int)) (by decide) rfl ?_
  intro p e s m args below meth c s₁ B hml hv
  obtain ⟨rfl, hsz, hP, hK, hD0⟩ := hv
  have hx := B.exec
  have hb := B.bytes
  have hr := B.returns
  have hts := atoms_spec (ws := ws_cm_feed) B.pre
  have hown : s.vm.findClass RX13 = some m.cls := findClass_of_methodNamed B.named
  have hlocks := B.notSynchronized
  subst hsz
  have hD := hD0.self (sz := s.heap.size)
  generalize hAe : va_A [(h0, .inr (15, fl 134 F)), (qt, .inl (cy, 6000, .inl f))] s.heap.size = A at hD ⊢
  have hA : ∀ q : Nat, s.heap.size ≤ q → A q := fun q h => by rw [← hAe]; exact Or.inr h
  have hS : va_S A s.heap s.heap [] := va_S.rf
  have hP : va_P (dC, dI) vwCl [(h0, .inr (15, fl 134 F)), (qt, .inl (cy, 6000, .inl f))] s.heap := hP
  have hl := lv_entry ([.ref h0, .int i0, .int i1, .int i2, .int i3, .int i4]) (n := 6) (Nat.le_of_ble_eq_true rfl)
  rw [lg_entry_eq]
  generalize (lg_sl ([.ref h0, .int i0, .int i1, .int i2, .int i3, .int i4]) ++ List.replicate (6 - (lg_sl ([.ref h0, .int i0, .int i1, .int i2, .int i3, .int i4])).length) Slot.unset).toArray = ls at hl ⊢
  have hl : lv_has ls 6 [(0, .ref h0), (1, .int i0), (2, .int i1), (3, .int i2), (4, .int i3), (5, .int i4)] := hl
  refine lv_aload_n hx hb dX13_feed_0 rfl (lv_at hl 0 rfl) ?_
  refine lv_iconst (v := 0) hx hb dX13_feed_1 (by decide) ?_
  refine va_put (D := (dC, dI)) (ci := 15) (v := .int 0) (ty := .int) (C := RX13) (T := TX13) (N := 134) hx hb hts in_cm_feed_RX13 tyX13 tyX13_ok nmX13 hown hK hP hD hS 0 rfl rfl 0 (by decide) (hts (.fieldLink RX13 251 "LevelUnitsModel" "thrown" "I") (List.mem_of_getElem? (i := 1) rfl)) (fun _ h9 => h9) rfl (by decide +kernel) rfl rfl (fl_lt (by decide)) dX13_feed_2 (fun H locs hP hD hS => ?_)
  obtain ⟨F_1, eF_1⟩ : ∃ z, z = fu F 0 (.int 0) := ⟨_, rfl⟩
  have hP : va_P (dC, dI) vwCl [(h0, .inr (15, fl 134 F_1)), (qt, .inl (cy, 6000, .inl f))] H := by rw [eF_1, ← fl_set (n := 134) (k := 0) (by decide)]; exact hP
  have hD : va_D A [(h0, .inr (15, fl 134 F_1)), (qt, .inl (cy, 6000, .inl f))] := by rw [eF_1, ← fl_set (n := 134) (k := 0) (by decide)]; exact hD
  refine lv_aload_n hx hb dX13_feed_5 rfl (lv_at hl 0 rfl) ?_
  refine va_get (D := (dC, dI)) (ci := 15) (v := .int 0) (C := RX13) (T := TX13) (N := 134) hx hb hts in_cm_feed_RX13 hown hK hP 0 rfl rfl 3 (by decide) (hts (.fieldLink RX13 255 "LevelUnitsModel" "taped" "I") (List.mem_of_getElem? (i := 2) rfl)) (fun _ h9 => h9) (fl_get (by decide) (fu_ne eF_1 (by decide) hk3)) dX13_feed_6 ?_
  refine lv_bipush (v := 20) hx hb dX13_feed_9 (by decide) ?_
  refine lv_iadd hx hb dX13_feed_11 ?_
  refine lv_topi (fun y9 e9 => ?_)
  have e9 : y9 = 20 := by rw [e9]; decide
  subst e9
  refine lv_sipush (v := 6000) hx hb dX13_feed_12 (by decide) ?_
  refine lv_icmp_le (tgt := 20) hx hb dX13_feed_15 (by decide) (fun c9 => ?_) (fun c9 => absurd (by decide) c9)
  clear c9
  refine lv_aload_n hx hb dX13_feed_20 rfl (lv_at hl 0 rfl) ?_
  refine lv_iload_n hx hb dX13_feed_21 rfl (lv_at hl 1 rfl) ?_
  have hPc := hP.sub (ws' := [(h0, .inr (15, fl 134 F_1)), (qt, .inl (cy, 6000, .inl f))]) [0, 1] rfl
  have hDc := hD.sub (ws' := [(h0, .inr (15, fl 134 F_1)), (qt, .inl (cy, 6000, .inl f))]) [0, 1] (by decide) rfl
  have hKc := hK.sub (tys' := [(cy, .byte)]) [0] rfl
  have hFc := va_free (wc := [(h0, .inr (15, fl 134 F_1)), (qt, .inl (cy, 6000, .inl f))]) hD hS hA [0, 1] rfl
  refine va_callv (va_runV (As := [.int i0]) (rest := []) ⟨hx, hb, hml, hown, hts⟩ (cm_four_0 l dC dI h0 F_1 qt cy f i0 H.size (fu_ne eF_1 (by decide) hk2) (fu_ne eF_1 (by decide) hk3)) (cwV 1 hts gg_cm_feed_cm_four_0_258 rfl rfl rfl (by decide +kernel) ⟨(Nat.le_of_ble_eq_true rfl), (Nat.le_of_ble_eq_true rfl)⟩) ⟨fun a U g mk q => by obtain ⟨q0, q1, qP, qK, qD⟩ := q; exact ⟨q0, q1, qP, va_K.moved (u := U) (U := U.calling g mk a) (Vm.Alike.refl U.vm) qK, qD⟩, va_recv hKc hPc (ci := 15) (q0 := 0) rfl rfl, fun U hU hW => ⟨rfl, by rw [hU], by rw [hU]; exact hPc, va_K.moved hW.alike hKc, hDc.weaken (fun _ _ _ _ => trivial)⟩⟩ rfl rfl hl.1 rfl (lv_room (Nat.le_of_ble_eq_true rfl)) dX13_feed_22 ⟨(Nat.le_of_ble_eq_true rfl), (Nat.le_of_ble_eq_true rfl)⟩) hS (fun q _ h => hFc q h) hFc (fun u t H1 locs ht hvm hw hB hz1 hk1 hS => ?_)
  obtain ⟨F_2, f_3, hf_4, hf_5, hP1, hK1, hD1⟩ := hB
  rw [ht] at hP1
  have hK1 := va_K.moved hvm.symm hK1
  obtain ⟨hP, hD⟩ := va_join (wr := []) (w1 := [(h0, .inr (15, fl 134 F_2)), (qt, .inl (cy, 6000, .inl f_3))]) hP hD [0, 1] [] rfl rfl (by decide) (by decide) hk1 hFc hP1 hD1
  have hK := (hK.sub (tys' := []) [] rfl).app hK1
  generalize H1 = H at hP hS ⊢
  have hK : va_K (dC, dI) vwCl [(cy, .byte)] s := hK
  have hP : va_P (dC, dI) vwCl [(h0, .inr (15, fl 134 F_2)), (qt, .inl (cy, 6000, .inl f_3))] H := hP
  have hD : va_D A [(h0, .inr (15, fl 134 F_2)), (qt, .inl (cy, 6000, .inl f_3))] := hD
  refine W.widen (k := 0) (n := 0) (Nat.le_of_ble_eq_true rfl) (Nat.le_of_ble_eq_true rfl) ?_
  refine lv_aload_n hx hb dX13_feed_25 rfl (lv_at hl 0 rfl) ?_
  refine lv_iload_n hx hb dX13_feed_26 rfl (lv_at hl 2 rfl) ?_
  have hPc := hP.sub (ws' := [(h0, .inr (15, fl 134 F_2)), (qt, .inl (cy, 6000, .inl f_3))]) [0, 1] rfl
  have hDc := hD.sub (ws' := [(h0, .inr (15, fl 134 F_2)), (qt, .inl (cy, 6000, .inl f_3))]) [0, 1] (by decide) rfl
  have hKc := hK.sub (tys' := [(cy, .byte)]) [0] rfl
  have hFc := va_free (wc := [(h0, .inr (15, fl 134 F_2)), (qt, .inl (cy, 6000, .inl f_3))]) hD hS hA [0, 1] rfl
  refine va_callv (va_runV (As := [.int i1]) (rest := []) ⟨hx, hb, hml, hown, hts⟩ (cm_four_4 l dC dI h0 F_2 qt cy f_3 i1 H.size hf_4 hf_5) (cwV 1 hts gg_cm_feed_cm_four_4_258 rfl rfl rfl (by decide +kernel) ⟨(Nat.le_of_ble_eq_true rfl), (Nat.le_of_ble_eq_true rfl)⟩) ⟨fun a U g mk q => by obtain ⟨q0, q1, qP, qK, qD⟩ := q; exact ⟨q0, q1, qP, va_K.moved (u := U) (U := U.calling g mk a) (Vm.Alike.refl U.vm) qK, qD⟩, va_recv hKc hPc (ci := 15) (q0 := 0) rfl rfl, fun U hU hW => ⟨rfl, by rw [hU], by rw [hU]; exact hPc, va_K.moved hW.alike hKc, hDc.weaken (fun _ _ _ _ => trivial)⟩⟩ rfl rfl hl.1 rfl (lv_room (Nat.le_of_ble_eq_true rfl)) dX13_feed_27 ⟨(Nat.le_of_ble_eq_true rfl), (Nat.le_of_ble_eq_true rfl)⟩) hS (fun q _ h => hFc q h) hFc (fun u t H1 locs ht hvm hw hB hz1 hk1 hS => ?_)
  obtain ⟨F_6, f_7, hf_8, hf_9, hP1, hK1, hD1⟩ := hB
  rw [ht] at hP1
  have hK1 := va_K.moved hvm.symm hK1
  obtain ⟨hP, hD⟩ := va_join (wr := []) (w1 := [(h0, .inr (15, fl 134 F_6)), (qt, .inl (cy, 6000, .inl f_7))]) hP hD [0, 1] [] rfl rfl (by decide) (by decide) hk1 hFc hP1 hD1
  have hK := (hK.sub (tys' := []) [] rfl).app hK1
  generalize H1 = H at hP hS ⊢
  have hK : va_K (dC, dI) vwCl [(cy, .byte)] s := hK
  have hP : va_P (dC, dI) vwCl [(h0, .inr (15, fl 134 F_6)), (qt, .inl (cy, 6000, .inl f_7))] H := hP
  have hD : va_D A [(h0, .inr (15, fl 134 F_6)), (qt, .inl (cy, 6000, .inl f_7))] := hD
  refine W.widen (k := 0) (n := 0) (Nat.le_of_ble_eq_true rfl) (Nat.le_of_ble_eq_true rfl) ?_
  refine lv_aload_n hx hb dX13_feed_30 rfl (lv_at hl 0 rfl) ?_
  refine lv_iload_n hx hb dX13_feed_31 rfl (lv_at hl 3 rfl) ?_
  have hPc := hP.sub (ws' := [(h0, .inr (15, fl 134 F_6)), (qt, .inl (cy, 6000, .inl f_7))]) [0, 1] rfl
  have hDc := hD.sub (ws' := [(h0, .inr (15, fl 134 F_6)), (qt, .inl (cy, 6000, .inl f_7))]) [0, 1] (by decide) rfl
  have hKc := hK.sub (tys' := [(cy, .byte)]) [0] rfl
  have hFc := va_free (wc := [(h0, .inr (15, fl 134 F_6)), (qt, .inl (cy, 6000, .inl f_7))]) hD hS hA [0, 1] rfl
  refine va_callv (va_runV (As := [.int i2]) (rest := []) ⟨hx, hb, hml, hown, hts⟩ (cm_four_8 l dC dI h0 F_6 qt cy f_7 i2 H.size hf_8 hf_9) (cwV 1 hts gg_cm_feed_cm_four_8_258 rfl rfl rfl (by decide +kernel) ⟨(Nat.le_of_ble_eq_true rfl), (Nat.le_of_ble_eq_true rfl)⟩) ⟨fun a U g mk q => by obtain ⟨q0, q1, qP, qK, qD⟩ := q; exact ⟨q0, q1, qP, va_K.moved (u := U) (U := U.calling g mk a) (Vm.Alike.refl U.vm) qK, qD⟩, va_recv hKc hPc (ci := 15) (q0 := 0) rfl rfl, fun U hU hW => ⟨rfl, by rw [hU], by rw [hU]; exact hPc, va_K.moved hW.alike hKc, hDc.weaken (fun _ _ _ _ => trivial)⟩⟩ rfl rfl hl.1 rfl (lv_room (Nat.le_of_ble_eq_true rfl)) dX13_feed_32 ⟨(Nat.le_of_ble_eq_true rfl), (Nat.le_of_ble_eq_true rfl)⟩) hS (fun q _ h => hFc q h) hFc (fun u t H1 locs ht hvm hw hB hz1 hk1 hS => ?_)
  obtain ⟨F_10, f_11, hf_12, hf_13, hP1, hK1, hD1⟩ := hB
  rw [ht] at hP1
  have hK1 := va_K.moved hvm.symm hK1
  obtain ⟨hP, hD⟩ := va_join (wr := []) (w1 := [(h0, .inr (15, fl 134 F_10)), (qt, .inl (cy, 6000, .inl f_11))]) hP hD [0, 1] [] rfl rfl (by decide) (by decide) hk1 hFc hP1 hD1
  have hK := (hK.sub (tys' := []) [] rfl).app hK1
  generalize H1 = H at hP hS ⊢
  have hK : va_K (dC, dI) vwCl [(cy, .byte)] s := hK
  have hP : va_P (dC, dI) vwCl [(h0, .inr (15, fl 134 F_10)), (qt, .inl (cy, 6000, .inl f_11))] H := hP
  have hD : va_D A [(h0, .inr (15, fl 134 F_10)), (qt, .inl (cy, 6000, .inl f_11))] := hD
  refine W.widen (k := 0) (n := 0) (Nat.le_of_ble_eq_true rfl) (Nat.le_of_ble_eq_true rfl) ?_
  refine lv_aload_n hx hb dX13_feed_35 rfl (lv_at hl 0 rfl) ?_
  refine lv_iload hx hb dX13_feed_36 (lv_at hl 4 rfl) ?_
  have hPc := hP.sub (ws' := [(h0, .inr (15, fl 134 F_10)), (qt, .inl (cy, 6000, .inl f_11))]) [0, 1] rfl
  have hDc := hD.sub (ws' := [(h0, .inr (15, fl 134 F_10)), (qt, .inl (cy, 6000, .inl f_11))]) [0, 1] (by decide) rfl
  have hKc := hK.sub (tys' := [(cy, .byte)]) [0] rfl
  have hFc := va_free (wc := [(h0, .inr (15, fl 134 F_10)), (qt, .inl (cy, 6000, .inl f_11))]) hD hS hA [0, 1] rfl
  refine va_callv (va_runV (As := [.int i3]) (rest := []) ⟨hx, hb, hml, hown, hts⟩ (cm_four_12 l dC dI h0 F_10 qt cy f_11 i3 H.size hf_12 hf_13) (cwV 1 hts gg_cm_feed_cm_four_12_258 rfl rfl rfl (by decide +kernel) ⟨(Nat.le_of_ble_eq_true rfl), (Nat.le_of_ble_eq_true rfl)⟩) ⟨fun a U g mk q => by obtain ⟨q0, q1, qP, qK, qD⟩ := q; exact ⟨q0, q1, qP, va_K.moved (u := U) (U := U.calling g mk a) (Vm.Alike.refl U.vm) qK, qD⟩, va_recv hKc hPc (ci := 15) (q0 := 0) rfl rfl, fun U hU hW => ⟨rfl, by rw [hU], by rw [hU]; exact hPc, va_K.moved hW.alike hKc, hDc.weaken (fun _ _ _ _ => trivial)⟩⟩ rfl rfl hl.1 rfl (lv_room (Nat.le_of_ble_eq_true rfl)) dX13_feed_38 ⟨(Nat.le_of_ble_eq_true rfl), (Nat.le_of_ble_eq_true rfl)⟩) hS (fun q _ h => hFc q h) hFc (fun u t H1 locs ht hvm hw hB hz1 hk1 hS => ?_)
  obtain ⟨F_14, f_15, hf_16, hf_17, hP1, hK1, hD1⟩ := hB
  rw [ht] at hP1
  have hK1 := va_K.moved hvm.symm hK1
  obtain ⟨hP, hD⟩ := va_join (wr := []) (w1 := [(h0, .inr (15, fl 134 F_14)), (qt, .inl (cy, 6000, .inl f_15))]) hP hD [0, 1] [] rfl rfl (by decide) (by decide) hk1 hFc hP1 hD1
  have hK := (hK.sub (tys' := []) [] rfl).app hK1
  generalize H1 = H at hP hS ⊢
  have hK : va_K (dC, dI) vwCl [(cy, .byte)] s := hK
  have hP : va_P (dC, dI) vwCl [(h0, .inr (15, fl 134 F_14)), (qt, .inl (cy, 6000, .inl f_15))] H := hP
  have hD : va_D A [(h0, .inr (15, fl 134 F_14)), (qt, .inl (cy, 6000, .inl f_15))] := hD
  refine W.widen (k := 0) (n := 0) (Nat.le_of_ble_eq_true rfl) (Nat.le_of_ble_eq_true rfl) ?_
  refine lv_aload_n hx hb dX13_feed_41 rfl (lv_at hl 0 rfl) ?_
  refine lv_iload hx hb dX13_feed_42 (lv_at hl 5 rfl) ?_
  have hPc := hP.sub (ws' := [(h0, .inr (15, fl 134 F_14)), (qt, .inl (cy, 6000, .inl f_15))]) [0, 1] rfl
  have hDc := hD.sub (ws' := [(h0, .inr (15, fl 134 F_14)), (qt, .inl (cy, 6000, .inl f_15))]) [0, 1] (by decide) rfl
  have hKc := hK.sub (tys' := [(cy, .byte)]) [0] rfl
  have hFc := va_free (wc := [(h0, .inr (15, fl 134 F_14)), (qt, .inl (cy, 6000, .inl f_15))]) hD hS hA [0, 1] rfl
  refine va_callv (va_runV (As := [.int i4]) (rest := []) ⟨hx, hb, hml, hown, hts⟩ (cm_four_16 l dC dI h0 F_14 qt cy f_15 i4 H.size hf_16 hf_17) (cwV 1 hts gg_cm_feed_cm_four_16_258 rfl rfl rfl (by decide +kernel) ⟨(Nat.le_of_ble_eq_true rfl), (Nat.le_of_ble_eq_true rfl)⟩) ⟨fun a U g mk q => by obtain ⟨q0, q1, qP, qK, qD⟩ := q; exact ⟨q0, q1, qP, va_K.moved (u := U) (U := U.calling g mk a) (Vm.Alike.refl U.vm) qK, qD⟩, va_recv hKc hPc (ci := 15) (q0 := 0) rfl rfl, fun U hU hW => ⟨rfl, by rw [hU], by rw [hU]; exact hPc, va_K.moved hW.alike hKc, hDc.weaken (fun _ _ _ _ => trivial)⟩⟩ rfl rfl hl.1 rfl (lv_room (Nat.le_of_ble_eq_true rfl)) dX13_feed_44 ⟨(Nat.le_of_ble_eq_true rfl), (Nat.le_of_ble_eq_true rfl)⟩) hS (fun q _ h => hFc q h) hFc (fun u t H1 locs ht hvm hw hB hz1 hk1 hS => ?_)
  obtain ⟨F_18, f_19, hf_20, hf_21, hP1, hK1, hD1⟩ := hB
  rw [ht] at hP1
  have hK1 := va_K.moved hvm.symm hK1
  obtain ⟨hP, hD⟩ := va_join (wr := []) (w1 := [(h0, .inr (15, fl 134 F_18)), (qt, .inl (cy, 6000, .inl f_19))]) hP hD [0, 1] [] rfl rfl (by decide) (by decide) hk1 hFc hP1 hD1
  have hK := (hK.sub (tys' := []) [] rfl).app hK1
  generalize H1 = H at hP hS ⊢
  have hK : va_K (dC, dI) vwCl [(cy, .byte)] s := hK
  have hP : va_P (dC, dI) vwCl [(h0, .inr (15, fl 134 F_18)), (qt, .inl (cy, 6000, .inl f_19))] H := hP
  have hD : va_D A [(h0, .inr (15, fl 134 F_18)), (qt, .inl (cy, 6000, .inl f_19))] := hD
  refine W.widen (k := 0) (n := 0) (Nat.le_of_ble_eq_true rfl) (Nat.le_of_ble_eq_true rfl) ?_
  refine lv_aload_n hx hb dX13_feed_47 rfl (lv_at hl 0 rfl) ?_
  refine va_get (D := (dC, dI)) (ci := 15) (v := .int 20) (C := RX13) (T := TX13) (N := 134) hx hb hts in_cm_feed_RX13 hown hK hP 0 rfl rfl 3 (by decide) (hts (.fieldLink RX13 255 "LevelUnitsModel" "taped" "I") (List.mem_of_getElem? (i := 2) rfl)) (fun _ h9 => h9) (fl_get (by decide) hf_21) dX13_feed_48 ?_
  have hP9 := hP.sub (ws' := []) [] rfl
  have hD9 := hD.sub (ws' := []) [] (by decide) rfl
  have hK9 := hK.sub (tys' := []) [] rfl
  refine W.widen (k := 0) (n := 0) (Nat.le_of_ble_eq_true rfl) (Nat.le_of_ble_eq_true rfl) ?_
  exact W.iret (v := 20) hx hb hr (fun t ht hW => ⟨⟨20, (), rfl, rfl, by rw [ht]; exact hP9, va_K.moved hW.alike hK9, hD9⟩, hS.F ht⟩) hS.2.2 dX13_feed_51
def ws_cm_back : List Cond := .code yX13_back cX13_back 2 (some .int) :: ([.fieldLink RX13 251 "LevelUnitsModel" "thrown" "I", .fieldLink RX13 255 "LevelUnitsModel" "taped" "I"] ++ wsX130)
theorem in_cm_back_RX13 : ∀ w ∈ wsX130, w ∈ ws_cm_back := fun _ h => List.mem_cons_of_mem _ (List.mem_append_right _ h)
set_option maxHeartbeats 4000000 in
set_option maxRecDepth 100000 in
theorem cm_back (l : Launch) (dC : Nat → ClassId) (dI : Nat → Nat → Nat) (h0 : Nat) (F : Nat → Value) (i : Int32) (sz : Nat) (hk3 : F 3 = .int 0) : Met l yX13_back ws_cm_back ({ frames := 0, cells := 0, slots := 0, locals := 0 }) (va_Pc [.ref h0, .int i] (fun U => U.heap.size = sz ∧ va_P (dC, dI) vwCl [(h0, .inr (15, fl 134 F))] U.heap ∧ va_K (dC, dI) vwCl [] U ∧ va_D (fun _ => True) [(h0, .inr (15, fl 134 F))])) (va_Qi (fun (r : Int32) (_ : Unit) => r = bkS i) (fun _ t => va_P (dC, dI) vwCl [] t.heap ∧ va_K (dC, dI) vwCl [] t ∧ va_D (va_A [(h0, .inr (15, fl 134 F))] sz) []) (va_A [(h0, .inr (15, fl 134 F))] sz)) 0 0 (va_A [(h0, .inr (15, fl 134 F))] sz) := by
  refine Met.ofW (cc := cX13_back) (maxL := 2) (ret := (some .int)) (by decide) rfl ?_
  intro p e s m args below meth c s₁ B hml hv
  obtain ⟨rfl, hsz, hP, hK, hD0⟩ := hv
  have hx := B.exec
  have hb := B.bytes
  have hr := B.returns
  have hts := atoms_spec (ws := ws_cm_back) B.pre
  have hown : s.vm.findClass RX13 = some m.cls := findClass_of_methodNamed B.named
  have hlocks := B.notSynchronized
  subst hsz
  have hD := hD0.self (sz := s.heap.size)
  generalize hAe : va_A [(h0, .inr (15, fl 134 F))] s.heap.size = A at hD ⊢
  have hA : ∀ q : Nat, s.heap.size ≤ q → A q := fun q h => by rw [← hAe]; exact Or.inr h
  have hS : va_S A s.heap s.heap [] := va_S.rf
  have hP : va_P (dC, dI) vwCl [(h0, .inr (15, fl 134 F))] s.heap := hP
  have hl := lv_entry ([.ref h0, .int i]) (n := 2) (Nat.le_of_ble_eq_true rfl)
  rw [lg_entry_eq]
  generalize (lg_sl ([.ref h0, .int i]) ++ List.replicate (2 - (lg_sl ([.ref h0, .int i])).length) Slot.unset).toArray = ls at hl ⊢
  have hl : lv_has ls 2 [(0, .ref h0), (1, .int i)] := hl
  refine lv_aload_n hx hb dX13_back_0 rfl (lv_at hl 0 rfl) ?_
  refine lv_iconst (v := 0) hx hb dX13_back_1 (by decide) ?_
  refine va_put (D := (dC, dI)) (ci := 15) (v := .int 0) (ty := .int) (C := RX13) (T := TX13) (N := 134) hx hb hts in_cm_back_RX13 tyX13 tyX13_ok nmX13 hown hK hP hD hS 0 rfl rfl 0 (by decide) (hts (.fieldLink RX13 251 "LevelUnitsModel" "thrown" "I") (List.mem_of_getElem? (i := 1) rfl)) (fun _ h9 => h9) rfl (by decide +kernel) rfl rfl (fl_lt (by decide)) dX13_back_2 (fun H locs hP hD hS => ?_)
  obtain ⟨F_1, eF_1⟩ : ∃ z, z = fu F 0 (.int 0) := ⟨_, rfl⟩
  have hP : va_P (dC, dI) vwCl [(h0, .inr (15, fl 134 F_1))] H := by rw [eF_1, ← fl_set (n := 134) (k := 0) (by decide)]; exact hP
  have hD : va_D A [(h0, .inr (15, fl 134 F_1))] := by rw [eF_1, ← fl_set (n := 134) (k := 0) (by decide)]; exact hD
  refine lv_iload_n hx hb dX13_back_5 rfl (lv_at hl 1 rfl) ?_
  refine lv_if_lt (tgt := 17) hx hb dX13_back_6 (by decide) (fun c_2 => ?_) (fun c_2 => ?_)
  · skip
    refine lv_iconst (v := (-1)) hx hb dX13_back_17 (by decide) ?_
    have hP9 := hP.sub (ws' := []) [] rfl
    have hD9 := hD.sub (ws' := []) [] (by decide) rfl
    have hK9 := hK.sub (tys' := []) [] rfl
    refine W.widen (k := 0) (n := 0) (Nat.le_of_ble_eq_true rfl) (Nat.le_of_ble_eq_true rfl) ?_
    exact W.iret (v := (-1)) hx hb hr (fun t ht hW => ⟨⟨(-1), (), rfl, (by simp [bkS, c_2]), by rw [ht]; exact hP9, va_K.moved hW.alike hK9, hD9⟩, hS.F ht⟩) hS.2.2 dX13_back_18
  · skip
    refine lv_iload_n hx hb dX13_back_9 rfl (lv_at hl 1 rfl) ?_
    refine lv_aload_n hx hb dX13_back_10 rfl (lv_at hl 0 rfl) ?_
    refine va_get (D := (dC, dI)) (ci := 15) (v := .int 0) (C := RX13) (T := TX13) (N := 134) hx hb hts in_cm_back_RX13 hown hK hP 0 rfl rfl 3 (by decide) (hts (.fieldLink RX13 255 "LevelUnitsModel" "taped" "I") (List.mem_of_getElem? (i := 2) rfl)) (fun _ h9 => h9) (fl_get (by decide) (fu_ne eF_1 (by decide) hk3)) dX13_back_11 ?_
    refine lv_icmp_le (tgt := 19) hx hb dX13_back_14 (by decide) (fun c_3 => ?_) (fun c_3 => ?_)
    · skip
      refine lv_aload_n hx hb dX13_back_19 rfl (lv_at hl 0 rfl) ?_
      refine lv_dup hx hb dX13_back_20 rfl ?_
      refine va_get (D := (dC, dI)) (ci := 15) (v := .int 0) (C := RX13) (T := TX13) (N := 134) hx hb hts in_cm_back_RX13 hown hK hP 0 rfl rfl 3 (by decide) (hts (.fieldLink RX13 255 "LevelUnitsModel" "taped" "I") (List.mem_of_getElem? (i := 2) rfl)) (fun _ h9 => h9) (fl_get (by decide) (fu_ne eF_1 (by decide) hk3)) dX13_back_21 ?_
      refine lv_iload_n hx hb dX13_back_24 rfl (lv_at hl 1 rfl) ?_
      refine lv_isub hx hb dX13_back_25 ?_
      refine lv_topi (fun x_4 ex_4 => ?_)
      refine va_put (D := (dC, dI)) (ci := 15) (v := .int x_4) (ty := .int) (C := RX13) (T := TX13) (N := 134) hx hb hts in_cm_back_RX13 tyX13 tyX13_ok nmX13 hown hK hP hD hS 0 rfl rfl 3 (by decide) (hts (.fieldLink RX13 255 "LevelUnitsModel" "taped" "I") (List.mem_of_getElem? (i := 2) rfl)) (fun _ h9 => h9) rfl (by decide +kernel) rfl rfl (fl_lt (by decide)) dX13_back_26 (fun H locs hP hD hS => ?_)
      obtain ⟨F_5, eF_5⟩ : ∃ z, z = fu F_1 3 (.int x_4) := ⟨_, rfl⟩
      have hP : va_P (dC, dI) vwCl [(h0, .inr (15, fl 134 F_5))] H := by rw [eF_5, ← fl_set (n := 134) (k := 3) (by decide)]; exact hP
      have hD : va_D A [(h0, .inr (15, fl 134 F_5))] := by rw [eF_5, ← fl_set (n := 134) (k := 3) (by decide)]; exact hD
      refine lv_aload_n hx hb dX13_back_29 rfl (lv_at hl 0 rfl) ?_
      refine va_get (D := (dC, dI)) (ci := 15) (v := .int x_4) (C := RX13) (T := TX13) (N := 134) hx hb hts in_cm_back_RX13 hown hK hP 0 rfl rfl 3 (by decide) (hts (.fieldLink RX13 255 "LevelUnitsModel" "taped" "I") (List.mem_of_getElem? (i := 2) rfl)) (fun _ h9 => h9) (fl_get (by decide) (fu_eq eF_5)) dX13_back_30 ?_
      have hP9 := hP.sub (ws' := []) [] rfl
      have hD9 := hD.sub (ws' := []) [] (by decide) rfl
      have hK9 := hK.sub (tys' := []) [] rfl
      refine W.widen (k := 0) (n := 0) (Nat.le_of_ble_eq_true rfl) (Nat.le_of_ble_eq_true rfl) ?_
      exact W.iret (v := x_4) hx hb hr (fun t ht hW => ⟨⟨x_4, (), rfl, (by simp [bkS, c_2, c_3, ex_4]), by rw [ht]; exact hP9, va_K.moved hW.alike hK9, hD9⟩, hS.F ht⟩) hS.2.2 dX13_back_33
    · skip
      refine lv_iconst (v := (-1)) hx hb dX13_back_17 (by decide) ?_
      have hP9 := hP.sub (ws' := []) [] rfl
      have hD9 := hD.sub (ws' := []) [] (by decide) rfl
      have hK9 := hK.sub (tys' := []) [] rfl
      refine W.widen (k := 0) (n := 0) (Nat.le_of_ble_eq_true rfl) (Nat.le_of_ble_eq_true rfl) ?_
      exact W.iret (v := (-1)) hx hb hr (fun t ht hW => ⟨⟨(-1), (), rfl, (by simp [bkS, c_2, c_3]), by rw [ht]; exact hP9, va_K.moved hW.alike hK9, hD9⟩, hS.F ht⟩) hS.2.2 dX13_back_18
def ws_cm_count_0 : List Cond := .code yX13_count cX13_count 4 (some .int) :: ([.fieldLink RX13 251 "LevelUnitsModel" "thrown" "I", .fieldLink RX13 889 "LevelUnitsModel" "hasProgram" "Z"] ++ wsX130)
theorem in_cm_count_0_RX13 : ∀ w ∈ wsX130, w ∈ ws_cm_count_0 := fun _ h => List.mem_cons_of_mem _ (List.mem_append_right _ h)
set_option maxHeartbeats 4000000 in
set_option maxRecDepth 100000 in
theorem cm_count_0 (l : Launch) (dC : Nat → ClassId) (dI : Nat → Nat → Nat) (h0 : Nat) (F : Nat → Value) (sz : Nat) (hk3 : F 3 = .int 0) (hk98 : F 98 = .int 0) (hk100 : F 100 = .int 0) : Met l yX13_count ws_cm_count_0 ({ frames := 0, cells := 0, slots := 0, locals := 0 }) (va_Pc [.ref h0, .int 0] (fun U => U.heap.size = sz ∧ va_P (dC, dI) vwCl [(h0, .inr (15, fl 134 F))] U.heap ∧ va_K (dC, dI) vwCl [] U ∧ va_D (fun _ => True) [(h0, .inr (15, fl 134 F))])) (va_Qi (fun (r : Int32) (_ : Unit) => r = 0) (fun _ t => va_P (dC, dI) vwCl [] t.heap ∧ va_K (dC, dI) vwCl [] t ∧ va_D (va_A [(h0, .inr (15, fl 134 F))] sz) []) (va_A [(h0, .inr (15, fl 134 F))] sz)) 0 0 (va_A [(h0, .inr (15, fl 134 F))] sz) := by
  refine Met.ofW (cc := cX13_count) (maxL := 4) (ret := (some .int)) (by decide) rfl ?_
  intro p e s m args below meth c s₁ B hml hv
  obtain ⟨rfl, hsz, hP, hK, hD0⟩ := hv
  have hx := B.exec
  have hb := B.bytes
  have hr := B.returns
  have hts := atoms_spec (ws := ws_cm_count_0) B.pre
  have hown : s.vm.findClass RX13 = some m.cls := findClass_of_methodNamed B.named
  have hlocks := B.notSynchronized
  subst hsz
  have hD := hD0.self (sz := s.heap.size)
  generalize hAe : va_A [(h0, .inr (15, fl 134 F))] s.heap.size = A at hD ⊢
  have hA : ∀ q : Nat, s.heap.size ≤ q → A q := fun q h => by rw [← hAe]; exact Or.inr h
  have hS : va_S A s.heap s.heap [] := va_S.rf
  have hP : va_P (dC, dI) vwCl [(h0, .inr (15, fl 134 F))] s.heap := hP
  have hl := lv_entry ([.ref h0, .int 0]) (n := 4) (Nat.le_of_ble_eq_true rfl)
  rw [lg_entry_eq]
  generalize (lg_sl ([.ref h0, .int 0]) ++ List.replicate (4 - (lg_sl ([.ref h0, .int 0])).length) Slot.unset).toArray = ls at hl ⊢
  have hl : lv_has ls 4 [(0, .ref h0), (1, .int 0)] := hl
  refine lv_aload_n hx hb dX13_count_0 rfl (lv_at hl 0 rfl) ?_
  refine lv_iconst (v := 0) hx hb dX13_count_1 (by decide) ?_
  refine va_put (D := (dC, dI)) (ci := 15) (v := .int 0) (ty := .int) (C := RX13) (T := TX13) (N := 134) hx hb hts in_cm_count_0_RX13 tyX13 tyX13_ok nmX13 hown hK hP hD hS 0 rfl rfl 0 (by decide) (hts (.fieldLink RX13 251 "LevelUnitsModel" "thrown" "I") (List.mem_of_getElem? (i := 1) rfl)) (fun _ h9 => h9) rfl (by decide +kernel) rfl rfl (fl_lt (by decide)) dX13_count_2 (fun H locs hP hD hS => ?_)
  obtain ⟨F_1, eF_1⟩ : ∃ z, z = fu F 0 (.int 0) := ⟨_, rfl⟩
  have hP : va_P (dC, dI) vwCl [(h0, .inr (15, fl 134 F_1))] H := by rw [eF_1, ← fl_set (n := 134) (k := 0) (by decide)]; exact hP
  have hD : va_D A [(h0, .inr (15, fl 134 F_1))] := by rw [eF_1, ← fl_set (n := 134) (k := 0) (by decide)]; exact hD
  refine lv_iconst (v := 0) hx hb dX13_count_5 (by decide) ?_
  refine lv_istore_n (lv' := [(2, .int 0), (0, .ref h0), (1, .int 0)]) hx hb dX13_count_6 rfl hl (by decide) rfl (fun ls hl => ?_)
  refine lv_iload_n hx hb dX13_count_7 rfl (lv_at hl 2 rfl) ?_
  refine lv_tableIn (off := 40) (tgt := 48) hx hb dX13_count_8 (by decide) (by decide) rfl (by decide) ?_
  refine lv_aload_n hx hb dX13_count_48 rfl (lv_at hl 1 rfl) ?_
  refine va_get (D := (dC, dI)) (ci := 15) (v := .int 0) (C := RX13) (T := TX13) (N := 134) hx hb hts in_cm_count_0_RX13 hown hK hP 0 rfl rfl 98 (by decide) (hts (.fieldLink RX13 889 "LevelUnitsModel" "hasProgram" "Z") (List.mem_of_getElem? (i := 2) rfl)) (fun _ h9 => h9) (fl_get (by decide) (fu_ne eF_1 (by decide) hk98)) dX13_count_49 ?_
  refine lv_if_eq (tgt := 64) hx hb dX13_count_52 (by decide) (fun c9 => ?_) (fun c9 => absurd (by decide) c9)
  clear c9
  refine lv_iconst (v := 0) hx hb dX13_count_64 (by decide) ?_
  have hP9 := hP.sub (ws' := []) [] rfl
  have hD9 := hD.sub (ws' := []) [] (by decide) rfl
  have hK9 := hK.sub (tys' := []) [] rfl
  refine W.widen (k := 0) (n := 0) (Nat.le_of_ble_eq_true rfl) (Nat.le_of_ble_eq_true rfl) ?_
  exact W.iret (v := 0) hx hb hr (fun t ht hW => ⟨⟨0, (), rfl, rfl, by rw [ht]; exact hP9, va_K.moved hW.alike hK9, hD9⟩, hS.F ht⟩) hS.2.2 dX13_count_65
def ws_cm_count_1 : List Cond := .code yX13_count cX13_count 4 (some .int) :: ([.fieldLink RX13 251 "LevelUnitsModel" "thrown" "I", .fieldLink RX13 889 "LevelUnitsModel" "hasProgram" "Z"] ++ wsX130)
theorem in_cm_count_1_RX13 : ∀ w ∈ wsX130, w ∈ ws_cm_count_1 := fun _ h => List.mem_cons_of_mem _ (List.mem_append_right _ h)
set_option maxHeartbeats 4000000 in
set_option maxRecDepth 100000 in
theorem cm_count_1 (l : Launch) (dC : Nat → ClassId) (dI : Nat → Nat → Nat) (h0 : Nat) (F : Nat → Value) (sz : Nat) (hk3 : F 3 = .int 0) (hk98 : F 98 = .int 0) (hk100 : F 100 = .int 0) : Met l yX13_count ws_cm_count_1 ({ frames := 0, cells := 0, slots := 0, locals := 0 }) (va_Pc [.ref h0, .int 1] (fun U => U.heap.size = sz ∧ va_P (dC, dI) vwCl [(h0, .inr (15, fl 134 F))] U.heap ∧ va_K (dC, dI) vwCl [] U ∧ va_D (fun _ => True) [(h0, .inr (15, fl 134 F))])) (va_Qi (fun (r : Int32) (_ : Unit) => r = 0) (fun _ t => va_P (dC, dI) vwCl [] t.heap ∧ va_K (dC, dI) vwCl [] t ∧ va_D (va_A [(h0, .inr (15, fl 134 F))] sz) []) (va_A [(h0, .inr (15, fl 134 F))] sz)) 0 0 (va_A [(h0, .inr (15, fl 134 F))] sz) := by
  refine Met.ofW (cc := cX13_count) (maxL := 4) (ret := (some .int)) (by decide) rfl ?_
  intro p e s m args below meth c s₁ B hml hv
  obtain ⟨rfl, hsz, hP, hK, hD0⟩ := hv
  have hx := B.exec
  have hb := B.bytes
  have hr := B.returns
  have hts := atoms_spec (ws := ws_cm_count_1) B.pre
  have hown : s.vm.findClass RX13 = some m.cls := findClass_of_methodNamed B.named
  have hlocks := B.notSynchronized
  subst hsz
  have hD := hD0.self (sz := s.heap.size)
  generalize hAe : va_A [(h0, .inr (15, fl 134 F))] s.heap.size = A at hD ⊢
  have hA : ∀ q : Nat, s.heap.size ≤ q → A q := fun q h => by rw [← hAe]; exact Or.inr h
  have hS : va_S A s.heap s.heap [] := va_S.rf
  have hP : va_P (dC, dI) vwCl [(h0, .inr (15, fl 134 F))] s.heap := hP
  have hl := lv_entry ([.ref h0, .int 1]) (n := 4) (Nat.le_of_ble_eq_true rfl)
  rw [lg_entry_eq]
  generalize (lg_sl ([.ref h0, .int 1]) ++ List.replicate (4 - (lg_sl ([.ref h0, .int 1])).length) Slot.unset).toArray = ls at hl ⊢
  have hl : lv_has ls 4 [(0, .ref h0), (1, .int 1)] := hl
  refine lv_aload_n hx hb dX13_count_0 rfl (lv_at hl 0 rfl) ?_
  refine lv_iconst (v := 0) hx hb dX13_count_1 (by decide) ?_
  refine va_put (D := (dC, dI)) (ci := 15) (v := .int 0) (ty := .int) (C := RX13) (T := TX13) (N := 134) hx hb hts in_cm_count_1_RX13 tyX13 tyX13_ok nmX13 hown hK hP hD hS 0 rfl rfl 0 (by decide) (hts (.fieldLink RX13 251 "LevelUnitsModel" "thrown" "I") (List.mem_of_getElem? (i := 1) rfl)) (fun _ h9 => h9) rfl (by decide +kernel) rfl rfl (fl_lt (by decide)) dX13_count_2 (fun H locs hP hD hS => ?_)
  obtain ⟨F_1, eF_1⟩ : ∃ z, z = fu F 0 (.int 0) := ⟨_, rfl⟩
  have hP : va_P (dC, dI) vwCl [(h0, .inr (15, fl 134 F_1))] H := by rw [eF_1, ← fl_set (n := 134) (k := 0) (by decide)]; exact hP
  have hD : va_D A [(h0, .inr (15, fl 134 F_1))] := by rw [eF_1, ← fl_set (n := 134) (k := 0) (by decide)]; exact hD
  refine lv_iconst (v := 0) hx hb dX13_count_5 (by decide) ?_
  refine lv_istore_n (lv' := [(2, .int 0), (0, .ref h0), (1, .int 1)]) hx hb dX13_count_6 rfl hl (by decide) rfl (fun ls hl => ?_)
  refine lv_iload_n hx hb dX13_count_7 rfl (lv_at hl 2 rfl) ?_
  refine lv_tableIn (off := 58) (tgt := 66) hx hb dX13_count_8 (by decide) (by decide) rfl (by decide) ?_
  refine lv_aload_n hx hb dX13_count_66 rfl (lv_at hl 1 rfl) ?_
  refine va_get (D := (dC, dI)) (ci := 15) (v := .int 0) (C := RX13) (T := TX13) (N := 134) hx hb hts in_cm_count_1_RX13 hown hK hP 0 rfl rfl 98 (by decide) (hts (.fieldLink RX13 889 "LevelUnitsModel" "hasProgram" "Z") (List.mem_of_getElem? (i := 2) rfl)) (fun _ h9 => h9) (fl_get (by decide) (fu_ne eF_1 (by decide) hk98)) dX13_count_67 ?_
  refine lv_if_eq (tgt := 80) hx hb dX13_count_70 (by decide) (fun c9 => ?_) (fun c9 => absurd (by decide) c9)
  clear c9
  refine lv_iconst (v := 0) hx hb dX13_count_80 (by decide) ?_
  have hP9 := hP.sub (ws' := []) [] rfl
  have hD9 := hD.sub (ws' := []) [] (by decide) rfl
  have hK9 := hK.sub (tys' := []) [] rfl
  refine W.widen (k := 0) (n := 0) (Nat.le_of_ble_eq_true rfl) (Nat.le_of_ble_eq_true rfl) ?_
  exact W.iret (v := 0) hx hb hr (fun t ht hW => ⟨⟨0, (), rfl, rfl, by rw [ht]; exact hP9, va_K.moved hW.alike hK9, hD9⟩, hS.F ht⟩) hS.2.2 dX13_count_81
def ws_cm_count_2 : List Cond := .code yX13_count cX13_count 4 (some .int) :: ([.fieldLink RX13 251 "LevelUnitsModel" "thrown" "I", .fieldLink RX13 889 "LevelUnitsModel" "hasProgram" "Z"] ++ wsX130)
theorem in_cm_count_2_RX13 : ∀ w ∈ wsX130, w ∈ ws_cm_count_2 := fun _ h => List.mem_cons_of_mem _ (List.mem_append_right _ h)
set_option maxHeartbeats 4000000 in
set_option maxRecDepth 100000 in
theorem cm_count_2 (l : Launch) (dC : Nat → ClassId) (dI : Nat → Nat → Nat) (h0 : Nat) (F : Nat → Value) (sz : Nat) (hk3 : F 3 = .int 0) (hk98 : F 98 = .int 0) (hk100 : F 100 = .int 0) : Met l yX13_count ws_cm_count_2 ({ frames := 0, cells := 0, slots := 0, locals := 0 }) (va_Pc [.ref h0, .int 2] (fun U => U.heap.size = sz ∧ va_P (dC, dI) vwCl [(h0, .inr (15, fl 134 F))] U.heap ∧ va_K (dC, dI) vwCl [] U ∧ va_D (fun _ => True) [(h0, .inr (15, fl 134 F))])) (va_Qi (fun (r : Int32) (_ : Unit) => r = 0) (fun _ t => va_P (dC, dI) vwCl [] t.heap ∧ va_K (dC, dI) vwCl [] t ∧ va_D (va_A [(h0, .inr (15, fl 134 F))] sz) []) (va_A [(h0, .inr (15, fl 134 F))] sz)) 0 0 (va_A [(h0, .inr (15, fl 134 F))] sz) := by
  refine Met.ofW (cc := cX13_count) (maxL := 4) (ret := (some .int)) (by decide) rfl ?_
  intro p e s m args below meth c s₁ B hml hv
  obtain ⟨rfl, hsz, hP, hK, hD0⟩ := hv
  have hx := B.exec
  have hb := B.bytes
  have hr := B.returns
  have hts := atoms_spec (ws := ws_cm_count_2) B.pre
  have hown : s.vm.findClass RX13 = some m.cls := findClass_of_methodNamed B.named
  have hlocks := B.notSynchronized
  subst hsz
  have hD := hD0.self (sz := s.heap.size)
  generalize hAe : va_A [(h0, .inr (15, fl 134 F))] s.heap.size = A at hD ⊢
  have hA : ∀ q : Nat, s.heap.size ≤ q → A q := fun q h => by rw [← hAe]; exact Or.inr h
  have hS : va_S A s.heap s.heap [] := va_S.rf
  have hP : va_P (dC, dI) vwCl [(h0, .inr (15, fl 134 F))] s.heap := hP
  have hl := lv_entry ([.ref h0, .int 2]) (n := 4) (Nat.le_of_ble_eq_true rfl)
  rw [lg_entry_eq]
  generalize (lg_sl ([.ref h0, .int 2]) ++ List.replicate (4 - (lg_sl ([.ref h0, .int 2])).length) Slot.unset).toArray = ls at hl ⊢
  have hl : lv_has ls 4 [(0, .ref h0), (1, .int 2)] := hl
  refine lv_aload_n hx hb dX13_count_0 rfl (lv_at hl 0 rfl) ?_
  refine lv_iconst (v := 0) hx hb dX13_count_1 (by decide) ?_
  refine va_put (D := (dC, dI)) (ci := 15) (v := .int 0) (ty := .int) (C := RX13) (T := TX13) (N := 134) hx hb hts in_cm_count_2_RX13 tyX13 tyX13_ok nmX13 hown hK hP hD hS 0 rfl rfl 0 (by decide) (hts (.fieldLink RX13 251 "LevelUnitsModel" "thrown" "I") (List.mem_of_getElem? (i := 1) rfl)) (fun _ h9 => h9) rfl (by decide +kernel) rfl rfl (fl_lt (by decide)) dX13_count_2 (fun H locs hP hD hS => ?_)
  obtain ⟨F_1, eF_1⟩ : ∃ z, z = fu F 0 (.int 0) := ⟨_, rfl⟩
  have hP : va_P (dC, dI) vwCl [(h0, .inr (15, fl 134 F_1))] H := by rw [eF_1, ← fl_set (n := 134) (k := 0) (by decide)]; exact hP
  have hD : va_D A [(h0, .inr (15, fl 134 F_1))] := by rw [eF_1, ← fl_set (n := 134) (k := 0) (by decide)]; exact hD
  refine lv_iconst (v := 0) hx hb dX13_count_5 (by decide) ?_
  refine lv_istore_n (lv' := [(2, .int 0), (0, .ref h0), (1, .int 2)]) hx hb dX13_count_6 rfl hl (by decide) rfl (fun ls hl => ?_)
  refine lv_iload_n hx hb dX13_count_7 rfl (lv_at hl 2 rfl) ?_
  refine lv_tableIn (off := 74) (tgt := 82) hx hb dX13_count_8 (by decide) (by decide) rfl (by decide) ?_
  refine lv_aload_n hx hb dX13_count_82 rfl (lv_at hl 1 rfl) ?_
  refine va_get (D := (dC, dI)) (ci := 15) (v := .int 0) (C := RX13) (T := TX13) (N := 134) hx hb hts in_cm_count_2_RX13 hown hK hP 0 rfl rfl 98 (by decide) (hts (.fieldLink RX13 889 "LevelUnitsModel" "hasProgram" "Z") (List.mem_of_getElem? (i := 2) rfl)) (fun _ h9 => h9) (fl_get (by decide) (fu_ne eF_1 (by decide) hk98)) dX13_count_83 ?_
  refine lv_if_eq (tgt := 96) hx hb dX13_count_86 (by decide) (fun c9 => ?_) (fun c9 => absurd (by decide) c9)
  clear c9
  refine lv_iconst (v := 0) hx hb dX13_count_96 (by decide) ?_
  have hP9 := hP.sub (ws' := []) [] rfl
  have hD9 := hD.sub (ws' := []) [] (by decide) rfl
  have hK9 := hK.sub (tys' := []) [] rfl
  refine W.widen (k := 0) (n := 0) (Nat.le_of_ble_eq_true rfl) (Nat.le_of_ble_eq_true rfl) ?_
  exact W.iret (v := 0) hx hb hr (fun t ht hW => ⟨⟨0, (), rfl, rfl, by rw [ht]; exact hP9, va_K.moved hW.alike hK9, hD9⟩, hS.F ht⟩) hS.2.2 dX13_count_97
def ws_cm_count_3 : List Cond := .code yX13_count cX13_count 4 (some .int) :: ([.fieldLink RX13 251 "LevelUnitsModel" "thrown" "I", .fieldLink RX13 255 "LevelUnitsModel" "taped" "I"] ++ wsX130)
theorem in_cm_count_3_RX13 : ∀ w ∈ wsX130, w ∈ ws_cm_count_3 := fun _ h => List.mem_cons_of_mem _ (List.mem_append_right _ h)
set_option maxHeartbeats 4000000 in
set_option maxRecDepth 100000 in
theorem cm_count_3 (l : Launch) (dC : Nat → ClassId) (dI : Nat → Nat → Nat) (h0 : Nat) (F : Nat → Value) (sz : Nat) (hk3 : F 3 = .int 0) (hk98 : F 98 = .int 0) (hk100 : F 100 = .int 0) : Met l yX13_count ws_cm_count_3 ({ frames := 0, cells := 0, slots := 0, locals := 0 }) (va_Pc [.ref h0, .int 3] (fun U => U.heap.size = sz ∧ va_P (dC, dI) vwCl [(h0, .inr (15, fl 134 F))] U.heap ∧ va_K (dC, dI) vwCl [] U ∧ va_D (fun _ => True) [(h0, .inr (15, fl 134 F))])) (va_Qi (fun (r : Int32) (_ : Unit) => r = 0) (fun _ t => va_P (dC, dI) vwCl [] t.heap ∧ va_K (dC, dI) vwCl [] t ∧ va_D (va_A [(h0, .inr (15, fl 134 F))] sz) []) (va_A [(h0, .inr (15, fl 134 F))] sz)) 0 0 (va_A [(h0, .inr (15, fl 134 F))] sz) := by
  refine Met.ofW (cc := cX13_count) (maxL := 4) (ret := (some .int)) (by decide) rfl ?_
  intro p e s m args below meth c s₁ B hml hv
  obtain ⟨rfl, hsz, hP, hK, hD0⟩ := hv
  have hx := B.exec
  have hb := B.bytes
  have hr := B.returns
  have hts := atoms_spec (ws := ws_cm_count_3) B.pre
  have hown : s.vm.findClass RX13 = some m.cls := findClass_of_methodNamed B.named
  have hlocks := B.notSynchronized
  subst hsz
  have hD := hD0.self (sz := s.heap.size)
  generalize hAe : va_A [(h0, .inr (15, fl 134 F))] s.heap.size = A at hD ⊢
  have hA : ∀ q : Nat, s.heap.size ≤ q → A q := fun q h => by rw [← hAe]; exact Or.inr h
  have hS : va_S A s.heap s.heap [] := va_S.rf
  have hP : va_P (dC, dI) vwCl [(h0, .inr (15, fl 134 F))] s.heap := hP
  have hl := lv_entry ([.ref h0, .int 3]) (n := 4) (Nat.le_of_ble_eq_true rfl)
  rw [lg_entry_eq]
  generalize (lg_sl ([.ref h0, .int 3]) ++ List.replicate (4 - (lg_sl ([.ref h0, .int 3])).length) Slot.unset).toArray = ls at hl ⊢
  have hl : lv_has ls 4 [(0, .ref h0), (1, .int 3)] := hl
  refine lv_aload_n hx hb dX13_count_0 rfl (lv_at hl 0 rfl) ?_
  refine lv_iconst (v := 0) hx hb dX13_count_1 (by decide) ?_
  refine va_put (D := (dC, dI)) (ci := 15) (v := .int 0) (ty := .int) (C := RX13) (T := TX13) (N := 134) hx hb hts in_cm_count_3_RX13 tyX13 tyX13_ok nmX13 hown hK hP hD hS 0 rfl rfl 0 (by decide) (hts (.fieldLink RX13 251 "LevelUnitsModel" "thrown" "I") (List.mem_of_getElem? (i := 1) rfl)) (fun _ h9 => h9) rfl (by decide +kernel) rfl rfl (fl_lt (by decide)) dX13_count_2 (fun H locs hP hD hS => ?_)
  obtain ⟨F_1, eF_1⟩ : ∃ z, z = fu F 0 (.int 0) := ⟨_, rfl⟩
  have hP : va_P (dC, dI) vwCl [(h0, .inr (15, fl 134 F_1))] H := by rw [eF_1, ← fl_set (n := 134) (k := 0) (by decide)]; exact hP
  have hD : va_D A [(h0, .inr (15, fl 134 F_1))] := by rw [eF_1, ← fl_set (n := 134) (k := 0) (by decide)]; exact hD
  refine lv_iconst (v := 0) hx hb dX13_count_5 (by decide) ?_
  refine lv_istore_n (lv' := [(2, .int 0), (0, .ref h0), (1, .int 3)]) hx hb dX13_count_6 rfl hl (by decide) rfl (fun ls hl => ?_)
  refine lv_iload_n hx hb dX13_count_7 rfl (lv_at hl 2 rfl) ?_
  refine lv_tableIn (off := 90) (tgt := 98) hx hb dX13_count_8 (by decide) (by decide) rfl (by decide) ?_
  refine lv_aload_n hx hb dX13_count_98 rfl (lv_at hl 1 rfl) ?_
  refine va_get (D := (dC, dI)) (ci := 15) (v := .int 0) (C := RX13) (T := TX13) (N := 134) hx hb hts in_cm_count_3_RX13 hown hK hP 0 rfl rfl 3 (by decide) (hts (.fieldLink RX13 255 "LevelUnitsModel" "taped" "I") (List.mem_of_getElem? (i := 2) rfl)) (fun _ h9 => h9) (fl_get (by decide) (fu_ne eF_1 (by decide) hk3)) dX13_count_99 ?_
  have hP9 := hP.sub (ws' := []) [] rfl
  have hD9 := hD.sub (ws' := []) [] (by decide) rfl
  have hK9 := hK.sub (tys' := []) [] rfl
  refine W.widen (k := 0) (n := 0) (Nat.le_of_ble_eq_true rfl) (Nat.le_of_ble_eq_true rfl) ?_
  exact W.iret (v := 0) hx hb hr (fun t ht hW => ⟨⟨0, (), rfl, rfl, by rw [ht]; exact hP9, va_K.moved hW.alike hK9, hD9⟩, hS.F ht⟩) hS.2.2 dX13_count_102
def ws_cm_count_4 : List Cond := .code yX13_count cX13_count 4 (some .int) :: ([.fieldLink RX13 251 "LevelUnitsModel" "thrown" "I", .fieldLink RX13 889 "LevelUnitsModel" "hasProgram" "Z"] ++ wsX130)
theorem in_cm_count_4_RX13 : ∀ w ∈ wsX130, w ∈ ws_cm_count_4 := fun _ h => List.mem_cons_of_mem _ (List.mem_append_right _ h)
set_option maxHeartbeats 4000000 in
set_option maxRecDepth 100000 in
theorem cm_count_4 (l : Launch) (dC : Nat → ClassId) (dI : Nat → Nat → Nat) (h0 : Nat) (F : Nat → Value) (sz : Nat) (hk3 : F 3 = .int 0) (hk98 : F 98 = .int 0) (hk100 : F 100 = .int 0) : Met l yX13_count ws_cm_count_4 ({ frames := 0, cells := 0, slots := 0, locals := 0 }) (va_Pc [.ref h0, .int 4] (fun U => U.heap.size = sz ∧ va_P (dC, dI) vwCl [(h0, .inr (15, fl 134 F))] U.heap ∧ va_K (dC, dI) vwCl [] U ∧ va_D (fun _ => True) [(h0, .inr (15, fl 134 F))])) (va_Qi (fun (r : Int32) (_ : Unit) => r = 0) (fun _ t => va_P (dC, dI) vwCl [] t.heap ∧ va_K (dC, dI) vwCl [] t ∧ va_D (va_A [(h0, .inr (15, fl 134 F))] sz) []) (va_A [(h0, .inr (15, fl 134 F))] sz)) 0 0 (va_A [(h0, .inr (15, fl 134 F))] sz) := by
  refine Met.ofW (cc := cX13_count) (maxL := 4) (ret := (some .int)) (by decide) rfl ?_
  intro p e s m args below meth c s₁ B hml hv
  obtain ⟨rfl, hsz, hP, hK, hD0⟩ := hv
  have hx := B.exec
  have hb := B.bytes
  have hr := B.returns
  have hts := atoms_spec (ws := ws_cm_count_4) B.pre
  have hown : s.vm.findClass RX13 = some m.cls := findClass_of_methodNamed B.named
  have hlocks := B.notSynchronized
  subst hsz
  have hD := hD0.self (sz := s.heap.size)
  generalize hAe : va_A [(h0, .inr (15, fl 134 F))] s.heap.size = A at hD ⊢
  have hA : ∀ q : Nat, s.heap.size ≤ q → A q := fun q h => by rw [← hAe]; exact Or.inr h
  have hS : va_S A s.heap s.heap [] := va_S.rf
  have hP : va_P (dC, dI) vwCl [(h0, .inr (15, fl 134 F))] s.heap := hP
  have hl := lv_entry ([.ref h0, .int 4]) (n := 4) (Nat.le_of_ble_eq_true rfl)
  rw [lg_entry_eq]
  generalize (lg_sl ([.ref h0, .int 4]) ++ List.replicate (4 - (lg_sl ([.ref h0, .int 4])).length) Slot.unset).toArray = ls at hl ⊢
  have hl : lv_has ls 4 [(0, .ref h0), (1, .int 4)] := hl
  refine lv_aload_n hx hb dX13_count_0 rfl (lv_at hl 0 rfl) ?_
  refine lv_iconst (v := 0) hx hb dX13_count_1 (by decide) ?_
  refine va_put (D := (dC, dI)) (ci := 15) (v := .int 0) (ty := .int) (C := RX13) (T := TX13) (N := 134) hx hb hts in_cm_count_4_RX13 tyX13 tyX13_ok nmX13 hown hK hP hD hS 0 rfl rfl 0 (by decide) (hts (.fieldLink RX13 251 "LevelUnitsModel" "thrown" "I") (List.mem_of_getElem? (i := 1) rfl)) (fun _ h9 => h9) rfl (by decide +kernel) rfl rfl (fl_lt (by decide)) dX13_count_2 (fun H locs hP hD hS => ?_)
  obtain ⟨F_1, eF_1⟩ : ∃ z, z = fu F 0 (.int 0) := ⟨_, rfl⟩
  have hP : va_P (dC, dI) vwCl [(h0, .inr (15, fl 134 F_1))] H := by rw [eF_1, ← fl_set (n := 134) (k := 0) (by decide)]; exact hP
  have hD : va_D A [(h0, .inr (15, fl 134 F_1))] := by rw [eF_1, ← fl_set (n := 134) (k := 0) (by decide)]; exact hD
  refine lv_iconst (v := 0) hx hb dX13_count_5 (by decide) ?_
  refine lv_istore_n (lv' := [(2, .int 0), (0, .ref h0), (1, .int 4)]) hx hb dX13_count_6 rfl hl (by decide) rfl (fun ls hl => ?_)
  refine lv_iload_n hx hb dX13_count_7 rfl (lv_at hl 2 rfl) ?_
  refine lv_tableIn (off := 95) (tgt := 103) hx hb dX13_count_8 (by decide) (by decide) rfl (by decide) ?_
  refine lv_aload_n hx hb dX13_count_103 rfl (lv_at hl 1 rfl) ?_
  refine va_get (D := (dC, dI)) (ci := 15) (v := .int 0) (C := RX13) (T := TX13) (N := 134) hx hb hts in_cm_count_4_RX13 hown hK hP 0 rfl rfl 98 (by decide) (hts (.fieldLink RX13 889 "LevelUnitsModel" "hasProgram" "Z") (List.mem_of_getElem? (i := 2) rfl)) (fun _ h9 => h9) (fl_get (by decide) (fu_ne eF_1 (by decide) hk98)) dX13_count_104 ?_
  refine lv_if_eq (tgt := 117) hx hb dX13_count_107 (by decide) (fun c9 => ?_) (fun c9 => absurd (by decide) c9)
  clear c9
  refine lv_iconst (v := 0) hx hb dX13_count_117 (by decide) ?_
  have hP9 := hP.sub (ws' := []) [] rfl
  have hD9 := hD.sub (ws' := []) [] (by decide) rfl
  have hK9 := hK.sub (tys' := []) [] rfl
  refine W.widen (k := 0) (n := 0) (Nat.le_of_ble_eq_true rfl) (Nat.le_of_ble_eq_true rfl) ?_
  exact W.iret (v := 0) hx hb hr (fun t ht hW => ⟨⟨0, (), rfl, rfl, by rw [ht]; exact hP9, va_K.moved hW.alike hK9, hD9⟩, hS.F ht⟩) hS.2.2 dX13_count_118
def ws_cm_count_5 : List Cond := .code yX13_count cX13_count 4 (some .int) :: ([.fieldLink RX13 251 "LevelUnitsModel" "thrown" "I", .fieldLink RX13 893 "LevelUnitsModel" "begun" "Z"] ++ wsX130)
theorem in_cm_count_5_RX13 : ∀ w ∈ wsX130, w ∈ ws_cm_count_5 := fun _ h => List.mem_cons_of_mem _ (List.mem_append_right _ h)
set_option maxHeartbeats 4000000 in
set_option maxRecDepth 100000 in
theorem cm_count_5 (l : Launch) (dC : Nat → ClassId) (dI : Nat → Nat → Nat) (h0 : Nat) (F : Nat → Value) (sz : Nat) (hk3 : F 3 = .int 0) (hk98 : F 98 = .int 0) (hk100 : F 100 = .int 0) : Met l yX13_count ws_cm_count_5 ({ frames := 0, cells := 0, slots := 0, locals := 0 }) (va_Pc [.ref h0, .int 5] (fun U => U.heap.size = sz ∧ va_P (dC, dI) vwCl [(h0, .inr (15, fl 134 F))] U.heap ∧ va_K (dC, dI) vwCl [] U ∧ va_D (fun _ => True) [(h0, .inr (15, fl 134 F))])) (va_Qi (fun (r : Int32) (_ : Unit) => r = 0) (fun _ t => va_P (dC, dI) vwCl [] t.heap ∧ va_K (dC, dI) vwCl [] t ∧ va_D (va_A [(h0, .inr (15, fl 134 F))] sz) []) (va_A [(h0, .inr (15, fl 134 F))] sz)) 0 0 (va_A [(h0, .inr (15, fl 134 F))] sz) := by
  refine Met.ofW (cc := cX13_count) (maxL := 4) (ret := (some .int)) (by decide) rfl ?_
  intro p e s m args below meth c s₁ B hml hv
  obtain ⟨rfl, hsz, hP, hK, hD0⟩ := hv
  have hx := B.exec
  have hb := B.bytes
  have hr := B.returns
  have hts := atoms_spec (ws := ws_cm_count_5) B.pre
  have hown : s.vm.findClass RX13 = some m.cls := findClass_of_methodNamed B.named
  have hlocks := B.notSynchronized
  subst hsz
  have hD := hD0.self (sz := s.heap.size)
  generalize hAe : va_A [(h0, .inr (15, fl 134 F))] s.heap.size = A at hD ⊢
  have hA : ∀ q : Nat, s.heap.size ≤ q → A q := fun q h => by rw [← hAe]; exact Or.inr h
  have hS : va_S A s.heap s.heap [] := va_S.rf
  have hP : va_P (dC, dI) vwCl [(h0, .inr (15, fl 134 F))] s.heap := hP
  have hl := lv_entry ([.ref h0, .int 5]) (n := 4) (Nat.le_of_ble_eq_true rfl)
  rw [lg_entry_eq]
  generalize (lg_sl ([.ref h0, .int 5]) ++ List.replicate (4 - (lg_sl ([.ref h0, .int 5])).length) Slot.unset).toArray = ls at hl ⊢
  have hl : lv_has ls 4 [(0, .ref h0), (1, .int 5)] := hl
  refine lv_aload_n hx hb dX13_count_0 rfl (lv_at hl 0 rfl) ?_
  refine lv_iconst (v := 0) hx hb dX13_count_1 (by decide) ?_
  refine va_put (D := (dC, dI)) (ci := 15) (v := .int 0) (ty := .int) (C := RX13) (T := TX13) (N := 134) hx hb hts in_cm_count_5_RX13 tyX13 tyX13_ok nmX13 hown hK hP hD hS 0 rfl rfl 0 (by decide) (hts (.fieldLink RX13 251 "LevelUnitsModel" "thrown" "I") (List.mem_of_getElem? (i := 1) rfl)) (fun _ h9 => h9) rfl (by decide +kernel) rfl rfl (fl_lt (by decide)) dX13_count_2 (fun H locs hP hD hS => ?_)
  obtain ⟨F_1, eF_1⟩ : ∃ z, z = fu F 0 (.int 0) := ⟨_, rfl⟩
  have hP : va_P (dC, dI) vwCl [(h0, .inr (15, fl 134 F_1))] H := by rw [eF_1, ← fl_set (n := 134) (k := 0) (by decide)]; exact hP
  have hD : va_D A [(h0, .inr (15, fl 134 F_1))] := by rw [eF_1, ← fl_set (n := 134) (k := 0) (by decide)]; exact hD
  refine lv_iconst (v := 0) hx hb dX13_count_5 (by decide) ?_
  refine lv_istore_n (lv' := [(2, .int 0), (0, .ref h0), (1, .int 5)]) hx hb dX13_count_6 rfl hl (by decide) rfl (fun ls hl => ?_)
  refine lv_iload_n hx hb dX13_count_7 rfl (lv_at hl 2 rfl) ?_
  refine lv_tableIn (off := 111) (tgt := 119) hx hb dX13_count_8 (by decide) (by decide) rfl (by decide) ?_
  refine lv_aload_n hx hb dX13_count_119 rfl (lv_at hl 1 rfl) ?_
  refine va_get (D := (dC, dI)) (ci := 15) (v := .int 0) (C := RX13) (T := TX13) (N := 134) hx hb hts in_cm_count_5_RX13 hown hK hP 0 rfl rfl 100 (by decide) (hts (.fieldLink RX13 893 "LevelUnitsModel" "begun" "Z") (List.mem_of_getElem? (i := 2) rfl)) (fun _ h9 => h9) (fl_get (by decide) (fu_ne eF_1 (by decide) hk100)) dX13_count_120 ?_
  refine lv_if_ne (tgt := 128) hx hb dX13_count_123 (by decide) (fun c9 => absurd c9 (by decide)) (fun c9 => ?_)
  clear c9
  refine lv_iconst (v := 0) hx hb dX13_count_126 (by decide) ?_
  have hP9 := hP.sub (ws' := []) [] rfl
  have hD9 := hD.sub (ws' := []) [] (by decide) rfl
  have hK9 := hK.sub (tys' := []) [] rfl
  refine W.widen (k := 0) (n := 0) (Nat.le_of_ble_eq_true rfl) (Nat.le_of_ble_eq_true rfl) ?_
  exact W.iret (v := 0) hx hb hr (fun t ht hW => ⟨⟨0, (), rfl, rfl, by rw [ht]; exact hP9, va_K.moved hW.alike hK9, hD9⟩, hS.F ht⟩) hS.2.2 dX13_count_127
def ws_cm_count_out : List Cond := .code yX13_count cX13_count 4 (some .int) :: ([.fieldLink RX13 251 "LevelUnitsModel" "thrown" "I", .fieldLink RX13 893 "LevelUnitsModel" "begun" "Z"] ++ wsX130)
theorem in_cm_count_out_RX13 : ∀ w ∈ wsX130, w ∈ ws_cm_count_out := fun _ h => List.mem_cons_of_mem _ (List.mem_append_right _ h)
set_option maxHeartbeats 4000000 in
set_option maxRecDepth 100000 in
theorem cm_count_out (l : Launch) (dC : Nat → ClassId) (dI : Nat → Nat → Nat) (h0 : Nat) (F : Nat → Value) (i : Int32) (sz : Nat) (hk100 : F 100 = .int 0) (hout : i.toInt < 0 ∨ 5 < i.toInt) : Met l yX13_count ws_cm_count_out ({ frames := 0, cells := 0, slots := 0, locals := 0 }) (va_Pc [.ref h0, .int i] (fun U => U.heap.size = sz ∧ va_P (dC, dI) vwCl [(h0, .inr (15, fl 134 F))] U.heap ∧ va_K (dC, dI) vwCl [] U ∧ va_D (fun _ => True) [(h0, .inr (15, fl 134 F))])) (va_Qi (fun (r : Int32) (_ : Unit) => r = cntM i) (fun _ t => va_P (dC, dI) vwCl [] t.heap ∧ va_K (dC, dI) vwCl [] t ∧ va_D (va_A [(h0, .inr (15, fl 134 F))] sz) []) (va_A [(h0, .inr (15, fl 134 F))] sz)) 0 0 (va_A [(h0, .inr (15, fl 134 F))] sz) := by
  refine Met.ofW (cc := cX13_count) (maxL := 4) (ret := (some .int)) (by decide) rfl ?_
  intro p e s m args below meth c s₁ B hml hv
  obtain ⟨rfl, hsz, hP, hK, hD0⟩ := hv
  have hx := B.exec
  have hb := B.bytes
  have hr := B.returns
  have hts := atoms_spec (ws := ws_cm_count_out) B.pre
  have hown : s.vm.findClass RX13 = some m.cls := findClass_of_methodNamed B.named
  have hlocks := B.notSynchronized
  subst hsz
  have hD := hD0.self (sz := s.heap.size)
  generalize hAe : va_A [(h0, .inr (15, fl 134 F))] s.heap.size = A at hD ⊢
  have hA : ∀ q : Nat, s.heap.size ≤ q → A q := fun q h => by rw [← hAe]; exact Or.inr h
  have hS : va_S A s.heap s.heap [] := va_S.rf
  have hP : va_P (dC, dI) vwCl [(h0, .inr (15, fl 134 F))] s.heap := hP
  have hl := lv_entry ([.ref h0, .int i]) (n := 4) (Nat.le_of_ble_eq_true rfl)
  rw [lg_entry_eq]
  generalize (lg_sl ([.ref h0, .int i]) ++ List.replicate (4 - (lg_sl ([.ref h0, .int i])).length) Slot.unset).toArray = ls at hl ⊢
  have hl : lv_has ls 4 [(0, .ref h0), (1, .int i)] := hl
  refine lv_aload_n hx hb dX13_count_0 rfl (lv_at hl 0 rfl) ?_
  refine lv_iconst (v := 0) hx hb dX13_count_1 (by decide) ?_
  refine va_put (D := (dC, dI)) (ci := 15) (v := .int 0) (ty := .int) (C := RX13) (T := TX13) (N := 134) hx hb hts in_cm_count_out_RX13 tyX13 tyX13_ok nmX13 hown hK hP hD hS 0 rfl rfl 0 (by decide) (hts (.fieldLink RX13 251 "LevelUnitsModel" "thrown" "I") (List.mem_of_getElem? (i := 1) rfl)) (fun _ h9 => h9) rfl (by decide +kernel) rfl rfl (fl_lt (by decide)) dX13_count_2 (fun H locs hP hD hS => ?_)
  obtain ⟨F_1, eF_1⟩ : ∃ z, z = fu F 0 (.int 0) := ⟨_, rfl⟩
  have hP : va_P (dC, dI) vwCl [(h0, .inr (15, fl 134 F_1))] H := by rw [eF_1, ← fl_set (n := 134) (k := 0) (by decide)]; exact hP
  have hD : va_D A [(h0, .inr (15, fl 134 F_1))] := by rw [eF_1, ← fl_set (n := 134) (k := 0) (by decide)]; exact hD
  refine lv_iconst (v := 0) hx hb dX13_count_5 (by decide) ?_
  refine lv_istore_n (lv' := [(2, .int 0), (0, .ref h0), (1, .int i)]) hx hb dX13_count_6 rfl hl (by decide) rfl (fun ls hl => ?_)
  refine lv_iload_n hx hb dX13_count_7 rfl (lv_at hl 2 rfl) ?_
  refine lv_tableOut (tgt := 186) hx hb dX13_count_8 hout (by decide) ?_
  refine lv_iload_n hx hb dX13_count_186 rfl (lv_at hl 2 rfl) ?_
  refine lv_bipush (v := 6) hx hb dX13_count_187 (by decide) ?_
  refine lv_icmp_lt (tgt := 198) hx hb dX13_count_189 (by decide) (fun c_2 => ?_) (fun c_2 => ?_)
  · skip
    refine lv_iconst (v := (-1)) hx hb dX13_count_198 (by decide) ?_
    have hP9 := hP.sub (ws' := []) [] rfl
    have hD9 := hD.sub (ws' := []) [] (by decide) rfl
    have hK9 := hK.sub (tys' := []) [] rfl
    refine W.widen (k := 0) (n := 0) (Nat.le_of_ble_eq_true rfl) (Nat.le_of_ble_eq_true rfl) ?_
    exact W.iret (v := (-1)) hx hb hr (fun t ht hW => ⟨⟨(-1), (), rfl, (by simp [cntM, c_2]), by rw [ht]; exact hP9, va_K.moved hW.alike hK9, hD9⟩, hS.F ht⟩) hS.2.2 dX13_count_199
  · skip
    refine lv_iload_n hx hb dX13_count_192 rfl (lv_at hl 2 rfl) ?_
    refine lv_bipush (v := 13) hx hb dX13_count_193 (by decide) ?_
    refine lv_icmp_le (tgt := 200) hx hb dX13_count_195 (by decide) (fun c_3 => ?_) (fun c_3 => ?_)
    · skip
      refine lv_aload_n hx hb dX13_count_200 rfl (lv_at hl 1 rfl) ?_
      refine va_get (D := (dC, dI)) (ci := 15) (v := .int 0) (C := RX13) (T := TX13) (N := 134) hx hb hts in_cm_count_out_RX13 hown hK hP 0 rfl rfl 100 (by decide) (hts (.fieldLink RX13 893 "LevelUnitsModel" "begun" "Z") (List.mem_of_getElem? (i := 2) rfl)) (fun _ h9 => h9) (fl_get (by decide) (fu_ne eF_1 (by decide) hk100)) dX13_count_201 ?_
      refine lv_if_eq (tgt := 215) hx hb dX13_count_204 (by decide) (fun c9 => ?_) (fun c9 => absurd (by decide) c9)
      clear c9
      refine lv_iconst (v := 0) hx hb dX13_count_215 (by decide) ?_
      have hP9 := hP.sub (ws' := []) [] rfl
      have hD9 := hD.sub (ws' := []) [] (by decide) rfl
      have hK9 := hK.sub (tys' := []) [] rfl
      refine W.widen (k := 0) (n := 0) (Nat.le_of_ble_eq_true rfl) (Nat.le_of_ble_eq_true rfl) ?_
      exact W.iret (v := 0) hx hb hr (fun t ht hW => ⟨⟨0, (), rfl, (by simp [cntM, c_2, c_3]), by rw [ht]; exact hP9, va_K.moved hW.alike hK9, hD9⟩, hS.F ht⟩) hS.2.2 dX13_count_216
    · skip
      refine lv_iconst (v := (-1)) hx hb dX13_count_198 (by decide) ?_
      have hP9 := hP.sub (ws' := []) [] rfl
      have hD9 := hD.sub (ws' := []) [] (by decide) rfl
      have hK9 := hK.sub (tys' := []) [] rfl
      refine W.widen (k := 0) (n := 0) (Nat.le_of_ble_eq_true rfl) (Nat.le_of_ble_eq_true rfl) ?_
      exact W.iret (v := (-1)) hx hb hr (fun t ht hW => ⟨⟨(-1), (), rfl, (by simp [cntM, c_2, c_3]), by rw [ht]; exact hP9, va_K.moved hW.alike hK9, hD9⟩, hS.F ht⟩) hS.2.2 dX13_count_199
def ws_cm_isTold : List Cond := .code yX13_isTold cX13_isTold 2 (some .boolean) :: ([.fieldLink RX13 889 "LevelUnitsModel" "hasProgram" "Z"] ++ wsX130)
theorem in_cm_isTold_RX13 : ∀ w ∈ wsX130, w ∈ ws_cm_isTold := fun _ h => List.mem_cons_of_mem _ (List.mem_append_right _ h)
set_option maxHeartbeats 4000000 in
set_option maxRecDepth 100000 in
theorem cm_isTold (l : Launch) (dC : Nat → ClassId) (dI : Nat → Nat → Nat) (h0 : Nat) (F : Nat → Value) (i : Int32) (sz : Nat) (hk98 : F 98 = .int 0) : Met l yX13_isTold ws_cm_isTold ({ frames := 0, cells := 0, slots := 0, locals := 0 }) (va_Pc [.ref h0, .int i] (fun U => U.heap.size = sz ∧ va_P (dC, dI) vwCl [(h0, .inr (15, fl 134 F))] U.heap ∧ va_K (dC, dI) vwCl [] U ∧ va_D (fun _ => True) [(h0, .inr (15, fl 134 F))])) (va_Qi (fun (r : Int32) (_ : Unit) => r = 0) (fun _ t => F 98 = .int 0 ∧ va_P (dC, dI) vwCl [(h0, .inr (15, fl 134 F))] t.heap ∧ va_K (dC, dI) vwCl [] t ∧ va_D (va_A [(h0, .inr (15, fl 134 F))] sz) [(h0, .inr (15, fl 134 F))]) (va_A [(h0, .inr (15, fl 134 F))] sz)) 0 0 (va_A [(h0, .inr (15, fl 134 F))] sz) := by
  refine Met.ofW (cc := cX13_isTold) (maxL := 2) (ret := (some .boolean)) (by decide) rfl ?_
  intro p e s m args below meth c s₁ B hml hv
  obtain ⟨rfl, hsz, hP, hK, hD0⟩ := hv
  have hx := B.exec
  have hb := B.bytes
  have hr := B.returns
  have hts := atoms_spec (ws := ws_cm_isTold) B.pre
  have hown : s.vm.findClass RX13 = some m.cls := findClass_of_methodNamed B.named
  have hlocks := B.notSynchronized
  subst hsz
  have hD := hD0.self (sz := s.heap.size)
  generalize hAe : va_A [(h0, .inr (15, fl 134 F))] s.heap.size = A at hD ⊢
  have hA : ∀ q : Nat, s.heap.size ≤ q → A q := fun q h => by rw [← hAe]; exact Or.inr h
  have hS : va_S A s.heap s.heap [] := va_S.rf
  have hP : va_P (dC, dI) vwCl [(h0, .inr (15, fl 134 F))] s.heap := hP
  have hl := lv_entry ([.ref h0, .int i]) (n := 2) (Nat.le_of_ble_eq_true rfl)
  rw [lg_entry_eq]
  generalize (lg_sl ([.ref h0, .int i]) ++ List.replicate (2 - (lg_sl ([.ref h0, .int i])).length) Slot.unset).toArray = ls at hl ⊢
  have hl : lv_has ls 2 [(0, .ref h0), (1, .int i)] := hl
  refine lv_aload_n hx hb dX13_isTold_0 rfl (lv_at hl 0 rfl) ?_
  refine va_get (D := (dC, dI)) (ci := 15) (v := .int 0) (C := RX13) (T := TX13) (N := 134) hx hb hts in_cm_isTold_RX13 hown hK hP 0 rfl rfl 98 (by decide) (hts (.fieldLink RX13 889 "LevelUnitsModel" "hasProgram" "Z") (List.mem_of_getElem? (i := 1) rfl)) (fun _ h9 => h9) (fl_get (by decide) hk98) dX13_isTold_1 ?_
  refine lv_if_eq (tgt := 23) hx hb dX13_isTold_4 (by decide) (fun c9 => ?_) (fun c9 => absurd (by decide) c9)
  clear c9
  refine lv_iconst (v := 0) hx hb dX13_isTold_23 (by decide) ?_
  have hP9 := hP.sub (ws' := [(h0, .inr (15, fl 134 F))]) [0] rfl
  have hD9 := hD.sub (ws' := [(h0, .inr (15, fl 134 F))]) [0] (by decide) rfl
  have hK9 := hK.sub (tys' := []) [] rfl
  refine W.widen (k := 0) (n := 0) (Nat.le_of_ble_eq_true rfl) (Nat.le_of_ble_eq_true rfl) ?_
  exact W.zret (v := 0) hx hb hr rfl (fun t ht hW => ⟨⟨0, (), rfl, rfl, hk98, by rw [ht]; exact hP9, va_K.moved hW.alike hK9, hD9⟩, hS.F ht⟩) hS.2.2 dX13_isTold_24
def ws_cm_alike : List Cond := .code yX13_alike cX13_alike 3 (some .int) :: ([.fieldLink RX13 251 "LevelUnitsModel" "thrown" "I", .fieldLink RX13 889 "LevelUnitsModel" "hasProgram" "Z", .code yX13_isTold cX13_isTold 2 (some .boolean), .methodLink RX13 917 yX13_isTold, .instanceMethod yX13_isTold, .selects RX13 yX13_isTold yX13_isTold, .initialized RX13] ++ wsX130)
theorem in_cm_alike_RX13 : ∀ w ∈ wsX130, w ∈ ws_cm_alike := fun _ h => List.mem_cons_of_mem _ (List.mem_append_right _ h)
theorem g0_cm_alike_cm_isTold_917 : GoodIn ws_cm_alike ws_cm_isTold := goodIn_r _ [3, 2, 8, 9, 10, 11, 12, 13, 14, 15, 16, 17, 18, 19, 20, 21, 22, 23, 24, 25, 26, 27, 28, 29, 30, 31, 32, 33, 34, 35, 36, 37, 38, 39, 40, 41, 42, 43, 44, 45, 46, 47, 48, 49, 50, 51, 52, 53, 54, 55, 56, 57, 58, 59, 60, 61, 62, 63, 64, 65, 66, 67, 68, 69, 70, 71, 72, 73, 74, 75, 76, 77, 78, 79, 80, 81, 82, 83, 84, 85, 86, 87, 88, 89, 90, 91, 92, 93, 94, 95, 96, 97, 98, 99, 100, 101, 102, 103, 104, 105, 106, 107, 108, 109, 110, 111, 112, 113, 114, 115, 116, 117, 118, 119, 120, 121, 122, 123, 124, 125, 126, 127, 128, 129, 130, 131, 132, 133, 134, 135, 136, 137, 138, 139, 140, 141] (by decide +kernel) (by decide +kernel)
theorem gg_cm_alike_cm_isTold_917 : GoodIn ws_cm_alike (wsV RX13 917 RX13 yX13_isTold ws_cm_isTold) := goodIn_app (goodIn_of _ (by decide +kernel)) g0_cm_alike_cm_isTold_917
set_option maxHeartbeats 4000000 in
set_option maxRecDepth 100000 in
theorem cm_alike (l : Launch) (dC : Nat → ClassId) (dI : Nat → Nat → Nat) (h0 : Nat) (F : Nat → Value) (i : Int32) (j : Int32) (sz : Nat) (hk98 : F 98 = .int 0) : Met l yX13_alike ws_cm_alike ({ frames := 1, cells := 0, slots := 0, locals := 21 }) (va_Pc [.ref h0, .int i, .int j] (fun U => U.heap.size = sz ∧ va_P (dC, dI) vwCl [(h0, .inr (15, fl 134 F))] U.heap ∧ va_K (dC, dI) vwCl [] U ∧ va_D (fun _ => True) [(h0, .inr (15, fl 134 F))])) (va_Qi (fun (r : Int32) (_ : Unit) => r = (-1)) (fun _ t => va_P (dC, dI) vwCl [] t.heap ∧ va_K (dC, dI) vwCl [] t ∧ va_D (va_A [(h0, .inr (15, fl 134 F))] sz) []) (va_A [(h0, .inr (15, fl 134 F))] sz)) 0 0 (va_A [(h0, .inr (15, fl 134 F))] sz) := by
  refine Met.ofW (cc := cX13_alike) (maxL := 3) (ret := (some .int)) (by decide) rfl ?_
  intro p e s m args below meth c s₁ B hml hv
  obtain ⟨rfl, hsz, hP, hK, hD0⟩ := hv
  have hx := B.exec
  have hb := B.bytes
  have hr := B.returns
  have hts := atoms_spec (ws := ws_cm_alike) B.pre
  have hown : s.vm.findClass RX13 = some m.cls := findClass_of_methodNamed B.named
  have hlocks := B.notSynchronized
  subst hsz
  have hD := hD0.self (sz := s.heap.size)
  generalize hAe : va_A [(h0, .inr (15, fl 134 F))] s.heap.size = A at hD ⊢
  have hA : ∀ q : Nat, s.heap.size ≤ q → A q := fun q h => by rw [← hAe]; exact Or.inr h
  have hS : va_S A s.heap s.heap [] := va_S.rf
  have hP : va_P (dC, dI) vwCl [(h0, .inr (15, fl 134 F))] s.heap := hP
  have hl := lv_entry ([.ref h0, .int i, .int j]) (n := 3) (Nat.le_of_ble_eq_true rfl)
  rw [lg_entry_eq]
  generalize (lg_sl ([.ref h0, .int i, .int j]) ++ List.replicate (3 - (lg_sl ([.ref h0, .int i, .int j])).length) Slot.unset).toArray = ls at hl ⊢
  have hl : lv_has ls 3 [(0, .ref h0), (1, .int i), (2, .int j)] := hl
  refine lv_aload_n hx hb dX13_alike_0 rfl (lv_at hl 0 rfl) ?_
  refine lv_iconst (v := 0) hx hb dX13_alike_1 (by decide) ?_
  refine va_put (D := (dC, dI)) (ci := 15) (v := .int 0) (ty := .int) (C := RX13) (T := TX13) (N := 134) hx hb hts in_cm_alike_RX13 tyX13 tyX13_ok nmX13 hown hK hP hD hS 0 rfl rfl 0 (by decide) (hts (.fieldLink RX13 251 "LevelUnitsModel" "thrown" "I") (List.mem_of_getElem? (i := 1) rfl)) (fun _ h9 => h9) rfl (by decide +kernel) rfl rfl (fl_lt (by decide)) dX13_alike_2 (fun H locs hP hD hS => ?_)
  obtain ⟨F_1, eF_1⟩ : ∃ z, z = fu F 0 (.int 0) := ⟨_, rfl⟩
  have hP : va_P (dC, dI) vwCl [(h0, .inr (15, fl 134 F_1))] H := by rw [eF_1, ← fl_set (n := 134) (k := 0) (by decide)]; exact hP
  have hD : va_D A [(h0, .inr (15, fl 134 F_1))] := by rw [eF_1, ← fl_set (n := 134) (k := 0) (by decide)]; exact hD
  refine lv_aload_n hx hb dX13_alike_5 rfl (lv_at hl 0 rfl) ?_
  refine lv_iload_n hx hb dX13_alike_6 rfl (lv_at hl 1 rfl) ?_
  have hPc := hP.sub (ws' := [(h0, .inr (15, fl 134 F_1))]) [0] rfl
  have hDc := hD.sub (ws' := [(h0, .inr (15, fl 134 F_1))]) [0] (by decide) rfl
  have hKc := hK.sub (tys' := []) [] rfl
  have hFc := va_free (wc := [(h0, .inr (15, fl 134 F_1))]) hD hS hA [0] rfl
  refine va_calli (va_runV (As := [.int i]) (rest := []) ⟨hx, hb, hml, hown, hts⟩ (cm_isTold l dC dI h0 F_1 i H.size (fu_ne eF_1 (by decide) hk98)) (cwV 1 hts gg_cm_alike_cm_isTold_917 rfl rfl rfl (by decide +kernel) ⟨(Nat.le_of_ble_eq_true rfl), (Nat.le_of_ble_eq_true rfl)⟩) ⟨fun a U g mk q => by obtain ⟨q0, q1, qP, qK, qD⟩ := q; exact ⟨q0, q1, qP, va_K.moved (u := U) (U := U.calling g mk a) (Vm.Alike.refl U.vm) qK, qD⟩, va_recv hKc hPc (ci := 15) (q0 := 0) rfl rfl, fun U hU hW => ⟨rfl, by rw [hU], by rw [hU]; exact hPc, va_K.moved hW.alike hKc, hDc.weaken (fun _ _ _ _ => trivial)⟩⟩ rfl rfl hl.1 rfl (lv_room (Nat.le_of_ble_eq_true rfl)) dX13_alike_7 ⟨(Nat.le_of_ble_eq_true rfl), (Nat.le_of_ble_eq_true rfl)⟩) hS (fun q _ h => hFc q h) hFc (fun r9 u t H1 locs ht hvm hw hB hz1 hk1 hS => ?_)
  obtain ⟨hf_2, hP1, hK1, hD1⟩ := hB
  rw [ht] at hP1
  have hK1 := va_K.moved hvm.symm hK1
  obtain ⟨hP, hD⟩ := va_join (wr := []) (w1 := [(h0, .inr (15, fl 134 F_1))]) hP hD [0] [] rfl rfl (by decide) (by decide) hk1 hFc hP1 hD1
  have hK := (hK.sub (tys' := []) [] rfl).app hK1
  generalize H1 = H at hP hS ⊢
  have hK : va_K (dC, dI) vwCl [] s := hK
  have hP : va_P (dC, dI) vwCl [(h0, .inr (15, fl 134 F_1))] H := hP
  have hD : va_D A [(h0, .inr (15, fl 134 F_1))] := hD
  refine W.widen (k := 0) (n := 0) (Nat.le_of_ble_eq_true rfl) (Nat.le_of_ble_eq_true rfl) ?_
  obtain rfl : r9 = 0 := hw
  refine lv_if_eq (tgt := 21) hx hb dX13_alike_10 (by decide) (fun c9 => ?_) (fun c9 => absurd (by decide) c9)
  clear c9
  refine lv_iconst (v := (-1)) hx hb dX13_alike_21 (by decide) ?_
  have hP9 := hP.sub (ws' := []) [] rfl
  have hD9 := hD.sub (ws' := []) [] (by decide) rfl
  have hK9 := hK.sub (tys' := []) [] rfl
  refine W.widen (k := 0) (n := 0) (Nat.le_of_ble_eq_true rfl) (Nat.le_of_ble_eq_true rfl) ?_
  exact W.iret (v := (-1)) hx hb hr (fun t ht hW => ⟨⟨(-1), (), rfl, rfl, by rw [ht]; exact hP9, va_K.moved hW.alike hK9, hD9⟩, hS.F ht⟩) hS.2.2 dX13_alike_22
def ws_cm_type : List Cond := .code yX13_type_ cX13_type_ 5 (some .int) :: ([.fieldLink RX13 251 "LevelUnitsModel" "thrown" "I", .fieldLink RX13 889 "LevelUnitsModel" "hasProgram" "Z", .code yX13_isTold cX13_isTold 2 (some .boolean), .methodLink RX13 917 yX13_isTold, .instanceMethod yX13_isTold, .selects RX13 yX13_isTold yX13_isTold, .initialized RX13] ++ wsX130)
theorem in_cm_type_RX13 : ∀ w ∈ wsX130, w ∈ ws_cm_type := fun _ h => List.mem_cons_of_mem _ (List.mem_append_right _ h)
theorem g0_cm_type_cm_isTold_917 : GoodIn ws_cm_type ws_cm_isTold := goodIn_r _ [3, 2, 8, 9, 10, 11, 12, 13, 14, 15, 16, 17, 18, 19, 20, 21, 22, 23, 24, 25, 26, 27, 28, 29, 30, 31, 32, 33, 34, 35, 36, 37, 38, 39, 40, 41, 42, 43, 44, 45, 46, 47, 48, 49, 50, 51, 52, 53, 54, 55, 56, 57, 58, 59, 60, 61, 62, 63, 64, 65, 66, 67, 68, 69, 70, 71, 72, 73, 74, 75, 76, 77, 78, 79, 80, 81, 82, 83, 84, 85, 86, 87, 88, 89, 90, 91, 92, 93, 94, 95, 96, 97, 98, 99, 100, 101, 102, 103, 104, 105, 106, 107, 108, 109, 110, 111, 112, 113, 114, 115, 116, 117, 118, 119, 120, 121, 122, 123, 124, 125, 126, 127, 128, 129, 130, 131, 132, 133, 134, 135, 136, 137, 138, 139, 140, 141] (by decide +kernel) (by decide +kernel)
theorem gg_cm_type_cm_isTold_917 : GoodIn ws_cm_type (wsV RX13 917 RX13 yX13_isTold ws_cm_isTold) := goodIn_app (goodIn_of _ (by decide +kernel)) g0_cm_type_cm_isTold_917
set_option maxHeartbeats 4000000 in
set_option maxRecDepth 100000 in
theorem cm_type (l : Launch) (dC : Nat → ClassId) (dI : Nat → Nat → Nat) (h0 : Nat) (F : Nat → Value) (i : Int32) (j : Int32) (sz : Nat) (hk98 : F 98 = .int 0) : Met l yX13_type_ ws_cm_type ({ frames := 1, cells := 0, slots := 0, locals := 21 }) (va_Pc [.ref h0, .int i, .int j] (fun U => U.heap.size = sz ∧ va_P (dC, dI) vwCl [(h0, .inr (15, fl 134 F))] U.heap ∧ va_K (dC, dI) vwCl [] U ∧ va_D (fun _ => True) [(h0, .inr (15, fl 134 F))])) (va_Qi (fun (r : Int32) (_ : Unit) => r = (-1)) (fun _ t => va_P (dC, dI) vwCl [] t.heap ∧ va_K (dC, dI) vwCl [] t ∧ va_D (va_A [(h0, .inr (15, fl 134 F))] sz) []) (va_A [(h0, .inr (15, fl 134 F))] sz)) 0 0 (va_A [(h0, .inr (15, fl 134 F))] sz) := by
  refine Met.ofW (cc := cX13_type_) (maxL := 5) (ret := (some .int)) (by decide) rfl ?_
  intro p e s m args below meth c s₁ B hml hv
  obtain ⟨rfl, hsz, hP, hK, hD0⟩ := hv
  have hx := B.exec
  have hb := B.bytes
  have hr := B.returns
  have hts := atoms_spec (ws := ws_cm_type) B.pre
  have hown : s.vm.findClass RX13 = some m.cls := findClass_of_methodNamed B.named
  have hlocks := B.notSynchronized
  subst hsz
  have hD := hD0.self (sz := s.heap.size)
  generalize hAe : va_A [(h0, .inr (15, fl 134 F))] s.heap.size = A at hD ⊢
  have hA : ∀ q : Nat, s.heap.size ≤ q → A q := fun q h => by rw [← hAe]; exact Or.inr h
  have hS : va_S A s.heap s.heap [] := va_S.rf
  have hP : va_P (dC, dI) vwCl [(h0, .inr (15, fl 134 F))] s.heap := hP
  have hl := lv_entry ([.ref h0, .int i, .int j]) (n := 5) (Nat.le_of_ble_eq_true rfl)
  rw [lg_entry_eq]
  generalize (lg_sl ([.ref h0, .int i, .int j]) ++ List.replicate (5 - (lg_sl ([.ref h0, .int i, .int j])).length) Slot.unset).toArray = ls at hl ⊢
  have hl : lv_has ls 5 [(0, .ref h0), (1, .int i), (2, .int j)] := hl
  refine lv_aload_n hx hb dX13_type__0 rfl (lv_at hl 0 rfl) ?_
  refine lv_iconst (v := 0) hx hb dX13_type__1 (by decide) ?_
  refine va_put (D := (dC, dI)) (ci := 15) (v := .int 0) (ty := .int) (C := RX13) (T := TX13) (N := 134) hx hb hts in_cm_type_RX13 tyX13 tyX13_ok nmX13 hown hK hP hD hS 0 rfl rfl 0 (by decide) (hts (.fieldLink RX13 251 "LevelUnitsModel" "thrown" "I") (List.mem_of_getElem? (i := 1) rfl)) (fun _ h9 => h9) rfl (by decide +kernel) rfl rfl (fl_lt (by decide)) dX13_type__2 (fun H locs hP hD hS => ?_)
  obtain ⟨F_1, eF_1⟩ : ∃ z, z = fu F 0 (.int 0) := ⟨_, rfl⟩
  have hP : va_P (dC, dI) vwCl [(h0, .inr (15, fl 134 F_1))] H := by rw [eF_1, ← fl_set (n := 134) (k := 0) (by decide)]; exact hP
  have hD : va_D A [(h0, .inr (15, fl 134 F_1))] := by rw [eF_1, ← fl_set (n := 134) (k := 0) (by decide)]; exact hD
  refine lv_aload_n hx hb dX13_type__5 rfl (lv_at hl 0 rfl) ?_
  refine lv_iload_n hx hb dX13_type__6 rfl (lv_at hl 1 rfl) ?_
  have hPc := hP.sub (ws' := [(h0, .inr (15, fl 134 F_1))]) [0] rfl
  have hDc := hD.sub (ws' := [(h0, .inr (15, fl 134 F_1))]) [0] (by decide) rfl
  have hKc := hK.sub (tys' := []) [] rfl
  have hFc := va_free (wc := [(h0, .inr (15, fl 134 F_1))]) hD hS hA [0] rfl
  refine va_calli (va_runV (As := [.int i]) (rest := []) ⟨hx, hb, hml, hown, hts⟩ (cm_isTold l dC dI h0 F_1 i H.size (fu_ne eF_1 (by decide) hk98)) (cwV 1 hts gg_cm_type_cm_isTold_917 rfl rfl rfl (by decide +kernel) ⟨(Nat.le_of_ble_eq_true rfl), (Nat.le_of_ble_eq_true rfl)⟩) ⟨fun a U g mk q => by obtain ⟨q0, q1, qP, qK, qD⟩ := q; exact ⟨q0, q1, qP, va_K.moved (u := U) (U := U.calling g mk a) (Vm.Alike.refl U.vm) qK, qD⟩, va_recv hKc hPc (ci := 15) (q0 := 0) rfl rfl, fun U hU hW => ⟨rfl, by rw [hU], by rw [hU]; exact hPc, va_K.moved hW.alike hKc, hDc.weaken (fun _ _ _ _ => trivial)⟩⟩ rfl rfl hl.1 rfl (lv_room (Nat.le_of_ble_eq_true rfl)) dX13_type__7 ⟨(Nat.le_of_ble_eq_true rfl), (Nat.le_of_ble_eq_true rfl)⟩) hS (fun q _ h => hFc q h) hFc (fun r9 u t H1 locs ht hvm hw hB hz1 hk1 hS => ?_)
  obtain ⟨hf_2, hP1, hK1, hD1⟩ := hB
  rw [ht] at hP1
  have hK1 := va_K.moved hvm.symm hK1
  obtain ⟨hP, hD⟩ := va_join (wr := []) (w1 := [(h0, .inr (15, fl 134 F_1))]) hP hD [0] [] rfl rfl (by decide) (by decide) hk1 hFc hP1 hD1
  have hK := (hK.sub (tys' := []) [] rfl).app hK1
  generalize H1 = H at hP hS ⊢
  have hK : va_K (dC, dI) vwCl [] s := hK
  have hP : va_P (dC, dI) vwCl [(h0, .inr (15, fl 134 F_1))] H := hP
  have hD : va_D A [(h0, .inr (15, fl 134 F_1))] := hD
  refine W.widen (k := 0) (n := 0) (Nat.le_of_ble_eq_true rfl) (Nat.le_of_ble_eq_true rfl) ?_
  obtain rfl : r9 = 0 := hw
  refine lv_if_ne (tgt := 15) hx hb dX13_type__10 (by decide) (fun c9 => absurd c9 (by decide)) (fun c9 => ?_)
  clear c9
  refine lv_iconst (v := (-1)) hx hb dX13_type__13 (by decide) ?_
  have hP9 := hP.sub (ws' := []) [] rfl
  have hD9 := hD.sub (ws' := []) [] (by decide) rfl
  have hK9 := hK.sub (tys' := []) [] rfl
  refine W.widen (k := 0) (n := 0) (Nat.le_of_ble_eq_true rfl) (Nat.le_of_ble_eq_true rfl) ?_
  exact W.iret (v := (-1)) hx hb hr (fun t ht hW => ⟨⟨(-1), (), rfl, rfl, by rw [ht]; exact hP9, va_K.moved hW.alike hK9, hD9⟩, hS.F ht⟩) hS.2.2 dX13_type__14
def ws_cm_sees : List Cond := .code yX13_sees cX13_sees 5 (some .int) :: ([.fieldLink RX13 251 "LevelUnitsModel" "thrown" "I", .fieldLink RX13 889 "LevelUnitsModel" "hasProgram" "Z", .code yX13_isTold cX13_isTold 2 (some .boolean), .methodLink RX13 917 yX13_isTold, .instanceMethod yX13_isTold, .selects RX13 yX13_isTold yX13_isTold, .initialized RX13] ++ wsX130)
theorem in_cm_sees_RX13 : ∀ w ∈ wsX130, w ∈ ws_cm_sees := fun _ h => List.mem_cons_of_mem _ (List.mem_append_right _ h)
theorem g0_cm_sees_cm_isTold_917 : GoodIn ws_cm_sees ws_cm_isTold := goodIn_r _ [3, 2, 8, 9, 10, 11, 12, 13, 14, 15, 16, 17, 18, 19, 20, 21, 22, 23, 24, 25, 26, 27, 28, 29, 30, 31, 32, 33, 34, 35, 36, 37, 38, 39, 40, 41, 42, 43, 44, 45, 46, 47, 48, 49, 50, 51, 52, 53, 54, 55, 56, 57, 58, 59, 60, 61, 62, 63, 64, 65, 66, 67, 68, 69, 70, 71, 72, 73, 74, 75, 76, 77, 78, 79, 80, 81, 82, 83, 84, 85, 86, 87, 88, 89, 90, 91, 92, 93, 94, 95, 96, 97, 98, 99, 100, 101, 102, 103, 104, 105, 106, 107, 108, 109, 110, 111, 112, 113, 114, 115, 116, 117, 118, 119, 120, 121, 122, 123, 124, 125, 126, 127, 128, 129, 130, 131, 132, 133, 134, 135, 136, 137, 138, 139, 140, 141] (by decide +kernel) (by decide +kernel)
theorem gg_cm_sees_cm_isTold_917 : GoodIn ws_cm_sees (wsV RX13 917 RX13 yX13_isTold ws_cm_isTold) := goodIn_app (goodIn_of _ (by decide +kernel)) g0_cm_sees_cm_isTold_917
set_option maxHeartbeats 4000000 in
set_option maxRecDepth 100000 in
theorem cm_sees (l : Launch) (dC : Nat → ClassId) (dI : Nat → Nat → Nat) (h0 : Nat) (F : Nat → Value) (i : Int32) (j : Int32) (sz : Nat) (hk98 : F 98 = .int 0) : Met l yX13_sees ws_cm_sees ({ frames := 1, cells := 0, slots := 0, locals := 21 }) (va_Pc [.ref h0, .int i, .int j] (fun U => U.heap.size = sz ∧ va_P (dC, dI) vwCl [(h0, .inr (15, fl 134 F))] U.heap ∧ va_K (dC, dI) vwCl [] U ∧ va_D (fun _ => True) [(h0, .inr (15, fl 134 F))])) (va_Qi (fun (r : Int32) (_ : Unit) => r = (-1)) (fun _ t => va_P (dC, dI) vwCl [] t.heap ∧ va_K (dC, dI) vwCl [] t ∧ va_D (va_A [(h0, .inr (15, fl 134 F))] sz) []) (va_A [(h0, .inr (15, fl 134 F))] sz)) 0 0 (va_A [(h0, .inr (15, fl 134 F))] sz) := by
  refine Met.ofW (cc := cX13_sees) (maxL := 5) (ret := (some .int)) (by decide) rfl ?_
  intro p e s m args below meth c s₁ B hml hv
  obtain ⟨rfl, hsz, hP, hK, hD0⟩ := hv
  have hx := B.exec
  have hb := B.bytes
  have hr := B.returns
  have hts := atoms_spec (ws := ws_cm_sees) B.pre
  have hown : s.vm.findClass RX13 = some m.cls := findClass_of_methodNamed B.named
  have hlocks := B.notSynchronized
  subst hsz
  have hD := hD0.self (sz := s.heap.size)
  generalize hAe : va_A [(h0, .inr (15, fl 134 F))] s.heap.size = A at hD ⊢
  have hA : ∀ q : Nat, s.heap.size ≤ q → A q := fun q h => by rw [← hAe]; exact Or.inr h
  have hS : va_S A s.heap s.heap [] := va_S.rf
  have hP : va_P (dC, dI) vwCl [(h0, .inr (15, fl 134 F))] s.heap := hP
  have hl := lv_entry ([.ref h0, .int i, .int j]) (n := 5) (Nat.le_of_ble_eq_true rfl)
  rw [lg_entry_eq]
  generalize (lg_sl ([.ref h0, .int i, .int j]) ++ List.replicate (5 - (lg_sl ([.ref h0, .int i, .int j])).length) Slot.unset).toArray = ls at hl ⊢
  have hl : lv_has ls 5 [(0, .ref h0), (1, .int i), (2, .int j)] := hl
  refine lv_aload_n hx hb dX13_sees_0 rfl (lv_at hl 0 rfl) ?_
  refine lv_iconst (v := 0) hx hb dX13_sees_1 (by decide) ?_
  refine va_put (D := (dC, dI)) (ci := 15) (v := .int 0) (ty := .int) (C := RX13) (T := TX13) (N := 134) hx hb hts in_cm_sees_RX13 tyX13 tyX13_ok nmX13 hown hK hP hD hS 0 rfl rfl 0 (by decide) (hts (.fieldLink RX13 251 "LevelUnitsModel" "thrown" "I") (List.mem_of_getElem? (i := 1) rfl)) (fun _ h9 => h9) rfl (by decide +kernel) rfl rfl (fl_lt (by decide)) dX13_sees_2 (fun H locs hP hD hS => ?_)
  obtain ⟨F_1, eF_1⟩ : ∃ z, z = fu F 0 (.int 0) := ⟨_, rfl⟩
  have hP : va_P (dC, dI) vwCl [(h0, .inr (15, fl 134 F_1))] H := by rw [eF_1, ← fl_set (n := 134) (k := 0) (by decide)]; exact hP
  have hD : va_D A [(h0, .inr (15, fl 134 F_1))] := by rw [eF_1, ← fl_set (n := 134) (k := 0) (by decide)]; exact hD
  refine lv_aload_n hx hb dX13_sees_5 rfl (lv_at hl 0 rfl) ?_
  refine lv_iload_n hx hb dX13_sees_6 rfl (lv_at hl 2 rfl) ?_
  have hPc := hP.sub (ws' := [(h0, .inr (15, fl 134 F_1))]) [0] rfl
  have hDc := hD.sub (ws' := [(h0, .inr (15, fl 134 F_1))]) [0] (by decide) rfl
  have hKc := hK.sub (tys' := []) [] rfl
  have hFc := va_free (wc := [(h0, .inr (15, fl 134 F_1))]) hD hS hA [0] rfl
  refine va_calli (va_runV (As := [.int j]) (rest := []) ⟨hx, hb, hml, hown, hts⟩ (cm_isTold l dC dI h0 F_1 j H.size (fu_ne eF_1 (by decide) hk98)) (cwV 1 hts gg_cm_sees_cm_isTold_917 rfl rfl rfl (by decide +kernel) ⟨(Nat.le_of_ble_eq_true rfl), (Nat.le_of_ble_eq_true rfl)⟩) ⟨fun a U g mk q => by obtain ⟨q0, q1, qP, qK, qD⟩ := q; exact ⟨q0, q1, qP, va_K.moved (u := U) (U := U.calling g mk a) (Vm.Alike.refl U.vm) qK, qD⟩, va_recv hKc hPc (ci := 15) (q0 := 0) rfl rfl, fun U hU hW => ⟨rfl, by rw [hU], by rw [hU]; exact hPc, va_K.moved hW.alike hKc, hDc.weaken (fun _ _ _ _ => trivial)⟩⟩ rfl rfl hl.1 rfl (lv_room (Nat.le_of_ble_eq_true rfl)) dX13_sees_7 ⟨(Nat.le_of_ble_eq_true rfl), (Nat.le_of_ble_eq_true rfl)⟩) hS (fun q _ h => hFc q h) hFc (fun r9 u t H1 locs ht hvm hw hB hz1 hk1 hS => ?_)
  obtain ⟨hf_2, hP1, hK1, hD1⟩ := hB
  rw [ht] at hP1
  have hK1 := va_K.moved hvm.symm hK1
  obtain ⟨hP, hD⟩ := va_join (wr := []) (w1 := [(h0, .inr (15, fl 134 F_1))]) hP hD [0] [] rfl rfl (by decide) (by decide) hk1 hFc hP1 hD1
  have hK := (hK.sub (tys' := []) [] rfl).app hK1
  generalize H1 = H at hP hS ⊢
  have hK : va_K (dC, dI) vwCl [] s := hK
  have hP : va_P (dC, dI) vwCl [(h0, .inr (15, fl 134 F_1))] H := hP
  have hD : va_D A [(h0, .inr (15, fl 134 F_1))] := hD
  refine W.widen (k := 0) (n := 0) (Nat.le_of_ble_eq_true rfl) (Nat.le_of_ble_eq_true rfl) ?_
  obtain rfl : r9 = 0 := hw
  refine lv_if_eq (tgt := 37) hx hb dX13_sees_10 (by decide) (fun c9 => ?_) (fun c9 => absurd (by decide) c9)
  clear c9
  refine lv_iconst (v := (-1)) hx hb dX13_sees_37 (by decide) ?_
  have hP9 := hP.sub (ws' := []) [] rfl
  have hD9 := hD.sub (ws' := []) [] (by decide) rfl
  have hK9 := hK.sub (tys' := []) [] rfl
  refine W.widen (k := 0) (n := 0) (Nat.le_of_ble_eq_true rfl) (Nat.le_of_ble_eq_true rfl) ?_
  exact W.iret (v := (-1)) hx hb hr (fun t ht hW => ⟨⟨(-1), (), rfl, rfl, by rw [ht]; exact hP9, va_K.moved hW.alike hK9, hD9⟩, hS.F ht⟩) hS.2.2 dX13_sees_38
def ws_cm_below : List Cond := .code yX13_below cX13_below 4 (some .int) :: ([.fieldLink RX13 251 "LevelUnitsModel" "thrown" "I", .fieldLink RX13 889 "LevelUnitsModel" "hasProgram" "Z", .code yX13_isTold cX13_isTold 2 (some .boolean), .methodLink RX13 917 yX13_isTold, .instanceMethod yX13_isTold, .selects RX13 yX13_isTold yX13_isTold, .initialized RX13] ++ wsX130)
theorem in_cm_below_RX13 : ∀ w ∈ wsX130, w ∈ ws_cm_below := fun _ h => List.mem_cons_of_mem _ (List.mem_append_right _ h)
theorem g0_cm_below_cm_isTold_917 : GoodIn ws_cm_below ws_cm_isTold := goodIn_r _ [3, 2, 8, 9, 10, 11, 12, 13, 14, 15, 16, 17, 18, 19, 20, 21, 22, 23, 24, 25, 26, 27, 28, 29, 30, 31, 32, 33, 34, 35, 36, 37, 38, 39, 40, 41, 42, 43, 44, 45, 46, 47, 48, 49, 50, 51, 52, 53, 54, 55, 56, 57, 58, 59, 60, 61, 62, 63, 64, 65, 66, 67, 68, 69, 70, 71, 72, 73, 74, 75, 76, 77, 78, 79, 80, 81, 82, 83, 84, 85, 86, 87, 88, 89, 90, 91, 92, 93, 94, 95, 96, 97, 98, 99, 100, 101, 102, 103, 104, 105, 106, 107, 108, 109, 110, 111, 112, 113, 114, 115, 116, 117, 118, 119, 120, 121, 122, 123, 124, 125, 126, 127, 128, 129, 130, 131, 132, 133, 134, 135, 136, 137, 138, 139, 140, 141] (by decide +kernel) (by decide +kernel)
theorem gg_cm_below_cm_isTold_917 : GoodIn ws_cm_below (wsV RX13 917 RX13 yX13_isTold ws_cm_isTold) := goodIn_app (goodIn_of _ (by decide +kernel)) g0_cm_below_cm_isTold_917
set_option maxHeartbeats 4000000 in
set_option maxRecDepth 100000 in
theorem cm_below (l : Launch) (dC : Nat → ClassId) (dI : Nat → Nat → Nat) (h0 : Nat) (F : Nat → Value) (i : Int32) (j : Int32) (k : Int32) (sz : Nat) (hk98 : F 98 = .int 0) : Met l yX13_below ws_cm_below ({ frames := 1, cells := 0, slots := 0, locals := 21 }) (va_Pc [.ref h0, .int i, .int j, .int k] (fun U => U.heap.size = sz ∧ va_P (dC, dI) vwCl [(h0, .inr (15, fl 134 F))] U.heap ∧ va_K (dC, dI) vwCl [] U ∧ va_D (fun _ => True) [(h0, .inr (15, fl 134 F))])) (va_Qi (fun (r : Int32) (_ : Unit) => r = (-1)) (fun _ t => va_P (dC, dI) vwCl [] t.heap ∧ va_K (dC, dI) vwCl [] t ∧ va_D (va_A [(h0, .inr (15, fl 134 F))] sz) []) (va_A [(h0, .inr (15, fl 134 F))] sz)) 0 0 (va_A [(h0, .inr (15, fl 134 F))] sz) := by
  refine Met.ofW (cc := cX13_below) (maxL := 4) (ret := (some .int)) (by decide) rfl ?_
  intro p e s m args below meth c s₁ B hml hv
  obtain ⟨rfl, hsz, hP, hK, hD0⟩ := hv
  have hx := B.exec
  have hb := B.bytes
  have hr := B.returns
  have hts := atoms_spec (ws := ws_cm_below) B.pre
  have hown : s.vm.findClass RX13 = some m.cls := findClass_of_methodNamed B.named
  have hlocks := B.notSynchronized
  subst hsz
  have hD := hD0.self (sz := s.heap.size)
  generalize hAe : va_A [(h0, .inr (15, fl 134 F))] s.heap.size = A at hD ⊢
  have hA : ∀ q : Nat, s.heap.size ≤ q → A q := fun q h => by rw [← hAe]; exact Or.inr h
  have hS : va_S A s.heap s.heap [] := va_S.rf
  have hP : va_P (dC, dI) vwCl [(h0, .inr (15, fl 134 F))] s.heap := hP
  have hl := lv_entry ([.ref h0, .int i, .int j, .int k]) (n := 4) (Nat.le_of_ble_eq_true rfl)
  rw [lg_entry_eq]
  generalize (lg_sl ([.ref h0, .int i, .int j, .int k]) ++ List.replicate (4 - (lg_sl ([.ref h0, .int i, .int j, .int k])).length) Slot.unset).toArray = ls at hl ⊢
  have hl : lv_has ls 4 [(0, .ref h0), (1, .int i), (2, .int j), (3, .int k)] := hl
  refine lv_aload_n hx hb dX13_below_0 rfl (lv_at hl 0 rfl) ?_
  refine lv_iconst (v := 0) hx hb dX13_below_1 (by decide) ?_
  refine va_put (D := (dC, dI)) (ci := 15) (v := .int 0) (ty := .int) (C := RX13) (T := TX13) (N := 134) hx hb hts in_cm_below_RX13 tyX13 tyX13_ok nmX13 hown hK hP hD hS 0 rfl rfl 0 (by decide) (hts (.fieldLink RX13 251 "LevelUnitsModel" "thrown" "I") (List.mem_of_getElem? (i := 1) rfl)) (fun _ h9 => h9) rfl (by decide +kernel) rfl rfl (fl_lt (by decide)) dX13_below_2 (fun H locs hP hD hS => ?_)
  obtain ⟨F_1, eF_1⟩ : ∃ z, z = fu F 0 (.int 0) := ⟨_, rfl⟩
  have hP : va_P (dC, dI) vwCl [(h0, .inr (15, fl 134 F_1))] H := by rw [eF_1, ← fl_set (n := 134) (k := 0) (by decide)]; exact hP
  have hD : va_D A [(h0, .inr (15, fl 134 F_1))] := by rw [eF_1, ← fl_set (n := 134) (k := 0) (by decide)]; exact hD
  refine lv_aload_n hx hb dX13_below_5 rfl (lv_at hl 0 rfl) ?_
  refine lv_iload_n hx hb dX13_below_6 rfl (lv_at hl 2 rfl) ?_
  have hPc := hP.sub (ws' := [(h0, .inr (15, fl 134 F_1))]) [0] rfl
  have hDc := hD.sub (ws' := [(h0, .inr (15, fl 134 F_1))]) [0] (by decide) rfl
  have hKc := hK.sub (tys' := []) [] rfl
  have hFc := va_free (wc := [(h0, .inr (15, fl 134 F_1))]) hD hS hA [0] rfl
  refine va_calli (va_runV (As := [.int j]) (rest := []) ⟨hx, hb, hml, hown, hts⟩ (cm_isTold l dC dI h0 F_1 j H.size (fu_ne eF_1 (by decide) hk98)) (cwV 1 hts gg_cm_below_cm_isTold_917 rfl rfl rfl (by decide +kernel) ⟨(Nat.le_of_ble_eq_true rfl), (Nat.le_of_ble_eq_true rfl)⟩) ⟨fun a U g mk q => by obtain ⟨q0, q1, qP, qK, qD⟩ := q; exact ⟨q0, q1, qP, va_K.moved (u := U) (U := U.calling g mk a) (Vm.Alike.refl U.vm) qK, qD⟩, va_recv hKc hPc (ci := 15) (q0 := 0) rfl rfl, fun U hU hW => ⟨rfl, by rw [hU], by rw [hU]; exact hPc, va_K.moved hW.alike hKc, hDc.weaken (fun _ _ _ _ => trivial)⟩⟩ rfl rfl hl.1 rfl (lv_room (Nat.le_of_ble_eq_true rfl)) dX13_below_7 ⟨(Nat.le_of_ble_eq_true rfl), (Nat.le_of_ble_eq_true rfl)⟩) hS (fun q _ h => hFc q h) hFc (fun r9 u t H1 locs ht hvm hw hB hz1 hk1 hS => ?_)
  obtain ⟨hf_2, hP1, hK1, hD1⟩ := hB
  rw [ht] at hP1
  have hK1 := va_K.moved hvm.symm hK1
  obtain ⟨hP, hD⟩ := va_join (wr := []) (w1 := [(h0, .inr (15, fl 134 F_1))]) hP hD [0] [] rfl rfl (by decide) (by decide) hk1 hFc hP1 hD1
  have hK := (hK.sub (tys' := []) [] rfl).app hK1
  generalize H1 = H at hP hS ⊢
  have hK : va_K (dC, dI) vwCl [] s := hK
  have hP : va_P (dC, dI) vwCl [(h0, .inr (15, fl 134 F_1))] H := hP
  have hD : va_D A [(h0, .inr (15, fl 134 F_1))] := hD
  refine W.widen (k := 0) (n := 0) (Nat.le_of_ble_eq_true rfl) (Nat.le_of_ble_eq_true rfl) ?_
  obtain rfl : r9 = 0 := hw
  refine lv_if_eq (tgt := 33) hx hb dX13_below_10 (by decide) (fun c9 => ?_) (fun c9 => absurd (by decide) c9)
  clear c9
  refine lv_iconst (v := (-1)) hx hb dX13_below_33 (by decide) ?_
  have hP9 := hP.sub (ws' := []) [] rfl
  have hD9 := hD.sub (ws' := []) [] (by decide) rfl
  have hK9 := hK.sub (tys' := []) [] rfl
  refine W.widen (k := 0) (n := 0) (Nat.le_of_ble_eq_true rfl) (Nat.le_of_ble_eq_true rfl) ?_
  exact W.iret (v := (-1)) hx hb hr (fun t ht hW => ⟨⟨(-1), (), rfl, rfl, by rw [ht]; exact hP9, va_K.moved hW.alike hK9, hD9⟩, hS.F ht⟩) hS.2.2 dX13_below_34
def ws_cm_output : List Cond := .code yX13_output cX13_output 2 (some .int) :: ([.fieldLink RX13 251 "LevelUnitsModel" "thrown" "I", .fieldLink RX13 893 "LevelUnitsModel" "begun" "Z"] ++ wsX130)
theorem in_cm_output_RX13 : ∀ w ∈ wsX130, w ∈ ws_cm_output := fun _ h => List.mem_cons_of_mem _ (List.mem_append_right _ h)
set_option maxHeartbeats 4000000 in
set_option maxRecDepth 100000 in
theorem cm_output (l : Launch) (dC : Nat → ClassId) (dI : Nat → Nat → Nat) (h0 : Nat) (F : Nat → Value) (i : Int32) (sz : Nat) (hk100 : F 100 = .int 0) : Met l yX13_output ws_cm_output ({ frames := 0, cells := 0, slots := 0, locals := 0 }) (va_Pc [.ref h0, .int i] (fun U => U.heap.size = sz ∧ va_P (dC, dI) vwCl [(h0, .inr (15, fl 134 F))] U.heap ∧ va_K (dC, dI) vwCl [] U ∧ va_D (fun _ => True) [(h0, .inr (15, fl 134 F))])) (va_Qi (fun (r : Int32) (_ : Unit) => r = 0) (fun _ t => va_P (dC, dI) vwCl [] t.heap ∧ va_K (dC, dI) vwCl [] t ∧ va_D (va_A [(h0, .inr (15, fl 134 F))] sz) []) (va_A [(h0, .inr (15, fl 134 F))] sz)) 0 0 (va_A [(h0, .inr (15, fl 134 F))] sz) := by
  refine Met.ofW (cc := cX13_output) (maxL := 2) (ret := (some .int)) (by decide) rfl ?_
  intro p e s m args below meth c s₁ B hml hv
  obtain ⟨rfl, hsz, hP, hK, hD0⟩ := hv
  have hx := B.exec
  have hb := B.bytes
  have hr := B.returns
  have hts := atoms_spec (ws := ws_cm_output) B.pre
  have hown : s.vm.findClass RX13 = some m.cls := findClass_of_methodNamed B.named
  have hlocks := B.notSynchronized
  subst hsz
  have hD := hD0.self (sz := s.heap.size)
  generalize hAe : va_A [(h0, .inr (15, fl 134 F))] s.heap.size = A at hD ⊢
  have hA : ∀ q : Nat, s.heap.size ≤ q → A q := fun q h => by rw [← hAe]; exact Or.inr h
  have hS : va_S A s.heap s.heap [] := va_S.rf
  have hP : va_P (dC, dI) vwCl [(h0, .inr (15, fl 134 F))] s.heap := hP
  have hl := lv_entry ([.ref h0, .int i]) (n := 2) (Nat.le_of_ble_eq_true rfl)
  rw [lg_entry_eq]
  generalize (lg_sl ([.ref h0, .int i]) ++ List.replicate (2 - (lg_sl ([.ref h0, .int i])).length) Slot.unset).toArray = ls at hl ⊢
  have hl : lv_has ls 2 [(0, .ref h0), (1, .int i)] := hl
  refine lv_aload_n hx hb dX13_output_0 rfl (lv_at hl 0 rfl) ?_
  refine lv_iconst (v := 0) hx hb dX13_output_1 (by decide) ?_
  refine va_put (D := (dC, dI)) (ci := 15) (v := .int 0) (ty := .int) (C := RX13) (T := TX13) (N := 134) hx hb hts in_cm_output_RX13 tyX13 tyX13_ok nmX13 hown hK hP hD hS 0 rfl rfl 0 (by decide) (hts (.fieldLink RX13 251 "LevelUnitsModel" "thrown" "I") (List.mem_of_getElem? (i := 1) rfl)) (fun _ h9 => h9) rfl (by decide +kernel) rfl rfl (fl_lt (by decide)) dX13_output_2 (fun H locs hP hD hS => ?_)
  obtain ⟨F_1, eF_1⟩ : ∃ z, z = fu F 0 (.int 0) := ⟨_, rfl⟩
  have hP : va_P (dC, dI) vwCl [(h0, .inr (15, fl 134 F_1))] H := by rw [eF_1, ← fl_set (n := 134) (k := 0) (by decide)]; exact hP
  have hD : va_D A [(h0, .inr (15, fl 134 F_1))] := by rw [eF_1, ← fl_set (n := 134) (k := 0) (by decide)]; exact hD
  refine lv_aload_n hx hb dX13_output_5 rfl (lv_at hl 0 rfl) ?_
  refine va_get (D := (dC, dI)) (ci := 15) (v := .int 0) (C := RX13) (T := TX13) (N := 134) hx hb hts in_cm_output_RX13 hown hK hP 0 rfl rfl 100 (by decide) (hts (.fieldLink RX13 893 "LevelUnitsModel" "begun" "Z") (List.mem_of_getElem? (i := 2) rfl)) (fun _ h9 => h9) (fl_get (by decide) (fu_ne eF_1 (by decide) hk100)) dX13_output_6 ?_
  refine lv_if_eq (tgt := 33) hx hb dX13_output_9 (by decide) (fun c9 => ?_) (fun c9 => absurd (by decide) c9)
  clear c9
  refine lv_iconst (v := 0) hx hb dX13_output_33 (by decide) ?_
  have hP9 := hP.sub (ws' := []) [] rfl
  have hD9 := hD.sub (ws' := []) [] (by decide) rfl
  have hK9 := hK.sub (tys' := []) [] rfl
  refine W.widen (k := 0) (n := 0) (Nat.le_of_ble_eq_true rfl) (Nat.le_of_ble_eq_true rfl) ?_
  exact W.iret (v := 0) hx hb hr (fun t ht hW => ⟨⟨0, (), rfl, rfl, by rw [ht]; exact hP9, va_K.moved hW.alike hK9, hD9⟩, hS.F ht⟩) hS.2.2 dX13_output_34
def ws_cm_cell : List Cond := .code yX13_cell cX13_cell 2 (some .int) :: ([.fieldLink RX13 251 "LevelUnitsModel" "thrown" "I", .fieldLink RX13 893 "LevelUnitsModel" "begun" "Z"] ++ wsX130)
theorem in_cm_cell_RX13 : ∀ w ∈ wsX130, w ∈ ws_cm_cell := fun _ h => List.mem_cons_of_mem _ (List.mem_append_right _ h)
set_option maxHeartbeats 4000000 in
set_option maxRecDepth 100000 in
theorem cm_cell (l : Launch) (dC : Nat → ClassId) (dI : Nat → Nat → Nat) (h0 : Nat) (F : Nat → Value) (i : Int32) (sz : Nat) (hk100 : F 100 = .int 0) : Met l yX13_cell ws_cm_cell ({ frames := 0, cells := 0, slots := 0, locals := 0 }) (va_Pc [.ref h0, .int i] (fun U => U.heap.size = sz ∧ va_P (dC, dI) vwCl [(h0, .inr (15, fl 134 F))] U.heap ∧ va_K (dC, dI) vwCl [] U ∧ va_D (fun _ => True) [(h0, .inr (15, fl 134 F))])) (va_Qi (fun (r : Int32) (_ : Unit) => r = 0) (fun _ t => va_P (dC, dI) vwCl [] t.heap ∧ va_K (dC, dI) vwCl [] t ∧ va_D (va_A [(h0, .inr (15, fl 134 F))] sz) []) (va_A [(h0, .inr (15, fl 134 F))] sz)) 0 0 (va_A [(h0, .inr (15, fl 134 F))] sz) := by
  refine Met.ofW (cc := cX13_cell) (maxL := 2) (ret := (some .int)) (by decide) rfl ?_
  intro p e s m args below meth c s₁ B hml hv
  obtain ⟨rfl, hsz, hP, hK, hD0⟩ := hv
  have hx := B.exec
  have hb := B.bytes
  have hr := B.returns
  have hts := atoms_spec (ws := ws_cm_cell) B.pre
  have hown : s.vm.findClass RX13 = some m.cls := findClass_of_methodNamed B.named
  have hlocks := B.notSynchronized
  subst hsz
  have hD := hD0.self (sz := s.heap.size)
  generalize hAe : va_A [(h0, .inr (15, fl 134 F))] s.heap.size = A at hD ⊢
  have hA : ∀ q : Nat, s.heap.size ≤ q → A q := fun q h => by rw [← hAe]; exact Or.inr h
  have hS : va_S A s.heap s.heap [] := va_S.rf
  have hP : va_P (dC, dI) vwCl [(h0, .inr (15, fl 134 F))] s.heap := hP
  have hl := lv_entry ([.ref h0, .int i]) (n := 2) (Nat.le_of_ble_eq_true rfl)
  rw [lg_entry_eq]
  generalize (lg_sl ([.ref h0, .int i]) ++ List.replicate (2 - (lg_sl ([.ref h0, .int i])).length) Slot.unset).toArray = ls at hl ⊢
  have hl : lv_has ls 2 [(0, .ref h0), (1, .int i)] := hl
  refine lv_aload_n hx hb dX13_cell_0 rfl (lv_at hl 0 rfl) ?_
  refine lv_iconst (v := 0) hx hb dX13_cell_1 (by decide) ?_
  refine va_put (D := (dC, dI)) (ci := 15) (v := .int 0) (ty := .int) (C := RX13) (T := TX13) (N := 134) hx hb hts in_cm_cell_RX13 tyX13 tyX13_ok nmX13 hown hK hP hD hS 0 rfl rfl 0 (by decide) (hts (.fieldLink RX13 251 "LevelUnitsModel" "thrown" "I") (List.mem_of_getElem? (i := 1) rfl)) (fun _ h9 => h9) rfl (by decide +kernel) rfl rfl (fl_lt (by decide)) dX13_cell_2 (fun H locs hP hD hS => ?_)
  obtain ⟨F_1, eF_1⟩ : ∃ z, z = fu F 0 (.int 0) := ⟨_, rfl⟩
  have hP : va_P (dC, dI) vwCl [(h0, .inr (15, fl 134 F_1))] H := by rw [eF_1, ← fl_set (n := 134) (k := 0) (by decide)]; exact hP
  have hD : va_D A [(h0, .inr (15, fl 134 F_1))] := by rw [eF_1, ← fl_set (n := 134) (k := 0) (by decide)]; exact hD
  refine lv_aload_n hx hb dX13_cell_5 rfl (lv_at hl 0 rfl) ?_
  refine va_get (D := (dC, dI)) (ci := 15) (v := .int 0) (C := RX13) (T := TX13) (N := 134) hx hb hts in_cm_cell_RX13 hown hK hP 0 rfl rfl 100 (by decide) (hts (.fieldLink RX13 893 "LevelUnitsModel" "begun" "Z") (List.mem_of_getElem? (i := 2) rfl)) (fun _ h9 => h9) (fl_get (by decide) (fu_ne eF_1 (by decide) hk100)) dX13_cell_6 ?_
  refine lv_if_eq (tgt := 33) hx hb dX13_cell_9 (by decide) (fun c9 => ?_) (fun c9 => absurd (by decide) c9)
  clear c9
  refine lv_iconst (v := 0) hx hb dX13_cell_33 (by decide) ?_
  have hP9 := hP.sub (ws' := []) [] rfl
  have hD9 := hD.sub (ws' := []) [] (by decide) rfl
  have hK9 := hK.sub (tys' := []) [] rfl
  refine W.widen (k := 0) (n := 0) (Nat.le_of_ble_eq_true rfl) (Nat.le_of_ble_eq_true rfl) ?_
  exact W.iret (v := 0) hx hb hr (fun t ht hW => ⟨⟨0, (), rfl, rfl, by rw [ht]; exact hP9, va_K.moved hW.alike hK9, hD9⟩, hS.F ht⟩) hS.2.2 dX13_cell_34
def ws_cm_thread : List Cond := .code yX13_thread cX13_thread 5 (some .int) :: ([.fieldLink RX13 251 "LevelUnitsModel" "thrown" "I", .fieldLink RX13 893 "LevelUnitsModel" "begun" "Z"] ++ wsX130)
theorem in_cm_thread_RX13 : ∀ w ∈ wsX130, w ∈ ws_cm_thread := fun _ h => List.mem_cons_of_mem _ (List.mem_append_right _ h)
set_option maxHeartbeats 4000000 in
set_option maxRecDepth 100000 in
theorem cm_thread (l : Launch) (dC : Nat → ClassId) (dI : Nat → Nat → Nat) (h0 : Nat) (F : Nat → Value) (i : Int32) (j : Int32) (sz : Nat) (hk100 : F 100 = .int 0) : Met l yX13_thread ws_cm_thread ({ frames := 0, cells := 0, slots := 0, locals := 0 }) (va_Pc [.ref h0, .int i, .int j] (fun U => U.heap.size = sz ∧ va_P (dC, dI) vwCl [(h0, .inr (15, fl 134 F))] U.heap ∧ va_K (dC, dI) vwCl [] U ∧ va_D (fun _ => True) [(h0, .inr (15, fl 134 F))])) (va_Qi (fun (r : Int32) (_ : Unit) => r = (-1)) (fun _ t => va_P (dC, dI) vwCl [] t.heap ∧ va_K (dC, dI) vwCl [] t ∧ va_D (va_A [(h0, .inr (15, fl 134 F))] sz) []) (va_A [(h0, .inr (15, fl 134 F))] sz)) 0 0 (va_A [(h0, .inr (15, fl 134 F))] sz) := by
  refine Met.ofW (cc := cX13_thread) (maxL := 5) (ret := (some .int)) (by decide) rfl ?_
  intro p e s m args below meth c s₁ B hml hv
  obtain ⟨rfl, hsz, hP, hK, hD0⟩ := hv
  have hx := B.exec
  have hb := B.bytes
  have hr := B.returns
  have hts := atoms_spec (ws := ws_cm_thread) B.pre
  have hown : s.vm.findClass RX13 = some m.cls := findClass_of_methodNamed B.named
  have hlocks := B.notSynchronized
  subst hsz
  have hD := hD0.self (sz := s.heap.size)
  generalize hAe : va_A [(h0, .inr (15, fl 134 F))] s.heap.size = A at hD ⊢
  have hA : ∀ q : Nat, s.heap.size ≤ q → A q := fun q h => by rw [← hAe]; exact Or.inr h
  have hS : va_S A s.heap s.heap [] := va_S.rf
  have hP : va_P (dC, dI) vwCl [(h0, .inr (15, fl 134 F))] s.heap := hP
  have hl := lv_entry ([.ref h0, .int i, .int j]) (n := 5) (Nat.le_of_ble_eq_true rfl)
  rw [lg_entry_eq]
  generalize (lg_sl ([.ref h0, .int i, .int j]) ++ List.replicate (5 - (lg_sl ([.ref h0, .int i, .int j])).length) Slot.unset).toArray = ls at hl ⊢
  have hl : lv_has ls 5 [(0, .ref h0), (1, .int i), (2, .int j)] := hl
  refine lv_aload_n hx hb dX13_thread_0 rfl (lv_at hl 0 rfl) ?_
  refine lv_iconst (v := 0) hx hb dX13_thread_1 (by decide) ?_
  refine va_put (D := (dC, dI)) (ci := 15) (v := .int 0) (ty := .int) (C := RX13) (T := TX13) (N := 134) hx hb hts in_cm_thread_RX13 tyX13 tyX13_ok nmX13 hown hK hP hD hS 0 rfl rfl 0 (by decide) (hts (.fieldLink RX13 251 "LevelUnitsModel" "thrown" "I") (List.mem_of_getElem? (i := 1) rfl)) (fun _ h9 => h9) rfl (by decide +kernel) rfl rfl (fl_lt (by decide)) dX13_thread_2 (fun H locs hP hD hS => ?_)
  obtain ⟨F_1, eF_1⟩ : ∃ z, z = fu F 0 (.int 0) := ⟨_, rfl⟩
  have hP : va_P (dC, dI) vwCl [(h0, .inr (15, fl 134 F_1))] H := by rw [eF_1, ← fl_set (n := 134) (k := 0) (by decide)]; exact hP
  have hD : va_D A [(h0, .inr (15, fl 134 F_1))] := by rw [eF_1, ← fl_set (n := 134) (k := 0) (by decide)]; exact hD
  refine lv_aload_n hx hb dX13_thread_5 rfl (lv_at hl 0 rfl) ?_
  refine va_get (D := (dC, dI)) (ci := 15) (v := .int 0) (C := RX13) (T := TX13) (N := 134) hx hb hts in_cm_thread_RX13 hown hK hP 0 rfl rfl 100 (by decide) (hts (.fieldLink RX13 893 "LevelUnitsModel" "begun" "Z") (List.mem_of_getElem? (i := 2) rfl)) (fun _ h9 => h9) (fl_get (by decide) (fu_ne eF_1 (by decide) hk100)) dX13_thread_6 ?_
  refine lv_if_eq (tgt := 24) hx hb dX13_thread_9 (by decide) (fun c9 => ?_) (fun c9 => absurd (by decide) c9)
  clear c9
  refine lv_iconst (v := (-1)) hx hb dX13_thread_24 (by decide) ?_
  have hP9 := hP.sub (ws' := []) [] rfl
  have hD9 := hD.sub (ws' := []) [] (by decide) rfl
  have hK9 := hK.sub (tys' := []) [] rfl
  refine W.widen (k := 0) (n := 0) (Nat.le_of_ble_eq_true rfl) (Nat.le_of_ble_eq_true rfl) ?_
  exact W.iret (v := (-1)) hx hb hr (fun t ht hW => ⟨⟨(-1), (), rfl, rfl, by rw [ht]; exact hP9, va_K.moved hW.alike hK9, hD9⟩, hS.F ht⟩) hS.2.2 dX13_thread_25
def ws_cm_thing : List Cond := .code yX13_thing cX13_thing 5 (some .int) :: ([.fieldLink RX13 251 "LevelUnitsModel" "thrown" "I", .fieldLink RX13 893 "LevelUnitsModel" "begun" "Z"] ++ wsX130)
theorem in_cm_thing_RX13 : ∀ w ∈ wsX130, w ∈ ws_cm_thing := fun _ h => List.mem_cons_of_mem _ (List.mem_append_right _ h)
set_option maxHeartbeats 4000000 in
set_option maxRecDepth 100000 in
theorem cm_thing (l : Launch) (dC : Nat → ClassId) (dI : Nat → Nat → Nat) (h0 : Nat) (F : Nat → Value) (i : Int32) (j : Int32) (sz : Nat) (hk100 : F 100 = .int 0) : Met l yX13_thing ws_cm_thing ({ frames := 0, cells := 0, slots := 0, locals := 0 }) (va_Pc [.ref h0, .int i, .int j] (fun U => U.heap.size = sz ∧ va_P (dC, dI) vwCl [(h0, .inr (15, fl 134 F))] U.heap ∧ va_K (dC, dI) vwCl [] U ∧ va_D (fun _ => True) [(h0, .inr (15, fl 134 F))])) (va_Qi (fun (r : Int32) (_ : Unit) => r = (-1)) (fun _ t => va_P (dC, dI) vwCl [] t.heap ∧ va_K (dC, dI) vwCl [] t ∧ va_D (va_A [(h0, .inr (15, fl 134 F))] sz) []) (va_A [(h0, .inr (15, fl 134 F))] sz)) 0 0 (va_A [(h0, .inr (15, fl 134 F))] sz) := by
  refine Met.ofW (cc := cX13_thing) (maxL := 5) (ret := (some .int)) (by decide) rfl ?_
  intro p e s m args below meth c s₁ B hml hv
  obtain ⟨rfl, hsz, hP, hK, hD0⟩ := hv
  have hx := B.exec
  have hb := B.bytes
  have hr := B.returns
  have hts := atoms_spec (ws := ws_cm_thing) B.pre
  have hown : s.vm.findClass RX13 = some m.cls := findClass_of_methodNamed B.named
  have hlocks := B.notSynchronized
  subst hsz
  have hD := hD0.self (sz := s.heap.size)
  generalize hAe : va_A [(h0, .inr (15, fl 134 F))] s.heap.size = A at hD ⊢
  have hA : ∀ q : Nat, s.heap.size ≤ q → A q := fun q h => by rw [← hAe]; exact Or.inr h
  have hS : va_S A s.heap s.heap [] := va_S.rf
  have hP : va_P (dC, dI) vwCl [(h0, .inr (15, fl 134 F))] s.heap := hP
  have hl := lv_entry ([.ref h0, .int i, .int j]) (n := 5) (Nat.le_of_ble_eq_true rfl)
  rw [lg_entry_eq]
  generalize (lg_sl ([.ref h0, .int i, .int j]) ++ List.replicate (5 - (lg_sl ([.ref h0, .int i, .int j])).length) Slot.unset).toArray = ls at hl ⊢
  have hl : lv_has ls 5 [(0, .ref h0), (1, .int i), (2, .int j)] := hl
  refine lv_aload_n hx hb dX13_thing_0 rfl (lv_at hl 0 rfl) ?_
  refine lv_iconst (v := 0) hx hb dX13_thing_1 (by decide) ?_
  refine va_put (D := (dC, dI)) (ci := 15) (v := .int 0) (ty := .int) (C := RX13) (T := TX13) (N := 134) hx hb hts in_cm_thing_RX13 tyX13 tyX13_ok nmX13 hown hK hP hD hS 0 rfl rfl 0 (by decide) (hts (.fieldLink RX13 251 "LevelUnitsModel" "thrown" "I") (List.mem_of_getElem? (i := 1) rfl)) (fun _ h9 => h9) rfl (by decide +kernel) rfl rfl (fl_lt (by decide)) dX13_thing_2 (fun H locs hP hD hS => ?_)
  obtain ⟨F_1, eF_1⟩ : ∃ z, z = fu F 0 (.int 0) := ⟨_, rfl⟩
  have hP : va_P (dC, dI) vwCl [(h0, .inr (15, fl 134 F_1))] H := by rw [eF_1, ← fl_set (n := 134) (k := 0) (by decide)]; exact hP
  have hD : va_D A [(h0, .inr (15, fl 134 F_1))] := by rw [eF_1, ← fl_set (n := 134) (k := 0) (by decide)]; exact hD
  refine lv_aload_n hx hb dX13_thing_5 rfl (lv_at hl 0 rfl) ?_
  refine va_get (D := (dC, dI)) (ci := 15) (v := .int 0) (C := RX13) (T := TX13) (N := 134) hx hb hts in_cm_thing_RX13 hown hK hP 0 rfl rfl 100 (by decide) (hts (.fieldLink RX13 893 "LevelUnitsModel" "begun" "Z") (List.mem_of_getElem? (i := 2) rfl)) (fun _ h9 => h9) (fl_get (by decide) (fu_ne eF_1 (by decide) hk100)) dX13_thing_6 ?_
  refine lv_if_eq (tgt := 25) hx hb dX13_thing_9 (by decide) (fun c9 => ?_) (fun c9 => absurd (by decide) c9)
  clear c9
  refine lv_iconst (v := (-1)) hx hb dX13_thing_25 (by decide) ?_
  have hP9 := hP.sub (ws' := []) [] rfl
  have hD9 := hD.sub (ws' := []) [] (by decide) rfl
  have hK9 := hK.sub (tys' := []) [] rfl
  refine W.widen (k := 0) (n := 0) (Nat.le_of_ble_eq_true rfl) (Nat.le_of_ble_eq_true rfl) ?_
  exact W.iret (v := (-1)) hx hb hr (fun t ht hW => ⟨⟨(-1), (), rfl, rfl, by rw [ht]; exact hP9, va_K.moved hW.alike hK9, hD9⟩, hS.F ht⟩) hS.2.2 dX13_thing_26
def ws_cm_inside : List Cond := .code yX13_inside cX13_inside 3 (some .int) :: ([.fieldLink RX13 251 "LevelUnitsModel" "thrown" "I", .fieldLink RX13 893 "LevelUnitsModel" "begun" "Z"] ++ wsX130)
theorem in_cm_inside_RX13 : ∀ w ∈ wsX130, w ∈ ws_cm_inside := fun _ h => List.mem_cons_of_mem _ (List.mem_append_right _ h)
set_option maxHeartbeats 4000000 in
set_option maxRecDepth 100000 in
theorem cm_inside (l : Launch) (dC : Nat → ClassId) (dI : Nat → Nat → Nat) (h0 : Nat) (F : Nat → Value) (i : Int32) (j : Int32) (sz : Nat) (hk100 : F 100 = .int 0) : Met l yX13_inside ws_cm_inside ({ frames := 0, cells := 0, slots := 0, locals := 0 }) (va_Pc [.ref h0, .int i, .int j] (fun U => U.heap.size = sz ∧ va_P (dC, dI) vwCl [(h0, .inr (15, fl 134 F))] U.heap ∧ va_K (dC, dI) vwCl [] U ∧ va_D (fun _ => True) [(h0, .inr (15, fl 134 F))])) (va_Qi (fun (r : Int32) (_ : Unit) => r = 0) (fun _ t => va_P (dC, dI) vwCl [] t.heap ∧ va_K (dC, dI) vwCl [] t ∧ va_D (va_A [(h0, .inr (15, fl 134 F))] sz) []) (va_A [(h0, .inr (15, fl 134 F))] sz)) 0 0 (va_A [(h0, .inr (15, fl 134 F))] sz) := by
  refine Met.ofW (cc := cX13_inside) (maxL := 3) (ret := (some .int)) (by decide) rfl ?_
  intro p e s m args below meth c s₁ B hml hv
  obtain ⟨rfl, hsz, hP, hK, hD0⟩ := hv
  have hx := B.exec
  have hb := B.bytes
  have hr := B.returns
  have hts := atoms_spec (ws := ws_cm_inside) B.pre
  have hown : s.vm.findClass RX13 = some m.cls := findClass_of_methodNamed B.named
  have hlocks := B.notSynchronized
  subst hsz
  have hD := hD0.self (sz := s.heap.size)
  generalize hAe : va_A [(h0, .inr (15, fl 134 F))] s.heap.size = A at hD ⊢
  have hA : ∀ q : Nat, s.heap.size ≤ q → A q := fun q h => by rw [← hAe]; exact Or.inr h
  have hS : va_S A s.heap s.heap [] := va_S.rf
  have hP : va_P (dC, dI) vwCl [(h0, .inr (15, fl 134 F))] s.heap := hP
  have hl := lv_entry ([.ref h0, .int i, .int j]) (n := 3) (Nat.le_of_ble_eq_true rfl)
  rw [lg_entry_eq]
  generalize (lg_sl ([.ref h0, .int i, .int j]) ++ List.replicate (3 - (lg_sl ([.ref h0, .int i, .int j])).length) Slot.unset).toArray = ls at hl ⊢
  have hl : lv_has ls 3 [(0, .ref h0), (1, .int i), (2, .int j)] := hl
  refine lv_aload_n hx hb dX13_inside_0 rfl (lv_at hl 0 rfl) ?_
  refine lv_iconst (v := 0) hx hb dX13_inside_1 (by decide) ?_
  refine va_put (D := (dC, dI)) (ci := 15) (v := .int 0) (ty := .int) (C := RX13) (T := TX13) (N := 134) hx hb hts in_cm_inside_RX13 tyX13 tyX13_ok nmX13 hown hK hP hD hS 0 rfl rfl 0 (by decide) (hts (.fieldLink RX13 251 "LevelUnitsModel" "thrown" "I") (List.mem_of_getElem? (i := 1) rfl)) (fun _ h9 => h9) rfl (by decide +kernel) rfl rfl (fl_lt (by decide)) dX13_inside_2 (fun H locs hP hD hS => ?_)
  obtain ⟨F_1, eF_1⟩ : ∃ z, z = fu F 0 (.int 0) := ⟨_, rfl⟩
  have hP : va_P (dC, dI) vwCl [(h0, .inr (15, fl 134 F_1))] H := by rw [eF_1, ← fl_set (n := 134) (k := 0) (by decide)]; exact hP
  have hD : va_D A [(h0, .inr (15, fl 134 F_1))] := by rw [eF_1, ← fl_set (n := 134) (k := 0) (by decide)]; exact hD
  refine lv_aload_n hx hb dX13_inside_5 rfl (lv_at hl 0 rfl) ?_
  refine va_get (D := (dC, dI)) (ci := 15) (v := .int 0) (C := RX13) (T := TX13) (N := 134) hx hb hts in_cm_inside_RX13 hown hK hP 0 rfl rfl 100 (by decide) (hts (.fieldLink RX13 893 "LevelUnitsModel" "begun" "Z") (List.mem_of_getElem? (i := 2) rfl)) (fun _ h9 => h9) (fl_get (by decide) (fu_ne eF_1 (by decide) hk100)) dX13_inside_6 ?_
  refine lv_if_eq (tgt := 55) hx hb dX13_inside_9 (by decide) (fun c9 => ?_) (fun c9 => absurd (by decide) c9)
  clear c9
  refine lv_iconst (v := 0) hx hb dX13_inside_55 (by decide) ?_
  have hP9 := hP.sub (ws' := []) [] rfl
  have hD9 := hD.sub (ws' := []) [] (by decide) rfl
  have hK9 := hK.sub (tys' := []) [] rfl
  refine W.widen (k := 0) (n := 0) (Nat.le_of_ble_eq_true rfl) (Nat.le_of_ble_eq_true rfl) ?_
  exact W.iret (v := 0) hx hb hr (fun t ht hW => ⟨⟨0, (), rfl, rfl, by rw [ht]; exact hP9, va_K.moved hW.alike hK9, hD9⟩, hS.F ht⟩) hS.2.2 dX13_inside_56
