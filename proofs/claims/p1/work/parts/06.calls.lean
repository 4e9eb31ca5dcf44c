def ws_cc_putBytes_0 : List Cond := .code yX11_putBytes cX11_putBytes 3 none :: ([.fieldLink RX11 27 "LevelUnits" "length" "I", .fieldLink RX11 9 "LevelUnits" "tape" "[B"] ++ wsX110)
theorem in_cc_putBytes_0_RX11 : ∀ w ∈ wsX110, w ∈ ws_cc_putBytes_0 := fun _ h => List.mem_cons_of_mem _ (List.mem_append_right _ h)
set_option maxHeartbeats 4000000 in
set_option maxRecDepth 100000 in
theorem cc_putBytes_0 (l : Launch) (dC : Nat → ClassId) (dI : Nat → Nat → Nat) (h0 : Nat) (qt : Nat) (qs : Nat) (qm : Nat) (cy : ClassId) (f : Nat → Int32) (i : Int32) (sz : Nat) : Met l yX11_putBytes ws_cc_putBytes_0 ({ frames := 0, cells := 0, slots := 0, locals := 0 }) (va_Pc [.ref h0, .int i] (fun U => U.heap.size = sz ∧ va_P (dC, dI) vwCl [(h0, .inr (13, [.ref qt, .int 0, .ref qs, .ref qm, .null])), (qt, .inl (cy, 6000, .inl f))] U.heap ∧ va_K (dC, dI) vwCl [(cy, .byte)] U ∧ va_D (fun _ => True) [(h0, .inr (13, [.ref qt, .int 0, .ref qs, .ref qm, .null])), (qt, .inl (cy, 6000, .inl f))])) (va_Qv (fun _ : Unit => True) (fun _ t => ∃ f_a : Nat → Int32, va_P (dC, dI) vwCl [(h0, .inr (13, [.ref qt, .int 4, .ref qs, .ref qm, .null])), (qt, .inl (cy, 6000, .inl f_a))] t.heap ∧ va_K (dC, dI) vwCl [(cy, .byte)] t ∧ va_D (va_A [(h0, .inr (13, [.ref qt, .int 0, .ref qs, .ref qm, .null])), (qt, .inl (cy, 6000, .inl f))] sz) [(h0, .inr (13, [.ref qt, .int 4, .ref qs, .ref qm, .null])), (qt, .inl (cy, 6000, .inl f_a))]) (va_A [(h0, .inr (13, [.ref qt, .int 0, .ref qs, .ref qm, .null])), (qt, .inl (cy, 6000, .inl f))] sz)) 0 0 (va_A [(h0, .inr (13, [.ref qt, .int 0, .ref qs, .ref qm, .null])), (qt, .inl (cy, 6000, .inl f))] sz) := by
  refine Met.ofW (cc := cX11_putBytes) (maxL := 3) (ret := none) (by decide) rfl ?_
  intro p e s m args below meth c s₁ B hml hv
  obtain ⟨rfl, hsz, hP, hK, hD0⟩ := hv
  have hx := B.exec
  have hb := B.bytes
  have hr := B.returns
  have hts := atoms_spec (ws := ws_cc_putBytes_0) B.pre
  have hown : s.vm.findClass RX11 = some m.cls := findClass_of_methodNamed B.named
  have hlocks := B.notSynchronized
  subst hsz
  have hD := hD0.self (sz := s.heap.size)
  generalize hAe : va_A [(h0, .inr (13, [.ref qt, .int 0, .ref qs, .ref qm, .null])), (qt, .inl (cy, 6000, .inl f))] s.heap.size = A at hD ⊢
  have hA : ∀ q : Nat, s.heap.size ≤ q → A q := fun q h => by rw [← hAe]; exact Or.inr h
  have hS : va_S A s.heap s.heap [] := va_S.rf
  have hP : va_P (dC, dI) vwCl [(h0, .inr (13, [.ref qt, .int 0, .ref qs, .ref qm, .null])), (qt, .inl (cy, 6000, .inl f))] s.heap := hP
  have hl := lv_entry ([.ref h0, .int i]) (n := 3) (Nat.le_of_ble_eq_true rfl)
  rw [lg_entry_eq]
  generalize (lg_sl ([.ref h0, .int i]) ++ List.replicate (3 - (lg_sl ([.ref h0, .int i])).length) Slot.unset).toArray = ls at hl ⊢
  have hl : lv_has ls 3 [(0, .ref h0), (1, .int i)] := hl
  refine lv_bipush (v := 24) hx hb dX11_putBytes_0 (by decide) ?_
  refine lv_istore_n (lv' := [(2, .int 24), (0, .ref h0), (1, .int i)]) hx hb dX11_putBytes_2 rfl hl (by decide) rfl (fun ls hl => ?_)
  refine lv_iload_n hx hb dX11_putBytes_3 rfl (lv_at hl 0 rfl) ?_
  refine lv_if_lt (tgt := 46) hx hb dX11_putBytes_4 (by decide) (fun c9 => absurd c9 (by decide)) (fun c9 => ?_)
  clear c9
  refine lv_aload_n hx hb dX11_putBytes_7 rfl (lv_at hl 1 rfl) ?_
  refine va_get (D := (dC, dI)) (ci := 13) (v := .int 0) (C := RX11) (T := TX11) (N := 5) hx hb hts in_cc_putBytes_0_RX11 hown hK hP 0 rfl rfl 1 (by decide) (hts (.fieldLink RX11 27 "LevelUnits" "length" "I") (List.mem_of_getElem? (i := 1) rfl)) (fun _ h9 => h9) rfl dX11_putBytes_8 ?_
  refine lv_sipush (v := 6000) hx hb dX11_putBytes_11 (by decide) ?_
  refine lv_icmp_ge (tgt := 46) hx hb dX11_putBytes_14 (by decide) (fun c9 => absurd c9 (by decide)) (fun c9 => ?_)
  clear c9
  refine lv_aload_n hx hb dX11_putBytes_17 rfl (lv_at hl 1 rfl) ?_
  refine va_get (D := (dC, dI)) (ci := 13) (v := .ref qt) (C := RX11) (T := TX11) (N := 5) hx hb hts in_cc_putBytes_0_RX11 hown hK hP 0 rfl rfl 0 (by decide) (hts (.fieldLink RX11 9 "LevelUnits" "tape" "[B") (List.mem_of_getElem? (i := 2) rfl)) (fun _ h9 => h9) rfl dX11_putBytes_18 ?_
  refine lv_aload_n hx hb dX11_putBytes_21 rfl (lv_at hl 1 rfl) ?_
  refine va_get (D := (dC, dI)) (ci := 13) (v := .int 0) (C := RX11) (T := TX11) (N := 5) hx hb hts in_cc_putBytes_0_RX11 hown hK hP 0 rfl rfl 1 (by decide) (hts (.fieldLink RX11 27 "LevelUnits" "length" "I") (List.mem_of_getElem? (i := 1) rfl)) (fun _ h9 => h9) rfl dX11_putBytes_22 ?_
  refine lv_iload_n hx hb dX11_putBytes_25 rfl (lv_at hl 2 rfl) ?_
  refine lv_iload_n hx hb dX11_putBytes_26 rfl (lv_at hl 0 rfl) ?_
  refine lv_iushr hx hb dX11_putBytes_27 rfl ?_
  refine lv_topi (fun x_1 ex_1 => ?_)
  refine lv_i2b hx hb dX11_putBytes_28 rfl ?_
  refine lv_topi (fun x_2 ex_2 => ?_)
  refine va_bast hx hb hK hP hD hS 1 0 rfl rfl (i := 0) (by unfold vp_in; decide) dX11_putBytes_29 (fun H locs hP hD hS => ?_)
  obtain ⟨f_3, ef_3⟩ : ∃ z, z = upd f (Int32.toNatClampNeg 0) (vp_nar .byte x_2) := ⟨_, rfl⟩
  rw [← ef_3] at hP hD
  have hP : va_P (dC, dI) vwCl [(h0, .inr (13, [.ref qt, .int 0, .ref qs, .ref qm, .null])), (qt, .inl (cy, 6000, .inl f_3))] H := hP
  have hD : va_D A [(h0, .inr (13, [.ref qt, .int 0, .ref qs, .ref qm, .null])), (qt, .inl (cy, 6000, .inl f_3))] := hD
  refine lv_aload_n hx hb dX11_putBytes_30 rfl (lv_at hl 1 rfl) ?_
  refine lv_dup hx hb dX11_putBytes_31 rfl ?_
  refine va_get (D := (dC, dI)) (ci := 13) (v := .int 0) (C := RX11) (T := TX11) (N := 5) hx hb hts in_cc_putBytes_0_RX11 hown hK hP 0 rfl rfl 1 (by decide) (hts (.fieldLink RX11 27 "LevelUnits" "length" "I") (List.mem_of_getElem? (i := 1) rfl)) (fun _ h9 => h9) rfl dX11_putBytes_32 ?_
  refine lv_iconst (v := 1) hx hb dX11_putBytes_35 (by decide) ?_
  refine lv_iadd hx hb dX11_putBytes_36 ?_
  refine lv_topi (fun y9 e9 => ?_)
  have e9 : y9 = 1 := by rw [e9]; decide
  subst e9
  refine va_put (D := (dC, dI)) (ci := 13) (v := .int 1) (ty := .int) (C := RX11) (T := TX11) (N := 5) hx hb hts in_cc_putBytes_0_RX11 tyX11 tyX11_ok nmX11 hown hK hP hD hS 0 rfl rfl 1 (by decide) (hts (.fieldLink RX11 27 "LevelUnits" "length" "I") (List.mem_of_getElem? (i := 1) rfl)) (fun _ h9 => h9) rfl (by decide +kernel) rfl rfl (Nat.le_of_ble_eq_true rfl) dX11_putBytes_37 (fun H locs hP hD hS => ?_)
  have hP : va_P (dC, dI) vwCl [(h0, .inr (13, [.ref qt, .int 1, .ref qs, .ref qm, .null])), (qt, .inl (cy, 6000, .inl f_3))] H := hP
  have hD : va_D A [(h0, .inr (13, [.ref qt, .int 1, .ref qs, .ref qm, .null])), (qt, .inl (cy, 6000, .inl f_3))] := hD
  refine lv_iinc (v := 16) (lv' := [(2, .int 16), (0, .ref h0), (1, .int i)]) hx hb dX11_putBytes_40 hl (k := 0) rfl (by decide) (by decide) rfl (fun ls hl => ?_)
  refine lv_goto (tgt := 3) hx hb dX11_putBytes_43 (by decide) ?_
  refine lv_iload_n hx hb dX11_putBytes_3 rfl (lv_at hl 0 rfl) ?_
  refine lv_if_lt (tgt := 46) hx hb dX11_putBytes_4 (by decide) (fun c9 => absurd c9 (by decide)) (fun c9 => ?_)
  clear c9
  refine lv_aload_n hx hb dX11_putBytes_7 rfl (lv_at hl 1 rfl) ?_
  refine va_get (D := (dC, dI)) (ci := 13) (v := .int 1) (C := RX11) (T := TX11) (N := 5) hx hb hts in_cc_putBytes_0_RX11 hown hK hP 0 rfl rfl 1 (by decide) (hts (.fieldLink RX11 27 "LevelUnits" "length" "I") (List.mem_of_getElem? (i := 1) rfl)) (fun _ h9 => h9) rfl dX11_putBytes_8 ?_
  refine lv_sipush (v := 6000) hx hb dX11_putBytes_11 (by decide) ?_
  refine lv_icmp_ge (tgt := 46) hx hb dX11_putBytes_14 (by decide) (fun c9 => absurd c9 (by decide)) (fun c9 => ?_)
  clear c9
  refine lv_aload_n hx hb dX11_putBytes_17 rfl (lv_at hl 1 rfl) ?_
  refine va_get (D := (dC, dI)) (ci := 13) (v := .ref qt) (C := RX11) (T := TX11) (N := 5) hx hb hts in_cc_putBytes_0_RX11 hown hK hP 0 rfl rfl 0 (by decide) (hts (.fieldLink RX11 9 "LevelUnits" "tape" "[B") (List.mem_of_getElem? (i := 2) rfl)) (fun _ h9 => h9) rfl dX11_putBytes_18 ?_
  refine lv_aload_n hx hb dX11_putBytes_21 rfl (lv_at hl 1 rfl) ?_
  refine va_get (D := (dC, dI)) (ci := 13) (v := .int 1) (C := RX11) (T := TX11) (N := 5) hx hb hts in_cc_putBytes_0_RX11 hown hK hP 0 rfl rfl 1 (by decide) (hts (.fieldLink RX11 27 "LevelUnits" "length" "I") (List.mem_of_getElem? (i := 1) rfl)) (fun _ h9 => h9) rfl dX11_putBytes_22 ?_
  refine lv_iload_n hx hb dX11_putBytes_25 rfl (lv_at hl 2 rfl) ?_
  refine lv_iload_n hx hb dX11_putBytes_26 rfl (lv_at hl 0 rfl) ?_
  refine lv_iushr hx hb dX11_putBytes_27 rfl ?_
  refine lv_topi (fun x_4 ex_4 => ?_)
  refine lv_i2b hx hb dX11_putBytes_28 rfl ?_
  refine lv_topi (fun x_5 ex_5 => ?_)
  refine va_bast hx hb hK hP hD hS 1 0 rfl rfl (i := 1) (by unfold vp_in; decide) dX11_putBytes_29 (fun H locs hP hD hS => ?_)
  obtain ⟨f_6, ef_6⟩ : ∃ z, z = upd f_3 (Int32.toNatClampNeg 1) (vp_nar .byte x_5) := ⟨_, rfl⟩
  rw [← ef_6] at hP hD
  have hP : va_P (dC, dI) vwCl [(h0, .inr (13, [.ref qt, .int 1, .ref qs, .ref qm, .null])), (qt, .inl (cy, 6000, .inl f_6))] H := hP
  have hD : va_D A [(h0, .inr (13, [.ref qt, .int 1, .ref qs, .ref qm, .null])), (qt, .inl (cy, 6000, .inl f_6))] := hD
  refine lv_aload_n hx hb dX11_putBytes_30 rfl (lv_at hl 1 rfl) ?_
  refine lv_dup hx hb dX11_putBytes_31 rfl ?_
  refine va_get (D := (dC, dI)) (ci := 13) (v := .int 1) (C := RX11) (T := TX11) (N := 5) hx hb hts in_cc_putBytes_0_RX11 hown hK hP 0 rfl rfl 1 (by decide) (hts (.fieldLink RX11 27 "LevelUnits" "length" "I") (List.mem_of_getElem? (i := 1) rfl)) (fun _ h9 => h9) rfl dX11_putBytes_32 ?_
  refine lv_iconst (v := 1) hx hb dX11_putBytes_35 (by decide) ?_
  refine lv_iadd hx hb dX11_putBytes_36 ?_
  refine lv_topi (fun y9 e9 => ?_)
  have e9 : y9 = 2 := by rw [e9]; decide
  subst e9
  refine va_put (D := (dC, dI)) (ci := 13) (v := .int 2) (ty := .int) (C := RX11) (T := TX11) (N := 5) hx hb hts in_cc_putBytes_0_RX11 tyX11 tyX11_ok nmX11 hown hK hP hD hS 0 rfl rfl 1 (by decide) (hts (.fieldLink RX11 27 "LevelUnits" "length" "I") (List.mem_of_getElem? (i := 1) rfl)) (fun _ h9 => h9) rfl (by decide +kernel) rfl rfl (Nat.le_of_ble_eq_true rfl) dX11_putBytes_37 (fun H locs hP hD hS => ?_)
  have hP : va_P (dC, dI) vwCl [(h0, .inr (13, [.ref qt, .int 2, .ref qs, .ref qm, .null])), (qt, .inl (cy, 6000, .inl f_6))] H := hP
  have hD : va_D A [(h0, .inr (13, [.ref qt, .int 2, .ref qs, .ref qm, .null])), (qt, .inl (cy, 6000, .inl f_6))] := hD
  refine lv_iinc (v := 8) (lv' := [(2, .int 8), (0, .ref h0), (1, .int i)]) hx hb dX11_putBytes_40 hl (k := 0) rfl (by decide) (by decide) rfl (fun ls hl => ?_)
  refine lv_goto (tgt := 3) hx hb dX11_putBytes_43 (by decide) ?_
  refine lv_iload_n hx hb dX11_putBytes_3 rfl (lv_at hl 0 rfl) ?_
  refine lv_if_lt (tgt := 46) hx hb dX11_putBytes_4 (by decide) (fun c9 => absurd c9 (by decide)) (fun c9 => ?_)
  clear c9
  refine lv_aload_n hx hb dX11_putBytes_7 rfl (lv_at hl 1 rfl) ?_
  refine va_get (D := (dC, dI)) (ci := 13) (v := .int 2) (C := RX11) (T := TX11) (N := 5) hx hb hts in_cc_putBytes_0_RX11 hown hK hP 0 rfl rfl 1 (by decide) (hts (.fieldLink RX11 27 "LevelUnits" "length" "I") (List.mem_of_getElem? (i := 1) rfl)) (fun _ h9 => h9) rfl dX11_putBytes_8 ?_
  refine lv_sipush (v := 6000) hx hb dX11_putBytes_11 (by decide) ?_
  refine lv_icmp_ge (tgt := 46) hx hb dX11_putBytes_14 (by decide) (fun c9 => absurd c9 (by decide)) (fun c9 => ?_)
  clear c9
  refine lv_aload_n hx hb dX11_putBytes_17 rfl (lv_at hl 1 rfl) ?_
  refine va_get (D := (dC, dI)) (ci := 13) (v := .ref qt) (C := RX11) (T := TX11) (N := 5) hx hb hts in_cc_putBytes_0_RX11 hown hK hP 0 rfl rfl 0 (by decide) (hts (.fieldLink RX11 9 "LevelUnits" "tape" "[B") (List.mem_of_getElem? (i := 2) rfl)) (fun _ h9 => h9) rfl dX11_putBytes_18 ?_
  refine lv_aload_n hx hb dX11_putBytes_21 rfl (lv_at hl 1 rfl) ?_
  refine va_get (D := (dC, dI)) (ci := 13) (v := .int 2) (C := RX11) (T := TX11) (N := 5) hx hb hts in_cc_putBytes_0_RX11 hown hK hP 0 rfl rfl 1 (by decide) (hts (.fieldLink RX11 27 "LevelUnits" "length" "I") (List.mem_of_getElem? (i := 1) rfl)) (fun _ h9 => h9) rfl dX11_putBytes_22 ?_
  refine lv_iload_n hx hb dX11_putBytes_25 rfl (lv_at hl 2 rfl) ?_
  refine lv_iload_n hx hb dX11_putBytes_26 rfl (lv_at hl 0 rfl) ?_
  refine lv_iushr hx hb dX11_putBytes_27 rfl ?_
  refine lv_topi (fun x_7 ex_7 => ?_)
  refine lv_i2b hx hb dX11_putBytes_28 rfl ?_
  refine lv_topi (fun x_8 ex_8 => ?_)
  refine va_bast hx hb hK hP hD hS 1 0 rfl rfl (i := 2) (by unfold vp_in; decide) dX11_putBytes_29 (fun H locs hP hD hS => ?_)
  obtain ⟨f_9, ef_9⟩ : ∃ z, z = upd f_6 (Int32.toNatClampNeg 2) (vp_nar .byte x_8) := ⟨_, rfl⟩
  rw [← ef_9] at hP hD
  have hP : va_P (dC, dI) vwCl [(h0, .inr (13, [.ref qt, .int 2, .ref qs, .ref qm, .null])), (qt, .inl (cy, 6000, .inl f_9))] H := hP
  have hD : va_D A [(h0, .inr (13, [.ref qt, .int 2, .ref qs, .ref qm, .null])), (qt, .inl (cy, 6000, .inl f_9))] := hD
  refine lv_aload_n hx hb dX11_putBytes_30 rfl (lv_at hl 1 rfl) ?_
  refine lv_dup hx hb dX11_putBytes_31 rfl ?_
  refine va_get (D := (dC, dI)) (ci := 13) (v := .int 2) (C := RX11) (T := TX11) (N := 5) hx hb hts in_cc_putBytes_0_RX11 hown hK hP 0 rfl rfl 1 (by decide) (hts (.fieldLink RX11 27 "LevelUnits" "length" "I") (List.mem_of_getElem? (i := 1) rfl)) (fun _ h9 => h9) rfl dX11_putBytes_32 ?_
  refine lv_iconst (v := 1) hx hb dX11_putBytes_35 (by decide) ?_
  refine lv_iadd hx hb dX11_putBytes_36 ?_
  refine lv_topi (fun y9 e9 => ?_)
  have e9 : y9 = 3 := by rw [e9]; decide
  subst e9
  refine va_put (D := (dC, dI)) (ci := 13) (v := .int 3) (ty := .int) (C := RX11) (T := TX11) (N := 5) hx hb hts in_cc_putBytes_0_RX11 tyX11 tyX11_ok nmX11 hown hK hP hD hS 0 rfl rfl 1 (by decide) (hts (.fieldLink RX11 27 "LevelUnits" "length" "I") (List.mem_of_getElem? (i := 1) rfl)) (fun _ h9 => h9) rfl (by decide +kernel) rfl rfl (Nat.le_of_ble_eq_true rfl) dX11_putBytes_37 (fun H locs hP hD hS => ?_)
  have hP : va_P (dC, dI) vwCl [(h0, .inr (13, [.ref qt, .int 3, .ref qs, .ref qm, .null])), (qt, .inl (cy, 6000, .inl f_9))] H := hP
  have hD : va_D A [(h0, .inr (13, [.ref qt, .int 3, .ref qs, .ref qm, .null])), (qt, .inl (cy, 6000, .inl f_9))] := hD
  refine lv_iinc (v := 0) (lv' := [(2, .int 0), (0, .ref h0), (1, .int i)]) hx hb dX11_putBytes_40 hl (k := 0) rfl (by decide) (by decide) rfl (fun ls hl => ?_)
  refine lv_goto (tgt := 3) hx hb dX11_putBytes_43 (by decide) ?_
  refine lv_iload_n hx hb dX11_putBytes_3 rfl (lv_at hl 0 rfl) ?_
  refine lv_if_lt (tgt := 46) hx hb dX11_putBytes_4 (by decide) (fun c9 => absurd c9 (by decide)) (fun c9 => ?_)
  clear c9
  refine lv_aload_n hx hb dX11_putBytes_7 rfl (lv_at hl 1 rfl) ?_
  refine va_get (D := (dC, dI)) (ci := 13) (v := .int 3) (C := RX11) (T := TX11) (N := 5) hx hb hts in_cc_putBytes_0_RX11 hown hK hP 0 rfl rfl 1 (by decide) (hts (.fieldLink RX11 27 "LevelUnits" "length" "I") (List.mem_of_getElem? (i := 1) rfl)) (fun _ h9 => h9) rfl dX11_putBytes_8 ?_
  refine lv_sipush (v := 6000) hx hb dX11_putBytes_11 (by decide) ?_
  refine lv_icmp_ge (tgt := 46) hx hb dX11_putBytes_14 (by decide) (fun c9 => absurd c9 (by decide)) (fun c9 => ?_)
  clear c9
  refine lv_aload_n hx hb dX11_putBytes_17 rfl (lv_at hl 1 rfl) ?_
  refine va_get (D := (dC, dI)) (ci := 13) (v := .ref qt) (C := RX11) (T := TX11) (N := 5) hx hb hts in_cc_putBytes_0_RX11 hown hK hP 0 rfl rfl 0 (by decide) (hts (.fieldLink RX11 9 "LevelUnits" "tape" "[B") (List.mem_of_getElem? (i := 2) rfl)) (fun _ h9 => h9) rfl dX11_putBytes_18 ?_
  refine lv_aload_n hx hb dX11_putBytes_21 rfl (lv_at hl 1 rfl) ?_
  refine va_get (D := (dC, dI)) (ci := 13) (v := .int 3) (C := RX11) (T := TX11) (N := 5) hx hb hts in_cc_putBytes_0_RX11 hown hK hP 0 rfl rfl 1 (by decide) (hts (.fieldLink RX11 27 "LevelUnits" "length" "I") (List.mem_of_getElem? (i := 1) rfl)) (fun _ h9 => h9) rfl dX11_putBytes_22 ?_
  refine lv_iload_n hx hb dX11_putBytes_25 rfl (lv_at hl 2 rfl) ?_
  refine lv_iload_n hx hb dX11_putBytes_26 rfl (lv_at hl 0 rfl) ?_
  refine lv_iushr hx hb dX11_putBytes_27 rfl ?_
  refine lv_topi (fun x_10 ex_10 => ?_)
  refine lv_i2b hx hb dX11_putBytes_28 rfl ?_
  refine lv_topi (fun x_11 ex_11 => ?_)
  refine va_bast hx hb hK hP hD hS 1 0 rfl rfl (i := 3) (by unfold vp_in; decide) dX11_putBytes_29 (fun H locs hP hD hS => ?_)
  obtain ⟨f_12, ef_12⟩ : ∃ z, z = upd f_9 (Int32.toNatClampNeg 3) (vp_nar .byte x_11) := ⟨_, rfl⟩
  rw [← ef_12] at hP hD
  have hP : va_P (dC, dI) vwCl [(h0, .inr (13, [.ref qt, .int 3, .ref qs, .ref qm, .null])), (qt, .inl (cy, 6000, .inl f_12))] H := hP
  have hD : va_D A [(h0, .inr (13, [.ref qt, .int 3, .ref qs, .ref qm, .null])), (qt, .inl (cy, 6000, .inl f_12))] := hD
  refine lv_aload_n hx hb dX11_putBytes_30 rfl (lv_at hl 1 rfl) ?_
  refine lv_dup hx hb dX11_putBytes_31 rfl ?_
  refine va_get (D := (dC, dI)) (ci := 13) (v := .int 3) (C := RX11) (T := TX11) (N := 5) hx hb hts in_cc_putBytes_0_RX11 hown hK hP 0 rfl rfl 1 (by decide) (hts (.fieldLink RX11 27 "LevelUnits" "length" "I") (List.mem_of_getElem? (i := 1) rfl)) (fun _ h9 => h9) rfl dX11_putBytes_32 ?_
  refine lv_iconst (v := 1) hx hb dX11_putBytes_35 (by decide) ?_
  refine lv_iadd hx hb dX11_putBytes_36 ?_
  refine lv_topi (fun y9 e9 => ?_)
  have e9 : y9 = 4 := by rw [e9]; decide
  subst e9
  refine va_put (D := (dC, dI)) (ci := 13) (v := .int 4) (ty := .int) (C := RX11) (T := TX11) (N := 5) hx hb hts in_cc_putBytes_0_RX11 tyX11 tyX11_ok nmX11 hown hK hP hD hS 0 rfl rfl 1 (by decide) (hts (.fieldLink RX11 27 "LevelUnits" "length" "I") (List.mem_of_getElem? (i := 1) rfl)) (fun _ h9 => h9) rfl (by decide +kernel) rfl rfl (Nat.le_of_ble_eq_true rfl) dX11_putBytes_37 (fun H locs hP hD hS => ?_)
  have hP : va_P (dC, dI) vwCl [(h0, .inr (13, [.ref qt, .int 4, .ref qs, .ref qm, .null])), (qt, .inl (cy, 6000, .inl f_12))] H := hP
  have hD : va_D A [(h0, .inr (13, [.ref qt, .int 4, .ref qs, .ref qm, .null])), (qt, .inl (cy, 6000, .inl f_12))] := hD
  refine lv_iinc (v := (-8)) (lv' := [(2, .int ((-8))), (0, .ref h0), (1, .int i)]) hx hb dX11_putBytes_40 hl (k := 0) rfl (by decide) (by decide) rfl (fun ls hl => ?_)
  refine lv_goto (tgt := 3) hx hb dX11_putBytes_43 (by decide) ?_
  refine lv_iload_n hx hb dX11_putBytes_3 rfl (lv_at hl 0 rfl) ?_
  refine lv_if_lt (tgt := 46) hx hb dX11_putBytes_4 (by decide) (fun c9 => ?_) (fun c9 => absurd (by decide) c9)
  clear c9
  have hP9 := hP.sub (ws' := [(h0, .inr (13, [.ref qt, .int 4, .ref qs, .ref qm, .null])), (qt, .inl (cy, 6000, .inl f_12))]) [0, 1] rfl
  have hD9 := hD.sub (ws' := [(h0, .inr (13, [.ref qt, .int 4, .ref qs, .ref qm, .null])), (qt, .inl (cy, 6000, .inl f_12))]) [0, 1] (by decide) rfl
  have hK9 := hK.sub (tys' := [(cy, .byte)]) [0] rfl
  refine W.widen (k := 0) (n := 0) (Nat.le_of_ble_eq_true rfl) (Nat.le_of_ble_eq_true rfl) ?_
  exact W.vret hx hb hr (fun t ht hW => ⟨⟨(), rfl, trivial, f_12, by rw [ht]; exact hP9, va_K.moved hW.alike hK9, hD9⟩, hS.F ht⟩) hS.2.2 dX11_putBytes_46
def ws_cc_putBytes_4 : List Cond := .code yX11_putBytes cX11_putBytes 3 none :: ([.fieldLink RX11 27 "LevelUnits" "length" "I", .fieldLink RX11 9 "LevelUnits" "tape" "[B"] ++ wsX110)
theorem in_cc_putBytes_4_RX11 : ∀ w ∈ wsX110, w ∈ ws_cc_putBytes_4 := fun _ h => List.mem_cons_of_mem _ (List.mem_append_right _ h)
set_option maxHeartbeats 4000000 in
set_option maxRecDepth 100000 in
theorem cc_putBytes_4 (l : Launch) (dC : Nat → ClassId) (dI : Nat → Nat → Nat) (h0 : Nat) (qt : Nat) (qs : Nat) (qm : Nat) (cy : ClassId) (f : Nat → Int32) (i : Int32) (sz : Nat) : Met l yX11_putBytes ws_cc_putBytes_4 ({ frames := 0, cells := 0, slots := 0, locals := 0 }) (va_Pc [.ref h0, .int i] (fun U => U.heap.size = sz ∧ va_P (dC, dI) vwCl [(h0, .inr (13, [.ref qt, .int 4, .ref qs, .ref qm, .null])), (qt, .inl (cy, 6000, .inl f))] U.heap ∧ va_K (dC, dI) vwCl [(cy, .byte)] U ∧ va_D (fun _ => True) [(h0, .inr (13, [.ref qt, .int 4, .ref qs, .ref qm, .null])), (qt, .inl (cy, 6000, .inl f))])) (va_Qv (fun _ : Unit => True) (fun _ t => ∃ f_a : Nat → Int32, va_P (dC, dI) vwCl [(h0, .inr (13, [.ref qt, .int 8, .ref qs, .ref qm, .null])), (qt, .inl (cy, 6000, .inl f_a))] t.heap ∧ va_K (dC, dI) vwCl [(cy, .byte)] t ∧ va_D (va_A [(h0, .inr (13, [.ref qt, .int 4, .ref qs, .ref qm, .null])), (qt, .inl (cy, 6000, .inl f))] sz) [(h0, .inr (13, [.ref qt, .int 8, .ref qs, .ref qm, .null])), (qt, .inl (cy, 6000, .inl f_a))]) (va_A [(h0, .inr (13, [.ref qt, .int 4, .ref qs, .ref qm, .null])), (qt, .inl (cy, 6000, .inl f))] sz)) 0 0 (va_A [(h0, .inr (13, [.ref qt, .int 4, .ref qs, .ref qm, .null])), (qt, .inl (cy, 6000, .inl f))] sz) := by
  refine Met.ofW (cc := cX11_putBytes) (maxL := 3) (ret := none) (by decide) rfl ?_
  intro p e s m args below meth c s₁ B hml hv
  obtain ⟨rfl, hsz, hP, hK, hD0⟩ := hv
  have hx := B.exec
  have hb := B.bytes
  have hr := B.returns
  have hts := atoms_spec (ws := ws_cc_putBytes_4) B.pre
  have hown : s.vm.findClass RX11 = some m.cls := findClass_of_methodNamed B.named
  have hlocks := B.notSynchronized
  subst hsz
  have hD := hD0.self (sz := s.heap.size)
  generalize hAe : va_A [(h0, .inr (13, [.ref qt, .int 4, .ref qs, .ref qm, .null])), (qt, .inl (cy, 6000, .inl f))] s.heap.size = A at hD ⊢
  have hA : ∀ q : Nat, s.heap.size ≤ q → A q := fun q h => by rw [← hAe]; exact Or.inr h
  have hS : va_S A s.heap s.heap [] := va_S.rf
  have hP : va_P (dC, dI) vwCl [(h0, .inr (13, [.ref qt, .int 4, .ref qs, .ref qm, .null])), (qt, .inl (cy, 6000, .inl f))] s.heap := hP
  have hl := lv_entry ([.ref h0, .int i]) (n := 3) (Nat.le_of_ble_eq_true rfl)
  rw [lg_entry_eq]
  generalize (lg_sl ([.ref h0, .int i]) ++ List.replicate (3 - (lg_sl ([.ref h0, .int i])).length) Slot.unset).toArray = ls at hl ⊢
  have hl : lv_has ls 3 [(0, .ref h0), (1, .int i)] := hl
  refine lv_bipush (v := 24) hx hb dX11_putBytes_0 (by decide) ?_
  refine lv_istore_n (lv' := [(2, .int 24), (0, .ref h0), (1, .int i)]) hx hb dX11_putBytes_2 rfl hl (by decide) rfl (fun ls hl => ?_)
  refine lv_iload_n hx hb dX11_putBytes_3 rfl (lv_at hl 0 rfl) ?_
  refine lv_if_lt (tgt := 46) hx hb dX11_putBytes_4 (by decide) (fun c9 => absurd c9 (by decide)) (fun c9 => ?_)
  clear c9
  refine lv_aload_n hx hb dX11_putBytes_7 rfl (lv_at hl 1 rfl) ?_
  refine va_get (D := (dC, dI)) (ci := 13) (v := .int 4) (C := RX11) (T := TX11) (N := 5) hx hb hts in_cc_putBytes_4_RX11 hown hK hP 0 rfl rfl 1 (by decide) (hts (.fieldLink RX11 27 "LevelUnits" "length" "I") (List.mem_of_getElem? (i := 1) rfl)) (fun _ h9 => h9) rfl dX11_putBytes_8 ?_
  refine lv_sipush (v := 6000) hx hb dX11_putBytes_11 (by decide) ?_
  refine lv_icmp_ge (tgt := 46) hx hb dX11_putBytes_14 (by decide) (fun c9 => absurd c9 (by decide)) (fun c9 => ?_)
  clear c9
  refine lv_aload_n hx hb dX11_putBytes_17 rfl (lv_at hl 1 rfl) ?_
  refine va_get (D := (dC, dI)) (ci := 13) (v := .ref qt) (C := RX11) (T := TX11) (N := 5) hx hb hts in_cc_putBytes_4_RX11 hown hK hP 0 rfl rfl 0 (by decide) (hts (.fieldLink RX11 9 "LevelUnits" "tape" "[B") (List.mem_of_getElem? (i := 2) rfl)) (fun _ h9 => h9) rfl dX11_putBytes_18 ?_
  refine lv_aload_n hx hb dX11_putBytes_21 rfl (lv_at hl 1 rfl) ?_
  refine va_get (D := (dC, dI)) (ci := 13) (v := .int 4) (C := RX11) (T := TX11) (N := 5) hx hb hts in_cc_putBytes_4_RX11 hown hK hP 0 rfl rfl 1 (by decide) (hts (.fieldLink RX11 27 "LevelUnits" "length" "I") (List.mem_of_getElem? (i := 1) rfl)) (fun _ h9 => h9) rfl dX11_putBytes_22 ?_
  refine lv_iload_n hx hb dX11_putBytes_25 rfl (lv_at hl 2 rfl) ?_
  refine lv_iload_n hx hb dX11_putBytes_26 rfl (lv_at hl 0 rfl) ?_
  refine lv_iushr hx hb dX11_putBytes_27 rfl ?_
  refine lv_topi (fun x_1 ex_1 => ?_)
  refine lv_i2b hx hb dX11_putBytes_28 rfl ?_
  refine lv_topi (fun x_2 ex_2 => ?_)
  refine va_bast hx hb hK hP hD hS 1 0 rfl rfl (i := 4) (by unfold vp_in; decide) dX11_putBytes_29 (fun H locs hP hD hS => ?_)
  obtain ⟨f_3, ef_3⟩ : ∃ z, z = upd f (Int32.toNatClampNeg 4) (vp_nar .byte x_2) := ⟨_, rfl⟩
  rw [← ef_3] at hP hD
  have hP : va_P (dC, dI) vwCl [(h0, .inr (13, [.ref qt, .int 4, .ref qs, .ref qm, .null])), (qt, .inl (cy, 6000, .inl f_3))] H := hP
  have hD : va_D A [(h0, .inr (13, [.ref qt, .int 4, .ref qs, .ref qm, .null])), (qt, .inl (cy, 6000, .inl f_3))] := hD
  refine lv_aload_n hx hb dX11_putBytes_30 rfl (lv_at hl 1 rfl) ?_
  refine lv_dup hx hb dX11_putBytes_31 rfl ?_
  refine va_get (D := (dC, dI)) (ci := 13) (v := .int 4) (C := RX11) (T := TX11) (N := 5) hx hb hts in_cc_putBytes_4_RX11 hown hK hP 0 rfl rfl 1 (by decide) (hts (.fieldLink RX11 27 "LevelUnits" "length" "I") (List.mem_of_getElem? (i := 1) rfl)) (fun _ h9 => h9) rfl dX11_putBytes_32 ?_
  refine lv_iconst (v := 1) hx hb dX11_putBytes_35 (by decide) ?_
  refine lv_iadd hx hb dX11_putBytes_36 ?_
  refine lv_topi (fun y9 e9 => ?_)
  have e9 : y9 = 5 := by rw [e9]; decide
  subst e9
  refine va_put (D := (dC, dI)) (ci := 13) (v := .int 5) (ty := .int) (C := RX11) (T := TX11) (N := 5) hx hb hts in_cc_putBytes_4_RX11 tyX11 tyX11_ok nmX11 hown hK hP hD hS 0 rfl rfl 1 (by decide) (hts (.fieldLink RX11 27 "LevelUnits" "length" "I") (List.mem_of_getElem? (i := 1) rfl)) (fun _ h9 => h9) rfl (by decide +kernel) rfl rfl (Nat.le_of_ble_eq_true rfl) dX11_putBytes_37 (fun H locs hP hD hS => ?_)
  have hP : va_P (dC, dI) vwCl [(h0, .inr (13, [.ref qt, .int 5, .ref qs, .ref qm, .null])), (qt, .inl (cy, 6000, .inl f_3))] H := hP
  have hD : va_D A [(h0, .inr (13, [.ref qt, .int 5, .ref qs, .ref qm, .null])), (qt, .inl (cy, 6000, .inl f_3))] := hD
  refine lv_iinc (v := 16) (lv' := [(2, .int 16), (0, .ref h0), (1, .int i)]) hx hb dX11_putBytes_40 hl (k := 0) rfl (by decide) (by decide) rfl (fun ls hl => ?_)
  refine lv_goto (tgt := 3) hx hb dX11_putBytes_43 (by decide) ?_
  refine lv_iload_n hx hb dX11_putBytes_3 rfl (lv_at hl 0 rfl) ?_
  refine lv_if_lt (tgt := 46) hx hb dX11_putBytes_4 (by decide) (fun c9 => absurd c9 (by decide)) (fun c9 => ?_)
  clear c9
  refine lv_aload_n hx hb dX11_putBytes_7 rfl (lv_at hl 1 rfl) ?_
  refine va_get (D := (dC, dI)) (ci := 13) (v := .int 5) (C := RX11) (T := TX11) (N := 5) hx hb hts in_cc_putBytes_4_RX11 hown hK hP 0 rfl rfl 1 (by decide) (hts (.fieldLink RX11 27 "LevelUnits" "length" "I") (List.mem_of_getElem? (i := 1) rfl)) (fun _ h9 => h9) rfl dX11_putBytes_8 ?_
  refine lv_sipush (v := 6000) hx hb dX11_putBytes_11 (by decide) ?_
  refine lv_icmp_ge (tgt := 46) hx hb dX11_putBytes_14 (by decide) (fun c9 => absurd c9 (by decide)) (fun c9 => ?_)
  clear c9
  refine lv_aload_n hx hb dX11_putBytes_17 rfl (lv_at hl 1 rfl) ?_
  refine va_get (D := (dC, dI)) (ci := 13) (v := .ref qt) (C := RX11) (T := TX11) (N := 5) hx hb hts in_cc_putBytes_4_RX11 hown hK hP 0 rfl rfl 0 (by decide) (hts (.fieldLink RX11 9 "LevelUnits" "tape" "[B") (List.mem_of_getElem? (i := 2) rfl)) (fun _ h9 => h9) rfl dX11_putBytes_18 ?_
  refine lv_aload_n hx hb dX11_putBytes_21 rfl (lv_at hl 1 rfl) ?_
  refine va_get (D := (dC, dI)) (ci := 13) (v := .int 5) (C := RX11) (T := TX11) (N := 5) hx hb hts in_cc_putBytes_4_RX11 hown hK hP 0 rfl rfl 1 (by decide) (hts (.fieldLink RX11 27 "LevelUnits" "length" "I") (List.mem_of_getElem? (i := 1) rfl)) (fun _ h9 => h9) rfl dX11_putBytes_22 ?_
  refine lv_iload_n hx hb dX11_putBytes_25 rfl (lv_at hl 2 rfl) ?_
  refine lv_iload_n hx hb dX11_putBytes_26 rfl (lv_at hl 0 rfl) ?_
  refine lv_iushr hx hb dX11_putBytes_27 rfl ?_
  refine lv_topi (fun x_4 ex_4 => ?_)
  refine lv_i2b hx hb dX11_putBytes_28 rfl ?_
  refine lv_topi (fun x_5 ex_5 => ?_)
  refine va_bast hx hb hK hP hD hS 1 0 rfl rfl (i := 5) (by unfold vp_in; decide) dX11_putBytes_29 (fun H locs hP hD hS => ?_)
  obtain ⟨f_6, ef_6⟩ : ∃ z, z = upd f_3 (Int32.toNatClampNeg 5) (vp_nar .byte x_5) := ⟨_, rfl⟩
  rw [← ef_6] at hP hD
  have hP : va_P (dC, dI) vwCl [(h0, .inr (13, [.ref qt, .int 5, .ref qs, .ref qm, .null])), (qt, .inl (cy, 6000, .inl f_6))] H := hP
  have hD : va_D A [(h0, .inr (13, [.ref qt, .int 5, .ref qs, .ref qm, .null])), (qt, .inl (cy, 6000, .inl f_6))] := hD
  refine lv_aload_n hx hb dX11_putBytes_30 rfl (lv_at hl 1 rfl) ?_
  refine lv_dup hx hb dX11_putBytes_31 rfl ?_
  refine va_get (D := (dC, dI)) (ci := 13) (v := .int 5) (C := RX11) (T := TX11) (N := 5) hx hb hts in_cc_putBytes_4_RX11 hown hK hP 0 rfl rfl 1 (by decide) (hts (.fieldLink RX11 27 "LevelUnits" "length" "I") (List.mem_of_getElem? (i := 1) rfl)) (fun _ h9 => h9) rfl dX11_putBytes_32 ?_
  refine lv_iconst (v := 1) hx hb dX11_putBytes_35 (by decide) ?_
  refine lv_iadd hx hb dX11_putBytes_36 ?_
  refine lv_topi (fun y9 e9 => ?_)
  have e9 : y9 = 6 := by rw [e9]; decide
  subst e9
  refine va_put (D := (dC, dI)) (ci := 13) (v := .int 6) (ty := .int) (C := RX11) (T := TX11) (N := 5) hx hb hts in_cc_putBytes_4_RX11 tyX11 tyX11_ok nmX11 hown hK hP hD hS 0 rfl rfl 1 (by decide) (hts (.fieldLink RX11 27 "LevelUnits" "length" "I") (List.mem_of_getElem? (i := 1) rfl)) (fun _ h9 => h9) rfl (by decide +kernel) rfl rfl (Nat.le_of_ble_eq_true rfl) dX11_putBytes_37 (fun H locs hP hD hS => ?_)
  have hP : va_P (dC, dI) vwCl [(h0, .inr (13, [.ref qt, .int 6, .ref qs, .ref qm, .null])), (qt, .inl (cy, 6000, .inl f_6))] H := hP
  have hD : va_D A [(h0, .inr (13, [.ref qt, .int 6, .ref qs, .ref qm, .null])), (qt, .inl (cy, 6000, .inl f_6))] := hD
  refine lv_iinc (v := 8) (lv' := [(2, .int 8), (0, .ref h0), (1, .int i)]) hx hb dX11_putBytes_40 hl (k := 0) rfl (by decide) (by decide) rfl (fun ls hl => ?_)
  refine lv_goto (tgt := 3) hx hb dX11_putBytes_43 (by decide) ?_
  refine lv_iload_n hx hb dX11_putBytes_3 rfl (lv_at hl 0 rfl) ?_
  refine lv_if_lt (tgt := 46) hx hb dX11_putBytes_4 (by decide) (fun c9 => absurd c9 (by decide)) (fun c9 => ?_)
  clear c9
  refine lv_aload_n hx hb dX11_putBytes_7 rfl (lv_at hl 1 rfl) ?_
  refine va_get (D := (dC, dI)) (ci := 13) (v := .int 6) (C := RX11) (T := TX11) (N := 5) hx hb hts in_cc_putBytes_4_RX11 hown hK hP 0 rfl rfl 1 (by decide) (hts (.fieldLink RX11 27 "LevelUnits" "length" "I") (List.mem_of_getElem? (i := 1) rfl)) (fun _ h9 => h9) rfl dX11_putBytes_8 ?_
  refine lv_sipush (v := 6000) hx hb dX11_putBytes_11 (by decide) ?_
  refine lv_icmp_ge (tgt := 46) hx hb dX11_putBytes_14 (by decide) (fun c9 => absurd c9 (by decide)) (fun c9 => ?_)
  clear c9
  refine lv_aload_n hx hb dX11_putBytes_17 rfl (lv_at hl 1 rfl) ?_
  refine va_get (D := (dC, dI)) (ci := 13) (v := .ref qt) (C := RX11) (T := TX11) (N := 5) hx hb hts in_cc_putBytes_4_RX11 hown hK hP 0 rfl rfl 0 (by decide) (hts (.fieldLink RX11 9 "LevelUnits" "tape" "[B") (List.mem_of_getElem? (i := 2) rfl)) (fun _ h9 => h9) rfl dX11_putBytes_18 ?_
  refine lv_aload_n hx hb dX11_putBytes_21 rfl (lv_at hl 1 rfl) ?_
  refine va_get (D := (dC, dI)) (ci := 13) (v := .int 6) (C := RX11) (T := TX11) (N := 5) hx hb hts in_cc_putBytes_4_RX11 hown hK hP 0 rfl rfl 1 (by decide) (hts (.fieldLink RX11 27 "LevelUnits" "length" "I") (List.mem_of_getElem? (i := 1) rfl)) (fun _ h9 => h9) rfl dX11_putBytes_22 ?_
  refine lv_iload_n hx hb dX11_putBytes_25 rfl (lv_at hl 2 rfl) ?_
  refine lv_iload_n hx hb dX11_putBytes_26 rfl (lv_at hl 0 rfl) ?_
  refine lv_iushr hx hb dX11_putBytes_27 rfl ?_
  refine lv_topi (fun x_7 ex_7 => ?_)
  refine lv_i2b hx hb dX11_putBytes_28 rfl ?_
  refine lv_topi (fun x_8 ex_8 => ?_)
  refine va_bast hx hb hK hP hD hS 1 0 rfl rfl (i := 6) (by unfold vp_in; decide) dX11_putBytes_29 (fun H locs hP hD hS => ?_)
  obtain ⟨f_9, ef_9⟩ : ∃ z, z = upd f_6 (Int32.toNatClampNeg 6) (vp_nar .byte x_8) := ⟨_, rfl⟩
  rw [← ef_9] at hP hD
  have hP : va_P (dC, dI) vwCl [(h0, .inr (13, [.ref qt, .int 6, .ref qs, .ref qm, .null])), (qt, .inl (cy, 6000, .inl f_9))] H := hP
  have hD : va_D A [(h0, .inr (13, [.ref qt, .int 6, .ref qs, .ref qm, .null])), (qt, .inl (cy, 6000, .inl f_9))] := hD
  refine lv_aload_n hx hb dX11_putBytes_30 rfl (lv_at hl 1 rfl) ?_
  refine lv_dup hx hb dX11_putBytes_31 rfl ?_
  refine va_get (D := (dC, dI)) (ci := 13) (v := .int 6) (C := RX11) (T := TX11) (N := 5) hx hb hts in_cc_putBytes_4_RX11 hown hK hP 0 rfl rfl 1 (by decide) (hts (.fieldLink RX11 27 "LevelUnits" "length" "I") (List.mem_of_getElem? (i := 1) rfl)) (fun _ h9 => h9) rfl dX11_putBytes_32 ?_
  refine lv_iconst (v := 1) hx hb dX11_putBytes_35 (by decide) ?_
  refine lv_iadd hx hb dX11_putBytes_36 ?_
  refine lv_topi (fun y9 e9 => ?_)
  have e9 : y9 = 7 := by rw [e9]; decide
  subst e9
  refine va_put (D := (dC, dI)) (ci := 13) (v := .int 7) (ty := .int) (C := RX11) (T := TX11) (N := 5) hx hb hts in_cc_putBytes_4_RX11 tyX11 tyX11_ok nmX11 hown hK hP hD hS 0 rfl rfl 1 (by decide) (hts (.fieldLink RX11 27 "LevelUnits" "length" "I") (List.mem_of_getElem? (i := 1) rfl)) (fun _ h9 => h9) rfl (by decide +kernel) rfl rfl (Nat.le_of_ble_eq_true rfl) dX11_putBytes_37 (fun H locs hP hD hS => ?_)
  have hP : va_P (dC, dI) vwCl [(h0, .inr (13, [.ref qt, .int 7, .ref qs, .ref qm, .null])), (qt, .inl (cy, 6000, .inl f_9))] H := hP
  have hD : va_D A [(h0, .inr (13, [.ref qt, .int 7, .ref qs, .ref qm, .null])), (qt, .inl (cy, 6000, .inl f_9))] := hD
  refine lv_iinc (v := 0) (lv' := [(2, .int 0), (0, .ref h0), (1, .int i)]) hx hb dX11_putBytes_40 hl (k := 0) rfl (by decide) (by decide) rfl (fun ls hl => ?_)
  refine lv_goto (tgt := 3) hx hb dX11_putBytes_43 (by decide) ?_
  refine lv_iload_n hx hb dX11_putBytes_3 rfl (lv_at hl 0 rfl) ?_
  refine lv_if_lt (tgt := 46) hx hb dX11_putBytes_4 (by decide) (fun c9 => absurd c9 (by decide)) (fun c9 => ?_)
  clear c9
  refine lv_aload_n hx hb dX11_putBytes_7 rfl (lv_at hl 1 rfl) ?_
  refine va_get (D := (dC, dI)) (ci := 13) (v := .int 7) (C := RX11) (T := TX11) (N := 5) hx hb hts in_cc_putBytes_4_RX11 hown hK hP 0 rfl rfl 1 (by decide) (hts (.fieldLink RX11 27 "LevelUnits" "length" "I") (List.mem_of_getElem? (i := 1) rfl)) (fun _ h9 => h9) rfl dX11_putBytes_8 ?_
  refine lv_sipush (v := 6000) hx hb dX11_putBytes_11 (by decide) ?_
  refine lv_icmp_ge (tgt := 46) hx hb dX11_putBytes_14 (by decide) (fun c9 => absurd c9 (by decide)) (fun c9 => ?_)
  clear c9
  refine lv_aload_n hx hb dX11_putBytes_17 rfl (lv_at hl 1 rfl) ?_
  refine va_get (D := (dC, dI)) (ci := 13) (v := .ref qt) (C := RX11) (T := TX11) (N := 5) hx hb hts in_cc_putBytes_4_RX11 hown hK hP 0 rfl rfl 0 (by decide) (hts (.fieldLink RX11 9 "LevelUnits" "tape" "[B") (List.mem_of_getElem? (i := 2) rfl)) (fun _ h9 => h9) rfl dX11_putBytes_18 ?_
  refine lv_aload_n hx hb dX11_putBytes_21 rfl (lv_at hl 1 rfl) ?_
  refine va_get (D := (dC, dI)) (ci := 13) (v := .int 7) (C := RX11) (T := TX11) (N := 5) hx hb hts in_cc_putBytes_4_RX11 hown hK hP 0 rfl rfl 1 (by decide) (hts (.fieldLink RX11 27 "LevelUnits" "length" "I") (List.mem_of_getElem? (i := 1) rfl)) (fun _ h9 => h9) rfl dX11_putBytes_22 ?_
  refine lv_iload_n hx hb dX11_putBytes_25 rfl (lv_at hl 2 rfl) ?_
  refine lv_iload_n hx hb dX11_putBytes_26 rfl (lv_at hl 0 rfl) ?_
  refine lv_iushr hx hb dX11_putBytes_27 rfl ?_
  refine lv_topi (fun x_10 ex_10 => ?_)
  refine lv_i2b hx hb dX11_putBytes_28 rfl ?_
  refine lv_topi (fun x_11 ex_11 => ?_)
  refine va_bast hx hb hK hP hD hS 1 0 rfl rfl (i := 7) (by unfold vp_in; decide) dX11_putBytes_29 (fun H locs hP hD hS => ?_)
  obtain ⟨f_12, ef_12⟩ : ∃ z, z = upd f_9 (Int32.toNatClampNeg 7) (vp_nar .byte x_11) := ⟨_, rfl⟩
  rw [← ef_12] at hP hD
  have hP : va_P (dC, dI) vwCl [(h0, .inr (13, [.ref qt, .int 7, .ref qs, .ref qm, .null])), (qt, .inl (cy, 6000, .inl f_12))] H := hP
  have hD : va_D A [(h0, .inr (13, [.ref qt, .int 7, .ref qs, .ref qm, .null])), (qt, .inl (cy, 6000, .inl f_12))] := hD
  refine lv_aload_n hx hb dX11_putBytes_30 rfl (lv_at hl 1 rfl) ?_
  refine lv_dup hx hb dX11_putBytes_31 rfl ?_
  refine va_get (D := (dC, dI)) (ci := 13) (v := .int 7) (C := RX11) (T := TX11) (N := 5) hx hb hts in_cc_putBytes_4_RX11 hown hK hP 0 rfl rfl 1 (by decide) (hts (.fieldLink RX11 27 "LevelUnits" "length" "I") (List.mem_of_getElem? (i := 1) rfl)) (fun _ h9 => h9) rfl dX11_putBytes_32 ?_
  refine lv_iconst (v := 1) hx hb dX11_putBytes_35 (by decide) ?_
  refine lv_iadd hx hb dX11_putBytes_36 ?_
  refine lv_topi (fun y9 e9 => ?_)
  have e9 : y9 = 8 := by rw [e9]; decide
  subst e9
  refine va_put (D := (dC, dI)) (ci := 13) (v := .int 8) (ty := .int) (C := RX11) (T := TX11) (N := 5) hx hb hts in_cc_putBytes_4_RX11 tyX11 tyX11_ok nmX11 hown hK hP hD hS 0 rfl rfl 1 (by decide) (hts (.fieldLink RX11 27 "LevelUnits" "length" "I") (List.mem_of_getElem? (i := 1) rfl)) (fun _ h9 => h9) rfl (by decide +kernel) rfl rfl (Nat.le_of_ble_eq_true rfl) dX11_putBytes_37 (fun H locs hP hD hS => ?_)
  have hP : va_P (dC, dI) vwCl [(h0, .inr (13, [.ref qt, .int 8, .ref qs, .ref qm, .null])), (qt, .inl (cy, 6000, .inl f_12))] H := hP
  have hD : va_D A [(h0, .inr (13, [.ref qt, .int 8, .ref qs, .ref qm, .null])), (qt, .inl (cy, 6000, .inl f_12))] := hD
  refine lv_iinc (v := (-8)) (lv' := [(2, .int ((-8))), (0, .ref h0), (1, .int i)]) hx hb dX11_putBytes_40 hl (k := 0) rfl (by decide) (by decide) rfl (fun ls hl => ?_)
  refine lv_goto (tgt := 3) hx hb dX11_putBytes_43 (by decide) ?_
  refine lv_iload_n hx hb dX11_putBytes_3 rfl (lv_at hl 0 rfl) ?_
  refine lv_if_lt (tgt := 46) hx hb dX11_putBytes_4 (by decide) (fun c9 => ?_) (fun c9 => absurd (by decide) c9)
  clear c9
  have hP9 := hP.sub (ws' := [(h0, .inr (13, [.ref qt, .int 8, .ref qs, .ref qm, .null])), (qt, .inl (cy, 6000, .inl f_12))]) [0, 1] rfl
  have hD9 := hD.sub (ws' := [(h0, .inr (13, [.ref qt, .int 8, .ref qs, .ref qm, .null])), (qt, .inl (cy, 6000, .inl f_12))]) [0, 1] (by decide) rfl
  have hK9 := hK.sub (tys' := [(cy, .byte)]) [0] rfl
  refine W.widen (k := 0) (n := 0) (Nat.le_of_ble_eq_true rfl) (Nat.le_of_ble_eq_true rfl) ?_
  exact W.vret hx hb hr (fun t ht hW => ⟨⟨(), rfl, trivial, f_12, by rw [ht]; exact hP9, va_K.moved hW.alike hK9, hD9⟩, hS.F ht⟩) hS.2.2 dX11_putBytes_46
def ws_cc_putBytes_8 : List Cond := .code yX11_putBytes cX11_putBytes 3 none :: ([.fieldLink RX11 27 "LevelUnits" "length" "I", .fieldLink RX11 9 "LevelUnits" "tape" "[B"] ++ wsX110)
theorem in_cc_putBytes_8_RX11 : ∀ w ∈ wsX110, w ∈ ws_cc_putBytes_8 := fun _ h => List.mem_cons_of_mem _ (List.mem_append_right _ h)
set_option maxHeartbeats 4000000 in
set_option maxRecDepth 100000 in
theorem cc_putBytes_8 (l : Launch) (dC : Nat → ClassId) (dI : Nat → Nat → Nat) (h0 : Nat) (qt : Nat) (qs : Nat) (qm : Nat) (cy : ClassId) (f : Nat → Int32) (i : Int32) (sz : Nat) : Met l yX11_putBytes ws_cc_putBytes_8 ({ frames := 0, cells := 0, slots := 0, locals := 0 }) (va_Pc [.ref h0, .int i] (fun U => U.heap.size = sz ∧ va_P (dC, dI) vwCl [(h0, .inr (13, [.ref qt, .int 8, .ref qs, .ref qm, .null])), (qt, .inl (cy, 6000, .inl f))] U.heap ∧ va_K (dC, dI) vwCl [(cy, .byte)] U ∧ va_D (fun _ => True) [(h0, .inr (13, [.ref qt, .int 8, .ref qs, .ref qm, .null])), (qt, .inl (cy, 6000, .inl f))])) (va_Qv (fun _ : Unit => True) (fun _ t => ∃ f_a : Nat → Int32, va_P (dC, dI) vwCl [(h0, .inr (13, [.ref qt, .int 12, .ref qs, .ref qm, .null])), (qt, .inl (cy, 6000, .inl f_a))] t.heap ∧ va_K (dC, dI) vwCl [(cy, .byte)] t ∧ va_D (va_A [(h0, .inr (13, [.ref qt, .int 8, .ref qs, .ref qm, .null])), (qt, .inl (cy, 6000, .inl f))] sz) [(h0, .inr (13, [.ref qt, .int 12, .ref qs, .ref qm, .null])), (qt, .inl (cy, 6000, .inl f_a))]) (va_A [(h0, .inr (13, [.ref qt, .int 8, .ref qs, .ref qm, .null])), (qt, .inl (cy, 6000, .inl f))] sz)) 0 0 (va_A [(h0, .inr (13, [.ref qt, .int 8, .ref qs, .ref qm, .null])), (qt, .inl (cy, 6000, .inl f))] sz) := by
  refine Met.ofW (cc := cX11_putBytes) (maxL := 3) (ret := none) (by decide) rfl ?_
  intro p e s m args below meth c s₁ B hml hv
  obtain ⟨rfl, hsz, hP, hK, hD0⟩ := hv
  have hx := B.exec
  have hb := B.bytes
  have hr := B.returns
  have hts := atoms_spec (ws := ws_cc_putBytes_8) B.pre
  have hown : s.vm.findClass RX11 = some m.cls := findClass_of_methodNamed B.named
  have hlocks := B.notSynchronized
  subst hsz
  have hD := hD0.self (sz := s.heap.size)
  generalize hAe : va_A [(h0, .inr (13, [.ref qt, .int 8, .ref qs, .ref qm, .null])), (qt, .inl (cy, 6000, .inl f))] s.heap.size = A at hD ⊢
  have hA : ∀ q : Nat, s.heap.size ≤ q → A q := fun q h => by rw [← hAe]; exact Or.inr h
  have hS : va_S A s.heap s.heap [] := va_S.rf
  have hP : va_P (dC, dI) vwCl [(h0, .inr (13, [.ref qt, .int 8, .ref qs, .ref qm, .null])), (qt, .inl (cy, 6000, .inl f))] s.heap := hP
  have hl := lv_entry ([.ref h0, .int i]) (n := 3) (Nat.le_of_ble_eq_true rfl)
  rw [lg_entry_eq]
  generalize (lg_sl ([.ref h0, .int i]) ++ List.replicate (3 - (lg_sl ([.ref h0, .int i])).length) Slot.unset).toArray = ls at hl ⊢
  have hl : lv_has ls 3 [(0, .ref h0), (1, .int i)] := hl
  refine lv_bipush (v := 24) hx hb dX11_putBytes_0 (by decide) ?_
  refine lv_istore_n (lv' := [(2, .int 24), (0, .ref h0), (1, .int i)]) hx hb dX11_putBytes_2 rfl hl (by decide) rfl (fun ls hl => ?_)
  refine lv_iload_n hx hb dX11_putBytes_3 rfl (lv_at hl 0 rfl) ?_
  refine lv_if_lt (tgt := 46) hx hb dX11_putBytes_4 (by decide) (fun c9 => absurd c9 (by decide)) (fun c9 => ?_)
  clear c9
  refine lv_aload_n hx hb dX11_putBytes_7 rfl (lv_at hl 1 rfl) ?_
  refine va_get (D := (dC, dI)) (ci := 13) (v := .int 8) (C := RX11) (T := TX11) (N := 5) hx hb hts in_cc_putBytes_8_RX11 hown hK hP 0 rfl rfl 1 (by decide) (hts (.fieldLink RX11 27 "LevelUnits" "length" "I") (List.mem_of_getElem? (i := 1) rfl)) (fun _ h9 => h9) rfl dX11_putBytes_8 ?_
  refine lv_sipush (v := 6000) hx hb dX11_putBytes_11 (by decide) ?_
  refine lv_icmp_ge (tgt := 46) hx hb dX11_putBytes_14 (by decide) (fun c9 => absurd c9 (by decide)) (fun c9 => ?_)
  clear c9
  refine lv_aload_n hx hb dX11_putBytes_17 rfl (lv_at hl 1 rfl) ?_
  refine va_get (D := (dC, dI)) (ci := 13) (v := .ref qt) (C := RX11) (T := TX11) (N := 5) hx hb hts in_cc_putBytes_8_RX11 hown hK hP 0 rfl rfl 0 (by decide) (hts (.fieldLink RX11 9 "LevelUnits" "tape" "[B") (List.mem_of_getElem? (i := 2) rfl)) (fun _ h9 => h9) rfl dX11_putBytes_18 ?_
  refine lv_aload_n hx hb dX11_putBytes_21 rfl (lv_at hl 1 rfl) ?_
  refine va_get (D := (dC, dI)) (ci := 13) (v := .int 8) (C := RX11) (T := TX11) (N := 5) hx hb hts in_cc_putBytes_8_RX11 hown hK hP 0 rfl rfl 1 (by decide) (hts (.fieldLink RX11 27 "LevelUnits" "length" "I") (List.mem_of_getElem? (i := 1) rfl)) (fun _ h9 => h9) rfl dX11_putBytes_22 ?_
  refine lv_iload_n hx hb dX11_putBytes_25 rfl (lv_at hl 2 rfl) ?_
  refine lv_iload_n hx hb dX11_putBytes_26 rfl (lv_at hl 0 rfl) ?_
  refine lv_iushr hx hb dX11_putBytes_27 rfl ?_
  refine lv_topi (fun x_1 ex_1 => ?_)
  refine lv_i2b hx hb dX11_putBytes_28 rfl ?_
  refine lv_topi (fun x_2 ex_2 => ?_)
  refine va_bast hx hb hK hP hD hS 1 0 rfl rfl (i := 8) (by unfold vp_in; decide) dX11_putBytes_29 (fun H locs hP hD hS => ?_)
  obtain ⟨f_3, ef_3⟩ : ∃ z, z = upd f (Int32.toNatClampNeg 8) (vp_nar .byte x_2) := ⟨_, rfl⟩
  rw [← ef_3] at hP hD
  have hP : va_P (dC, dI) vwCl [(h0, .inr (13, [.ref qt, .int 8, .ref qs, .ref qm, .null])), (qt, .inl (cy, 6000, .inl f_3))] H := hP
  have hD : va_D A [(h0, .inr (13, [.ref qt, .int 8, .ref qs, .ref qm, .null])), (qt, .inl (cy, 6000, .inl f_3))] := hD
  refine lv_aload_n hx hb dX11_putBytes_30 rfl (lv_at hl 1 rfl) ?_
  refine lv_dup hx hb dX11_putBytes_31 rfl ?_
  refine va_get (D := (dC, dI)) (ci := 13) (v := .int 8) (C := RX11) (T := TX11) (N := 5) hx hb hts in_cc_putBytes_8_RX11 hown hK hP 0 rfl rfl 1 (by decide) (hts (.fieldLink RX11 27 "LevelUnits" "length" "I") (List.mem_of_getElem? (i := 1) rfl)) (fun _ h9 => h9) rfl dX11_putBytes_32 ?_
  refine lv_iconst (v := 1) hx hb dX11_putBytes_35 (by decide) ?_
  refine lv_iadd hx hb dX11_putBytes_36 ?_
  refine lv_topi (fun y9 e9 => ?_)
  have e9 : y9 = 9 := by rw [e9]; decide
  subst e9
  refine va_put (D := (dC, dI)) (ci := 13) (v := .int 9) (ty := .int) (C := RX11) (T := TX11) (N := 5) hx hb hts in_cc_putBytes_8_RX11 tyX11 tyX11_ok nmX11 hown hK hP hD hS 0 rfl rfl 1 (by decide) (hts (.fieldLink RX11 27 "LevelUnits" "length" "I") (List.mem_of_getElem? (i := 1) rfl)) (fun _ h9 => h9) rfl (by decide +kernel) rfl rfl (Nat.le_of_ble_eq_true rfl) dX11_putBytes_37 (fun H locs hP hD hS => ?_)
  have hP : va_P (dC, dI) vwCl [(h0, .inr (13, [.ref qt, .int 9, .ref qs, .ref qm, .null])), (qt, .inl (cy, 6000, .inl f_3))] H := hP
  have hD : va_D A [(h0, .inr (13, [.ref qt, .int 9, .ref qs, .ref qm, .null])), (qt, .inl (cy, 6000, .inl f_3))] := hD
  refine lv_iinc (v := 16) (lv' := [(2, .int 16), (0, .ref h0), (1, .int i)]) hx hb dX11_putBytes_40 hl (k := 0) rfl (by decide) (by decide) rfl (fun ls hl => ?_)
  refine lv_goto (tgt := 3) hx hb dX11_putBytes_43 (by decide) ?_
  refine lv_iload_n hx hb dX11_putBytes_3 rfl (lv_at hl 0 rfl) ?_
  refine lv_if_lt (tgt := 46) hx hb dX11_putBytes_4 (by decide) (fun c9 => absurd c9 (by decide)) (fun c9 => ?_)
  clear c9
  refine lv_aload_n hx hb dX11_putBytes_7 rfl (lv_at hl 1 rfl) ?_
  refine va_get (D := (dC, dI)) (ci := 13) (v := .int 9) (C := RX11) (T := TX11) (N := 5) hx hb hts in_cc_putBytes_8_RX11 hown hK hP 0 rfl rfl 1 (by decide) (hts (.fieldLink RX11 27 "LevelUnits" "length" "I") (List.mem_of_getElem? (i := 1) rfl)) (fun _ h9 => h9) rfl dX11_putBytes_8 ?_
  refine lv_sipush (v := 6000) hx hb dX11_putBytes_11 (by decide) ?_
  refine lv_icmp_ge (tgt := 46) hx hb dX11_putBytes_14 (by decide) (fun c9 => absurd c9 (by decide)) (fun c9 => ?_)
  clear c9
  refine lv_aload_n hx hb dX11_putBytes_17 rfl (lv_at hl 1 rfl) ?_
  refine va_get (D := (dC, dI)) (ci := 13) (v := .ref qt) (C := RX11) (T := TX11) (N := 5) hx hb hts in_cc_putBytes_8_RX11 hown hK hP 0 rfl rfl 0 (by decide) (hts (.fieldLink RX11 9 "LevelUnits" "tape" "[B") (List.mem_of_getElem? (i := 2) rfl)) (fun _ h9 => h9) rfl dX11_putBytes_18 ?_
  refine lv_aload_n hx hb dX11_putBytes_21 rfl (lv_at hl 1 rfl) ?_
  refine va_get (D := (dC, dI)) (ci := 13) (v := .int 9) (C := RX11) (T := TX11) (N := 5) hx hb hts in_cc_putBytes_8_RX11 hown hK hP 0 rfl rfl 1 (by decide) (hts (.fieldLink RX11 27 "LevelUnits" "length" "I") (List.mem_of_getElem? (i := 1) rfl)) (fun _ h9 => h9) rfl dX11_putBytes_22 ?_
  refine lv_iload_n hx hb dX11_putBytes_25 rfl (lv_at hl 2 rfl) ?_
  refine lv_iload_n hx hb dX11_putBytes_26 rfl (lv_at hl 0 rfl) ?_
  refine lv_iushr hx hb dX11_putBytes_27 rfl ?_
  refine lv_topi (fun x_4 ex_4 => ?_)
  refine lv_i2b hx hb dX11_putBytes_28 rfl ?_
  refine lv_topi (fun x_5 ex_5 => ?_)
  refine va_bast hx hb hK hP hD hS 1 0 rfl rfl (i := 9) (by unfold vp_in; decide) dX11_putBytes_29 (fun H locs hP hD hS => ?_)
  obtain ⟨f_6, ef_6⟩ : ∃ z, z = upd f_3 (Int32.toNatClampNeg 9) (vp_nar .byte x_5) := ⟨_, rfl⟩
  rw [← ef_6] at hP hD
  have hP : va_P (dC, dI) vwCl [(h0, .inr (13, [.ref qt, .int 9, .ref qs, .ref qm, .null])), (qt, .inl (cy, 6000, .inl f_6))] H := hP
  have hD : va_D A [(h0, .inr (13, [.ref qt, .int 9, .ref qs, .ref qm, .null])), (qt, .inl (cy, 6000, .inl f_6))] := hD
  refine lv_aload_n hx hb dX11_putBytes_30 rfl (lv_at hl 1 rfl) ?_
  refine lv_dup hx hb dX11_putBytes_31 rfl ?_
  refine va_get (D := (dC, dI)) (ci := 13) (v := .int 9) (C := RX11) (T := TX11) (N := 5) hx hb hts in_cc_putBytes_8_RX11 hown hK hP 0 rfl rfl 1 (by decide) (hts (.fieldLink RX11 27 "LevelUnits" "length" "I") (List.mem_of_getElem? (i := 1) rfl)) (fun _ h9 => h9) rfl dX11_putBytes_32 ?_
  refine lv_iconst (v := 1) hx hb dX11_putBytes_35 (by decide) ?_
  refine lv_iadd hx hb dX11_putBytes_36 ?_
  refine lv_topi (fun y9 e9 => ?_)
  have e9 : y9 = 10 := by rw [e9]; decide
  subst e9
  refine va_put (D := (dC, dI)) (ci := 13) (v := .int 10) (ty := .int) (C := RX11) (T := TX11) (N := 5) hx hb hts in_cc_putBytes_8_RX11 tyX11 tyX11_ok nmX11 hown hK hP hD hS 0 rfl rfl 1 (by decide) (hts (.fieldLink RX11 27 "LevelUnits" "length" "I") (List.mem_of_getElem? (i := 1) rfl)) (fun _ h9 => h9) rfl (by decide +kernel) rfl rfl (Nat.le_of_ble_eq_true rfl) dX11_putBytes_37 (fun H locs hP hD hS => ?_)
  have hP : va_P (dC, dI) vwCl [(h0, .inr (13, [.ref qt, .int 10, .ref qs, .ref qm, .null])), (qt, .inl (cy, 6000, .inl f_6))] H := hP
  have hD : va_D A [(h0, .inr (13, [.ref qt, .int 10, .ref qs, .ref qm, .null])), (qt, .inl (cy, 6000, .inl f_6))] := hD
  refine lv_iinc (v := 8) (lv' := [(2, .int 8), (0, .ref h0), (1, .int i)]) hx hb dX11_putBytes_40 hl (k := 0) rfl (by decide) (by decide) rfl (fun ls hl => ?_)
  refine lv_goto (tgt := 3) hx hb dX11_putBytes_43 (by decide) ?_
  refine lv_iload_n hx hb dX11_putBytes_3 rfl (lv_at hl 0 rfl) ?_
  refine lv_if_lt (tgt := 46) hx hb dX11_putBytes_4 (by decide) (fun c9 => absurd c9 (by decide)) (fun c9 => ?_)
  clear c9
  refine lv_aload_n hx hb dX11_putBytes_7 rfl (lv_at hl 1 rfl) ?_
  refine va_get (D := (dC, dI)) (ci := 13) (v := .int 10) (C := RX11) (T := TX11) (N := 5) hx hb hts in_cc_putBytes_8_RX11 hown hK hP 0 rfl rfl 1 (by decide) (hts (.fieldLink RX11 27 "LevelUnits" "length" "I") (List.mem_of_getElem? (i := 1) rfl)) (fun _ h9 => h9) rfl dX11_putBytes_8 ?_
  refine lv_sipush (v := 6000) hx hb dX11_putBytes_11 (by decide) ?_
  refine lv_icmp_ge (tgt := 46) hx hb dX11_putBytes_14 (by decide) (fun c9 => absurd c9 (by decide)) (fun c9 => ?_)
  clear c9
  refine lv_aload_n hx hb dX11_putBytes_17 rfl (lv_at hl 1 rfl) ?_
  refine va_get (D := (dC, dI)) (ci := 13) (v := .ref qt) (C := RX11) (T := TX11) (N := 5) hx hb hts in_cc_putBytes_8_RX11 hown hK hP 0 rfl rfl 0 (by decide) (hts (.fieldLink RX11 9 "LevelUnits" "tape" "[B") (List.mem_of_getElem? (i := 2) rfl)) (fun _ h9 => h9) rfl dX11_putBytes_18 ?_
  refine lv_aload_n hx hb dX11_putBytes_21 rfl (lv_at hl 1 rfl) ?_
  refine va_get (D := (dC, dI)) (ci := 13) (v := .int 10) (C := RX11) (T := TX11) (N := 5) hx hb hts in_cc_putBytes_8_RX11 hown hK hP 0 rfl rfl 1 (by decide) (hts (.fieldLink RX11 27 "LevelUnits" "length" "I") (List.mem_of_getElem? (i := 1) rfl)) (fun _ h9 => h9) rfl dX11_putBytes_22 ?_
  refine lv_iload_n hx hb dX11_putBytes_25 rfl (lv_at hl 2 rfl) ?_
  refine lv_iload_n hx hb dX11_putBytes_26 rfl (lv_at hl 0 rfl) ?_
  refine lv_iushr hx hb dX11_putBytes_27 rfl ?_
  refine lv_topi (fun x_7 ex_7 => ?_)
  refine lv_i2b hx hb dX11_putBytes_28 rfl ?_
  refine lv_topi (fun x_8 ex_8 => ?_)
  refine va_bast hx hb hK hP hD hS 1 0 rfl rfl (i := 10) (by unfold vp_in; decide) dX11_putBytes_29 (fun H locs hP hD hS => ?_)
  obtain ⟨f_9, ef_9⟩ : ∃ z, z = upd f_6 (Int32.toNatClampNeg 10) (vp_nar .byte x_8) := ⟨_, rfl⟩
  rw [← ef_9] at hP hD
  have hP : va_P (dC, dI) vwCl [(h0, .inr (13, [.ref qt, .int 10, .ref qs, .ref qm, .null])), (qt, .inl (cy, 6000, .inl f_9))] H := hP
  have hD : va_D A [(h0, .inr (13, [.ref qt, .int 10, .ref qs, .ref qm, .null])), (qt, .inl (cy, 6000, .inl f_9))] := hD
  refine lv_aload_n hx hb dX11_putBytes_30 rfl (lv_at hl 1 rfl) ?_
  refine lv_dup hx hb dX11_putBytes_31 rfl ?_
  refine va_get (D := (dC, dI)) (ci := 13) (v := .int 10) (C := RX11) (T := TX11) (N := 5) hx hb hts in_cc_putBytes_8_RX11 hown hK hP 0 rfl rfl 1 (by decide) (hts (.fieldLink RX11 27 "LevelUnits" "length" "I") (List.mem_of_getElem? (i := 1) rfl)) (fun _ h9 => h9) rfl dX11_putBytes_32 ?_
  refine lv_iconst (v := 1) hx hb dX11_putBytes_35 (by decide) ?_
  refine lv_iadd hx hb dX11_putBytes_36 ?_
  refine lv_topi (fun y9 e9 => ?_)
  have e9 : y9 = 11 := by rw [e9]; decide
  subst e9
  refine va_put (D := (dC, dI)) (ci := 13) (v := .int 11) (ty := .int) (C := RX11) (T := TX11) (N := 5) hx hb hts in_cc_putBytes_8_RX11 tyX11 tyX11_ok nmX11 hown hK hP hD hS 0 rfl rfl 1 (by decide) (hts (.fieldLink RX11 27 "LevelUnits" "length" "I") (List.mem_of_getElem? (i := 1) rfl)) (fun _ h9 => h9) rfl (by decide +kernel) rfl rfl (Nat.le_of_ble_eq_true rfl) dX11_putBytes_37 (fun H locs hP hD hS => ?_)
  have hP : va_P (dC, dI) vwCl [(h0, .inr (13, [.ref qt, .int 11, .ref qs, .ref qm, .null])), (qt, .inl (cy, 6000, .inl f_9))] H := hP
  have hD : va_D A [(h0, .inr (13, [.ref qt, .int 11, .ref qs, .ref qm, .null])), (qt, .inl (cy, 6000, .inl f_9))] := hD
  refine lv_iinc (v := 0) (lv' := [(2, .int 0), (0, .ref h0), (1, .int i)]) hx hb dX11_putBytes_40 hl (k := 0) rfl (by decide) (by decide) rfl (fun ls hl => ?_)
  refine lv_goto (tgt := 3) hx hb dX11_putBytes_43 (by decide) ?_
  refine lv_iload_n hx hb dX11_putBytes_3 rfl (lv_at hl 0 rfl) ?_
  refine lv_if_lt (tgt := 46) hx hb dX11_putBytes_4 (by decide) (fun c9 => absurd c9 (by decide)) (fun c9 => ?_)
  clear c9
  refine lv_aload_n hx hb dX11_putBytes_7 rfl (lv_at hl 1 rfl) ?_
  refine va_get (D := (dC, dI)) (ci := 13) (v := .int 11) (C := RX11) (T := TX11) (N := 5) hx hb hts in_cc_putBytes_8_RX11 hown hK hP 0 rfl rfl 1 (by decide) (hts (.fieldLink RX11 27 "LevelUnits" "length" "I") (List.mem_of_getElem? (i := 1) rfl)) (fun _ h9 => h9) rfl dX11_putBytes_8 ?_
  refine lv_sipush (v := 6000) hx hb dX11_putBytes_11 (by decide) ?_
  refine lv_icmp_ge (tgt := 46) hx hb dX11_putBytes_14 (by decide) (fun c9 => absurd c9 (by decide)) (fun c9 => ?_)
  clear c9
  refine lv_aload_n hx hb dX11_putBytes_17 rfl (lv_at hl 1 rfl) ?_
  refine va_get (D := (dC, dI)) (ci := 13) (v := .ref qt) (C := RX11) (T := TX11) (N := 5) hx hb hts in_cc_putBytes_8_RX11 hown hK hP 0 rfl rfl 0 (by decide) (hts (.fieldLink RX11 9 "LevelUnits" "tape" "[B") (List.mem_of_getElem? (i := 2) rfl)) (fun _ h9 => h9) rfl dX11_putBytes_18 ?_
  refine lv_aload_n hx hb dX11_putBytes_21 rfl (lv_at hl 1 rfl) ?_
  refine va_get (D := (dC, dI)) (ci := 13) (v := .int 11) (C := RX11) (T := TX11) (N := 5) hx hb hts in_cc_putBytes_8_RX11 hown hK hP 0 rfl rfl 1 (by decide) (hts (.fieldLink RX11 27 "LevelUnits" "length" "I") (List.mem_of_getElem? (i := 1) rfl)) (fun _ h9 => h9) rfl dX11_putBytes_22 ?_
  refine lv_iload_n hx hb dX11_putBytes_25 rfl (lv_at hl 2 rfl) ?_
  refine lv_iload_n hx hb dX11_putBytes_26 rfl (lv_at hl 0 rfl) ?_
  refine lv_iushr hx hb dX11_putBytes_27 rfl ?_
  refine lv_topi (fun x_10 ex_10 => ?_)
  refine lv_i2b hx hb dX11_putBytes_28 rfl ?_
  refine lv_topi (fun x_11 ex_11 => ?_)
  refine va_bast hx hb hK hP hD hS 1 0 rfl rfl (i := 11) (by unfold vp_in; decide) dX11_putBytes_29 (fun H locs hP hD hS => ?_)
  obtain ⟨f_12, ef_12⟩ : ∃ z, z = upd f_9 (Int32.toNatClampNeg 11) (vp_nar .byte x_11) := ⟨_, rfl⟩
  rw [← ef_12] at hP hD
  have hP : va_P (dC, dI) vwCl [(h0, .inr (13, [.ref qt, .int 11, .ref qs, .ref qm, .null])), (qt, .inl (cy, 6000, .inl f_12))] H := hP
  have hD : va_D A [(h0, .inr (13, [.ref qt, .int 11, .ref qs, .ref qm, .null])), (qt, .inl (cy, 6000, .inl f_12))] := hD
  refine lv_aload_n hx hb dX11_putBytes_30 rfl (lv_at hl 1 rfl) ?_
  refine lv_dup hx hb dX11_putBytes_31 rfl ?_
  refine va_get (D := (dC, dI)) (ci := 13) (v := .int 11) (C := RX11) (T := TX11) (N := 5) hx hb hts in_cc_putBytes_8_RX11 hown hK hP 0 rfl rfl 1 (by decide) (hts (.fieldLink RX11 27 "LevelUnits" "length" "I") (List.mem_of_getElem? (i := 1) rfl)) (fun _ h9 => h9) rfl dX11_putBytes_32 ?_
  refine lv_iconst (v := 1) hx hb dX11_putBytes_35 (by decide) ?_
  refine lv_iadd hx hb dX11_putBytes_36 ?_
  refine lv_topi (fun y9 e9 => ?_)
  have e9 : y9 = 12 := by rw [e9]; decide
  subst e9
  refine va_put (D := (dC, dI)) (ci := 13) (v := .int 12) (ty := .int) (C := RX11) (T := TX11) (N := 5) hx hb hts in_cc_putBytes_8_RX11 tyX11 tyX11_ok nmX11 hown hK hP hD hS 0 rfl rfl 1 (by decide) (hts (.fieldLink RX11 27 "LevelUnits" "length" "I") (List.mem_of_getElem? (i := 1) rfl)) (fun _ h9 => h9) rfl (by decide +kernel) rfl rfl (Nat.le_of_ble_eq_true rfl) dX11_putBytes_37 (fun H locs hP hD hS => ?_)
  have hP : va_P (dC, dI) vwCl [(h0, .inr (13, [.ref qt, .int 12, .ref qs, .ref qm, .null])), (qt, .inl (cy, 6000, .inl f_12))] H := hP
  have hD : va_D A [(h0, .inr (13, [.ref qt, .int 12, .ref qs, .ref qm, .null])), (qt, .inl (cy, 6000, .inl f_12))] := hD
  refine lv_iinc (v := (-8)) (lv' := [(2, .int ((-8))), (0, .ref h0), (1, .int i)]) hx hb dX11_putBytes_40 hl (k := 0) rfl (by decide) (by decide) rfl (fun ls hl => ?_)
  refine lv_goto (tgt := 3) hx hb dX11_putBytes_43 (by decide) ?_
  refine lv_iload_n hx hb dX11_putBytes_3 rfl (lv_at hl 0 rfl) ?_
  refine lv_if_lt (tgt := 46) hx hb dX11_putBytes_4 (by decide) (fun c9 => ?_) (fun c9 => absurd (by decide) c9)
  clear c9
  have hP9 := hP.sub (ws' := [(h0, .inr (13, [.ref qt, .int 12, .ref qs, .ref qm, .null])), (qt, .inl (cy, 6000, .inl f_12))]) [0, 1] rfl
  have hD9 := hD.sub (ws' := [(h0, .inr (13, [.ref qt, .int 12, .ref qs, .ref qm, .null])), (qt, .inl (cy, 6000, .inl f_12))]) [0, 1] (by decide) rfl
  have hK9 := hK.sub (tys' := [(cy, .byte)]) [0] rfl
  refine W.widen (k := 0) (n := 0) (Nat.le_of_ble_eq_true rfl) (Nat.le_of_ble_eq_true rfl) ?_
  exact W.vret hx hb hr (fun t ht hW => ⟨⟨(), rfl, trivial, f_12, by rw [ht]; exact hP9, va_K.moved hW.alike hK9, hD9⟩, hS.F ht⟩) hS.2.2 dX11_putBytes_46
def ws_cc_putBytes_12 : List Cond := .code yX11_putBytes cX11_putBytes 3 none :: ([.fieldLink RX11 27 "LevelUnits" "length" "I", .fieldLink RX11 9 "LevelUnits" "tape" "[B"] ++ wsX110)
theorem in_cc_putBytes_12_RX11 : ∀ w ∈ wsX110, w ∈ ws_cc_putBytes_12 := fun _ h => List.mem_cons_of_mem _ (List.mem_append_right _ h)
set_option maxHeartbeats 4000000 in
set_option maxRecDepth 100000 in
theorem cc_putBytes_12 (l : Launch) (dC : Nat → ClassId) (dI : Nat → Nat → Nat) (h0 : Nat) (qt : Nat) (qs : Nat) (qm : Nat) (cy : ClassId) (f : Nat → Int32) (i : Int32) (sz : Nat) : Met l yX11_putBytes ws_cc_putBytes_12 ({ frames := 0, cells := 0, slots := 0, locals := 0 }) (va_Pc [.ref h0, .int i] (fun U => U.heap.size = sz ∧ va_P (dC, dI) vwCl [(h0, .inr (13, [.ref qt, .int 12, .ref qs, .ref qm, .null])), (qt, .inl (cy, 6000, .inl f))] U.heap ∧ va_K (dC, dI) vwCl [(cy, .byte)] U ∧ va_D (fun _ => True) [(h0, .inr (13, [.ref qt, .int 12, .ref qs, .ref qm, .null])), (qt, .inl (cy, 6000, .inl f))])) (va_Qv (fun _ : Unit => True) (fun _ t => ∃ f_a : Nat → Int32, va_P (dC, dI) vwCl [(h0, .inr (13, [.ref qt, .int 16, .ref qs, .ref qm, .null])), (qt, .inl (cy, 6000, .inl f_a))] t.heap ∧ va_K (dC, dI) vwCl [(cy, .byte)] t ∧ va_D (va_A [(h0, .inr (13, [.ref qt, .int 12, .ref qs, .ref qm, .null])), (qt, .inl (cy, 6000, .inl f))] sz) [(h0, .inr (13, [.ref qt, .int 16, .ref qs, .ref qm, .null])), (qt, .inl (cy, 6000, .inl f_a))]) (va_A [(h0, .inr (13, [.ref qt, .int 12, .ref qs, .ref qm, .null])), (qt, .inl (cy, 6000, .inl f))] sz)) 0 0 (va_A [(h0, .inr (13, [.ref qt, .int 12, .ref qs, .ref qm, .null])), (qt, .inl (cy, 6000, .inl f))] sz) := by
  refine Met.ofW (cc := cX11_putBytes) (maxL := 3) (ret := none) (by decide) rfl ?_
  intro p e s m args below meth c s₁ B hml hv
  obtain ⟨rfl, hsz, hP, hK, hD0⟩ := hv
  have hx := B.exec
  have hb := B.bytes
  have hr := B.returns
  have hts := atoms_spec (ws := ws_cc_putBytes_12) B.pre
  have hown : s.vm.findClass RX11 = some m.cls := findClass_of_methodNamed B.named
  have hlocks := B.notSynchronized
  subst hsz
  have hD := hD0.self (sz := s.heap.size)
  generalize hAe : va_A [(h0, .inr (13, [.ref qt, .int 12, .ref qs, .ref qm, .null])), (qt, .inl (cy, 6000, .inl f))] s.heap.size = A at hD ⊢
  have hA : ∀ q : Nat, s.heap.size ≤ q → A q := fun q h => by rw [← hAe]; exact Or.inr h
  have hS : va_S A s.heap s.heap [] := va_S.rf
  have hP : va_P (dC, dI) vwCl [(h0, .inr (13, [.ref qt, .int 12, .ref qs, .ref qm, .null])), (qt, .inl (cy, 6000, .inl f))] s.heap := hP
  have hl := lv_entry ([.ref h0, .int i]) (n := 3) (Nat.le_of_ble_eq_true rfl)
  rw [lg_entry_eq]
  generalize (lg_sl ([.ref h0, .int i]) ++ List.replicate (3 - (lg_sl ([.ref h0, .int i])).length) Slot.unset).toArray = ls at hl ⊢
  have hl : lv_has ls 3 [(0, .ref h0), (1, .int i)] := hl
  refine lv_bipush (v := 24) hx hb dX11_putBytes_0 (by decide) ?_
  refine lv_istore_n (lv' := [(2, .int 24), (0, .ref h0), (1, .int i)]) hx hb dX11_putBytes_2 rfl hl (by decide) rfl (fun ls hl => ?_)
  refine lv_iload_n hx hb dX11_putBytes_3 rfl (lv_at hl 0 rfl) ?_
  refine lv_if_lt (tgt := 46) hx hb dX11_putBytes_4 (by decide) (fun c9 => absurd c9 (by decide)) (fun c9 => ?_)
  clear c9
  refine lv_aload_n hx hb dX11_putBytes_7 rfl (lv_at hl 1 rfl) ?_
  refine va_get (D := (dC, dI)) (ci := 13) (v := .int 12) (C := RX11) (T := TX11) (N := 5) hx hb hts in_cc_putBytes_12_RX11 hown hK hP 0 rfl rfl 1 (by decide) (hts (.fieldLink RX11 27 "LevelUnits" "length" "I") (List.mem_of_getElem? (i := 1) rfl)) (fun _ h9 => h9) rfl dX11_putBytes_8 ?_
  refine lv_sipush (v := 6000) hx hb dX11_putBytes_11 (by decide) ?_
  refine lv_icmp_ge (tgt := 46) hx hb dX11_putBytes_14 (by decide) (fun c9 => absurd c9 (by decide)) (fun c9 => ?_)
  clear c9
  refine lv_aload_n hx hb dX11_putBytes_17 rfl (lv_at hl 1 rfl) ?_
  refine va_get (D := (dC, dI)) (ci := 13) (v := .ref qt) (C := RX11) (T := TX11) (N := 5) hx hb hts in_cc_putBytes_12_RX11 hown hK hP 0 rfl rfl 0 (by decide) (hts (.fieldLink RX11 9 "LevelUnits" "tape" "[B") (List.mem_of_getElem? (i := 2) rfl)) (fun _ h9 => h9) rfl dX11_putBytes_18 ?_
  refine lv_aload_n hx hb dX11_putBytes_21 rfl (lv_at hl 1 rfl) ?_
  refine va_get (D := (dC, dI)) (ci := 13) (v := .int 12) (C := RX11) (T := TX11) (N := 5) hx hb hts in_cc_putBytes_12_RX11 hown hK hP 0 rfl rfl 1 (by decide) (hts (.fieldLink RX11 27 "LevelUnits" "length" "I") (List.mem_of_getElem? (i := 1) rfl)) (fun _ h9 => h9) rfl dX11_putBytes_22 ?_
  refine lv_iload_n hx hb dX11_putBytes_25 rfl (lv_at hl 2 rfl) ?_
  refine lv_iload_n hx hb dX11_putBytes_26 rfl (lv_at hl 0 rfl) ?_
  refine lv_iushr hx hb dX11_putBytes_27 rfl ?_
  refine lv_topi (fun x_1 ex_1 => ?_)
  refine lv_i2b hx hb dX11_putBytes_28 rfl ?_
  refine lv_topi (fun x_2 ex_2 => ?_)
  refine va_bast hx hb hK hP hD hS 1 0 rfl rfl (i := 12) (by unfold vp_in; decide) dX11_putBytes_29 (fun H locs hP hD hS => ?_)
  obtain ⟨f_3, ef_3⟩ : ∃ z, z = upd f (Int32.toNatClampNeg 12) (vp_nar .byte x_2) := ⟨_, rfl⟩
  rw [← ef_3] at hP hD
  have hP : va_P (dC, dI) vwCl [(h0, .inr (13, [.ref qt, .int 12, .ref qs, .ref qm, .null])), (qt, .inl (cy, 6000, .inl f_3))] H := hP
  have hD : va_D A [(h0, .inr (13, [.ref qt, .int 12, .ref qs, .ref qm, .null])), (qt, .inl (cy, 6000, .inl f_3))] := hD
  refine lv_aload_n hx hb dX11_putBytes_30 rfl (lv_at hl 1 rfl) ?_
  refine lv_dup hx hb dX11_putBytes_31 rfl ?_
  refine va_get (D := (dC, dI)) (ci := 13) (v := .int 12) (C := RX11) (T := TX11) (N := 5) hx hb hts in_cc_putBytes_12_RX11 hown hK hP 0 rfl rfl 1 (by decide) (hts (.fieldLink RX11 27 "LevelUnits" "length" "I") (List.mem_of_getElem? (i := 1) rfl)) (fun _ h9 => h9) rfl dX11_putBytes_32 ?_
  refine lv_iconst (v := 1) hx hb dX11_putBytes_35 (by decide) ?_
  refine lv_iadd hx hb dX11_putBytes_36 ?_
  refine lv_topi (fun y9 e9 => ?_)
  have e9 : y9 = 13 := by rw [e9]; decide
  subst e9
  refine va_put (D := (dC, dI)) (ci := 13) (v := .int 13) (ty := .int) (C := RX11) (T := TX11) (N := 5) hx hb hts in_cc_putBytes_12_RX11 tyX11 tyX11_ok nmX11 hown hK hP hD hS 0 rfl rfl 1 (by decide) (hts (.fieldLink RX11 27 "LevelUnits" "length" "I") (List.mem_of_getElem? (i := 1) rfl)) (fun _ h9 => h9) rfl (by decide +kernel) rfl rfl (Nat.le_of_ble_eq_true rfl) dX11_putBytes_37 (fun H locs hP hD hS => ?_)
  have hP : va_P (dC, dI) vwCl [(h0, .inr (13, [.ref qt, .int 13, .ref qs, .ref qm, .null])), (qt, .inl (cy, 6000, .inl f_3))] H := hP
  have hD : va_D A [(h0, .inr (13, [.ref qt, .int 13, .ref qs, .ref qm, .null])), (qt, .inl (cy, 6000, .inl f_3))] := hD
  refine lv_iinc (v := 16) (lv' := [(2, .int 16), (0, .ref h0), (1, .int i)]) hx hb dX11_putBytes_40 hl (k := 0) rfl (by decide) (by decide) rfl (fun ls hl => ?_)
  refine lv_goto (tgt := 3) hx hb dX11_putBytes_43 (by decide) ?_
  refine lv_iload_n hx hb dX11_putBytes_3 rfl (lv_at hl 0 rfl) ?_
  refine lv_if_lt (tgt := 46) hx hb dX11_putBytes_4 (by decide) (fun c9 => absurd c9 (by decide)) (fun c9 => ?_)
  clear c9
  refine lv_aload_n hx hb dX11_putBytes_7 rfl (lv_at hl 1 rfl) ?_
  refine va_get (D := (dC, dI)) (ci := 13) (v := .int 13) (C := RX11) (T := TX11) (N := 5) hx hb hts in_cc_putBytes_12_RX11 hown hK hP 0 rfl rfl 1 (by decide) (hts (.fieldLink RX11 27 "LevelUnits" "length" "I") (List.mem_of_getElem? (i := 1) rfl)) (fun _ h9 => h9) rfl dX11_putBytes_8 ?_
  refine lv_sipush (v := 6000) hx hb dX11_putBytes_11 (by decide) ?_
  refine lv_icmp_ge (tgt := 46) hx hb dX11_putBytes_14 (by decide) (fun c9 => absurd c9 (by decide)) (fun c9 => ?_)
  clear c9
  refine lv_aload_n hx hb dX11_putBytes_17 rfl (lv_at hl 1 rfl) ?_
  refine va_get (D := (dC, dI)) (ci := 13) (v := .ref qt) (C := RX11) (T := TX11) (N := 5) hx hb hts in_cc_putBytes_12_RX11 hown hK hP 0 rfl rfl 0 (by decide) (hts (.fieldLink RX11 9 "LevelUnits" "tape" "[B") (List.mem_of_getElem? (i := 2) rfl)) (fun _ h9 => h9) rfl dX11_putBytes_18 ?_
  refine lv_aload_n hx hb dX11_putBytes_21 rfl (lv_at hl 1 rfl) ?_
  refine va_get (D := (dC, dI)) (ci := 13) (v := .int 13) (C := RX11) (T := TX11) (N := 5) hx hb hts in_cc_putBytes_12_RX11 hown hK hP 0 rfl rfl 1 (by decide) (hts (.fieldLink RX11 27 "LevelUnits" "length" "I") (List.mem_of_getElem? (i := 1) rfl)) (fun _ h9 => h9) rfl dX11_putBytes_22 ?_
  refine lv_iload_n hx hb dX11_putBytes_25 rfl (lv_at hl 2 rfl) ?_
  refine lv_iload_n hx hb dX11_putBytes_26 rfl (lv_at hl 0 rfl) ?_
  refine lv_iushr hx hb dX11_putBytes_27 rfl ?_
  refine lv_topi (fun x_4 ex_4 => ?_)
  refine lv_i2b hx hb dX11_putBytes_28 rfl ?_
  refine lv_topi (fun x_5 ex_5 => ?_)
  refine va_bast hx hb hK hP hD hS 1 0 rfl rfl (i := 13) (by unfold vp_in; decide) dX11_putBytes_29 (fun H locs hP hD hS => ?_)
  obtain ⟨f_6, ef_6⟩ : ∃ z, z = upd f_3 (Int32.toNatClampNeg 13) (vp_nar .byte x_5) := ⟨_, rfl⟩
  rw [← ef_6] at hP hD
  have hP : va_P (dC, dI) vwCl [(h0, .inr (13, [.ref qt, .int 13, .ref qs, .ref qm, .null])), (qt, .inl (cy, 6000, .inl f_6))] H := hP
  have hD : va_D A [(h0, .inr (13, [.ref qt, .int 13, .ref qs, .ref qm, .null])), (qt, .inl (cy, 6000, .inl f_6))] := hD
  refine lv_aload_n hx hb dX11_putBytes_30 rfl (lv_at hl 1 rfl) ?_
  refine lv_dup hx hb dX11_putBytes_31 rfl ?_
  refine va_get (D := (dC, dI)) (ci := 13) (v := .int 13) (C := RX11) (T := TX11) (N := 5) hx hb hts in_cc_putBytes_12_RX11 hown hK hP 0 rfl rfl 1 (by decide) (hts (.fieldLink RX11 27 "LevelUnits" "length" "I") (List.mem_of_getElem? (i := 1) rfl)) (fun _ h9 => h9) rfl dX11_putBytes_32 ?_
  refine lv_iconst (v := 1) hx hb dX11_putBytes_35 (by decide) ?_
  refine lv_iadd hx hb dX11_putBytes_36 ?_
  refine lv_topi (fun y9 e9 => ?_)
  have e9 : y9 = 14 := by rw [e9]; decide
  subst e9
  refine va_put (D := (dC, dI)) (ci := 13) (v := .int 14) (ty := .int) (C := RX11) (T := TX11) (N := 5) hx hb hts in_cc_putBytes_12_RX11 tyX11 tyX11_ok nmX11 hown hK hP hD hS 0 rfl rfl 1 (by decide) (hts (.fieldLink RX11 27 "LevelUnits" "length" "I") (List.mem_of_getElem? (i := 1) rfl)) (fun _ h9 => h9) rfl (by decide +kernel) rfl rfl (Nat.le_of_ble_eq_true rfl) dX11_putBytes_37 (fun H locs hP hD hS => ?_)
  have hP : va_P (dC, dI) vwCl [(h0, .inr (13, [.ref qt, .int 14, .ref qs, .ref qm, .null])), (qt, .inl (cy, 6000, .inl f_6))] H := hP
  have hD : va_D A [(h0, .inr (13, [.ref qt, .int 14, .ref qs, .ref qm, .null])), (qt, .inl (cy, 6000, .inl f_6))] := hD
  refine lv_iinc (v := 8) (lv' := [(2, .int 8), (0, .ref h0), (1, .int i)]) hx hb dX11_putBytes_40 hl (k := 0) rfl (by decide) (by decide) rfl (fun ls hl => ?_)
  refine lv_goto (tgt := 3) hx hb dX11_putBytes_43 (by decide) ?_
  refine lv_iload_n hx hb dX11_putBytes_3 rfl (lv_at hl 0 rfl) ?_
  refine lv_if_lt (tgt := 46) hx hb dX11_putBytes_4 (by decide) (fun c9 => absurd c9 (by decide)) (fun c9 => ?_)
  clear c9
  refine lv_aload_n hx hb dX11_putBytes_7 rfl (lv_at hl 1 rfl) ?_
  refine va_get (D := (dC, dI)) (ci := 13) (v := .int 14) (C := RX11) (T := TX11) (N := 5) hx hb hts in_cc_putBytes_12_RX11 hown hK hP 0 rfl rfl 1 (by decide) (hts (.fieldLink RX11 27 "LevelUnits" "length" "I") (List.mem_of_getElem? (i := 1) rfl)) (fun _ h9 => h9) rfl dX11_putBytes_8 ?_
  refine lv_sipush (v := 6000) hx hb dX11_putBytes_11 (by decide) ?_
  refine lv_icmp_ge (tgt := 46) hx hb dX11_putBytes_14 (by decide) (fun c9 => absurd c9 (by decide)) (fun c9 => ?_)
  clear c9
  refine lv_aload_n hx hb dX11_putBytes_17 rfl (lv_at hl 1 rfl) ?_
  refine va_get (D := (dC, dI)) (ci := 13) (v := .ref qt) (C := RX11) (T := TX11) (N := 5) hx hb hts in_cc_putBytes_12_RX11 hown hK hP 0 rfl rfl 0 (by decide) (hts (.fieldLink RX11 9 "LevelUnits" "tape" "[B") (List.mem_of_getElem? (i := 2) rfl)) (fun _ h9 => h9) rfl dX11_putBytes_18 ?_
  refine lv_aload_n hx hb dX11_putBytes_21 rfl (lv_at hl 1 rfl) ?_
  refine va_get (D := (dC, dI)) (ci := 13) (v := .int 14) (C := RX11) (T := TX11) (N := 5) hx hb hts in_cc_putBytes_12_RX11 hown hK hP 0 rfl rfl 1 (by decide) (hts (.fieldLink RX11 27 "LevelUnits" "length" "I") (List.mem_of_getElem? (i := 1) rfl)) (fun _ h9 => h9) rfl dX11_putBytes_22 ?_
  refine lv_iload_n hx hb dX11_putBytes_25 rfl (lv_at hl 2 rfl) ?_
  refine lv_iload_n hx hb dX11_putBytes_26 rfl (lv_at hl 0 rfl) ?_
  refine lv_iushr hx hb dX11_putBytes_27 rfl ?_
  refine lv_topi (fun x_7 ex_7 => ?_)
  refine lv_i2b hx hb dX11_putBytes_28 rfl ?_
  refine lv_topi (fun x_8 ex_8 => ?_)
  refine va_bast hx hb hK hP hD hS 1 0 rfl rfl (i := 14) (by unfold vp_in; decide) dX11_putBytes_29 (fun H locs hP hD hS => ?_)
  obtain ⟨f_9, ef_9⟩ : ∃ z, z = upd f_6 (Int32.toNatClampNeg 14) (vp_nar .byte x_8) := ⟨_, rfl⟩
  rw [← ef_9] at hP hD
  have hP : va_P (dC, dI) vwCl [(h0, .inr (13, [.ref qt, .int 14, .ref qs, .ref qm, .null])), (qt, .inl (cy, 6000, .inl f_9))] H := hP
  have hD : va_D A [(h0, .inr (13, [.ref qt, .int 14, .ref qs, .ref qm, .null])), (qt, .inl (cy, 6000, .inl f_9))] := hD
  refine lv_aload_n hx hb dX11_putBytes_30 rfl (lv_at hl 1 rfl) ?_
  refine lv_dup hx hb dX11_putBytes_31 rfl ?_
  refine va_get (D := (dC, dI)) (ci := 13) (v := .int 14) (C := RX11) (T := TX11) (N := 5) hx hb hts in_cc_putBytes_12_RX11 hown hK hP 0 rfl rfl 1 (by decide) (hts (.fieldLink RX11 27 "LevelUnits" "length" "I") (List.mem_of_getElem? (i := 1) rfl)) (fun _ h9 => h9) rfl dX11_putBytes_32 ?_
  refine lv_iconst (v := 1) hx hb dX11_putBytes_35 (by decide) ?_
  refine lv_iadd hx hb dX11_putBytes_36 ?_
  refine lv_topi (fun y9 e9 => ?_)
  have e9 : y9 = 15 := by rw [e9]; decide
  subst e9
  refine va_put (D := (dC, dI)) (ci := 13) (v := .int 15) (ty := .int) (C := RX11) (T := TX11) (N := 5) hx hb hts in_cc_putBytes_12_RX11 tyX11 tyX11_ok nmX11 hown hK hP hD hS 0 rfl rfl 1 (by decide) (hts (.fieldLink RX11 27 "LevelUnits" "length" "I") (List.mem_of_getElem? (i := 1) rfl)) (fun _ h9 => h9) rfl (by decide +kernel) rfl rfl (Nat.le_of_ble_eq_true rfl) dX11_putBytes_37 (fun H locs hP hD hS => ?_)
  have hP : va_P (dC, dI) vwCl [(h0, .inr (13, [.ref qt, .int 15, .ref qs, .ref qm, .null])), (qt, .inl (cy, 6000, .inl f_9))] H := hP
  have hD : va_D A [(h0, .inr (13, [.ref qt, .int 15, .ref qs, .ref qm, .null])), (qt, .inl (cy, 6000, .inl f_9))] := hD
  refine lv_iinc (v := 0) (lv' := [(2, .int 0), (0, .ref h0), (1, .int i)]) hx hb dX11_putBytes_40 hl (k := 0) rfl (by decide) (by decide) rfl (fun ls hl => ?_)
  refine lv_goto (tgt := 3) hx hb dX11_putBytes_43 (by decide) ?_
  refine lv_iload_n hx hb dX11_putBytes_3 rfl (lv_at hl 0 rfl) ?_
  refine lv_if_lt (tgt := 46) hx hb dX11_putBytes_4 (by decide) (fun c9 => absurd c9 (by decide)) (fun c9 => ?_)
  clear c9
  refine lv_aload_n hx hb dX11_putBytes_7 rfl (lv_at hl 1 rfl) ?_
  refine va_get (D := (dC, dI)) (ci := 13) (v := .int 15) (C := RX11) (T := TX11) (N := 5) hx hb hts in_cc_putBytes_12_RX11 hown hK hP 0 rfl rfl 1 (by decide) (hts (.fieldLink RX11 27 "LevelUnits" "length" "I") (List.mem_of_getElem? (i := 1) rfl)) (fun _ h9 => h9) rfl dX11_putBytes_8 ?_
  refine lv_sipush (v := 6000) hx hb dX11_putBytes_11 (by decide) ?_
  refine lv_icmp_ge (tgt := 46) hx hb dX11_putBytes_14 (by decide) (fun c9 => absurd c9 (by decide)) (fun c9 => ?_)
  clear c9
  refine lv_aload_n hx hb dX11_putBytes_17 rfl (lv_at hl 1 rfl) ?_
  refine va_get (D := (dC, dI)) (ci := 13) (v := .ref qt) (C := RX11) (T := TX11) (N := 5) hx hb hts in_cc_putBytes_12_RX11 hown hK hP 0 rfl rfl 0 (by decide) (hts (.fieldLink RX11 9 "LevelUnits" "tape" "[B") (List.mem_of_getElem? (i := 2) rfl)) (fun _ h9 => h9) rfl dX11_putBytes_18 ?_
  refine lv_aload_n hx hb dX11_putBytes_21 rfl (lv_at hl 1 rfl) ?_
  refine va_get (D := (dC, dI)) (ci := 13) (v := .int 15) (C := RX11) (T := TX11) (N := 5) hx hb hts in_cc_putBytes_12_RX11 hown hK hP 0 rfl rfl 1 (by decide) (hts (.fieldLink RX11 27 "LevelUnits" "length" "I") (List.mem_of_getElem? (i := 1) rfl)) (fun _ h9 => h9) rfl dX11_putBytes_22 ?_
  refine lv_iload_n hx hb dX11_putBytes_25 rfl (lv_at hl 2 rfl) ?_
  refine lv_iload_n hx hb dX11_putBytes_26 rfl (lv_at hl 0 rfl) ?_
  refine lv_iushr hx hb dX11_putBytes_27 rfl ?_
  refine lv_topi (fun x_10 ex_10 => ?_)
  refine lv_i2b hx hb dX11_putBytes_28 rfl ?_
  refine lv_topi (fun x_11 ex_11 => ?_)
  refine va_bast hx hb hK hP hD hS 1 0 rfl rfl (i := 15) (by unfold vp_in; decide) dX11_putBytes_29 (fun H locs hP hD hS => ?_)
  obtain ⟨f_12, ef_12⟩ : ∃ z, z = upd f_9 (Int32.toNatClampNeg 15) (vp_nar .byte x_11) := ⟨_, rfl⟩
  rw [← ef_12] at hP hD
  have hP : va_P (dC, dI) vwCl [(h0, .inr (13, [.ref qt, .int 15, .ref qs, .ref qm, .null])), (qt, .inl (cy, 6000, .inl f_12))] H := hP
  have hD : va_D A [(h0, .inr (13, [.ref qt, .int 15, .ref qs, .ref qm, .null])), (qt, .inl (cy, 6000, .inl f_12))] := hD
  refine lv_aload_n hx hb dX11_putBytes_30 rfl (lv_at hl 1 rfl) ?_
  refine lv_dup hx hb dX11_putBytes_31 rfl ?_
  refine va_get (D := (dC, dI)) (ci := 13) (v := .int 15) (C := RX11) (T := TX11) (N := 5) hx hb hts in_cc_putBytes_12_RX11 hown hK hP 0 rfl rfl 1 (by decide) (hts (.fieldLink RX11 27 "LevelUnits" "length" "I") (List.mem_of_getElem? (i := 1) rfl)) (fun _ h9 => h9) rfl dX11_putBytes_32 ?_
  refine lv_iconst (v := 1) hx hb dX11_putBytes_35 (by decide) ?_
  refine lv_iadd hx hb dX11_putBytes_36 ?_
  refine lv_topi (fun y9 e9 => ?_)
  have e9 : y9 = 16 := by rw [e9]; decide
  subst e9
  refine va_put (D := (dC, dI)) (ci := 13) (v := .int 16) (ty := .int) (C := RX11) (T := TX11) (N := 5) hx hb hts in_cc_putBytes_12_RX11 tyX11 tyX11_ok nmX11 hown hK hP hD hS 0 rfl rfl 1 (by decide) (hts (.fieldLink RX11 27 "LevelUnits" "length" "I") (List.mem_of_getElem? (i := 1) rfl)) (fun _ h9 => h9) rfl (by decide +kernel) rfl rfl (Nat.le_of_ble_eq_true rfl) dX11_putBytes_37 (fun H locs hP hD hS => ?_)
  have hP : va_P (dC, dI) vwCl [(h0, .inr (13, [.ref qt, .int 16, .ref qs, .ref qm, .null])), (qt, .inl (cy, 6000, .inl f_12))] H := hP
  have hD : va_D A [(h0, .inr (13, [.ref qt, .int 16, .ref qs, .ref qm, .null])), (qt, .inl (cy, 6000, .inl f_12))] := hD
  refine lv_iinc (v := (-8)) (lv' := [(2, .int ((-8))), (0, .ref h0), (1, .int i)]) hx hb dX11_putBytes_40 hl (k := 0) rfl (by decide) (by decide) rfl (fun ls hl => ?_)
  refine lv_goto (tgt := 3) hx hb dX11_putBytes_43 (by decide) ?_
  refine lv_iload_n hx hb dX11_putBytes_3 rfl (lv_at hl 0 rfl) ?_
  refine lv_if_lt (tgt := 46) hx hb dX11_putBytes_4 (by decide) (fun c9 => ?_) (fun c9 => absurd (by decide) c9)
  clear c9
  have hP9 := hP.sub (ws' := [(h0, .inr (13, [.ref qt, .int 16, .ref qs, .ref qm, .null])), (qt, .inl (cy, 6000, .inl f_12))]) [0, 1] rfl
  have hD9 := hD.sub (ws' := [(h0, .inr (13, [.ref qt, .int 16, .ref qs, .ref qm, .null])), (qt, .inl (cy, 6000, .inl f_12))]) [0, 1] (by decide) rfl
  have hK9 := hK.sub (tys' := [(cy, .byte)]) [0] rfl
  refine W.widen (k := 0) (n := 0) (Nat.le_of_ble_eq_true rfl) (Nat.le_of_ble_eq_true rfl) ?_
  exact W.vret hx hb hr (fun t ht hW => ⟨⟨(), rfl, trivial, f_12, by rw [ht]; exact hP9, va_K.moved hW.alike hK9, hD9⟩, hS.F ht⟩) hS.2.2 dX11_putBytes_46
def ws_cc_putBytes_16 : List Cond := .code yX11_putBytes cX11_putBytes 3 none :: ([.fieldLink RX11 27 "LevelUnits" "length" "I", .fieldLink RX11 9 "LevelUnits" "tape" "[B"] ++ wsX110)
theorem in_cc_putBytes_16_RX11 : ∀ w ∈ wsX110, w ∈ ws_cc_putBytes_16 := fun _ h => List.mem_cons_of_mem _ (List.mem_append_right _ h)
set_option maxHeartbeats 4000000 in
set_option maxRecDepth 100000 in
theorem cc_putBytes_16 (l : Launch) (dC : Nat → ClassId) (dI : Nat → Nat → Nat) (h0 : Nat) (qt : Nat) (qs : Nat) (qm : Nat) (cy : ClassId) (f : Nat → Int32) (i : Int32) (sz : Nat) : Met l yX11_putBytes ws_cc_putBytes_16 ({ frames := 0, cells := 0, slots := 0, locals := 0 }) (va_Pc [.ref h0, .int i] (fun U => U.heap.size = sz ∧ va_P (dC, dI) vwCl [(h0, .inr (13, [.ref qt, .int 16, .ref qs, .ref qm, .null])), (qt, .inl (cy, 6000, .inl f))] U.heap ∧ va_K (dC, dI) vwCl [(cy, .byte)] U ∧ va_D (fun _ => True) [(h0, .inr (13, [.ref qt, .int 16, .ref qs, .ref qm, .null])), (qt, .inl (cy, 6000, .inl f))])) (va_Qv (fun _ : Unit => True) (fun _ t => ∃ f_a : Nat → Int32, va_P (dC, dI) vwCl [(h0, .inr (13, [.ref qt, .int 20, .ref qs, .ref qm, .null])), (qt, .inl (cy, 6000, .inl f_a))] t.heap ∧ va_K (dC, dI) vwCl [(cy, .byte)] t ∧ va_D (va_A [(h0, .inr (13, [.ref qt, .int 16, .ref qs, .ref qm, .null])), (qt, .inl (cy, 6000, .inl f))] sz) [(h0, .inr (13, [.ref qt, .int 20, .ref qs, .ref qm, .null])), (qt, .inl (cy, 6000, .inl f_a))]) (va_A [(h0, .inr (13, [.ref qt, .int 16, .ref qs, .ref qm, .null])), (qt, .inl (cy, 6000, .inl f))] sz)) 0 0 (va_A [(h0, .inr (13, [.ref qt, .int 16, .ref qs, .ref qm, .null])), (qt, .inl (cy, 6000, .inl f))] sz) := by
  refine Met.ofW (cc := cX11_putBytes) (maxL := 3) (ret := none) (by decide) rfl ?_
  intro p e s m args below meth c s₁ B hml hv
  obtain ⟨rfl, hsz, hP, hK, hD0⟩ := hv
  have hx := B.exec
  have hb := B.bytes
  have hr := B.returns
  have hts := atoms_spec (ws := ws_cc_putBytes_16) B.pre
  have hown : s.vm.findClass RX11 = some m.cls := findClass_of_methodNamed B.named
  have hlocks := B.notSynchronized
  subst hsz
  have hD := hD0.self (sz := s.heap.size)
  generalize hAe : va_A [(h0, .inr (13, [.ref qt, .int 16, .ref qs, .ref qm, .null])), (qt, .inl (cy, 6000, .inl f))] s.heap.size = A at hD ⊢
  have hA : ∀ q : Nat, s.heap.size ≤ q → A q := fun q h => by rw [← hAe]; exact Or.inr h
  have hS : va_S A s.heap s.heap [] := va_S.rf
  have hP : va_P (dC, dI) vwCl [(h0, .inr (13, [.ref qt, .int 16, .ref qs, .ref qm, .null])), (qt, .inl (cy, 6000, .inl f))] s.heap := hP
  have hl := lv_entry ([.ref h0, .int i]) (n := 3) (Nat.le_of_ble_eq_true rfl)
  rw [lg_entry_eq]
  generalize (lg_sl ([.ref h0, .int i]) ++ List.replicate (3 - (lg_sl ([.ref h0, .int i])).length) Slot.unset).toArray = ls at hl ⊢
  have hl : lv_has ls 3 [(0, .ref h0), (1, .int i)] := hl
  refine lv_bipush (v := 24) hx hb dX11_putBytes_0 (by decide) ?_
  refine lv_istore_n (lv' := [(2, .int 24), (0, .ref h0), (1, .int i)]) hx hb dX11_putBytes_2 rfl hl (by decide) rfl (fun ls hl => ?_)
  refine lv_iload_n hx hb dX11_putBytes_3 rfl (lv_at hl 0 rfl) ?_
  refine lv_if_lt (tgt := 46) hx hb dX11_putBytes_4 (by decide) (fun c9 => absurd c9 (by decide)) (fun c9 => ?_)
  clear c9
  refine lv_aload_n hx hb dX11_putBytes_7 rfl (lv_at hl 1 rfl) ?_
  refine va_get (D := (dC, dI)) (ci := 13) (v := .int 16) (C := RX11) (T := TX11) (N := 5) hx hb hts in_cc_putBytes_16_RX11 hown hK hP 0 rfl rfl 1 (by decide) (hts (.fieldLink RX11 27 "LevelUnits" "length" "I") (List.mem_of_getElem? (i := 1) rfl)) (fun _ h9 => h9) rfl dX11_putBytes_8 ?_
  refine lv_sipush (v := 6000) hx hb dX11_putBytes_11 (by decide) ?_
  refine lv_icmp_ge (tgt := 46) hx hb dX11_putBytes_14 (by decide) (fun c9 => absurd c9 (by decide)) (fun c9 => ?_)
  clear c9
  refine lv_aload_n hx hb dX11_putBytes_17 rfl (lv_at hl 1 rfl) ?_
  refine va_get (D := (dC, dI)) (ci := 13) (v := .ref qt) (C := RX11) (T := TX11) (N := 5) hx hb hts in_cc_putBytes_16_RX11 hown hK hP 0 rfl rfl 0 (by decide) (hts (.fieldLink RX11 9 "LevelUnits" "tape" "[B") (List.mem_of_getElem? (i := 2) rfl)) (fun _ h9 => h9) rfl dX11_putBytes_18 ?_
  refine lv_aload_n hx hb dX11_putBytes_21 rfl (lv_at hl 1 rfl) ?_
  refine va_get (D := (dC, dI)) (ci := 13) (v := .int 16) (C := RX11) (T := TX11) (N := 5) hx hb hts in_cc_putBytes_16_RX11 hown hK hP 0 rfl rfl 1 (by decide) (hts (.fieldLink RX11 27 "LevelUnits" "length" "I") (List.mem_of_getElem? (i := 1) rfl)) (fun _ h9 => h9) rfl dX11_putBytes_22 ?_
  refine lv_iload_n hx hb dX11_putBytes_25 rfl (lv_at hl 2 rfl) ?_
  refine lv_iload_n hx hb dX11_putBytes_26 rfl (lv_at hl 0 rfl) ?_
  refine lv_iushr hx hb dX11_putBytes_27 rfl ?_
  refine lv_topi (fun x_1 ex_1 => ?_)
  refine lv_i2b hx hb dX11_putBytes_28 rfl ?_
  refine lv_topi (fun x_2 ex_2 => ?_)
  refine va_bast hx hb hK hP hD hS 1 0 rfl rfl (i := 16) (by unfold vp_in; decide) dX11_putBytes_29 (fun H locs hP hD hS => ?_)
  obtain ⟨f_3, ef_3⟩ : ∃ z, z = upd f (Int32.toNatClampNeg 16) (vp_nar .byte x_2) := ⟨_, rfl⟩
  rw [← ef_3] at hP hD
  have hP : va_P (dC, dI) vwCl [(h0, .inr (13, [.ref qt, .int 16, .ref qs, .ref qm, .null])), (qt, .inl (cy, 6000, .inl f_3))] H := hP
  have hD : va_D A [(h0, .inr (13, [.ref qt, .int 16, .ref qs, .ref qm, .null])), (qt, .inl (cy, 6000, .inl f_3))] := hD
  refine lv_aload_n hx hb dX11_putBytes_30 rfl (lv_at hl 1 rfl) ?_
  refine lv_dup hx hb dX11_putBytes_31 rfl ?_
  refine va_get (D := (dC, dI)) (ci := 13) (v := .int 16) (C := RX11) (T := TX11) (N := 5) hx hb hts in_cc_putBytes_16_RX11 hown hK hP 0 rfl rfl 1 (by decide) (hts (.fieldLink RX11 27 "LevelUnits" "length" "I") (List.mem_of_getElem? (i := 1) rfl)) (fun _ h9 => h9) rfl dX11_putBytes_32 ?_
  refine lv_iconst (v := 1) hx hb dX11_putBytes_35 (by decide) ?_
  refine lv_iadd hx hb dX11_putBytes_36 ?_
  refine lv_topi (fun y9 e9 => ?_)
  have e9 : y9 = 17 := by rw [e9]; decide
  subst e9
  refine va_put (D := (dC, dI)) (ci := 13) (v := .int 17) (ty := .int) (C := RX11) (T := TX11) (N := 5) hx hb hts in_cc_putBytes_16_RX11 tyX11 tyX11_ok nmX11 hown hK hP hD hS 0 rfl rfl 1 (by decide) (hts (.fieldLink RX11 27 "LevelUnits" "length" "I") (List.mem_of_getElem? (i := 1) rfl)) (fun _ h9 => h9) rfl (by decide +kernel) rfl rfl (Nat.le_of_ble_eq_true rfl) dX11_putBytes_37 (fun H locs hP hD hS => ?_)
  have hP : va_P (dC, dI) vwCl [(h0, .inr (13, [.ref qt, .int 17, .ref qs, .ref qm, .null])), (qt, .inl (cy, 6000, .inl f_3))] H := hP
  have hD : va_D A [(h0, .inr (13, [.ref qt, .int 17, .ref qs, .ref qm, .null])), (qt, .inl (cy, 6000, .inl f_3))] := hD
  refine lv_iinc (v := 16) (lv' := [(2, .int 16), (0, .ref h0), (1, .int i)]) hx hb dX11_putBytes_40 hl (k := 0) rfl (by decide) (by decide) rfl (fun ls hl => ?_)
  refine lv_goto (tgt := 3) hx hb dX11_putBytes_43 (by decide) ?_
  refine lv_iload_n hx hb dX11_putBytes_3 rfl (lv_at hl 0 rfl) ?_
  refine lv_if_lt (tgt := 46) hx hb dX11_putBytes_4 (by decide) (fun c9 => absurd c9 (by decide)) (fun c9 => ?_)
  clear c9
  refine lv_aload_n hx hb dX11_putBytes_7 rfl (lv_at hl 1 rfl) ?_
  refine va_get (D := (dC, dI)) (ci := 13) (v := .int 17) (C := RX11) (T := TX11) (N := 5) hx hb hts in_cc_putBytes_16_RX11 hown hK hP 0 rfl rfl 1 (by decide) (hts (.fieldLink RX11 27 "LevelUnits" "length" "I") (List.mem_of_getElem? (i := 1) rfl)) (fun _ h9 => h9) rfl dX11_putBytes_8 ?_
  refine lv_sipush (v := 6000) hx hb dX11_putBytes_11 (by decide) ?_
  refine lv_icmp_ge (tgt := 46) hx hb dX11_putBytes_14 (by decide) (fun c9 => absurd c9 (by decide)) (fun c9 => ?_)
  clear c9
  refine lv_aload_n hx hb dX11_putBytes_17 rfl (lv_at hl 1 rfl) ?_
  refine va_get (D := (dC, dI)) (ci := 13) (v := .ref qt) (C := RX11) (T := TX11) (N := 5) hx hb hts in_cc_putBytes_16_RX11 hown hK hP 0 rfl rfl 0 (by decide) (hts (.fieldLink RX11 9 "LevelUnits" "tape" "[B") (List.mem_of_getElem? (i := 2) rfl)) (fun _ h9 => h9) rfl dX11_putBytes_18 ?_
  refine lv_aload_n hx hb dX11_putBytes_21 rfl (lv_at hl 1 rfl) ?_
  refine va_get (D := (dC, dI)) (ci := 13) (v := .int 17) (C := RX11) (T := TX11) (N := 5) hx hb hts in_cc_putBytes_16_RX11 hown hK hP 0 rfl rfl 1 (by decide) (hts (.fieldLink RX11 27 "LevelUnits" "length" "I") (List.mem_of_getElem? (i := 1) rfl)) (fun _ h9 => h9) rfl dX11_putBytes_22 ?_
  refine lv_iload_n hx hb dX11_putBytes_25 rfl (lv_at hl 2 rfl) ?_
  refine lv_iload_n hx hb dX11_putBytes_26 rfl (lv_at hl 0 rfl) ?_
  refine lv_iushr hx hb dX11_putBytes_27 rfl ?_
  refine lv_topi (fun x_4 ex_4 => ?_)
  refine lv_i2b hx hb dX11_putBytes_28 rfl ?_
  refine lv_topi (fun x_5 ex_5 => ?_)
  refine va_bast hx hb hK hP hD hS 1 0 rfl rfl (i := 17) (by unfold vp_in; decide) dX11_putBytes_29 (fun H locs hP hD hS => ?_)
  obtain ⟨f_6, ef_6⟩ : ∃ z, z = upd f_3 (Int32.toNatClampNeg 17) (vp_nar .byte x_5) := ⟨_, rfl⟩
  rw [← ef_6] at hP hD
  have hP : va_P (dC, dI) vwCl [(h0, .inr (13, [.ref qt, .int 17, .ref qs, .ref qm, .null])), (qt, .inl (cy, 6000, .inl f_6))] H := hP
  have hD : va_D A [(h0, .inr (13, [.ref qt, .int 17, .ref qs, .ref qm, .null])), (qt, .inl (cy, 6000, .inl f_6))] := hD
  refine lv_aload_n hx hb dX11_putBytes_30 rfl (lv_at hl 1 rfl) ?_
  refine lv_dup hx hb dX11_putBytes_31 rfl ?_
  refine va_get (D := (dC, dI)) (ci := 13) (v := .int 17) (C := RX11) (T := TX11) (N := 5) hx hb hts in_cc_putBytes_16_RX11 hown hK hP 0 rfl rfl 1 (by decide) (hts (.fieldLink RX11 27 "LevelUnits" "length" "I") (List.mem_of_getElem? (i := 1) rfl)) (fun _ h9 => h9) rfl dX11_putBytes_32 ?_
  refine lv_iconst (v := 1) hx hb dX11_putBytes_35 (by decide) ?_
  refine lv_iadd hx hb dX11_putBytes_36 ?_
  refine lv_topi (fun y9 e9 => ?_)
  have e9 : y9 = 18 := by rw [e9]; decide
  subst e9
  refine va_put (D := (dC, dI)) (ci := 13) (v := .int 18) (ty := .int) (C := RX11) (T := TX11) (N := 5) hx hb hts in_cc_putBytes_16_RX11 tyX11 tyX11_ok nmX11 hown hK hP hD hS 0 rfl rfl 1 (by decide) (hts (.fieldLink RX11 27 "LevelUnits" "length" "I") (List.mem_of_getElem? (i := 1) rfl)) (fun _ h9 => h9) rfl (by decide +kernel) rfl rfl (Nat.le_of_ble_eq_true rfl) dX11_putBytes_37 (fun H locs hP hD hS => ?_)
  have hP : va_P (dC, dI) vwCl [(h0, .inr (13, [.ref qt, .int 18, .ref qs, .ref qm, .null])), (qt, .inl (cy, 6000, .inl f_6))] H := hP
  have hD : va_D A [(h0, .inr (13, [.ref qt, .int 18, .ref qs, .ref qm, .null])), (qt, .inl (cy, 6000, .inl f_6))] := hD
  refine lv_iinc (v := 8) (lv' := [(2, .int 8), (0, .ref h0), (1, .int i)]) hx hb dX11_putBytes_40 hl (k := 0) rfl (by decide) (by decide) rfl (fun ls hl => ?_)
  refine lv_goto (tgt := 3) hx hb dX11_putBytes_43 (by decide) ?_
  refine lv_iload_n hx hb dX11_putBytes_3 rfl (lv_at hl 0 rfl) ?_
  refine lv_if_lt (tgt := 46) hx hb dX11_putBytes_4 (by decide) (fun c9 => absurd c9 (by decide)) (fun c9 => ?_)
  clear c9
  refine lv_aload_n hx hb dX11_putBytes_7 rfl (lv_at hl 1 rfl) ?_
  refine va_get (D := (dC, dI)) (ci := 13) (v := .int 18) (C := RX11) (T := TX11) (N := 5) hx hb hts in_cc_putBytes_16_RX11 hown hK hP 0 rfl rfl 1 (by decide) (hts (.fieldLink RX11 27 "LevelUnits" "length" "I") (List.mem_of_getElem? (i := 1) rfl)) (fun _ h9 => h9) rfl dX11_putBytes_8 ?_
  refine lv_sipush (v := 6000) hx hb dX11_putBytes_11 (by decide) ?_
  refine lv_icmp_ge (tgt := 46) hx hb dX11_putBytes_14 (by decide) (fun c9 => absurd c9 (by decide)) (fun c9 => ?_)
  clear c9
  refine lv_aload_n hx hb dX11_putBytes_17 rfl (lv_at hl 1 rfl) ?_
  refine va_get (D := (dC, dI)) (ci := 13) (v := .ref qt) (C := RX11) (T := TX11) (N := 5) hx hb hts in_cc_putBytes_16_RX11 hown hK hP 0 rfl rfl 0 (by decide) (hts (.fieldLink RX11 9 "LevelUnits" "tape" "[B") (List.mem_of_getElem? (i := 2) rfl)) (fun _ h9 => h9) rfl dX11_putBytes_18 ?_
  refine lv_aload_n hx hb dX11_putBytes_21 rfl (lv_at hl 1 rfl) ?_
  refine va_get (D := (dC, dI)) (ci := 13) (v := .int 18) (C := RX11) (T := TX11) (N := 5) hx hb hts in_cc_putBytes_16_RX11 hown hK hP 0 rfl rfl 1 (by decide) (hts (.fieldLink RX11 27 "LevelUnits" "length" "I") (List.mem_of_getElem? (i := 1) rfl)) (fun _ h9 => h9) rfl dX11_putBytes_22 ?_
  refine lv_iload_n hx hb dX11_putBytes_25 rfl (lv_at hl 2 rfl) ?_
  refine lv_iload_n hx hb dX11_putBytes_26 rfl (lv_at hl 0 rfl) ?_
  refine lv_iushr hx hb dX11_putBytes_27 rfl ?_
  refine lv_topi (fun x_7 ex_7 => ?_)
  refine lv_i2b hx hb dX11_putBytes_28 rfl ?_
  refine lv_topi (fun x_8 ex_8 => ?_)
  refine va_bast hx hb hK hP hD hS 1 0 rfl rfl (i := 18) (by unfold vp_in; decide) dX11_putBytes_29 (fun H locs hP hD hS => ?_)
  obtain ⟨f_9, ef_9⟩ : ∃ z, z = upd f_6 (Int32.toNatClampNeg 18) (vp_nar .byte x_8) := ⟨_, rfl⟩
  rw [← ef_9] at hP hD
  have hP : va_P (dC, dI) vwCl [(h0, .inr (13, [.ref qt, .int 18, .ref qs, .ref qm, .null])), (qt, .inl (cy, 6000, .inl f_9))] H := hP
  have hD : va_D A [(h0, .inr (13, [.ref qt, .int 18, .ref qs, .ref qm, .null])), (qt, .inl (cy, 6000, .inl f_9))] := hD
  refine lv_aload_n hx hb dX11_putBytes_30 rfl (lv_at hl 1 rfl) ?_
  refine lv_dup hx hb dX11_putBytes_31 rfl ?_
  refine va_get (D := (dC, dI)) (ci := 13) (v := .int 18) (C := RX11) (T := TX11) (N := 5) hx hb hts in_cc_putBytes_16_RX11 hown hK hP 0 rfl rfl 1 (by decide) (hts (.fieldLink RX11 27 "LevelUnits" "length" "I") (List.mem_of_getElem? (i := 1) rfl)) (fun _ h9 => h9) rfl dX11_putBytes_32 ?_
  refine lv_iconst (v := 1) hx hb dX11_putBytes_35 (by decide) ?_
  refine lv_iadd hx hb dX11_putBytes_36 ?_
  refine lv_topi (fun y9 e9 => ?_)
  have e9 : y9 = 19 := by rw [e9]; decide
  subst e9
  refine va_put (D := (dC, dI)) (ci := 13) (v := .int 19) (ty := .int) (C := RX11) (T := TX11) (N := 5) hx hb hts in_cc_putBytes_16_RX11 tyX11 tyX11_ok nmX11 hown hK hP hD hS 0 rfl rfl 1 (by decide) (hts (.fieldLink RX11 27 "LevelUnits" "length" "I") (List.mem_of_getElem? (i := 1) rfl)) (fun _ h9 => h9) rfl (by decide +kernel) rfl rfl (Nat.le_of_ble_eq_true rfl) dX11_putBytes_37 (fun H locs hP hD hS => ?_)
  have hP : va_P (dC, dI) vwCl [(h0, .inr (13, [.ref qt, .int 19, .ref qs, .ref qm, .null])), (qt, .inl (cy, 6000, .inl f_9))] H := hP
  have hD : va_D A [(h0, .inr (13, [.ref qt, .int 19, .ref qs, .ref qm, .null])), (qt, .inl (cy, 6000, .inl f_9))] := hD
  refine lv_iinc (v := 0) (lv' := [(2, .int 0), (0, .ref h0), (1, .int i)]) hx hb dX11_putBytes_40 hl (k := 0) rfl (by decide) (by decide) rfl (fun ls hl => ?_)
  refine lv_goto (tgt := 3) hx hb dX11_putBytes_43 (by decide) ?_
  refine lv_iload_n hx hb dX11_putBytes_3 rfl (lv_at hl 0 rfl) ?_
  refine lv_if_lt (tgt := 46) hx hb dX11_putBytes_4 (by decide) (fun c9 => absurd c9 (by decide)) (fun c9 => ?_)
  clear c9
  refine lv_aload_n hx hb dX11_putBytes_7 rfl (lv_at hl 1 rfl) ?_
  refine va_get (D := (dC, dI)) (ci := 13) (v := .int 19) (C := RX11) (T := TX11) (N := 5) hx hb hts in_cc_putBytes_16_RX11 hown hK hP 0 rfl rfl 1 (by decide) (hts (.fieldLink RX11 27 "LevelUnits" "length" "I") (List.mem_of_getElem? (i := 1) rfl)) (fun _ h9 => h9) rfl dX11_putBytes_8 ?_
  refine lv_sipush (v := 6000) hx hb dX11_putBytes_11 (by decide) ?_
  refine lv_icmp_ge (tgt := 46) hx hb dX11_putBytes_14 (by decide) (fun c9 => absurd c9 (by decide)) (fun c9 => ?_)
  clear c9
  refine lv_aload_n hx hb dX11_putBytes_17 rfl (lv_at hl 1 rfl) ?_
  refine va_get (D := (dC, dI)) (ci := 13) (v := .ref qt) (C := RX11) (T := TX11) (N := 5) hx hb hts in_cc_putBytes_16_RX11 hown hK hP 0 rfl rfl 0 (by decide) (hts (.fieldLink RX11 9 "LevelUnits" "tape" "[B") (List.mem_of_getElem? (i := 2) rfl)) (fun _ h9 => h9) rfl dX11_putBytes_18 ?_
  refine lv_aload_n hx hb dX11_putBytes_21 rfl (lv_at hl 1 rfl) ?_
  refine va_get (D := (dC, dI)) (ci := 13) (v := .int 19) (C := RX11) (T := TX11) (N := 5) hx hb hts in_cc_putBytes_16_RX11 hown hK hP 0 rfl rfl 1 (by decide) (hts (.fieldLink RX11 27 "LevelUnits" "length" "I") (List.mem_of_getElem? (i := 1) rfl)) (fun _ h9 => h9) rfl dX11_putBytes_22 ?_
  refine lv_iload_n hx hb dX11_putBytes_25 rfl (lv_at hl 2 rfl) ?_
  refine lv_iload_n hx hb dX11_putBytes_26 rfl (lv_at hl 0 rfl) ?_
  refine lv_iushr hx hb dX11_putBytes_27 rfl ?_
  refine lv_topi (fun x_10 ex_10 => ?_)
  refine lv_i2b hx hb dX11_putBytes_28 rfl ?_
  refine lv_topi (fun x_11 ex_11 => ?_)
  refine va_bast hx hb hK hP hD hS 1 0 rfl rfl (i := 19) (by unfold vp_in; decide) dX11_putBytes_29 (fun H locs hP hD hS => ?_)
  obtain ⟨f_12, ef_12⟩ : ∃ z, z = upd f_9 (Int32.toNatClampNeg 19) (vp_nar .byte x_11) := ⟨_, rfl⟩
  rw [← ef_12] at hP hD
  have hP : va_P (dC, dI) vwCl [(h0, .inr (13, [.ref qt, .int 19, .ref qs, .ref qm, .null])), (qt, .inl (cy, 6000, .inl f_12))] H := hP
  have hD : va_D A [(h0, .inr (13, [.ref qt, .int 19, .ref qs, .ref qm, .null])), (qt, .inl (cy, 6000, .inl f_12))] := hD
  refine lv_aload_n hx hb dX11_putBytes_30 rfl (lv_at hl 1 rfl) ?_
  refine lv_dup hx hb dX11_putBytes_31 rfl ?_
  refine va_get (D := (dC, dI)) (ci := 13) (v := .int 19) (C := RX11) (T := TX11) (N := 5) hx hb hts in_cc_putBytes_16_RX11 hown hK hP 0 rfl rfl 1 (by decide) (hts (.fieldLink RX11 27 "LevelUnits" "length" "I") (List.mem_of_getElem? (i := 1) rfl)) (fun _ h9 => h9) rfl dX11_putBytes_32 ?_
  refine lv_iconst (v := 1) hx hb dX11_putBytes_35 (by decide) ?_
  refine lv_iadd hx hb dX11_putBytes_36 ?_
  refine lv_topi (fun y9 e9 => ?_)
  have e9 : y9 = 20 := by rw [e9]; decide
  subst e9
  refine va_put (D := (dC, dI)) (ci := 13) (v := .int 20) (ty := .int) (C := RX11) (T := TX11) (N := 5) hx hb hts in_cc_putBytes_16_RX11 tyX11 tyX11_ok nmX11 hown hK hP hD hS 0 rfl rfl 1 (by decide) (hts (.fieldLink RX11 27 "LevelUnits" "length" "I") (List.mem_of_getElem? (i := 1) rfl)) (fun _ h9 => h9) rfl (by decide +kernel) rfl rfl (Nat.le_of_ble_eq_true rfl) dX11_putBytes_37 (fun H locs hP hD hS => ?_)
  have hP : va_P (dC, dI) vwCl [(h0, .inr (13, [.ref qt, .int 20, .ref qs, .ref qm, .null])), (qt, .inl (cy, 6000, .inl f_12))] H := hP
  have hD : va_D A [(h0, .inr (13, [.ref qt, .int 20, .ref qs, .ref qm, .null])), (qt, .inl (cy, 6000, .inl f_12))] := hD
  refine lv_iinc (v := (-8)) (lv' := [(2, .int ((-8))), (0, .ref h0), (1, .int i)]) hx hb dX11_putBytes_40 hl (k := 0) rfl (by decide) (by decide) rfl (fun ls hl => ?_)
  refine lv_goto (tgt := 3) hx hb dX11_putBytes_43 (by decide) ?_
  refine lv_iload_n hx hb dX11_putBytes_3 rfl (lv_at hl 0 rfl) ?_
  refine lv_if_lt (tgt := 46) hx hb dX11_putBytes_4 (by decide) (fun c9 => ?_) (fun c9 => absurd (by decide) c9)
  clear c9
  have hP9 := hP.sub (ws' := [(h0, .inr (13, [.ref qt, .int 20, .ref qs, .ref qm, .null])), (qt, .inl (cy, 6000, .inl f_12))]) [0, 1] rfl
  have hD9 := hD.sub (ws' := [(h0, .inr (13, [.ref qt, .int 20, .ref qs, .ref qm, .null])), (qt, .inl (cy, 6000, .inl f_12))]) [0, 1] (by decide) rfl
  have hK9 := hK.sub (tys' := [(cy, .byte)]) [0] rfl
  refine W.widen (k := 0) (n := 0) (Nat.le_of_ble_eq_true rfl) (Nat.le_of_ble_eq_true rfl) ?_
  exact W.vret hx hb hr (fun t ht hW => ⟨⟨(), rfl, trivial, f_12, by rw [ht]; exact hP9, va_K.moved hW.alike hK9, hD9⟩, hS.F ht⟩) hS.2.2 dX11_putBytes_46
def ws_cc_feed : List Cond := .code yX11_feed cX11_feed 6 (some .int) :: ([.fieldLink RX11 27 "LevelUnits" "length" "I", .fieldLink RX11 9 "LevelUnits" "tape" "[B", .code yX11_putBytes cX11_putBytes 3 none, .methodLink RX11 31 yX11_putBytes, .instanceMethod yX11_putBytes, .selects RX11 yX11_putBytes yX11_putBytes, .initialized RX11] ++ wsX110)
theorem in_cc_feed_RX11 : ∀ w ∈ wsX110, w ∈ ws_cc_feed := fun _ h => List.mem_cons_of_mem _ (List.mem_append_right _ h)
theorem g0_cc_feed_cc_putBytes_0_31 : GoodIn ws_cc_feed ws_cc_putBytes_0 := goodIn_r _ [3, 1, 2, 8, 9, 10, 11, 12] (by decide +kernel) (by decide +kernel)
theorem gg_cc_feed_cc_putBytes_0_31 : GoodIn ws_cc_feed (wsV RX11 31 RX11 yX11_putBytes ws_cc_putBytes_0) := goodIn_app (goodIn_of _ (by decide +kernel)) g0_cc_feed_cc_putBytes_0_31
theorem g0_cc_feed_cc_putBytes_4_31 : GoodIn ws_cc_feed ws_cc_putBytes_4 := goodIn_r _ [3, 1, 2, 8, 9, 10, 11, 12] (by decide +kernel) (by decide +kernel)
theorem gg_cc_feed_cc_putBytes_4_31 : GoodIn ws_cc_feed (wsV RX11 31 RX11 yX11_putBytes ws_cc_putBytes_4) := goodIn_app (goodIn_of _ (by decide +kernel)) g0_cc_feed_cc_putBytes_4_31
theorem g0_cc_feed_cc_putBytes_8_31 : GoodIn ws_cc_feed ws_cc_putBytes_8 := goodIn_r _ [3, 1, 2, 8, 9, 10, 11, 12] (by decide +kernel) (by decide +kernel)
theorem gg_cc_feed_cc_putBytes_8_31 : GoodIn ws_cc_feed (wsV RX11 31 RX11 yX11_putBytes ws_cc_putBytes_8) := goodIn_app (goodIn_of _ (by decide +kernel)) g0_cc_feed_cc_putBytes_8_31
theorem g0_cc_feed_cc_putBytes_12_31 : GoodIn ws_cc_feed ws_cc_putBytes_12 := goodIn_r _ [3, 1, 2, 8, 9, 10, 11, 12] (by decide +kernel) (by decide +kernel)
theorem gg_cc_feed_cc_putBytes_12_31 : GoodIn ws_cc_feed (wsV RX11 31 RX11 yX11_putBytes ws_cc_putBytes_12) := goodIn_app (goodIn_of _ (by decide +kernel)) g0_cc_feed_cc_putBytes_12_31
theorem g0_cc_feed_cc_putBytes_16_31 : GoodIn ws_cc_feed ws_cc_putBytes_16 := goodIn_r _ [3, 1, 2, 8, 9, 10, 11, 12] (by decide +kernel) (by decide +kernel)
theorem gg_cc_feed_cc_putBytes_16_31 : GoodIn ws_cc_feed (wsV RX11 31 RX11 yX11_putBytes ws_cc_putBytes_16) := goodIn_app (goodIn_of _ (by decide +kernel)) g0_cc_feed_cc_putBytes_16_31
set_option maxHeartbeats 4000000 in
set_option maxRecDepth 100000 in
theorem cc_feed (l : Launch) (dC : Nat → ClassId) (dI : Nat → Nat → Nat) (h0 : Nat) (qt : Nat) (qs : Nat) (qm : Nat) (cy : ClassId) (f : Nat → Int32) (i0 : Int32) (i1 : Int32) (i2 : Int32) (i3 : Int32) (i4 : Int32) (sz : Nat) : Met l yX11_feed ws_cc_feed ({ frames := 1, cells := 0, slots := 0, locals := 22 }) (va_Pc [.ref h0, .int i0, .int i1, .int i2, .int i3, .int i4] (fun U => U.heap.size = sz ∧ va_P (dC, dI) vwCl [(h0, .inr (13, [.ref qt, .int 0, .ref qs, .ref qm, .null])), (qt, .inl (cy, 6000, .inl f))] U.heap ∧ va_K (dC, dI) vwCl [(cy, .byte)] U ∧ va_D (fun _ => True) [(h0, .inr (13, [.ref qt, .int 0, .ref qs, .ref qm, .null])), (qt, .inl (cy, 6000, .inl f))])) (va_Qi (fun (r : Int32) (_ : Unit) => r = 20) (fun _ t => va_P (dC, dI) vwCl [] t.heap ∧ va_K (dC, dI) vwCl [] t ∧ va_D (va_A [(h0, .inr (13, [.ref qt, .int 0, .ref qs, .ref qm, .null])), (qt, .inl (cy, 6000, .inl f))] sz) []) (va_A [(h0, .inr (13, [.ref qt, .int 0, .ref qs, .ref qm, .null])), (qt, .inl (cy, 6000, .inl f))] sz)) 0 0 (va_A [(h0, .inr (13, [.ref qt, .int 0, .ref qs, .ref qm, .null])), (qt, .inl (cy, 6000, .inl f))] sz) := by
  refine Met.ofW (cc := cX11_feed) (maxL := 6) (ret := (some .int)) (by decide) rfl ?_
  intro p e s m args below meth c s₁ B hml hv
  obtain ⟨rfl, hsz, hP, hK, hD0⟩ := hv
  have hx := B.exec
  have hb := B.bytes
  have hr := B.returns
  have hts := atoms_spec (ws := ws_cc_feed) B.pre
  have hown : s.vm.findClass RX11 = some m.cls := findClass_of_methodNamed B.named
  have hlocks := B.notSynchronized
  subst hsz
  have hD := hD0.self (sz := s.heap.size)
  generalize hAe : va_A [(h0, .inr (13, [.ref qt, .int 0, .ref qs, .ref qm, .null])), (qt, .inl (cy, 6000, .inl f))] s.heap.size = A at hD ⊢
  have hA : ∀ q : Nat, s.heap.size ≤ q → A q := fun q h => by rw [← hAe]; exact Or.inr h
  have hS : va_S A s.heap s.heap [] := va_S.rf
  have hP : va_P (dC, dI) vwCl [(h0, .inr (13, [.ref qt, .int 0, .ref qs, .ref qm, .null])), (qt, .inl (cy, 6000, .inl f))] s.heap := hP
  have hl := lv_entry ([.ref h0, .int i0, .int i1, .int i2, .int i3, .int i4]) (n := 6) (Nat.le_of_ble_eq_true rfl)
  rw [lg_entry_eq]
  generalize (lg_sl ([.ref h0, .int i0, .int i1, .int i2, .int i3, .int i4]) ++ List.replicate (6 - (lg_sl ([.ref h0, .int i0, .int i1, .int i2, .int i3, .int i4])).length) Slot.unset).toArray = ls at hl ⊢
  have hl : lv_has ls 6 [(0, .ref h0), (1, .int i0), (2, .int i1), (3, .int i2), (4, .int i3), (5, .int i4)] := hl
  refine lv_aload_n hx hb dX11_feed_0 rfl (lv_at hl 0 rfl) ?_
  refine va_get (D := (dC, dI)) (ci := 13) (v := .int 0) (C := RX11) (T := TX11) (N := 5) hx hb hts in_cc_feed_RX11 hown hK hP 0 rfl rfl 1 (by decide) (hts (.fieldLink RX11 27 "LevelUnits" "length" "I") (List.mem_of_getElem? (i := 1) rfl)) (fun _ h9 => h9) rfl dX11_feed_1 ?_
  refine lv_bipush (v := 20) hx hb dX11_feed_4 (by decide) ?_
  refine lv_iadd hx hb dX11_feed_6 ?_
  refine lv_topi (fun y9 e9 => ?_)
  have e9 : y9 = 20 := by rw [e9]; decide
  subst e9
  refine lv_sipush (v := 6000) hx hb dX11_feed_7 (by decide) ?_
  refine lv_icmp_le (tgt := 15) hx hb dX11_feed_10 (by decide) (fun c9 => ?_) (fun c9 => absurd (by decide) c9)
  clear c9
  refine lv_aload_n hx hb dX11_feed_15 rfl (lv_at hl 0 rfl) ?_
  refine lv_iload_n hx hb dX11_feed_16 rfl (lv_at hl 1 rfl) ?_
  have hPc := hP.sub (ws' := [(h0, .inr (13, [.ref qt, .int 0, .ref qs, .ref qm, .null])), (qt, .inl (cy, 6000, .inl f))]) [0, 1] rfl
  have hDc := hD.sub (ws' := [(h0, .inr (13, [.ref qt, .int 0, .ref qs, .ref qm, .null])), (qt, .inl (cy, 6000, .inl f))]) [0, 1] (by decide) rfl
  have hKc := hK.sub (tys' := [(cy, .byte)]) [0] rfl
  have hFc := va_free (wc := [(h0, .inr (13, [.ref qt, .int 0, .ref qs, .ref qm, .null])), (qt, .inl (cy, 6000, .inl f))]) hD hS hA [0, 1] rfl
  refine va_callv (va_runV (As := [.int i0]) (rest := []) ⟨hx, hb, hml, hown, hts⟩ (cc_putBytes_0 l dC dI h0 qt qs qm cy f i0 s.heap.size) (cwV 1 hts gg_cc_feed_cc_putBytes_0_31 rfl rfl rfl (by decide +kernel) ⟨(Nat.le_of_ble_eq_true rfl), (Nat.le_of_ble_eq_true rfl)⟩) ⟨fun a U g mk q => by obtain ⟨q0, q1, qP, qK, qD⟩ := q; exact ⟨q0, q1, qP, va_K.moved (u := U) (U := U.calling g mk a) (Vm.Alike.refl U.vm) qK, qD⟩, va_recv hKc hPc (ci := 13) (q0 := 0) rfl rfl, fun U hU hW => ⟨rfl, by rw [hU], by rw [hU]; exact hPc, va_K.moved hW.alike hKc, hDc.weaken (fun _ _ _ _ => trivial)⟩⟩ rfl rfl hl.1 rfl (lv_room (Nat.le_of_ble_eq_true rfl)) dX11_feed_17 ⟨(Nat.le_of_ble_eq_true rfl), (Nat.le_of_ble_eq_true rfl)⟩) hS (fun q _ h => hFc q h) hFc (fun u t H1 locs ht hvm hw hB hz1 hk1 hS => ?_)
  obtain ⟨f_1, hP1, hK1, hD1⟩ := hB
  rw [ht] at hP1
  have hK1 := va_K.moved hvm.symm hK1
  obtain ⟨hP, hD⟩ := va_join (wr := []) (w1 := [(h0, .inr (13, [.ref qt, .int 4, .ref qs, .ref qm, .null])), (qt, .inl (cy, 6000, .inl f_1))]) hP hD [0, 1] [] rfl rfl (by decide) (by decide) hk1 hFc hP1 hD1
  have hK := (hK.sub (tys' := []) [] rfl).app hK1
  generalize H1 = H at hP hS ⊢
  have hK : va_K (dC, dI) vwCl [(cy, .byte)] s := hK
  have hP : va_P (dC, dI) vwCl [(h0, .inr (13, [.ref qt, .int 4, .ref qs, .ref qm, .null])), (qt, .inl (cy, 6000, .inl f_1))] H := hP
  have hD : va_D A [(h0, .inr (13, [.ref qt, .int 4, .ref qs, .ref qm, .null])), (qt, .inl (cy, 6000, .inl f_1))] := hD
  refine W.widen (k := 0) (n := 0) (Nat.le_of_ble_eq_true rfl) (Nat.le_of_ble_eq_true rfl) ?_
  refine lv_aload_n hx hb dX11_feed_20 rfl (lv_at hl 0 rfl) ?_
  refine lv_iload_n hx hb dX11_feed_21 rfl (lv_at hl 2 rfl) ?_
  have hPc := hP.sub (ws' := [(h0, .inr (13, [.ref qt, .int 4, .ref qs, .ref qm, .null])), (qt, .inl (cy, 6000, .inl f_1))]) [0, 1] rfl
  have hDc := hD.sub (ws' := [(h0, .inr (13, [.ref qt, .int 4, .ref qs, .ref qm, .null])), (qt, .inl (cy, 6000, .inl f_1))]) [0, 1] (by decide) rfl
  have hKc := hK.sub (tys' := [(cy, .byte)]) [0] rfl
  have hFc := va_free (wc := [(h0, .inr (13, [.ref qt, .int 4, .ref qs, .ref qm, .null])), (qt, .inl (cy, 6000, .inl f_1))]) hD hS hA [0, 1] rfl
  refine va_callv (va_runV (As := [.int i1]) (rest := []) ⟨hx, hb, hml, hown, hts⟩ (cc_putBytes_4 l dC dI h0 qt qs qm cy f_1 i1 H.size) (cwV 1 hts gg_cc_feed_cc_putBytes_4_31 rfl rfl rfl (by decide +kernel) ⟨(Nat.le_of_ble_eq_true rfl), (Nat.le_of_ble_eq_true rfl)⟩) ⟨fun a U g mk q => by obtain ⟨q0, q1, qP, qK, qD⟩ := q; exact ⟨q0, q1, qP, va_K.moved (u := U) (U := U.calling g mk a) (Vm.Alike.refl U.vm) qK, qD⟩, va_recv hKc hPc (ci := 13) (q0 := 0) rfl rfl, fun U hU hW => ⟨rfl, by rw [hU], by rw [hU]; exact hPc, va_K.moved hW.alike hKc, hDc.weaken (fun _ _ _ _ => trivial)⟩⟩ rfl rfl hl.1 rfl (lv_room (Nat.le_of_ble_eq_true rfl)) dX11_feed_22 ⟨(Nat.le_of_ble_eq_true rfl), (Nat.le_of_ble_eq_true rfl)⟩) hS (fun q _ h => hFc q h) hFc (fun u t H1 locs ht hvm hw hB hz1 hk1 hS => ?_)
  obtain ⟨f_2, hP1, hK1, hD1⟩ := hB
  rw [ht] at hP1
  have hK1 := va_K.moved hvm.symm hK1
  obtain ⟨hP, hD⟩ := va_join (wr := []) (w1 := [(h0, .inr (13, [.ref qt, .int 8, .ref qs, .ref qm, .null])), (qt, .inl (cy, 6000, .inl f_2))]) hP hD [0, 1] [] rfl rfl (by decide) (by decide) hk1 hFc hP1 hD1
  have hK := (hK.sub (tys' := []) [] rfl).app hK1
  generalize H1 = H at hP hS ⊢
  have hK : va_K (dC, dI) vwCl [(cy, .byte)] s := hK
  have hP : va_P (dC, dI) vwCl [(h0, .inr (13, [.ref qt, .int 8, .ref qs, .ref qm, .null])), (qt, .inl (cy, 6000, .inl f_2))] H := hP
  have hD : va_D A [(h0, .inr (13, [.ref qt, .int 8, .ref qs, .ref qm, .null])), (qt, .inl (cy, 6000, .inl f_2))] := hD
  refine W.widen (k := 0) (n := 0) (Nat.le_of_ble_eq_true rfl) (Nat.le_of_ble_eq_true rfl) ?_
  refine lv_aload_n hx hb dX11_feed_25 rfl (lv_at hl 0 rfl) ?_
  refine lv_iload_n hx hb dX11_feed_26 rfl (lv_at hl 3 rfl) ?_
  have hPc := hP.sub (ws' := [(h0, .inr (13, [.ref qt, .int 8, .ref qs, .ref qm, .null])), (qt, .inl (cy, 6000, .inl f_2))]) [0, 1] rfl
  have hDc := hD.sub (ws' := [(h0, .inr (13, [.ref qt, .int 8, .ref qs, .ref qm, .null])), (qt, .inl (cy, 6000, .inl f_2))]) [0, 1] (by decide) rfl
  have hKc := hK.sub (tys' := [(cy, .byte)]) [0] rfl
  have hFc := va_free (wc := [(h0, .inr (13, [.ref qt, .int 8, .ref qs, .ref qm, .null])), (qt, .inl (cy, 6000, .inl f_2))]) hD hS hA [0, 1] rfl
  refine va_callv (va_runV (As := [.int i2]) (rest := []) ⟨hx, hb, hml, hown, hts⟩ (cc_putBytes_8 l dC dI h0 qt qs qm cy f_2 i2 H.size) (cwV 1 hts gg_cc_feed_cc_putBytes_8_31 rfl rfl rfl (by decide +kernel) ⟨(Nat.le_of_ble_eq_true rfl), (Nat.le_of_ble_eq_true rfl)⟩) ⟨fun a U g mk q => by obtain ⟨q0, q1, qP, qK, qD⟩ := q; exact ⟨q0, q1, qP, va_K.moved (u := U) (U := U.calling g mk a) (Vm.Alike.refl U.vm) qK, qD⟩, va_recv hKc hPc (ci := 13) (q0 := 0) rfl rfl, fun U hU hW => ⟨rfl, by rw [hU], by rw [hU]; exact hPc, va_K.moved hW.alike hKc, hDc.weaken (fun _ _ _ _ => trivial)⟩⟩ rfl rfl hl.1 rfl (lv_room (Nat.le_of_ble_eq_true rfl)) dX11_feed_27 ⟨(Nat.le_of_ble_eq_true rfl), (Nat.le_of_ble_eq_true rfl)⟩) hS (fun q _ h => hFc q h) hFc (fun u t H1 locs ht hvm hw hB hz1 hk1 hS => ?_)
  obtain ⟨f_3, hP1, hK1, hD1⟩ := hB
  rw [ht] at hP1
  have hK1 := va_K.moved hvm.symm hK1
  obtain ⟨hP, hD⟩ := va_join (wr := []) (w1 := [(h0, .inr (13, [.ref qt, .int 12, .ref qs, .ref qm, .null])), (qt, .inl (cy, 6000, .inl f_3))]) hP hD [0, 1] [] rfl rfl (by decide) (by decide) hk1 hFc hP1 hD1
  have hK := (hK.sub (tys' := []) [] rfl).app hK1
  generalize H1 = H at hP hS ⊢
  have hK : va_K (dC, dI) vwCl [(cy, .byte)] s := hK
  have hP : va_P (dC, dI) vwCl [(h0, .inr (13, [.ref qt, .int 12, .ref qs, .ref qm, .null])), (qt, .inl (cy, 6000, .inl f_3))] H := hP
  have hD : va_D A [(h0, .inr (13, [.ref qt, .int 12, .ref qs, .ref qm, .null])), (qt, .inl (cy, 6000, .inl f_3))] := hD
  refine W.widen (k := 0) (n := 0) (Nat.le_of_ble_eq_true rfl) (Nat.le_of_ble_eq_true rfl) ?_
  refine lv_aload_n hx hb dX11_feed_30 rfl (lv_at hl 0 rfl) ?_
  refine lv_iload hx hb dX11_feed_31 (lv_at hl 4 rfl) ?_
  have hPc := hP.sub (ws' := [(h0, .inr (13, [.ref qt, .int 12, .ref qs, .ref qm, .null])), (qt, .inl (cy, 6000, .inl f_3))]) [0, 1] rfl
  have hDc := hD.sub (ws' := [(h0, .inr (13, [.ref qt, .int 12, .ref qs, .ref qm, .null])), (qt, .inl (cy, 6000, .inl f_3))]) [0, 1] (by decide) rfl
  have hKc := hK.sub (tys' := [(cy, .byte)]) [0] rfl
  have hFc := va_free (wc := [(h0, .inr (13, [.ref qt, .int 12, .ref qs, .ref qm, .null])), (qt, .inl (cy, 6000, .inl f_3))]) hD hS hA [0, 1] rfl
  refine va_callv (va_runV (As := [.int i3]) (rest := []) ⟨hx, hb, hml, hown, hts⟩ (cc_putBytes_12 l dC dI h0 qt qs qm cy f_3 i3 H.size) (cwV 1 hts gg_cc_feed_cc_putBytes_12_31 rfl rfl rfl (by decide +kernel) ⟨(Nat.le_of_ble_eq_true rfl), (Nat.le_of_ble_eq_true rfl)⟩) ⟨fun a U g mk q => by obtain ⟨q0, q1, qP, qK, qD⟩ := q; exact ⟨q0, q1, qP, va_K.moved (u := U) (U := U.calling g mk a) (Vm.Alike.refl U.vm) qK, qD⟩, va_recv hKc hPc (ci := 13) (q0 := 0) rfl rfl, fun U hU hW => ⟨rfl, by rw [hU], by rw [hU]; exact hPc, va_K.moved hW.alike hKc, hDc.weaken (fun _ _ _ _ => trivial)⟩⟩ rfl rfl hl.1 rfl (lv_room (Nat.le_of_ble_eq_true rfl)) dX11_feed_33 ⟨(Nat.le_of_ble_eq_true rfl), (Nat.le_of_ble_eq_true rfl)⟩) hS (fun q _ h => hFc q h) hFc (fun u t H1 locs ht hvm hw hB hz1 hk1 hS => ?_)
  obtain ⟨f_4, hP1, hK1, hD1⟩ := hB
  rw [ht] at hP1
  have hK1 := va_K.moved hvm.symm hK1
  obtain ⟨hP, hD⟩ := va_join (wr := []) (w1 := [(h0, .inr (13, [.ref qt, .int 16, .ref qs, .ref qm, .null])), (qt, .inl (cy, 6000, .inl f_4))]) hP hD [0, 1] [] rfl rfl (by decide) (by decide) hk1 hFc hP1 hD1
  have hK := (hK.sub (tys' := []) [] rfl).app hK1
  generalize H1 = H at hP hS ⊢
  have hK : va_K (dC, dI) vwCl [(cy, .byte)] s := hK
  have hP : va_P (dC, dI) vwCl [(h0, .inr (13, [.ref qt, .int 16, .ref qs, .ref qm, .null])), (qt, .inl (cy, 6000, .inl f_4))] H := hP
  have hD : va_D A [(h0, .inr (13, [.ref qt, .int 16, .ref qs, .ref qm, .null])), (qt, .inl (cy, 6000, .inl f_4))] := hD
  refine W.widen (k := 0) (n := 0) (Nat.le_of_ble_eq_true rfl) (Nat.le_of_ble_eq_true rfl) ?_
  refine lv_aload_n hx hb dX11_feed_36 rfl (lv_at hl 0 rfl) ?_
  refine lv_iload hx hb dX11_feed_37 (lv_at hl 5 rfl) ?_
  have hPc := hP.sub (ws' := [(h0, .inr (13, [.ref qt, .int 16, .ref qs, .ref qm, .null])), (qt, .inl (cy, 6000, .inl f_4))]) [0, 1] rfl
  have hDc := hD.sub (ws' := [(h0, .inr (13, [.ref qt, .int 16, .ref qs, .ref qm, .null])), (qt, .inl (cy, 6000, .inl f_4))]) [0, 1] (by decide) rfl
  have hKc := hK.sub (tys' := [(cy, .byte)]) [0] rfl
  have hFc := va_free (wc := [(h0, .inr (13, [.ref qt, .int 16, .ref qs, .ref qm, .null])), (qt, .inl (cy, 6000, .inl f_4))]) hD hS hA [0, 1] rfl
  refine va_callv (va_runV (As := [.int i4]) (rest := []) ⟨hx, hb, hml, hown, hts⟩ (cc_putBytes_16 l dC dI h0 qt qs qm cy f_4 i4 H.size) (cwV 1 hts gg_cc_feed_cc_putBytes_16_31 rfl rfl rfl (by decide +kernel) ⟨(Nat.le_of_ble_eq_true rfl), (Nat.le_of_ble_eq_true rfl)⟩) ⟨fun a U g mk q => by obtain ⟨q0, q1, qP, qK, qD⟩ := q; exact ⟨q0, q1, qP, va_K.moved (u := U) (U := U.calling g mk a) (Vm.Alike.refl U.vm) qK, qD⟩, va_recv hKc hPc (ci := 13) (q0 := 0) rfl rfl, fun U hU hW => ⟨rfl, by rw [hU], by rw [hU]; exact hPc, va_K.moved hW.alike hKc, hDc.weaken (fun _ _ _ _ => trivial)⟩⟩ rfl rfl hl.1 rfl (lv_room (Nat.le_of_ble_eq_true rfl)) dX11_feed_39 ⟨(Nat.le_of_ble_eq_true rfl), (Nat.le_of_ble_eq_true rfl)⟩) hS (fun q _ h => hFc q h) hFc (fun u t H1 locs ht hvm hw hB hz1 hk1 hS => ?_)
  obtain ⟨f_5, hP1, hK1, hD1⟩ := hB
  rw [ht] at hP1
  have hK1 := va_K.moved hvm.symm hK1
  obtain ⟨hP, hD⟩ := va_join (wr := []) (w1 := [(h0, .inr (13, [.ref qt, .int 20, .ref qs, .ref qm, .null])), (qt, .inl (cy, 6000, .inl f_5))]) hP hD [0, 1] [] rfl rfl (by decide) (by decide) hk1 hFc hP1 hD1
  have hK := (hK.sub (tys' := []) [] rfl).app hK1
  generalize H1 = H at hP hS ⊢
  have hK : va_K (dC, dI) vwCl [(cy, .byte)] s := hK
  have hP : va_P (dC, dI) vwCl [(h0, .inr (13, [.ref qt, .int 20, .ref qs, .ref qm, .null])), (qt, .inl (cy, 6000, .inl f_5))] H := hP
  have hD : va_D A [(h0, .inr (13, [.ref qt, .int 20, .ref qs, .ref qm, .null])), (qt, .inl (cy, 6000, .inl f_5))] := hD
  refine W.widen (k := 0) (n := 0) (Nat.le_of_ble_eq_true rfl) (Nat.le_of_ble_eq_true rfl) ?_
  refine lv_aload_n hx hb dX11_feed_42 rfl (lv_at hl 0 rfl) ?_
  refine va_get (D := (dC, dI)) (ci := 13) (v := .int 20) (C := RX11) (T := TX11) (N := 5) hx hb hts in_cc_feed_RX11 hown hK hP 0 rfl rfl 1 (by decide) (hts (.fieldLink RX11 27 "LevelUnits" "length" "I") (List.mem_of_getElem? (i := 1) rfl)) (fun _ h9 => h9) rfl dX11_feed_43 ?_
  have hP9 := hP.sub (ws' := []) [] rfl
  have hD9 := hD.sub (ws' := []) [] (by decide) rfl
  have hK9 := hK.sub (tys' := []) [] rfl
  refine W.widen (k := 0) (n := 0) (Nat.le_of_ble_eq_true rfl) (Nat.le_of_ble_eq_true rfl) ?_
  exact W.iret (v := 20) hx hb hr (fun t ht hW => ⟨⟨20, (), rfl, rfl, by rw [ht]; exact hP9, va_K.moved hW.alike hK9, hD9⟩, hS.F ht⟩) hS.2.2 dX11_feed_46
def ws_cc_back : List Cond := .code yX11_back cX11_back 2 (some .int) :: ([.fieldLink RX11 27 "LevelUnits" "length" "I"] ++ wsX110)
theorem in_cc_back_RX11 : ∀ w ∈ wsX110, w ∈ ws_cc_back := fun _ h => List.mem_cons_of_mem _ (List.mem_append_right _ h)
set_option maxHeartbeats 4000000 in
set_option maxRecDepth 100000 in
theorem cc_back (l : Launch) (dC : Nat → ClassId) (dI : Nat → Nat → Nat) (h0 : Nat) (qt : Nat) (qs : Nat) (qm : Nat) (i : Int32) (sz : Nat) : Met l yX11_back ws_cc_back ({ frames := 0, cells := 0, slots := 0, locals := 0 }) (va_Pc [.ref h0, .int i] (fun U => U.heap.size = sz ∧ va_P (dC, dI) vwCl [(h0, .inr (13, [.ref qt, .int 0, .ref qs, .ref qm, .null]))] U.heap ∧ va_K (dC, dI) vwCl [] U ∧ va_D (fun _ => True) [(h0, .inr (13, [.ref qt, .int 0, .ref qs, .ref qm, .null]))])) (va_Qi (fun (r : Int32) (_ : Unit) => r = bkS i) (fun _ t => va_P (dC, dI) vwCl [] t.heap ∧ va_K (dC, dI) vwCl [] t ∧ va_D (va_A [(h0, .inr (13, [.ref qt, .int 0, .ref qs, .ref qm, .null]))] sz) []) (va_A [(h0, .inr (13, [.ref qt, .int 0, .ref qs, .ref qm, .null]))] sz)) 0 0 (va_A [(h0, .inr (13, [.ref qt, .int 0, .ref qs, .ref qm, .null]))] sz) := by
  refine Met.ofW (cc := cX11_back) (maxL := 2) (ret := (some .int)) (by decide) rfl ?_
  intro p e s m args below meth c s₁ B hml hv
  obtain ⟨rfl, hsz, hP, hK, hD0⟩ := hv
  have hx := B.exec
  have hb := B.bytes
  have hr := B.returns
  have hts := atoms_spec (ws := ws_cc_back) B.pre
  have hown : s.vm.findClass RX11 = some m.cls := findClass_of_methodNamed B.named
  have hlocks := B.notSynchronized
  subst hsz
  have hD := hD0.self (sz := s.heap.size)
  generalize hAe : va_A [(h0, .inr (13, [.ref qt, .int 0, .ref qs, .ref qm, .null]))] s.heap.size = A at hD ⊢
  have hA : ∀ q : Nat, s.heap.size ≤ q → A q := fun q h => by rw [← hAe]; exact Or.inr h
  have hS : va_S A s.heap s.heap [] := va_S.rf
  have hP : va_P (dC, dI) vwCl [(h0, .inr (13, [.ref qt, .int 0, .ref qs, .ref qm, .null]))] s.heap := hP
  have hl := lv_entry ([.ref h0, .int i]) (n := 2) (Nat.le_of_ble_eq_true rfl)
  rw [lg_entry_eq]
  generalize (lg_sl ([.ref h0, .int i]) ++ List.replicate (2 - (lg_sl ([.ref h0, .int i])).length) Slot.unset).toArray = ls at hl ⊢
  have hl : lv_has ls 2 [(0, .ref h0), (1, .int i)] := hl
  refine lv_iload_n hx hb dX11_back_0 rfl (lv_at hl 1 rfl) ?_
  refine lv_if_lt (tgt := 12) hx hb dX11_back_1 (by decide) (fun c_1 => ?_) (fun c_1 => ?_)
  · skip
    refine lv_iconst (v := (-1)) hx hb dX11_back_12 (by decide) ?_
    have hP9 := hP.sub (ws' := []) [] rfl
    have hD9 := hD.sub (ws' := []) [] (by decide) rfl
    have hK9 := hK.sub (tys' := []) [] rfl
    refine W.widen (k := 0) (n := 0) (Nat.le_of_ble_eq_true rfl) (Nat.le_of_ble_eq_true rfl) ?_
    exact W.iret (v := (-1)) hx hb hr (fun t ht hW => ⟨⟨(-1), (), rfl, (by simp [bkS, c_1]), by rw [ht]; exact hP9, va_K.moved hW.alike hK9, hD9⟩, hS.F ht⟩) hS.2.2 dX11_back_13
  · skip
    refine lv_iload_n hx hb dX11_back_4 rfl (lv_at hl 1 rfl) ?_
    refine lv_aload_n hx hb dX11_back_5 rfl (lv_at hl 0 rfl) ?_
    refine va_get (D := (dC, dI)) (ci := 13) (v := .int 0) (C := RX11) (T := TX11) (N := 5) hx hb hts in_cc_back_RX11 hown hK hP 0 rfl rfl 1 (by decide) (hts (.fieldLink RX11 27 "LevelUnits" "length" "I") (List.mem_of_getElem? (i := 1) rfl)) (fun _ h9 => h9) rfl dX11_back_6 ?_
    refine lv_icmp_le (tgt := 14) hx hb dX11_back_9 (by decide) (fun c_2 => ?_) (fun c_2 => ?_)
    · skip
      refine lv_aload_n hx hb dX11_back_14 rfl (lv_at hl 0 rfl) ?_
      refine lv_dup hx hb dX11_back_15 rfl ?_
      refine va_get (D := (dC, dI)) (ci := 13) (v := .int 0) (C := RX11) (T := TX11) (N := 5) hx hb hts in_cc_back_RX11 hown hK hP 0 rfl rfl 1 (by decide) (hts (.fieldLink RX11 27 "LevelUnits" "length" "I") (List.mem_of_getElem? (i := 1) rfl)) (fun _ h9 => h9) rfl dX11_back_16 ?_
      refine lv_iload_n hx hb dX11_back_19 rfl (lv_at hl 1 rfl) ?_
      refine lv_isub hx hb dX11_back_20 ?_
      refine lv_topi (fun x_3 ex_3 => ?_)
      refine va_put (D := (dC, dI)) (ci := 13) (v := .int x_3) (ty := .int) (C := RX11) (T := TX11) (N := 5) hx hb hts in_cc_back_RX11 tyX11 tyX11_ok nmX11 hown hK hP hD hS 0 rfl rfl 1 (by decide) (hts (.fieldLink RX11 27 "LevelUnits" "length" "I") (List.mem_of_getElem? (i := 1) rfl)) (fun _ h9 => h9) rfl (by decide +kernel) rfl rfl (Nat.le_of_ble_eq_true rfl) dX11_back_21 (fun H locs hP hD hS => ?_)
      have hP : va_P (dC, dI) vwCl [(h0, .inr (13, [.ref qt, .int x_3, .ref qs, .ref qm, .null]))] H := hP
      have hD : va_D A [(h0, .inr (13, [.ref qt, .int x_3, .ref qs, .ref qm, .null]))] := hD
      refine lv_aload_n hx hb dX11_back_24 rfl (lv_at hl 0 rfl) ?_
      refine va_get (D := (dC, dI)) (ci := 13) (v := .int x_3) (C := RX11) (T := TX11) (N := 5) hx hb hts in_cc_back_RX11 hown hK hP 0 rfl rfl 1 (by decide) (hts (.fieldLink RX11 27 "LevelUnits" "length" "I") (List.mem_of_getElem? (i := 1) rfl)) (fun _ h9 => h9) rfl dX11_back_25 ?_
      have hP9 := hP.sub (ws' := []) [] rfl
      have hD9 := hD.sub (ws' := []) [] (by decide) rfl
      have hK9 := hK.sub (tys' := []) [] rfl
      refine W.widen (k := 0) (n := 0) (Nat.le_of_ble_eq_true rfl) (Nat.le_of_ble_eq_true rfl) ?_
      exact W.iret (v := x_3) hx hb hr (fun t ht hW => ⟨⟨x_3, (), rfl, (by simp [bkS, c_1, c_2, ex_3]), by rw [ht]; exact hP9, va_K.moved hW.alike hK9, hD9⟩, hS.F ht⟩) hS.2.2 dX11_back_28
    · skip
      refine lv_iconst (v := (-1)) hx hb dX11_back_12 (by decide) ?_
      have hP9 := hP.sub (ws' := []) [] rfl
      have hD9 := hD.sub (ws' := []) [] (by decide) rfl
      have hK9 := hK.sub (tys' := []) [] rfl
      refine W.widen (k := 0) (n := 0) (Nat.le_of_ble_eq_true rfl) (Nat.le_of_ble_eq_true rfl) ?_
      exact W.iret (v := (-1)) hx hb hr (fun t ht hW => ⟨⟨(-1), (), rfl, (by simp [bkS, c_1, c_2]), by rw [ht]; exact hP9, va_K.moved hW.alike hK9, hD9⟩, hS.F ht⟩) hS.2.2 dX11_back_13
def ws_cc_figure : List Cond := .code yX2_figure cX2_figure 2 (some .int) :: ([.fieldLink RX2 49 "LevelUnits$Machine" "made" "I"] ++ wsX20)
theorem in_cc_figure_RX2 : ∀ w ∈ wsX20, w ∈ ws_cc_figure := fun _ h => List.mem_cons_of_mem _ (List.mem_append_right _ h)
set_option maxHeartbeats 4000000 in
set_option maxRecDepth 100000 in
theorem cc_figure (l : Launch) (dC : Nat → ClassId) (dI : Nat → Nat → Nat) (h0 : Nat) (m1 : Nat) (m2 : Nat) (m3 : Nat) (m4 : Nat) (m5 : Nat) (m7 : Nat) (m11 : Nat) (m13 : Nat) (m15 : Nat) (i : Int32) (sz : Nat) : Met l yX2_figure ws_cc_figure ({ frames := 0, cells := 0, slots := 0, locals := 0 }) (va_Pc [.ref h0, .int i] (fun U => U.heap.size = sz ∧ va_P (dC, dI) vwCl [(h0, .inr (4, [.null, .ref m1, .ref m2, .ref m3, .ref m4, .ref m5, .int 0, .ref m7, .int 0, .int 0, .int 0, .ref m11, .int 0, .ref m13, .int 0, .ref m15, .null, .int 0, .int 0]))] U.heap ∧ va_K (dC, dI) vwCl [] U ∧ va_D (fun _ => True) [(h0, .inr (4, [.null, .ref m1, .ref m2, .ref m3, .ref m4, .ref m5, .int 0, .ref m7, .int 0, .int 0, .int 0, .ref m11, .int 0, .ref m13, .int 0, .ref m15, .null, .int 0, .int 0]))])) (va_Qi (fun (r : Int32) (_ : Unit) => r = 0) (fun _ t => va_P (dC, dI) vwCl [(h0, .inr (4, [.null, .ref m1, .ref m2, .ref m3, .ref m4, .ref m5, .int 0, .ref m7, .int 0, .int 0, .int 0, .ref m11, .int 0, .ref m13, .int 0, .ref m15, .null, .int 0, .int 0]))] t.heap ∧ va_K (dC, dI) vwCl [] t ∧ va_D (va_A [(h0, .inr (4, [.null, .ref m1, .ref m2, .ref m3, .ref m4, .ref m5, .int 0, .ref m7, .int 0, .int 0, .int 0, .ref m11, .int 0, .ref m13, .int 0, .ref m15, .null, .int 0, .int 0]))] sz) [(h0, .inr (4, [.null, .ref m1, .ref m2, .ref m3, .ref m4, .ref m5, .int 0, .ref m7, .int 0, .int 0, .int 0, .ref m11, .int 0, .ref m13, .int 0, .ref m15, .null, .int 0, .int 0]))]) (va_A [(h0, .inr (4, [.null, .ref m1, .ref m2, .ref m3, .ref m4, .ref m5, .int 0, .ref m7, .int 0, .int 0, .int 0, .ref m11, .int 0, .ref m13, .int 0, .ref m15, .null, .int 0, .int 0]))] sz)) 0 0 (va_A [(h0, .inr (4, [.null, .ref m1, .ref m2, .ref m3, .ref m4, .ref m5, .int 0, .ref m7, .int 0, .int 0, .int 0, .ref m11, .int 0, .ref m13, .int 0, .ref m15, .null, .int 0, .int 0]))] sz) := by
  refine Met.ofW (cc := cX2_figure) (maxL := 2) (ret := (some .int)) (by decide) rfl ?_
  intro p e s m args below meth c s₁ B hml hv
  obtain ⟨rfl, hsz, hP, hK, hD0⟩ := hv
  have hx := B.exec
  have hb := B.bytes
  have hr := B.returns
  have hts := atoms_spec (ws := ws_cc_figure) B.pre
  have hown : s.vm.findClass RX2 = some m.cls := findClass_of_methodNamed B.named
  have hlocks := B.notSynchronized
  subst hsz
  have hD := hD0.self (sz := s.heap.size)
  generalize hAe : va_A [(h0, .inr (4, [.null, .ref m1, .ref m2, .ref m3, .ref m4, .ref m5, .int 0, .ref m7, .int 0, .int 0, .int 0, .ref m11, .int 0, .ref m13, .int 0, .ref m15, .null, .int 0, .int 0]))] s.heap.size = A at hD ⊢
  have hA : ∀ q : Nat, s.heap.size ≤ q → A q := fun q h => by rw [← hAe]; exact Or.inr h
  have hS : va_S A s.heap s.heap [] := va_S.rf
  have hP : va_P (dC, dI) vwCl [(h0, .inr (4, [.null, .ref m1, .ref m2, .ref m3, .ref m4, .ref m5, .int 0, .ref m7, .int 0, .int 0, .int 0, .ref m11, .int 0, .ref m13, .int 0, .ref m15, .null, .int 0, .int 0]))] s.heap := hP
  have hl := lv_entry ([.ref h0, .int i]) (n := 2) (Nat.le_of_ble_eq_true rfl)
  rw [lg_entry_eq]
  generalize (lg_sl ([.ref h0, .int i]) ++ List.replicate (2 - (lg_sl ([.ref h0, .int i])).length) Slot.unset).toArray = ls at hl ⊢
  have hl : lv_has ls 2 [(0, .ref h0), (1, .int i)] := hl
  refine lv_aload_n hx hb dX2_figure_0 rfl (lv_at hl 0 rfl) ?_
  refine va_get (D := (dC, dI)) (ci := 4) (v := .int 0) (C := RX2) (T := TX2) (N := 19) hx hb hts in_cc_figure_RX2 hown hK hP 0 rfl rfl 8 (by decide) (hts (.fieldLink RX2 49 "LevelUnits$Machine" "made" "I") (List.mem_of_getElem? (i := 1) rfl)) (fun _ h9 => h9) rfl dX2_figure_1 ?_
  refine lv_if_ne (tgt := 9) hx hb dX2_figure_4 (by decide) (fun c9 => absurd c9 (by decide)) (fun c9 => ?_)
  clear c9
  refine lv_iconst (v := 0) hx hb dX2_figure_7 (by decide) ?_
  have hP9 := hP.sub (ws' := [(h0, .inr (4, [.null, .ref m1, .ref m2, .ref m3, .ref m4, .ref m5, .int 0, .ref m7, .int 0, .int 0, .int 0, .ref m11, .int 0, .ref m13, .int 0, .ref m15, .null, .int 0, .int 0]))]) [0] rfl
  have hD9 := hD.sub (ws' := [(h0, .inr (4, [.null, .ref m1, .ref m2, .ref m3, .ref m4, .ref m5, .int 0, .ref m7, .int 0, .int 0, .int 0, .ref m11, .int 0, .ref m13, .int 0, .ref m15, .null, .int 0, .int 0]))]) [0] (by decide) rfl
  have hK9 := hK.sub (tys' := []) [] rfl
  refine W.widen (k := 0) (n := 0) (Nat.le_of_ble_eq_true rfl) (Nat.le_of_ble_eq_true rfl) ?_
  exact W.iret (v := 0) hx hb hr (fun t ht hW => ⟨⟨0, (), rfl, rfl, by rw [ht]; exact hP9, va_K.moved hW.alike hK9, hD9⟩, hS.F ht⟩) hS.2.2 dX2_figure_8
def ws_cc_outputAt : List Cond := .code yX2_outputAt cX2_outputAt 2 (some .int) :: ([.fieldLink RX2 49 "LevelUnits$Machine" "made" "I"] ++ wsX20)
theorem in_cc_outputAt_RX2 : ∀ w ∈ wsX20, w ∈ ws_cc_outputAt := fun _ h => List.mem_cons_of_mem _ (List.mem_append_right _ h)
set_option maxHeartbeats 4000000 in
set_option maxRecDepth 100000 in
theorem cc_outputAt (l : Launch) (dC : Nat → ClassId) (dI : Nat → Nat → Nat) (h0 : Nat) (m1 : Nat) (m2 : Nat) (m3 : Nat) (m4 : Nat) (m5 : Nat) (m7 : Nat) (m11 : Nat) (m13 : Nat) (m15 : Nat) (i : Int32) (sz : Nat) : Met l yX2_outputAt ws_cc_outputAt ({ frames := 0, cells := 0, slots := 0, locals := 0 }) (va_Pc [.ref h0, .int i] (fun U => U.heap.size = sz ∧ va_P (dC, dI) vwCl [(h0, .inr (4, [.null, .ref m1, .ref m2, .ref m3, .ref m4, .ref m5, .int 0, .ref m7, .int 0, .int 0, .int 0, .ref m11, .int 0, .ref m13, .int 0, .ref m15, .null, .int 0, .int 0]))] U.heap ∧ va_K (dC, dI) vwCl [] U ∧ va_D (fun _ => True) [(h0, .inr (4, [.null, .ref m1, .ref m2, .ref m3, .ref m4, .ref m5, .int 0, .ref m7, .int 0, .int 0, .int 0, .ref m11, .int 0, .ref m13, .int 0, .ref m15, .null, .int 0, .int 0]))])) (va_Qi (fun (r : Int32) (_ : Unit) => r = 0) (fun _ t => va_P (dC, dI) vwCl [(h0, .inr (4, [.null, .ref m1, .ref m2, .ref m3, .ref m4, .ref m5, .int 0, .ref m7, .int 0, .int 0, .int 0, .ref m11, .int 0, .ref m13, .int 0, .ref m15, .null, .int 0, .int 0]))] t.heap ∧ va_K (dC, dI) vwCl [] t ∧ va_D (va_A [(h0, .inr (4, [.null, .ref m1, .ref m2, .ref m3, .ref m4, .ref m5, .int 0, .ref m7, .int 0, .int 0, .int 0, .ref m11, .int 0, .ref m13, .int 0, .ref m15, .null, .int 0, .int 0]))] sz) [(h0, .inr (4, [.null, .ref m1, .ref m2, .ref m3, .ref m4, .ref m5, .int 0, .ref m7, .int 0, .int 0, .int 0, .ref m11, .int 0, .ref m13, .int 0, .ref m15, .null, .int 0, .int 0]))]) (va_A [(h0, .inr (4, [.null, .ref m1, .ref m2, .ref m3, .ref m4, .ref m5, .int 0, .ref m7, .int 0, .int 0, .int 0, .ref m11, .int 0, .ref m13, .int 0, .ref m15, .null, .int 0, .int 0]))] sz)) 0 0 (va_A [(h0, .inr (4, [.null, .ref m1, .ref m2, .ref m3, .ref m4, .ref m5, .int 0, .ref m7, .int 0, .int 0, .int 0, .ref m11, .int 0, .ref m13, .int 0, .ref m15, .null, .int 0, .int 0]))] sz) := by
  refine Met.ofW (cc := cX2_outputAt) (maxL := 2) (ret := (some .int)) (by decide) rfl ?_
  intro p e s m args below meth c s₁ B hml hv
  obtain ⟨rfl, hsz, hP, hK, hD0⟩ := hv
  have hx := B.exec
  have hb := B.bytes
  have hr := B.returns
  have hts := atoms_spec (ws := ws_cc_outputAt) B.pre
  have hown : s.vm.findClass RX2 = some m.cls := findClass_of_methodNamed B.named
  have hlocks := B.notSynchronized
  subst hsz
  have hD := hD0.self (sz := s.heap.size)
  generalize hAe : va_A [(h0, .inr (4, [.null, .ref m1, .ref m2, .ref m3, .ref m4, .ref m5, .int 0, .ref m7, .int 0, .int 0, .int 0, .ref m11, .int 0, .ref m13, .int 0, .ref m15, .null, .int 0, .int 0]))] s.heap.size = A at hD ⊢
  have hA : ∀ q : Nat, s.heap.size ≤ q → A q := fun q h => by rw [← hAe]; exact Or.inr h
  have hS : va_S A s.heap s.heap [] := va_S.rf
  have hP : va_P (dC, dI) vwCl [(h0, .inr (4, [.null, .ref m1, .ref m2, .ref m3, .ref m4, .ref m5, .int 0, .ref m7, .int 0, .int 0, .int 0, .ref m11, .int 0, .ref m13, .int 0, .ref m15, .null, .int 0, .int 0]))] s.heap := hP
  have hl := lv_entry ([.ref h0, .int i]) (n := 2) (Nat.le_of_ble_eq_true rfl)
  rw [lg_entry_eq]
  generalize (lg_sl ([.ref h0, .int i]) ++ List.replicate (2 - (lg_sl ([.ref h0, .int i])).length) Slot.unset).toArray = ls at hl ⊢
  have hl : lv_has ls 2 [(0, .ref h0), (1, .int i)] := hl
  refine lv_aload_n hx hb dX2_outputAt_0 rfl (lv_at hl 0 rfl) ?_
  refine va_get (D := (dC, dI)) (ci := 4) (v := .int 0) (C := RX2) (T := TX2) (N := 19) hx hb hts in_cc_outputAt_RX2 hown hK hP 0 rfl rfl 8 (by decide) (hts (.fieldLink RX2 49 "LevelUnits$Machine" "made" "I") (List.mem_of_getElem? (i := 1) rfl)) (fun _ h9 => h9) rfl dX2_outputAt_1 ?_
  refine lv_if_le (tgt := 28) hx hb dX2_outputAt_4 (by decide) (fun c9 => ?_) (fun c9 => absurd (by decide) c9)
  clear c9
  refine lv_iconst (v := 0) hx hb dX2_outputAt_28 (by decide) ?_
  have hP9 := hP.sub (ws' := [(h0, .inr (4, [.null, .ref m1, .ref m2, .ref m3, .ref m4, .ref m5, .int 0, .ref m7, .int 0, .int 0, .int 0, .ref m11, .int 0, .ref m13, .int 0, .ref m15, .null, .int 0, .int 0]))]) [0] rfl
  have hD9 := hD.sub (ws' := [(h0, .inr (4, [.null, .ref m1, .ref m2, .ref m3, .ref m4, .ref m5, .int 0, .ref m7, .int 0, .int 0, .int 0, .ref m11, .int 0, .ref m13, .int 0, .ref m15, .null, .int 0, .int 0]))]) [0] (by decide) rfl
  have hK9 := hK.sub (tys' := []) [] rfl
  refine W.widen (k := 0) (n := 0) (Nat.le_of_ble_eq_true rfl) (Nat.le_of_ble_eq_true rfl) ?_
  exact W.iret (v := 0) hx hb hr (fun t ht hW => ⟨⟨0, (), rfl, rfl, by rw [ht]; exact hP9, va_K.moved hW.alike hK9, hD9⟩, hS.F ht⟩) hS.2.2 dX2_outputAt_29
def ws_cc_globalAt : List Cond := .code yX2_globalAt cX2_globalAt 2 (some .int) :: ([.fieldLink RX2 49 "LevelUnits$Machine" "made" "I"] ++ wsX20)
theorem in_cc_globalAt_RX2 : ∀ w ∈ wsX20, w ∈ ws_cc_globalAt := fun _ h => List.mem_cons_of_mem _ (List.mem_append_right _ h)
set_option maxHeartbeats 4000000 in
set_option maxRecDepth 100000 in
theorem cc_globalAt (l : Launch) (dC : Nat → ClassId) (dI : Nat → Nat → Nat) (h0 : Nat) (m1 : Nat) (m2 : Nat) (m3 : Nat) (m4 : Nat) (m5 : Nat) (m7 : Nat) (m11 : Nat) (m13 : Nat) (m15 : Nat) (i : Int32) (sz : Nat) : Met l yX2_globalAt ws_cc_globalAt ({ frames := 0, cells := 0, slots := 0, locals := 0 }) (va_Pc [.ref h0, .int i] (fun U => U.heap.size = sz ∧ va_P (dC, dI) vwCl [(h0, .inr (4, [.null, .ref m1, .ref m2, .ref m3, .ref m4, .ref m5, .int 0, .ref m7, .int 0, .int 0, .int 0, .ref m11, .int 0, .ref m13, .int 0, .ref m15, .null, .int 0, .int 0]))] U.heap ∧ va_K (dC, dI) vwCl [] U ∧ va_D (fun _ => True) [(h0, .inr (4, [.null, .ref m1, .ref m2, .ref m3, .ref m4, .ref m5, .int 0, .ref m7, .int 0, .int 0, .int 0, .ref m11, .int 0, .ref m13, .int 0, .ref m15, .null, .int 0, .int 0]))])) (va_Qi (fun (r : Int32) (_ : Unit) => r = 0) (fun _ t => va_P (dC, dI) vwCl [(h0, .inr (4, [.null, .ref m1, .ref m2, .ref m3, .ref m4, .ref m5, .int 0, .ref m7, .int 0, .int 0, .int 0, .ref m11, .int 0, .ref m13, .int 0, .ref m15, .null, .int 0, .int 0]))] t.heap ∧ va_K (dC, dI) vwCl [] t ∧ va_D (va_A [(h0, .inr (4, [.null, .ref m1, .ref m2, .ref m3, .ref m4, .ref m5, .int 0, .ref m7, .int 0, .int 0, .int 0, .ref m11, .int 0, .ref m13, .int 0, .ref m15, .null, .int 0, .int 0]))] sz) [(h0, .inr (4, [.null, .ref m1, .ref m2, .ref m3, .ref m4, .ref m5, .int 0, .ref m7, .int 0, .int 0, .int 0, .ref m11, .int 0, .ref m13, .int 0, .ref m15, .null, .int 0, .int 0]))]) (va_A [(h0, .inr (4, [.null, .ref m1, .ref m2, .ref m3, .ref m4, .ref m5, .int 0, .ref m7, .int 0, .int 0, .int 0, .ref m11, .int 0, .ref m13, .int 0, .ref m15, .null, .int 0, .int 0]))] sz)) 0 0 (va_A [(h0, .inr (4, [.null, .ref m1, .ref m2, .ref m3, .ref m4, .ref m5, .int 0, .ref m7, .int 0, .int 0, .int 0, .ref m11, .int 0, .ref m13, .int 0, .ref m15, .null, .int 0, .int 0]))] sz) := by
  refine Met.ofW (cc := cX2_globalAt) (maxL := 2) (ret := (some .int)) (by decide) rfl ?_
  intro p e s m args below meth c s₁ B hml hv
  obtain ⟨rfl, hsz, hP, hK, hD0⟩ := hv
  have hx := B.exec
  have hb := B.bytes
  have hr := B.returns
  have hts := atoms_spec (ws := ws_cc_globalAt) B.pre
  have hown : s.vm.findClass RX2 = some m.cls := findClass_of_methodNamed B.named
  have hlocks := B.notSynchronized
  subst hsz
  have hD := hD0.self (sz := s.heap.size)
  generalize hAe : va_A [(h0, .inr (4, [.null, .ref m1, .ref m2, .ref m3, .ref m4, .ref m5, .int 0, .ref m7, .int 0, .int 0, .int 0, .ref m11, .int 0, .ref m13, .int 0, .ref m15, .null, .int 0, .int 0]))] s.heap.size = A at hD ⊢
  have hA : ∀ q : Nat, s.heap.size ≤ q → A q := fun q h => by rw [← hAe]; exact Or.inr h
  have hS : va_S A s.heap s.heap [] := va_S.rf
  have hP : va_P (dC, dI) vwCl [(h0, .inr (4, [.null, .ref m1, .ref m2, .ref m3, .ref m4, .ref m5, .int 0, .ref m7, .int 0, .int 0, .int 0, .ref m11, .int 0, .ref m13, .int 0, .ref m15, .null, .int 0, .int 0]))] s.heap := hP
  have hl := lv_entry ([.ref h0, .int i]) (n := 2) (Nat.le_of_ble_eq_true rfl)
  rw [lg_entry_eq]
  generalize (lg_sl ([.ref h0, .int i]) ++ List.replicate (2 - (lg_sl ([.ref h0, .int i])).length) Slot.unset).toArray = ls at hl ⊢
  have hl : lv_has ls 2 [(0, .ref h0), (1, .int i)] := hl
  refine lv_aload_n hx hb dX2_globalAt_0 rfl (lv_at hl 0 rfl) ?_
  refine va_get (D := (dC, dI)) (ci := 4) (v := .int 0) (C := RX2) (T := TX2) (N := 19) hx hb hts in_cc_globalAt_RX2 hown hK hP 0 rfl rfl 8 (by decide) (hts (.fieldLink RX2 49 "LevelUnits$Machine" "made" "I") (List.mem_of_getElem? (i := 1) rfl)) (fun _ h9 => h9) rfl dX2_globalAt_1 ?_
  refine lv_if_le (tgt := 38) hx hb dX2_globalAt_4 (by decide) (fun c9 => ?_) (fun c9 => absurd (by decide) c9)
  clear c9
  refine lv_iconst (v := 0) hx hb dX2_globalAt_38 (by decide) ?_
  have hP9 := hP.sub (ws' := [(h0, .inr (4, [.null, .ref m1, .ref m2, .ref m3, .ref m4, .ref m5, .int 0, .ref m7, .int 0, .int 0, .int 0, .ref m11, .int 0, .ref m13, .int 0, .ref m15, .null, .int 0, .int 0]))]) [0] rfl
  have hD9 := hD.sub (ws' := [(h0, .inr (4, [.null, .ref m1, .ref m2, .ref m3, .ref m4, .ref m5, .int 0, .ref m7, .int 0, .int 0, .int 0, .ref m11, .int 0, .ref m13, .int 0, .ref m15, .null, .int 0, .int 0]))]) [0] (by decide) rfl
  have hK9 := hK.sub (tys' := []) [] rfl
  refine W.widen (k := 0) (n := 0) (Nat.le_of_ble_eq_true rfl) (Nat.le_of_ble_eq_true rfl) ?_
  exact W.iret (v := 0) hx hb hr (fun t ht hW => ⟨⟨0, (), rfl, rfl, by rw [ht]; exact hP9, va_K.moved hW.alike hK9, hD9⟩, hS.F ht⟩) hS.2.2 dX2_globalAt_39
def ws_cc_threadTold : List Cond := .code yX2_threadTold cX2_threadTold 5 (some .int) :: ([.fieldLink RX2 49 "LevelUnits$Machine" "made" "I"] ++ wsX20)
theorem in_cc_threadTold_RX2 : ∀ w ∈ wsX20, w ∈ ws_cc_threadTold := fun _ h => List.mem_cons_of_mem _ (List.mem_append_right _ h)
set_option maxHeartbeats 4000000 in
set_option maxRecDepth 100000 in
theorem cc_threadTold (l : Launch) (dC : Nat → ClassId) (dI : Nat → Nat → Nat) (h0 : Nat) (m1 : Nat) (m2 : Nat) (m3 : Nat) (m4 : Nat) (m5 : Nat) (m7 : Nat) (m11 : Nat) (m13 : Nat) (m15 : Nat) (i : Int32) (j : Int32) (sz : Nat) : Met l yX2_threadTold ws_cc_threadTold ({ frames := 0, cells := 0, slots := 0, locals := 0 }) (va_Pc [.ref h0, .int i, .int j] (fun U => U.heap.size = sz ∧ va_P (dC, dI) vwCl [(h0, .inr (4, [.null, .ref m1, .ref m2, .ref m3, .ref m4, .ref m5, .int 0, .ref m7, .int 0, .int 0, .int 0, .ref m11, .int 0, .ref m13, .int 0, .ref m15, .null, .int 0, .int 0]))] U.heap ∧ va_K (dC, dI) vwCl [] U ∧ va_D (fun _ => True) [(h0, .inr (4, [.null, .ref m1, .ref m2, .ref m3, .ref m4, .ref m5, .int 0, .ref m7, .int 0, .int 0, .int 0, .ref m11, .int 0, .ref m13, .int 0, .ref m15, .null, .int 0, .int 0]))])) (va_Qi (fun (r : Int32) (_ : Unit) => r = (-1)) (fun _ t => va_P (dC, dI) vwCl [(h0, .inr (4, [.null, .ref m1, .ref m2, .ref m3, .ref m4, .ref m5, .int 0, .ref m7, .int 0, .int 0, .int 0, .ref m11, .int 0, .ref m13, .int 0, .ref m15, .null, .int 0, .int 0]))] t.heap ∧ va_K (dC, dI) vwCl [] t ∧ va_D (va_A [(h0, .inr (4, [.null, .ref m1, .ref m2, .ref m3, .ref m4, .ref m5, .int 0, .ref m7, .int 0, .int 0, .int 0, .ref m11, .int 0, .ref m13, .int 0, .ref m15, .null, .int 0, .int 0]))] sz) [(h0, .inr (4, [.null, .ref m1, .ref m2, .ref m3, .ref m4, .ref m5, .int 0, .ref m7, .int 0, .int 0, .int 0, .ref m11, .int 0, .ref m13, .int 0, .ref m15, .null, .int 0, .int 0]))]) (va_A [(h0, .inr (4, [.null, .ref m1, .ref m2, .ref m3, .ref m4, .ref m5, .int 0, .ref m7, .int 0, .int 0, .int 0, .ref m11, .int 0, .ref m13, .int 0, .ref m15, .null, .int 0, .int 0]))] sz)) 0 0 (va_A [(h0, .inr (4, [.null, .ref m1, .ref m2, .ref m3, .ref m4, .ref m5, .int 0, .ref m7, .int 0, .int 0, .int 0, .ref m11, .int 0, .ref m13, .int 0, .ref m15, .null, .int 0, .int 0]))] sz) := by
  refine Met.ofW (cc := cX2_threadTold) (maxL := 5) (ret := (some .int)) (by decide) rfl ?_
  intro p e s m args below meth c s₁ B hml hv
  obtain ⟨rfl, hsz, hP, hK, hD0⟩ := hv
  have hx := B.exec
  have hb := B.bytes
  have hr := B.returns
  have hts := atoms_spec (ws := ws_cc_threadTold) B.pre
  have hown : s.vm.findClass RX2 = some m.cls := findClass_of_methodNamed B.named
  have hlocks := B.notSynchronized
  subst hsz
  have hD := hD0.self (sz := s.heap.size)
  generalize hAe : va_A [(h0, .inr (4, [.null, .ref m1, .ref m2, .ref m3, .ref m4, .ref m5, .int 0, .ref m7, .int 0, .int 0, .int 0, .ref m11, .int 0, .ref m13, .int 0, .ref m15, .null, .int 0, .int 0]))] s.heap.size = A at hD ⊢
  have hA : ∀ q : Nat, s.heap.size ≤ q → A q := fun q h => by rw [← hAe]; exact Or.inr h
  have hS : va_S A s.heap s.heap [] := va_S.rf
  have hP : va_P (dC, dI) vwCl [(h0, .inr (4, [.null, .ref m1, .ref m2, .ref m3, .ref m4, .ref m5, .int 0, .ref m7, .int 0, .int 0, .int 0, .ref m11, .int 0, .ref m13, .int 0, .ref m15, .null, .int 0, .int 0]))] s.heap := hP
  have hl := lv_entry ([.ref h0, .int i, .int j]) (n := 5) (Nat.le_of_ble_eq_true rfl)
  rw [lg_entry_eq]
  generalize (lg_sl ([.ref h0, .int i, .int j]) ++ List.replicate (5 - (lg_sl ([.ref h0, .int i, .int j])).length) Slot.unset).toArray = ls at hl ⊢
  have hl : lv_has ls 5 [(0, .ref h0), (1, .int i), (2, .int j)] := hl
  refine lv_iload_n hx hb dX2_threadTold_0 rfl (lv_at hl 1 rfl) ?_
  refine lv_if_lt (tgt := 12) hx hb dX2_threadTold_1 (by decide) (fun c1 => ?_) (fun c1 => ?_)
  · skip
    refine lv_iconst (v := (-1)) hx hb dX2_threadTold_12 (by decide) ?_
    have hP9 := hP.sub (ws' := [(h0, .inr (4, [.null, .ref m1, .ref m2, .ref m3, .ref m4, .ref m5, .int 0, .ref m7, .int 0, .int 0, .int 0, .ref m11, .int 0, .ref m13, .int 0, .ref m15, .null, .int 0, .int 0]))]) [0] rfl
    have hD9 := hD.sub (ws' := [(h0, .inr (4, [.null, .ref m1, .ref m2, .ref m3, .ref m4, .ref m5, .int 0, .ref m7, .int 0, .int 0, .int 0, .ref m11, .int 0, .ref m13, .int 0, .ref m15, .null, .int 0, .int 0]))]) [0] (by decide) rfl
    have hK9 := hK.sub (tys' := []) [] rfl
    refine W.widen (k := 0) (n := 0) (Nat.le_of_ble_eq_true rfl) (Nat.le_of_ble_eq_true rfl) ?_
    exact W.iret (v := (-1)) hx hb hr (fun t ht hW => ⟨⟨(-1), (), rfl, rfl, by rw [ht]; exact hP9, va_K.moved hW.alike hK9, hD9⟩, hS.F ht⟩) hS.2.2 dX2_threadTold_13
  · skip
    refine lv_iload_n hx hb dX2_threadTold_4 rfl (lv_at hl 1 rfl) ?_
    refine lv_aload_n hx hb dX2_threadTold_5 rfl (lv_at hl 0 rfl) ?_
    refine va_get (D := (dC, dI)) (ci := 4) (v := .int 0) (C := RX2) (T := TX2) (N := 19) hx hb hts in_cc_threadTold_RX2 hown hK hP 0 rfl rfl 8 (by decide) (hts (.fieldLink RX2 49 "LevelUnits$Machine" "made" "I") (List.mem_of_getElem? (i := 1) rfl)) (fun _ h9 => h9) rfl dX2_threadTold_6 ?_
    refine lv_icmp_lt (tgt := 14) hx hb dX2_threadTold_9 (by decide) (fun c9 => absurd c9 c1) (fun c9 => ?_)
    refine lv_iconst (v := (-1)) hx hb dX2_threadTold_12 (by decide) ?_
    have hP9 := hP.sub (ws' := [(h0, .inr (4, [.null, .ref m1, .ref m2, .ref m3, .ref m4, .ref m5, .int 0, .ref m7, .int 0, .int 0, .int 0, .ref m11, .int 0, .ref m13, .int 0, .ref m15, .null, .int 0, .int 0]))]) [0] rfl
    have hD9 := hD.sub (ws' := [(h0, .inr (4, [.null, .ref m1, .ref m2, .ref m3, .ref m4, .ref m5, .int 0, .ref m7, .int 0, .int 0, .int 0, .ref m11, .int 0, .ref m13, .int 0, .ref m15, .null, .int 0, .int 0]))]) [0] (by decide) rfl
    have hK9 := hK.sub (tys' := []) [] rfl
    refine W.widen (k := 0) (n := 0) (Nat.le_of_ble_eq_true rfl) (Nat.le_of_ble_eq_true rfl) ?_
    exact W.iret (v := (-1)) hx hb hr (fun t ht hW => ⟨⟨(-1), (), rfl, rfl, by rw [ht]; exact hP9, va_K.moved hW.alike hK9, hD9⟩, hS.F ht⟩) hS.2.2 dX2_threadTold_13
def ws_cc_thingTold : List Cond := .code yX2_thingTold cX2_thingTold 4 (some .int) :: ([.fieldLink RX2 49 "LevelUnits$Machine" "made" "I"] ++ wsX20)
theorem in_cc_thingTold_RX2 : ∀ w ∈ wsX20, w ∈ ws_cc_thingTold := fun _ h => List.mem_cons_of_mem _ (List.mem_append_right _ h)
set_option maxHeartbeats 4000000 in
set_option maxRecDepth 100000 in
theorem cc_thingTold (l : Launch) (dC : Nat → ClassId) (dI : Nat → Nat → Nat) (h0 : Nat) (m1 : Nat) (m2 : Nat) (m3 : Nat) (m4 : Nat) (m5 : Nat) (m7 : Nat) (m11 : Nat) (m13 : Nat) (m15 : Nat) (i : Int32) (j : Int32) (sz : Nat) : Met l yX2_thingTold ws_cc_thingTold ({ frames := 0, cells := 0, slots := 0, locals := 0 }) (va_Pc [.ref h0, .int i, .int j] (fun U => U.heap.size = sz ∧ va_P (dC, dI) vwCl [(h0, .inr (4, [.null, .ref m1, .ref m2, .ref m3, .ref m4, .ref m5, .int 0, .ref m7, .int 0, .int 0, .int 0, .ref m11, .int 0, .ref m13, .int 0, .ref m15, .null, .int 0, .int 0]))] U.heap ∧ va_K (dC, dI) vwCl [] U ∧ va_D (fun _ => True) [(h0, .inr (4, [.null, .ref m1, .ref m2, .ref m3, .ref m4, .ref m5, .int 0, .ref m7, .int 0, .int 0, .int 0, .ref m11, .int 0, .ref m13, .int 0, .ref m15, .null, .int 0, .int 0]))])) (va_Qi (fun (r : Int32) (_ : Unit) => r = (-1)) (fun _ t => va_P (dC, dI) vwCl [(h0, .inr (4, [.null, .ref m1, .ref m2, .ref m3, .ref m4, .ref m5, .int 0, .ref m7, .int 0, .int 0, .int 0, .ref m11, .int 0, .ref m13, .int 0, .ref m15, .null, .int 0, .int 0]))] t.heap ∧ va_K (dC, dI) vwCl [] t ∧ va_D (va_A [(h0, .inr (4, [.null, .ref m1, .ref m2, .ref m3, .ref m4, .ref m5, .int 0, .ref m7, .int 0, .int 0, .int 0, .ref m11, .int 0, .ref m13, .int 0, .ref m15, .null, .int 0, .int 0]))] sz) [(h0, .inr (4, [.null, .ref m1, .ref m2, .ref m3, .ref m4, .ref m5, .int 0, .ref m7, .int 0, .int 0, .int 0, .ref m11, .int 0, .ref m13, .int 0, .ref m15, .null, .int 0, .int 0]))]) (va_A [(h0, .inr (4, [.null, .ref m1, .ref m2, .ref m3, .ref m4, .ref m5, .int 0, .ref m7, .int 0, .int 0, .int 0, .ref m11, .int 0, .ref m13, .int 0, .ref m15, .null, .int 0, .int 0]))] sz)) 0 0 (va_A [(h0, .inr (4, [.null, .ref m1, .ref m2, .ref m3, .ref m4, .ref m5, .int 0, .ref m7, .int 0, .int 0, .int 0, .ref m11, .int 0, .ref m13, .int 0, .ref m15, .null, .int 0, .int 0]))] sz) := by
  refine Met.ofW (cc := cX2_thingTold) (maxL := 4) (ret := (some .int)) (by decide) rfl ?_
  intro p e s m args below meth c s₁ B hml hv
  obtain ⟨rfl, hsz, hP, hK, hD0⟩ := hv
  have hx := B.exec
  have hb := B.bytes
  have hr := B.returns
  have hts := atoms_spec (ws := ws_cc_thingTold) B.pre
  have hown : s.vm.findClass RX2 = some m.cls := findClass_of_methodNamed B.named
  have hlocks := B.notSynchronized
  subst hsz
  have hD := hD0.self (sz := s.heap.size)
  generalize hAe : va_A [(h0, .inr (4, [.null, .ref m1, .ref m2, .ref m3, .ref m4, .ref m5, .int 0, .ref m7, .int 0, .int 0, .int 0, .ref m11, .int 0, .ref m13, .int 0, .ref m15, .null, .int 0, .int 0]))] s.heap.size = A at hD ⊢
  have hA : ∀ q : Nat, s.heap.size ≤ q → A q := fun q h => by rw [← hAe]; exact Or.inr h
  have hS : va_S A s.heap s.heap [] := va_S.rf
  have hP : va_P (dC, dI) vwCl [(h0, .inr (4, [.null, .ref m1, .ref m2, .ref m3, .ref m4, .ref m5, .int 0, .ref m7, .int 0, .int 0, .int 0, .ref m11, .int 0, .ref m13, .int 0, .ref m15, .null, .int 0, .int 0]))] s.heap := hP
  have hl := lv_entry ([.ref h0, .int i, .int j]) (n := 4) (Nat.le_of_ble_eq_true rfl)
  rw [lg_entry_eq]
  generalize (lg_sl ([.ref h0, .int i, .int j]) ++ List.replicate (4 - (lg_sl ([.ref h0, .int i, .int j])).length) Slot.unset).toArray = ls at hl ⊢
  have hl : lv_has ls 4 [(0, .ref h0), (1, .int i), (2, .int j)] := hl
  refine lv_aload_n hx hb dX2_thingTold_0 rfl (lv_at hl 0 rfl) ?_
  refine va_get (D := (dC, dI)) (ci := 4) (v := .int 0) (C := RX2) (T := TX2) (N := 19) hx hb hts in_cc_thingTold_RX2 hown hK hP 0 rfl rfl 8 (by decide) (hts (.fieldLink RX2 49 "LevelUnits$Machine" "made" "I") (List.mem_of_getElem? (i := 1) rfl)) (fun _ h9 => h9) rfl dX2_thingTold_1 ?_
  refine lv_if_eq (tgt := 20) hx hb dX2_thingTold_4 (by decide) (fun c9 => ?_) (fun c9 => absurd (by decide) c9)
  clear c9
  refine lv_iconst (v := (-1)) hx hb dX2_thingTold_20 (by decide) ?_
  have hP9 := hP.sub (ws' := [(h0, .inr (4, [.null, .ref m1, .ref m2, .ref m3, .ref m4, .ref m5, .int 0, .ref m7, .int 0, .int 0, .int 0, .ref m11, .int 0, .ref m13, .int 0, .ref m15, .null, .int 0, .int 0]))]) [0] rfl
  have hD9 := hD.sub (ws' := [(h0, .inr (4, [.null, .ref m1, .ref m2, .ref m3, .ref m4, .ref m5, .int 0, .ref m7, .int 0, .int 0, .int 0, .ref m11, .int 0, .ref m13, .int 0, .ref m15, .null, .int 0, .int 0]))]) [0] (by decide) rfl
  have hK9 := hK.sub (tys' := []) [] rfl
  refine W.widen (k := 0) (n := 0) (Nat.le_of_ble_eq_true rfl) (Nat.le_of_ble_eq_true rfl) ?_
  exact W.iret (v := (-1)) hx hb hr (fun t ht hW => ⟨⟨(-1), (), rfl, rfl, by rw [ht]; exact hP9, va_K.moved hW.alike hK9, hD9⟩, hS.F ht⟩) hS.2.2 dX2_thingTold_21
def ws_cc_cellOfThing : List Cond := .code yX2_cellOfThing cX2_cellOfThing 3 (some .int) :: ([.fieldLink RX2 49 "LevelUnits$Machine" "made" "I"] ++ wsX20)
theorem in_cc_cellOfThing_RX2 : ∀ w ∈ wsX20, w ∈ ws_cc_cellOfThing := fun _ h => List.mem_cons_of_mem _ (List.mem_append_right _ h)
set_option maxHeartbeats 4000000 in
set_option maxRecDepth 100000 in
theorem cc_cellOfThing (l : Launch) (dC : Nat → ClassId) (dI : Nat → Nat → Nat) (h0 : Nat) (m1 : Nat) (m2 : Nat) (m3 : Nat) (m4 : Nat) (m5 : Nat) (m7 : Nat) (m11 : Nat) (m13 : Nat) (m15 : Nat) (i : Int32) (j : Int32) (sz : Nat) : Met l yX2_cellOfThing ws_cc_cellOfThing ({ frames := 0, cells := 0, slots := 0, locals := 0 }) (va_Pc [.ref h0, .int i, .int j] (fun U => U.heap.size = sz ∧ va_P (dC, dI) vwCl [(h0, .inr (4, [.null, .ref m1, .ref m2, .ref m3, .ref m4, .ref m5, .int 0, .ref m7, .int 0, .int 0, .int 0, .ref m11, .int 0, .ref m13, .int 0, .ref m15, .null, .int 0, .int 0]))] U.heap ∧ va_K (dC, dI) vwCl [] U ∧ va_D (fun _ => True) [(h0, .inr (4, [.null, .ref m1, .ref m2, .ref m3, .ref m4, .ref m5, .int 0, .ref m7, .int 0, .int 0, .int 0, .ref m11, .int 0, .ref m13, .int 0, .ref m15, .null, .int 0, .int 0]))])) (va_Qi (fun (r : Int32) (_ : Unit) => r = 0) (fun _ t => va_P (dC, dI) vwCl [(h0, .inr (4, [.null, .ref m1, .ref m2, .ref m3, .ref m4, .ref m5, .int 0, .ref m7, .int 0, .int 0, .int 0, .ref m11, .int 0, .ref m13, .int 0, .ref m15, .null, .int 0, .int 0]))] t.heap ∧ va_K (dC, dI) vwCl [] t ∧ va_D (va_A [(h0, .inr (4, [.null, .ref m1, .ref m2, .ref m3, .ref m4, .ref m5, .int 0, .ref m7, .int 0, .int 0, .int 0, .ref m11, .int 0, .ref m13, .int 0, .ref m15, .null, .int 0, .int 0]))] sz) [(h0, .inr (4, [.null, .ref m1, .ref m2, .ref m3, .ref m4, .ref m5, .int 0, .ref m7, .int 0, .int 0, .int 0, .ref m11, .int 0, .ref m13, .int 0, .ref m15, .null, .int 0, .int 0]))]) (va_A [(h0, .inr (4, [.null, .ref m1, .ref m2, .ref m3, .ref m4, .ref m5, .int 0, .ref m7, .int 0, .int 0, .int 0, .ref m11, .int 0, .ref m13, .int 0, .ref m15, .null, .int 0, .int 0]))] sz)) 0 0 (va_A [(h0, .inr (4, [.null, .ref m1, .ref m2, .ref m3, .ref m4, .ref m5, .int 0, .ref m7, .int 0, .int 0, .int 0, .ref m11, .int 0, .ref m13, .int 0, .ref m15, .null, .int 0, .int 0]))] sz) := by
  refine Met.ofW (cc := cX2_cellOfThing) (maxL := 3) (ret := (some .int)) (by decide) rfl ?_
  intro p e s m args below meth c s₁ B hml hv
  obtain ⟨rfl, hsz, hP, hK, hD0⟩ := hv
  have hx := B.exec
  have hb := B.bytes
  have hr := B.returns
  have hts := atoms_spec (ws := ws_cc_cellOfThing) B.pre
  have hown : s.vm.findClass RX2 = some m.cls := findClass_of_methodNamed B.named
  have hlocks := B.notSynchronized
  subst hsz
  have hD := hD0.self (sz := s.heap.size)
  generalize hAe : va_A [(h0, .inr (4, [.null, .ref m1, .ref m2, .ref m3, .ref m4, .ref m5, .int 0, .ref m7, .int 0, .int 0, .int 0, .ref m11, .int 0, .ref m13, .int 0, .ref m15, .null, .int 0, .int 0]))] s.heap.size = A at hD ⊢
  have hA : ∀ q : Nat, s.heap.size ≤ q → A q := fun q h => by rw [← hAe]; exact Or.inr h
  have hS : va_S A s.heap s.heap [] := va_S.rf
  have hP : va_P (dC, dI) vwCl [(h0, .inr (4, [.null, .ref m1, .ref m2, .ref m3, .ref m4, .ref m5, .int 0, .ref m7, .int 0, .int 0, .int 0, .ref m11, .int 0, .ref m13, .int 0, .ref m15, .null, .int 0, .int 0]))] s.heap := hP
  have hl := lv_entry ([.ref h0, .int i, .int j]) (n := 3) (Nat.le_of_ble_eq_true rfl)
  rw [lg_entry_eq]
  generalize (lg_sl ([.ref h0, .int i, .int j]) ++ List.replicate (3 - (lg_sl ([.ref h0, .int i, .int j])).length) Slot.unset).toArray = ls at hl ⊢
  have hl : lv_has ls 3 [(0, .ref h0), (1, .int i), (2, .int j)] := hl
  refine lv_aload_n hx hb dX2_cellOfThing_0 rfl (lv_at hl 0 rfl) ?_
  refine va_get (D := (dC, dI)) (ci := 4) (v := .int 0) (C := RX2) (T := TX2) (N := 19) hx hb hts in_cc_cellOfThing_RX2 hown hK hP 0 rfl rfl 8 (by decide) (hts (.fieldLink RX2 49 "LevelUnits$Machine" "made" "I") (List.mem_of_getElem? (i := 1) rfl)) (fun _ h9 => h9) rfl dX2_cellOfThing_1 ?_
  refine lv_if_eq (tgt := 43) hx hb dX2_cellOfThing_4 (by decide) (fun c9 => ?_) (fun c9 => absurd (by decide) c9)
  clear c9
  refine lv_iconst (v := 0) hx hb dX2_cellOfThing_43 (by decide) ?_
  have hP9 := hP.sub (ws' := [(h0, .inr (4, [.null, .ref m1, .ref m2, .ref m3, .ref m4, .ref m5, .int 0, .ref m7, .int 0, .int 0, .int 0, .ref m11, .int 0, .ref m13, .int 0, .ref m15, .null, .int 0, .int 0]))]) [0] rfl
  have hD9 := hD.sub (ws' := [(h0, .inr (4, [.null, .ref m1, .ref m2, .ref m3, .ref m4, .ref m5, .int 0, .ref m7, .int 0, .int 0, .int 0, .ref m11, .int 0, .ref m13, .int 0, .ref m15, .null, .int 0, .int 0]))]) [0] (by decide) rfl
  have hK9 := hK.sub (tys' := []) [] rfl
  refine W.widen (k := 0) (n := 0) (Nat.le_of_ble_eq_true rfl) (Nat.le_of_ble_eq_true rfl) ?_
  exact W.iret (v := 0) hx hb hr (fun t ht hW => ⟨⟨0, (), rfl, rfl, by rw [ht]; exact hP9, va_K.moved hW.alike hK9, hD9⟩, hS.F ht⟩) hS.2.2 dX2_cellOfThing_44
def ws_cc_count : List Cond := .code yX11_count cX11_count 2 (some .int) :: ([.fieldLink RX11 35 "LevelUnits" "program" "LLevelUnits$Types;", .fieldLink RX11 23 "LevelUnits" "machine" "LLevelUnits$Machine;", .fieldLink RX2 49 "LevelUnits$Machine" "made" "I", .code yX2_figure cX2_figure 2 (some .int), .methodLink RX11 92 yX2_figure, .instanceMethod yX2_figure, .selects RX2 yX2_figure yX2_figure, .initialized RX2, .fieldLink RX11 27 "LevelUnits" "length" "I"] ++ wsX110 ++ wsX20)
theorem in_cc_count_RX11 : ∀ w ∈ wsX110, w ∈ ws_cc_count := fun _ h => List.mem_cons_of_mem _ (List.mem_append_left _ (List.mem_append_right _ h))
theorem in_cc_count_RX2 : ∀ w ∈ wsX20, w ∈ ws_cc_count := fun _ h => List.mem_cons_of_mem _ (List.mem_append_right _ h)
theorem g0_cc_count_cc_figure_92 : GoodIn ws_cc_count ws_cc_figure := goodIn_r _ [4, 3, 15, 16, 17, 18, 19, 20, 21, 22, 23, 24, 25, 26, 27, 28, 29, 30, 31, 32, 33] (by decide +kernel) (by decide +kernel)
theorem gg_cc_count_cc_figure_92 : GoodIn ws_cc_count (wsV RX11 92 RX2 yX2_figure ws_cc_figure) := goodIn_app (goodIn_of _ (by decide +kernel)) g0_cc_count_cc_figure_92
set_option maxHeartbeats 4000000 in
set_option maxRecDepth 100000 in
theorem cc_count (l : Launch) (dC : Nat → ClassId) (dI : Nat → Nat → Nat) (h0 : Nat) (qt : Nat) (qs : Nat) (qm : Nat) (m1 : Nat) (m2 : Nat) (m3 : Nat) (m4 : Nat) (m5 : Nat) (m7 : Nat) (m11 : Nat) (m13 : Nat) (m15 : Nat) (i : Int32) (sz : Nat) : Met l yX11_count ws_cc_count ({ frames := 1, cells := 0, slots := 0, locals := 21 }) (va_Pc [.ref h0, .int i] (fun U => U.heap.size = sz ∧ va_P (dC, dI) vwCl [(h0, .inr (13, [.ref qt, .int 0, .ref qs, .ref qm, .null])), (qm, .inr (4, [.null, .ref m1, .ref m2, .ref m3, .ref m4, .ref m5, .int 0, .ref m7, .int 0, .int 0, .int 0, .ref m11, .int 0, .ref m13, .int 0, .ref m15, .null, .int 0, .int 0]))] U.heap ∧ va_K (dC, dI) vwCl [] U ∧ va_D (fun _ => True) [(h0, .inr (13, [.ref qt, .int 0, .ref qs, .ref qm, .null])), (qm, .inr (4, [.null, .ref m1, .ref m2, .ref m3, .ref m4, .ref m5, .int 0, .ref m7, .int 0, .int 0, .int 0, .ref m11, .int 0, .ref m13, .int 0, .ref m15, .null, .int 0, .int 0]))])) (va_Qi (fun (r : Int32) (_ : Unit) => r = cntS i) (fun _ t => va_P (dC, dI) vwCl [] t.heap ∧ va_K (dC, dI) vwCl [] t ∧ va_D (va_A [(h0, .inr (13, [.ref qt, .int 0, .ref qs, .ref qm, .null])), (qm, .inr (4, [.null, .ref m1, .ref m2, .ref m3, .ref m4, .ref m5, .int 0, .ref m7, .int 0, .int 0, .int 0, .ref m11, .int 0, .ref m13, .int 0, .ref m15, .null, .int 0, .int 0]))] sz) []) (va_A [(h0, .inr (13, [.ref qt, .int 0, .ref qs, .ref qm, .null])), (qm, .inr (4, [.null, .ref m1, .ref m2, .ref m3, .ref m4, .ref m5, .int 0, .ref m7, .int 0, .int 0, .int 0, .ref m11, .int 0, .ref m13, .int 0, .ref m15, .null, .int 0, .int 0]))] sz)) 0 0 (va_A [(h0, .inr (13, [.ref qt, .int 0, .ref qs, .ref qm, .null])), (qm, .inr (4, [.null, .ref m1, .ref m2, .ref m3, .ref m4, .ref m5, .int 0, .ref m7, .int 0, .int 0, .int 0, .ref m11, .int 0, .ref m13, .int 0, .ref m15, .null, .int 0, .int 0]))] sz) := by
  refine Met.ofW (cc := cX11_count) (maxL := 2) (ret := (some .int)) (by decide) rfl ?_
  intro p e s m args below meth c s₁ B hml hv
  obtain ⟨rfl, hsz, hP, hK, hD0⟩ := hv
  have hx := B.exec
  have hb := B.bytes
  have hr := B.returns
  have hts := atoms_spec (ws := ws_cc_count) B.pre
  have hown : s.vm.findClass RX11 = some m.cls := findClass_of_methodNamed B.named
  have hlocks := B.notSynchronized
  subst hsz
  have hD := hD0.self (sz := s.heap.size)
  generalize hAe : va_A [(h0, .inr (13, [.ref qt, .int 0, .ref qs, .ref qm, .null])), (qm, .inr (4, [.null, .ref m1, .ref m2, .ref m3, .ref m4, .ref m5, .int 0, .ref m7, .int 0, .int 0, .int 0, .ref m11, .int 0, .ref m13, .int 0, .ref m15, .null, .int 0, .int 0]))] s.heap.size = A at hD ⊢
  have hA : ∀ q : Nat, s.heap.size ≤ q → A q := fun q h => by rw [← hAe]; exact Or.inr h
  have hS : va_S A s.heap s.heap [] := va_S.rf
  have hP : va_P (dC, dI) vwCl [(h0, .inr (13, [.ref qt, .int 0, .ref qs, .ref qm, .null])), (qm, .inr (4, [.null, .ref m1, .ref m2, .ref m3, .ref m4, .ref m5, .int 0, .ref m7, .int 0, .int 0, .int 0, .ref m11, .int 0, .ref m13, .int 0, .ref m15, .null, .int 0, .int 0]))] s.heap := hP
  have hl := lv_entry ([.ref h0, .int i]) (n := 2) (Nat.le_of_ble_eq_true rfl)
  rw [lg_entry_eq]
  generalize (lg_sl ([.ref h0, .int i]) ++ List.replicate (2 - (lg_sl ([.ref h0, .int i])).length) Slot.unset).toArray = ls at hl ⊢
  have hl : lv_has ls 2 [(0, .ref h0), (1, .int i)] := hl
  refine lv_iload_n hx hb dX11_count_0 rfl (lv_at hl 1 rfl) ?_
  refine lv_iconst (v := 3) hx hb dX11_count_1 (by decide) ?_
  refine lv_icmp_ne (tgt := 10) hx hb dX11_count_2 (by decide) (fun c_1 => ?_) (fun c_1 => ?_)
  · skip
    refine lv_iload_n hx hb dX11_count_10 rfl (lv_at hl 1 rfl) ?_
    refine lv_iconst (v := 5) hx hb dX11_count_11 (by decide) ?_
    refine lv_icmp_lt (tgt := 30) hx hb dX11_count_12 (by decide) (fun c_2 => ?_) (fun c_2 => ?_)
    · skip
      refine lv_iload_n hx hb dX11_count_30 rfl (lv_at hl 1 rfl) ?_
      refine lv_if_lt (tgt := 40) hx hb dX11_count_31 (by decide) (fun c_3 => ?_) (fun c_3 => ?_)
      · skip
        refine lv_iconst (v := (-1)) hx hb dX11_count_40 (by decide) ?_
        have hP9 := hP.sub (ws' := []) [] rfl
        have hD9 := hD.sub (ws' := []) [] (by decide) rfl
        have hK9 := hK.sub (tys' := []) [] rfl
        refine W.widen (k := 0) (n := 0) (Nat.le_of_ble_eq_true rfl) (Nat.le_of_ble_eq_true rfl) ?_
        exact W.iret (v := (-1)) hx hb hr (fun t ht hW => ⟨⟨(-1), (), rfl, (by simp [cntS, c_1, c_2, c_3]), by rw [ht]; exact hP9, va_K.moved hW.alike hK9, hD9⟩, hS.F ht⟩) hS.2.2 dX11_count_41
      · skip
        refine lv_iload_n hx hb dX11_count_34 rfl (lv_at hl 1 rfl) ?_
        refine lv_bipush (v := 13) hx hb dX11_count_35 (by decide) ?_
        refine lv_icmp_le (tgt := 42) hx hb dX11_count_37 (by decide) (fun c_4 => ?_) (fun c_4 => ?_)
        · skip
          refine lv_aload_n hx hb dX11_count_42 rfl (lv_at hl 0 rfl) ?_
          refine va_get (D := (dC, dI)) (ci := 13) (v := .null) (C := RX11) (T := TX11) (N := 5) hx hb hts in_cc_count_RX11 hown hK hP 0 rfl rfl 4 (by decide) (hts (.fieldLink RX11 35 "LevelUnits" "program" "LLevelUnits$Types;") (List.mem_of_getElem? (i := 1) rfl)) (fun _ h9 => h9) rfl dX11_count_43 ?_
          refine lv_ifnonnullN hx hb dX11_count_46 ?_
          refine lv_iconst (v := 0) hx hb dX11_count_49 (by decide) ?_
          have hP9 := hP.sub (ws' := []) [] rfl
          have hD9 := hD.sub (ws' := []) [] (by decide) rfl
          have hK9 := hK.sub (tys' := []) [] rfl
          refine W.widen (k := 0) (n := 0) (Nat.le_of_ble_eq_true rfl) (Nat.le_of_ble_eq_true rfl) ?_
          exact W.iret (v := 0) hx hb hr (fun t ht hW => ⟨⟨0, (), rfl, (by simp [cntS, c_1, c_2, c_3, c_4]), by rw [ht]; exact hP9, va_K.moved hW.alike hK9, hD9⟩, hS.F ht⟩) hS.2.2 dX11_count_50
        · skip
          refine lv_iconst (v := (-1)) hx hb dX11_count_40 (by decide) ?_
          have hP9 := hP.sub (ws' := []) [] rfl
          have hD9 := hD.sub (ws' := []) [] (by decide) rfl
          have hK9 := hK.sub (tys' := []) [] rfl
          refine W.widen (k := 0) (n := 0) (Nat.le_of_ble_eq_true rfl) (Nat.le_of_ble_eq_true rfl) ?_
          exact W.iret (v := (-1)) hx hb hr (fun t ht hW => ⟨⟨(-1), (), rfl, (by simp [cntS, c_1, c_2, c_3, c_4]), by rw [ht]; exact hP9, va_K.moved hW.alike hK9, hD9⟩, hS.F ht⟩) hS.2.2 dX11_count_41
    · skip
      refine lv_iload_n hx hb dX11_count_15 rfl (lv_at hl 1 rfl) ?_
      refine lv_bipush (v := 13) hx hb dX11_count_16 (by decide) ?_
      refine lv_icmp_gt (tgt := 30) hx hb dX11_count_18 (by decide) (fun c_5 => ?_) (fun c_5 => ?_)
      · skip
        refine lv_iload_n hx hb dX11_count_30 rfl (lv_at hl 1 rfl) ?_
        refine lv_if_lt (tgt := 40) hx hb dX11_count_31 (by decide) (fun c_6 => ?_) (fun c_6 => ?_)
        · skip
          refine lv_iconst (v := (-1)) hx hb dX11_count_40 (by decide) ?_
          have hP9 := hP.sub (ws' := []) [] rfl
          have hD9 := hD.sub (ws' := []) [] (by decide) rfl
          have hK9 := hK.sub (tys' := []) [] rfl
          refine W.widen (k := 0) (n := 0) (Nat.le_of_ble_eq_true rfl) (Nat.le_of_ble_eq_true rfl) ?_
          exact W.iret (v := (-1)) hx hb hr (fun t ht hW => ⟨⟨(-1), (), rfl, (by simp [cntS, c_1, c_2, c_5, c_6]), by rw [ht]; exact hP9, va_K.moved hW.alike hK9, hD9⟩, hS.F ht⟩) hS.2.2 dX11_count_41
        · skip
          refine lv_iload_n hx hb dX11_count_34 rfl (lv_at hl 1 rfl) ?_
          refine lv_bipush (v := 13) hx hb dX11_count_35 (by decide) ?_
          refine lv_icmp_le (tgt := 42) hx hb dX11_count_37 (by decide) (fun c_7 => ?_) (fun c_7 => ?_)
          · skip
            refine lv_aload_n hx hb dX11_count_42 rfl (lv_at hl 0 rfl) ?_
            refine va_get (D := (dC, dI)) (ci := 13) (v := .null) (C := RX11) (T := TX11) (N := 5) hx hb hts in_cc_count_RX11 hown hK hP 0 rfl rfl 4 (by decide) (hts (.fieldLink RX11 35 "LevelUnits" "program" "LLevelUnits$Types;") (List.mem_of_getElem? (i := 1) rfl)) (fun _ h9 => h9) rfl dX11_count_43 ?_
            refine lv_ifnonnullN hx hb dX11_count_46 ?_
            refine lv_iconst (v := 0) hx hb dX11_count_49 (by decide) ?_
            have hP9 := hP.sub (ws' := []) [] rfl
            have hD9 := hD.sub (ws' := []) [] (by decide) rfl
            have hK9 := hK.sub (tys' := []) [] rfl
            refine W.widen (k := 0) (n := 0) (Nat.le_of_ble_eq_true rfl) (Nat.le_of_ble_eq_true rfl) ?_
            exact W.iret (v := 0) hx hb hr (fun t ht hW => ⟨⟨0, (), rfl, (by simp [cntS, c_1, c_2, c_5, c_6, c_7]), by rw [ht]; exact hP9, va_K.moved hW.alike hK9, hD9⟩, hS.F ht⟩) hS.2.2 dX11_count_50
          · skip
            refine lv_iconst (v := (-1)) hx hb dX11_count_40 (by decide) ?_
            have hP9 := hP.sub (ws' := []) [] rfl
            have hD9 := hD.sub (ws' := []) [] (by decide) rfl
            have hK9 := hK.sub (tys' := []) [] rfl
            refine W.widen (k := 0) (n := 0) (Nat.le_of_ble_eq_true rfl) (Nat.le_of_ble_eq_true rfl) ?_
            exact W.iret (v := (-1)) hx hb hr (fun t ht hW => ⟨⟨(-1), (), rfl, (by simp [cntS, c_1, c_2, c_5, c_6, c_7]), by rw [ht]; exact hP9, va_K.moved hW.alike hK9, hD9⟩, hS.F ht⟩) hS.2.2 dX11_count_41
      · skip
        refine lv_aload_n hx hb dX11_count_21 rfl (lv_at hl 0 rfl) ?_
        refine va_get (D := (dC, dI)) (ci := 13) (v := .ref qm) (C := RX11) (T := TX11) (N := 5) hx hb hts in_cc_count_RX11 hown hK hP 0 rfl rfl 3 (by decide) (hts (.fieldLink RX11 23 "LevelUnits" "machine" "LLevelUnits$Machine;") (List.mem_of_getElem? (i := 2) rfl)) (fun _ h9 => h9) rfl dX11_count_22 ?_
        refine lv_iload_n hx hb dX11_count_25 rfl (lv_at hl 1 rfl) ?_
        have hPc := hP.sub (ws' := [(qm, .inr (4, [.null, .ref m1, .ref m2, .ref m3, .ref m4, .ref m5, .int 0, .ref m7, .int 0, .int 0, .int 0, .ref m11, .int 0, .ref m13, .int 0, .ref m15, .null, .int 0, .int 0]))]) [1] rfl
        have hDc := hD.sub (ws' := [(qm, .inr (4, [.null, .ref m1, .ref m2, .ref m3, .ref m4, .ref m5, .int 0, .ref m7, .int 0, .int 0, .int 0, .ref m11, .int 0, .ref m13, .int 0, .ref m15, .null, .int 0, .int 0]))]) [1] (by decide) rfl
        have hKc := hK.sub (tys' := []) [] rfl
        have hFc := va_free (wc := [(qm, .inr (4, [.null, .ref m1, .ref m2, .ref m3, .ref m4, .ref m5, .int 0, .ref m7, .int 0, .int 0, .int 0, .ref m11, .int 0, .ref m13, .int 0, .ref m15, .null, .int 0, .int 0]))]) hD hS hA [1] rfl
        refine va_calli (va_runV (As := [.int i]) (rest := []) ⟨hx, hb, hml, hown, hts⟩ (cc_figure l dC dI qm m1 m2 m3 m4 m5 m7 m11 m13 m15 i s.heap.size) (cwV 1 hts gg_cc_count_cc_figure_92 rfl rfl rfl (by decide +kernel) ⟨(Nat.le_of_ble_eq_true rfl), (Nat.le_of_ble_eq_true rfl)⟩) ⟨fun a U g mk q => by obtain ⟨q0, q1, qP, qK, qD⟩ := q; exact ⟨q0, q1, qP, va_K.moved (u := U) (U := U.calling g mk a) (Vm.Alike.refl U.vm) qK, qD⟩, va_recv hKc hPc (ci := 4) (q0 := 0) rfl rfl, fun U hU hW => ⟨rfl, by rw [hU], by rw [hU]; exact hPc, va_K.moved hW.alike hKc, hDc.weaken (fun _ _ _ _ => trivial)⟩⟩ rfl rfl hl.1 rfl (lv_room (Nat.le_of_ble_eq_true rfl)) dX11_count_26 ⟨(Nat.le_of_ble_eq_true rfl), (Nat.le_of_ble_eq_true rfl)⟩) hS (fun q _ h => hFc q h) hFc (fun r9 u t H1 locs ht hvm hw hB hz1 hk1 hS => ?_)
        obtain ⟨hP1, hK1, hD1⟩ := hB
        rw [ht] at hP1
        have hK1 := va_K.moved hvm.symm hK1
        obtain ⟨hP, hD⟩ := va_join (wr := [(h0, .inr (13, [.ref qt, .int 0, .ref qs, .ref qm, .null]))]) (w1 := [(qm, .inr (4, [.null, .ref m1, .ref m2, .ref m3, .ref m4, .ref m5, .int 0, .ref m7, .int 0, .int 0, .int 0, .ref m11, .int 0, .ref m13, .int 0, .ref m15, .null, .int 0, .int 0]))]) hP hD [1] [0] rfl rfl (by decide) (by decide) hk1 hFc hP1 hD1
        have hK := (hK.sub (tys' := []) [] rfl).app hK1
        generalize H1 = H at hP hS ⊢
        have hK : va_K (dC, dI) vwCl [] s := hK
        have hP : va_P (dC, dI) vwCl [(h0, .inr (13, [.ref qt, .int 0, .ref qs, .ref qm, .null])), (qm, .inr (4, [.null, .ref m1, .ref m2, .ref m3, .ref m4, .ref m5, .int 0, .ref m7, .int 0, .int 0, .int 0, .ref m11, .int 0, .ref m13, .int 0, .ref m15, .null, .int 0, .int 0]))] H := hP
        have hD : va_D A [(h0, .inr (13, [.ref qt, .int 0, .ref qs, .ref qm, .null])), (qm, .inr (4, [.null, .ref m1, .ref m2, .ref m3, .ref m4, .ref m5, .int 0, .ref m7, .int 0, .int 0, .int 0, .ref m11, .int 0, .ref m13, .int 0, .ref m15, .null, .int 0, .int 0]))] := hD
        refine W.widen (k := 0) (n := 0) (Nat.le_of_ble_eq_true rfl) (Nat.le_of_ble_eq_true rfl) ?_
        obtain rfl : r9 = 0 := hw
        have hP9 := hP.sub (ws' := []) [] rfl
        have hD9 := hD.sub (ws' := []) [] (by decide) rfl
        have hK9 := hK.sub (tys' := []) [] rfl
        refine W.widen (k := 0) (n := 0) (Nat.le_of_ble_eq_true rfl) (Nat.le_of_ble_eq_true rfl) ?_
        exact W.iret (v := 0) hx hb hr (fun t ht hW => ⟨⟨0, (), rfl, (by simp [cntS, c_1, c_2, c_5]), by rw [ht]; exact hP9, va_K.moved hW.alike hK9, hD9⟩, hS.F ht⟩) hS.2.2 dX11_count_29
  · skip
    refine lv_aload_n hx hb dX11_count_5 rfl (lv_at hl 0 rfl) ?_
    refine va_get (D := (dC, dI)) (ci := 13) (v := .int 0) (C := RX11) (T := TX11) (N := 5) hx hb hts in_cc_count_RX11 hown hK hP 0 rfl rfl 1 (by decide) (hts (.fieldLink RX11 27 "LevelUnits" "length" "I") (List.mem_of_getElem? (i := 9) rfl)) (fun _ h9 => h9) rfl dX11_count_6 ?_
    have hP9 := hP.sub (ws' := []) [] rfl
    have hD9 := hD.sub (ws' := []) [] (by decide) rfl
    have hK9 := hK.sub (tys' := []) [] rfl
    refine W.widen (k := 0) (n := 0) (Nat.le_of_ble_eq_true rfl) (Nat.le_of_ble_eq_true rfl) ?_
    exact W.iret (v := 0) hx hb hr (fun t ht hW => ⟨⟨0, (), rfl, (by simp [cntS, c_1]), by rw [ht]; exact hP9, va_K.moved hW.alike hK9, hD9⟩, hS.F ht⟩) hS.2.2 dX11_count_9
def ws_cc_typeNumbered : List Cond := .code yX11_typeNumbered cX11_typeNumbered 2 (some (.object "LevelUnits$Node")) :: ([.fieldLink RX11 35 "LevelUnits" "program" "LLevelUnits$Types;"] ++ wsX110)
theorem in_cc_typeNumbered_RX11 : ∀ w ∈ wsX110, w ∈ ws_cc_typeNumbered := fun _ h => List.mem_cons_of_mem _ (List.mem_append_right _ h)
set_option maxHeartbeats 4000000 in
set_option maxRecDepth 100000 in
theorem cc_typeNumbered (l : Launch) (dC : Nat → ClassId) (dI : Nat → Nat → Nat) (h0 : Nat) (qt : Nat) (qs : Nat) (qm : Nat) (i : Int32) (sz : Nat) : Met l yX11_typeNumbered ws_cc_typeNumbered ({ frames := 0, cells := 0, slots := 0, locals := 0 }) (va_Pc [.ref h0, .int i] (fun U => U.heap.size = sz ∧ va_P (dC, dI) vwCl [(h0, .inr (13, [.ref qt, .int 0, .ref qs, .ref qm, .null]))] U.heap ∧ va_K (dC, dI) vwCl [] U ∧ va_D (fun _ => True) [(h0, .inr (13, [.ref qt, .int 0, .ref qs, .ref qm, .null]))])) (va_Qq (fun (r : Option Nat) (_ : Unit) => r = none) (fun _ t => va_P (dC, dI) vwCl [(h0, .inr (13, [.ref qt, .int 0, .ref qs, .ref qm, .null]))] t.heap ∧ va_K (dC, dI) vwCl [] t ∧ va_D (va_A [(h0, .inr (13, [.ref qt, .int 0, .ref qs, .ref qm, .null]))] sz) [(h0, .inr (13, [.ref qt, .int 0, .ref qs, .ref qm, .null]))]) (va_A [(h0, .inr (13, [.ref qt, .int 0, .ref qs, .ref qm, .null]))] sz)) 0 0 (va_A [(h0, .inr (13, [.ref qt, .int 0, .ref qs, .ref qm, .null]))] sz) := by
  refine Met.ofW (cc := cX11_typeNumbered) (maxL := 2) (ret := (some (.object "LevelUnits$Node"))) (by decide) rfl ?_
  intro p e s m args below meth c s₁ B hml hv
  obtain ⟨rfl, hsz, hP, hK, hD0⟩ := hv
  have hx := B.exec
  have hb := B.bytes
  have hr := B.returns
  have hts := atoms_spec (ws := ws_cc_typeNumbered) B.pre
  have hown : s.vm.findClass RX11 = some m.cls := findClass_of_methodNamed B.named
  have hlocks := B.notSynchronized
  subst hsz
  have hD := hD0.self (sz := s.heap.size)
  generalize hAe : va_A [(h0, .inr (13, [.ref qt, .int 0, .ref qs, .ref qm, .null]))] s.heap.size = A at hD ⊢
  have hA : ∀ q : Nat, s.heap.size ≤ q → A q := fun q h => by rw [← hAe]; exact Or.inr h
  have hS : va_S A s.heap s.heap [] := va_S.rf
  have hP : va_P (dC, dI) vwCl [(h0, .inr (13, [.ref qt, .int 0, .ref qs, .ref qm, .null]))] s.heap := hP
  have hl := lv_entry ([.ref h0, .int i]) (n := 2) (Nat.le_of_ble_eq_true rfl)
  rw [lg_entry_eq]
  generalize (lg_sl ([.ref h0, .int i]) ++ List.replicate (2 - (lg_sl ([.ref h0, .int i])).length) Slot.unset).toArray = ls at hl ⊢
  have hl : lv_has ls 2 [(0, .ref h0), (1, .int i)] := hl
  refine lv_aload_n hx hb dX11_typeNumbered_0 rfl (lv_at hl 0 rfl) ?_
  refine va_get (D := (dC, dI)) (ci := 13) (v := .null) (C := RX11) (T := TX11) (N := 5) hx hb hts in_cc_typeNumbered_RX11 hown hK hP 0 rfl rfl 4 (by decide) (hts (.fieldLink RX11 35 "LevelUnits" "program" "LLevelUnits$Types;") (List.mem_of_getElem? (i := 1) rfl)) (fun _ h9 => h9) rfl dX11_typeNumbered_1 ?_
  refine lv_ifnullN (tgt := 23) hx hb dX11_typeNumbered_4 (by decide) ?_
  refine lv_null hx hb dX11_typeNumbered_23 ?_
  have hP9 := hP.sub (ws' := [(h0, .inr (13, [.ref qt, .int 0, .ref qs, .ref qm, .null]))]) [0] rfl
  have hD9 := hD.sub (ws' := [(h0, .inr (13, [.ref qt, .int 0, .ref qs, .ref qm, .null]))]) [0] (by decide) rfl
  have hK9 := hK.sub (tys' := []) [] rfl
  refine W.widen (k := 0) (n := 0) (Nat.le_of_ble_eq_true rfl) (Nat.le_of_ble_eq_true rfl) ?_
  exact W.aret (v := .null) hx hb hr (Or.inl ⟨_, rfl⟩) (Or.inl rfl) (fun t ht hW => ⟨⟨none, (), rfl, rfl, by rw [ht]; exact hP9, va_K.moved hW.alike hK9, hD9⟩, hS.F ht⟩) hS.2.2 dX11_typeNumbered_24
def ws_cc_unitNumbered : List Cond := .code yX11_unitNumbered cX11_unitNumbered 2 (some (.object "LevelUnits$Decl")) :: ([.fieldLink RX11 35 "LevelUnits" "program" "LLevelUnits$Types;"] ++ wsX110)
theorem in_cc_unitNumbered_RX11 : ∀ w ∈ wsX110, w ∈ ws_cc_unitNumbered := fun _ h => List.mem_cons_of_mem _ (List.mem_append_right _ h)
set_option maxHeartbeats 4000000 in
set_option maxRecDepth 100000 in
theorem cc_unitNumbered (l : Launch) (dC : Nat → ClassId) (dI : Nat → Nat → Nat) (h0 : Nat) (qt : Nat) (qs : Nat) (qm : Nat) (i : Int32) (sz : Nat) : Met l yX11_unitNumbered ws_cc_unitNumbered ({ frames := 0, cells := 0, slots := 0, locals := 0 }) (va_Pc [.ref h0, .int i] (fun U => U.heap.size = sz ∧ va_P (dC, dI) vwCl [(h0, .inr (13, [.ref qt, .int 0, .ref qs, .ref qm, .null]))] U.heap ∧ va_K (dC, dI) vwCl [] U ∧ va_D (fun _ => True) [(h0, .inr (13, [.ref qt, .int 0, .ref qs, .ref qm, .null]))])) (va_Qq (fun (r : Option Nat) (_ : Unit) => r = none) (fun _ t => va_P (dC, dI) vwCl [(h0, .inr (13, [.ref qt, .int 0, .ref qs, .ref qm, .null]))] t.heap ∧ va_K (dC, dI) vwCl [] t ∧ va_D (va_A [(h0, .inr (13, [.ref qt, .int 0, .ref qs, .ref qm, .null]))] sz) [(h0, .inr (13, [.ref qt, .int 0, .ref qs, .ref qm, .null]))]) (va_A [(h0, .inr (13, [.ref qt, .int 0, .ref qs, .ref qm, .null]))] sz)) 0 0 (va_A [(h0, .inr (13, [.ref qt, .int 0, .ref qs, .ref qm, .null]))] sz) := by
  refine Met.ofW (cc := cX11_unitNumbered) (maxL := 2) (ret := (some (.object "LevelUnits$Decl"))) (by decide) rfl ?_
  intro p e s m args below meth c s₁ B hml hv
  obtain ⟨rfl, hsz, hP, hK, hD0⟩ := hv
  have hx := B.exec
  have hb := B.bytes
  have hr := B.returns
  have hts := atoms_spec (ws := ws_cc_unitNumbered) B.pre
  have hown : s.vm.findClass RX11 = some m.cls := findClass_of_methodNamed B.named
  have hlocks := B.notSynchronized
  subst hsz
  have hD := hD0.self (sz := s.heap.size)
  generalize hAe : va_A [(h0, .inr (13, [.ref qt, .int 0, .ref qs, .ref qm, .null]))] s.heap.size = A at hD ⊢
  have hA : ∀ q : Nat, s.heap.size ≤ q → A q := fun q h => by rw [← hAe]; exact Or.inr h
  have hS : va_S A s.heap s.heap [] := va_S.rf
  have hP : va_P (dC, dI) vwCl [(h0, .inr (13, [.ref qt, .int 0, .ref qs, .ref qm, .null]))] s.heap := hP
  have hl := lv_entry ([.ref h0, .int i]) (n := 2) (Nat.le_of_ble_eq_true rfl)
  rw [lg_entry_eq]
  generalize (lg_sl ([.ref h0, .int i]) ++ List.replicate (2 - (lg_sl ([.ref h0, .int i])).length) Slot.unset).toArray = ls at hl ⊢
  have hl : lv_has ls 2 [(0, .ref h0), (1, .int i)] := hl
  refine lv_aload_n hx hb dX11_unitNumbered_0 rfl (lv_at hl 0 rfl) ?_
  refine va_get (D := (dC, dI)) (ci := 13) (v := .null) (C := RX11) (T := TX11) (N := 5) hx hb hts in_cc_unitNumbered_RX11 hown hK hP 0 rfl rfl 4 (by decide) (hts (.fieldLink RX11 35 "LevelUnits" "program" "LLevelUnits$Types;") (List.mem_of_getElem? (i := 1) rfl)) (fun _ h9 => h9) rfl dX11_unitNumbered_1 ?_
  refine lv_ifnullN (tgt := 23) hx hb dX11_unitNumbered_4 (by decide) ?_
  refine lv_null hx hb dX11_unitNumbered_23 ?_
  have hP9 := hP.sub (ws' := [(h0, .inr (13, [.ref qt, .int 0, .ref qs, .ref qm, .null]))]) [0] rfl
  have hD9 := hD.sub (ws' := [(h0, .inr (13, [.ref qt, .int 0, .ref qs, .ref qm, .null]))]) [0] (by decide) rfl
  have hK9 := hK.sub (tys' := []) [] rfl
  refine W.widen (k := 0) (n := 0) (Nat.le_of_ble_eq_true rfl) (Nat.le_of_ble_eq_true rfl) ?_
  exact W.aret (v := .null) hx hb hr (Or.inl ⟨_, rfl⟩) (Or.inl rfl) (fun t ht hW => ⟨⟨none, (), rfl, rfl, by rw [ht]; exact hP9, va_K.moved hW.alike hK9, hD9⟩, hS.F ht⟩) hS.2.2 dX11_unitNumbered_24
def ws_cc_alike : List Cond := .code yX11_alike cX11_alike 5 (some .int) :: ([.fieldLink RX11 35 "LevelUnits" "program" "LLevelUnits$Types;", .code yX11_typeNumbered cX11_typeNumbered 2 (some (.object "LevelUnits$Node")), .methodLink RX11 120 yX11_typeNumbered, .instanceMethod yX11_typeNumbered, .selects RX11 yX11_typeNumbered yX11_typeNumbered, .initialized RX11] ++ wsX110)
theorem in_cc_alike_RX11 : ∀ w ∈ wsX110, w ∈ ws_cc_alike := fun _ h => List.mem_cons_of_mem _ (List.mem_append_right _ h)
theorem g0_cc_alike_cc_typeNumbered_120 : GoodIn ws_cc_alike ws_cc_typeNumbered := goodIn_r _ [2, 1, 7, 8, 9, 10, 11] (by decide +kernel) (by decide +kernel)
theorem gg_cc_alike_cc_typeNumbered_120 : GoodIn ws_cc_alike (wsV RX11 120 RX11 yX11_typeNumbered ws_cc_typeNumbered) := goodIn_app (goodIn_of _ (by decide +kernel)) g0_cc_alike_cc_typeNumbered_120
set_option maxHeartbeats 4000000 in
set_option maxRecDepth 100000 in
theorem cc_alike (l : Launch) (dC : Nat → ClassId) (dI : Nat → Nat → Nat) (h0 : Nat) (qt : Nat) (qs : Nat) (qm : Nat) (i : Int32) (j : Int32) (sz : Nat) : Met l yX11_alike ws_cc_alike ({ frames := 1, cells := 0, slots := 0, locals := 21 }) (va_Pc [.ref h0, .int i, .int j] (fun U => U.heap.size = sz ∧ va_P (dC, dI) vwCl [(h0, .inr (13, [.ref qt, .int 0, .ref qs, .ref qm, .null]))] U.heap ∧ va_K (dC, dI) vwCl [] U ∧ va_D (fun _ => True) [(h0, .inr (13, [.ref qt, .int 0, .ref qs, .ref qm, .null]))])) (va_Qi (fun (r : Int32) (_ : Unit) => r = (-1)) (fun _ t => va_P (dC, dI) vwCl [] t.heap ∧ va_K (dC, dI) vwCl [] t ∧ va_D (va_A [(h0, .inr (13, [.ref qt, .int 0, .ref qs, .ref qm, .null]))] sz) []) (va_A [(h0, .inr (13, [.ref qt, .int 0, .ref qs, .ref qm, .null]))] sz)) 0 0 (va_A [(h0, .inr (13, [.ref qt, .int 0, .ref qs, .ref qm, .null]))] sz) := by
  refine Met.ofW (cc := cX11_alike) (maxL := 5) (ret := (some .int)) (by decide) rfl ?_
  intro p e s m args below meth c s₁ B hml hv
  obtain ⟨rfl, hsz, hP, hK, hD0⟩ := hv
  have hx := B.exec
  have hb := B.bytes
  have hr := B.returns
  have hts := atoms_spec (ws := ws_cc_alike) B.pre
  have hown : s.vm.findClass RX11 = some m.cls := findClass_of_methodNamed B.named
  have hlocks := B.notSynchronized
  subst hsz
  have hD := hD0.self (sz := s.heap.size)
  generalize hAe : va_A [(h0, .inr (13, [.ref qt, .int 0, .ref qs, .ref qm, .null]))] s.heap.size = A at hD ⊢
  have hA : ∀ q : Nat, s.heap.size ≤ q → A q := fun q h => by rw [← hAe]; exact Or.inr h
  have hS : va_S A s.heap s.heap [] := va_S.rf
  have hP : va_P (dC, dI) vwCl [(h0, .inr (13, [.ref qt, .int 0, .ref qs, .ref qm, .null]))] s.heap := hP
  have hl := lv_entry ([.ref h0, .int i, .int j]) (n := 5) (Nat.le_of_ble_eq_true rfl)
  rw [lg_entry_eq]
  generalize (lg_sl ([.ref h0, .int i, .int j]) ++ List.replicate (5 - (lg_sl ([.ref h0, .int i, .int j])).length) Slot.unset).toArray = ls at hl ⊢
  have hl : lv_has ls 5 [(0, .ref h0), (1, .int i), (2, .int j)] := hl
  refine lv_aload_n hx hb dX11_alike_0 rfl (lv_at hl 0 rfl) ?_
  refine lv_iload_n hx hb dX11_alike_1 rfl (lv_at hl 1 rfl) ?_
  have hPc := hP.sub (ws' := [(h0, .inr (13, [.ref qt, .int 0, .ref qs, .ref qm, .null]))]) [0] rfl
  have hDc := hD.sub (ws' := [(h0, .inr (13, [.ref qt, .int 0, .ref qs, .ref qm, .null]))]) [0] (by decide) rfl
  have hKc := hK.sub (tys' := []) [] rfl
  have hFc := va_free (wc := [(h0, .inr (13, [.ref qt, .int 0, .ref qs, .ref qm, .null]))]) hD hS hA [0] rfl
  refine va_callq (va_runV (As := [.int i]) (rest := []) ⟨hx, hb, hml, hown, hts⟩ (cc_typeNumbered l dC dI h0 qt qs qm i s.heap.size) (cwV 1 hts gg_cc_alike_cc_typeNumbered_120 rfl rfl rfl (by decide +kernel) ⟨(Nat.le_of_ble_eq_true rfl), (Nat.le_of_ble_eq_true rfl)⟩) ⟨fun a U g mk q => by obtain ⟨q0, q1, qP, qK, qD⟩ := q; exact ⟨q0, q1, qP, va_K.moved (u := U) (U := U.calling g mk a) (Vm.Alike.refl U.vm) qK, qD⟩, va_recv hKc hPc (ci := 13) (q0 := 0) rfl rfl, fun U hU hW => ⟨rfl, by rw [hU], by rw [hU]; exact hPc, va_K.moved hW.alike hKc, hDc.weaken (fun _ _ _ _ => trivial)⟩⟩ rfl rfl hl.1 rfl (lv_room (Nat.le_of_ble_eq_true rfl)) dX11_alike_2 ⟨(Nat.le_of_ble_eq_true rfl), (Nat.le_of_ble_eq_true rfl)⟩) hS (fun q _ h => hFc q h) hFc (fun r9 u t H1 locs ht hvm hw hB hz1 hk1 hS => ?_)
  obtain ⟨hP1, hK1, hD1⟩ := hB
  rw [ht] at hP1
  have hK1 := va_K.moved hvm.symm hK1
  obtain ⟨hP, hD⟩ := va_join (wr := []) (w1 := [(h0, .inr (13, [.ref qt, .int 0, .ref qs, .ref qm, .null]))]) hP hD [0] [] rfl rfl (by decide) (by decide) hk1 hFc hP1 hD1
  have hK := (hK.sub (tys' := []) [] rfl).app hK1
  generalize H1 = H at hP hS ⊢
  have hK : va_K (dC, dI) vwCl [] s := hK
  have hP : va_P (dC, dI) vwCl [(h0, .inr (13, [.ref qt, .int 0, .ref qs, .ref qm, .null]))] H := hP
  have hD : va_D A [(h0, .inr (13, [.ref qt, .int 0, .ref qs, .ref qm, .null]))] := hD
  refine W.widen (k := 0) (n := 0) (Nat.le_of_ble_eq_true rfl) (Nat.le_of_ble_eq_true rfl) ?_
  subst hw
  refine W.eq (g2 := F0 m 5 ls [.null]) rfl ?_
  refine lv_astore_nN (lv' := [(3, .null), (0, .ref h0), (1, .int i), (2, .int j)]) hx hb dX11_alike_5 rfl hl (by decide) rfl (fun ls hl => ?_)
  refine lv_aload_n hx hb dX11_alike_6 rfl (lv_at hl 1 rfl) ?_
  refine lv_iload_n hx hb dX11_alike_7 rfl (lv_at hl 3 rfl) ?_
  have hPc := hP.sub (ws' := [(h0, .inr (13, [.ref qt, .int 0, .ref qs, .ref qm, .null]))]) [0] rfl
  have hDc := hD.sub (ws' := [(h0, .inr (13, [.ref qt, .int 0, .ref qs, .ref qm, .null]))]) [0] (by decide) rfl
  have hKc := hK.sub (tys' := []) [] rfl
  have hFc := va_free (wc := [(h0, .inr (13, [.ref qt, .int 0, .ref qs, .ref qm, .null]))]) hD hS hA [0] rfl
  refine va_callq (va_runV (As := [.int j]) (rest := []) ⟨hx, hb, hml, hown, hts⟩ (cc_typeNumbered l dC dI h0 qt qs qm j H.size) (cwV 1 hts gg_cc_alike_cc_typeNumbered_120 rfl rfl rfl (by decide +kernel) ⟨(Nat.le_of_ble_eq_true rfl), (Nat.le_of_ble_eq_true rfl)⟩) ⟨fun a U g mk q => by obtain ⟨q0, q1, qP, qK, qD⟩ := q; exact ⟨q0, q1, qP, va_K.moved (u := U) (U := U.calling g mk a) (Vm.Alike.refl U.vm) qK, qD⟩, va_recv hKc hPc (ci := 13) (q0 := 0) rfl rfl, fun U hU hW => ⟨rfl, by rw [hU], by rw [hU]; exact hPc, va_K.moved hW.alike hKc, hDc.weaken (fun _ _ _ _ => trivial)⟩⟩ rfl rfl hl.1 rfl (lv_room (Nat.le_of_ble_eq_true rfl)) dX11_alike_8 ⟨(Nat.le_of_ble_eq_true rfl), (Nat.le_of_ble_eq_true rfl)⟩) hS (fun q _ h => hFc q h) hFc (fun r9 u t H1 locs ht hvm hw hB hz1 hk1 hS => ?_)
  obtain ⟨hP1, hK1, hD1⟩ := hB
  rw [ht] at hP1
  have hK1 := va_K.moved hvm.symm hK1
  obtain ⟨hP, hD⟩ := va_join (wr := []) (w1 := [(h0, .inr (13, [.ref qt, .int 0, .ref qs, .ref qm, .null]))]) hP hD [0] [] rfl rfl (by decide) (by decide) hk1 hFc hP1 hD1
  have hK := (hK.sub (tys' := []) [] rfl).app hK1
  generalize H1 = H at hP hS ⊢
  have hK : va_K (dC, dI) vwCl [] s := hK
  have hP : va_P (dC, dI) vwCl [(h0, .inr (13, [.ref qt, .int 0, .ref qs, .ref qm, .null]))] H := hP
  have hD : va_D A [(h0, .inr (13, [.ref qt, .int 0, .ref qs, .ref qm, .null]))] := hD
  refine W.widen (k := 0) (n := 0) (Nat.le_of_ble_eq_true rfl) (Nat.le_of_ble_eq_true rfl) ?_
  subst hw
  refine W.eq (g2 := F0 m 11 ls [.null]) rfl ?_
  refine lv_astoreN (lv' := [(4, .null), (3, .null), (0, .ref h0), (1, .int i), (2, .int j)]) hx hb dX11_alike_11 hl (by decide) rfl (fun ls hl => ?_)
  refine lv_aload_nN hx hb dX11_alike_13 rfl (lv_at hl 1 rfl) ?_
  refine lv_ifnullN (tgt := 22) hx hb dX11_alike_14 (by decide) ?_
  refine lv_iconst (v := (-1)) hx hb dX11_alike_22 (by decide) ?_
  have hP9 := hP.sub (ws' := []) [] rfl
  have hD9 := hD.sub (ws' := []) [] (by decide) rfl
  have hK9 := hK.sub (tys' := []) [] rfl
  refine W.widen (k := 0) (n := 0) (Nat.le_of_ble_eq_true rfl) (Nat.le_of_ble_eq_true rfl) ?_
  exact W.iret (v := (-1)) hx hb hr (fun t ht hW => ⟨⟨(-1), (), rfl, rfl, by rw [ht]; exact hP9, va_K.moved hW.alike hK9, hD9⟩, hS.F ht⟩) hS.2.2 dX11_alike_23
def ws_cc_type : List Cond := .code yX11_type cX11_type 5 (some .int) :: ([.fieldLink RX11 35 "LevelUnits" "program" "LLevelUnits$Types;", .code yX11_typeNumbered cX11_typeNumbered 2 (some (.object "LevelUnits$Node")), .methodLink RX11 120 yX11_typeNumbered, .instanceMethod yX11_typeNumbered, .selects RX11 yX11_typeNumbered yX11_typeNumbered, .initialized RX11] ++ wsX110)
theorem in_cc_type_RX11 : ∀ w ∈ wsX110, w ∈ ws_cc_type := fun _ h => List.mem_cons_of_mem _ (List.mem_append_right _ h)
theorem g0_cc_type_cc_typeNumbered_120 : GoodIn ws_cc_type ws_cc_typeNumbered := goodIn_r _ [2, 1, 7, 8, 9, 10, 11] (by decide +kernel) (by decide +kernel)
theorem gg_cc_type_cc_typeNumbered_120 : GoodIn ws_cc_type (wsV RX11 120 RX11 yX11_typeNumbered ws_cc_typeNumbered) := goodIn_app (goodIn_of _ (by decide +kernel)) g0_cc_type_cc_typeNumbered_120
set_option maxHeartbeats 4000000 in
set_option maxRecDepth 100000 in
theorem cc_type (l : Launch) (dC : Nat → ClassId) (dI : Nat → Nat → Nat) (h0 : Nat) (qt : Nat) (qs : Nat) (qm : Nat) (i : Int32) (j : Int32) (sz : Nat) : Met l yX11_type ws_cc_type ({ frames := 1, cells := 0, slots := 0, locals := 21 }) (va_Pc [.ref h0, .int i, .int j] (fun U => U.heap.size = sz ∧ va_P (dC, dI) vwCl [(h0, .inr (13, [.ref qt, .int 0, .ref qs, .ref qm, .null]))] U.heap ∧ va_K (dC, dI) vwCl [] U ∧ va_D (fun _ => True) [(h0, .inr (13, [.ref qt, .int 0, .ref qs, .ref qm, .null]))])) (va_Qi (fun (r : Int32) (_ : Unit) => r = (-1)) (fun _ t => va_P (dC, dI) vwCl [] t.heap ∧ va_K (dC, dI) vwCl [] t ∧ va_D (va_A [(h0, .inr (13, [.ref qt, .int 0, .ref qs, .ref qm, .null]))] sz) []) (va_A [(h0, .inr (13, [.ref qt, .int 0, .ref qs, .ref qm, .null]))] sz)) 0 0 (va_A [(h0, .inr (13, [.ref qt, .int 0, .ref qs, .ref qm, .null]))] sz) := by
  refine Met.ofW (cc := cX11_type) (maxL := 5) (ret := (some .int)) (by decide) rfl ?_
  intro p e s m args below meth c s₁ B hml hv
  obtain ⟨rfl, hsz, hP, hK, hD0⟩ := hv
  have hx := B.exec
  have hb := B.bytes
  have hr := B.returns
  have hts := atoms_spec (ws := ws_cc_type) B.pre
  have hown : s.vm.findClass RX11 = some m.cls := findClass_of_methodNamed B.named
  have hlocks := B.notSynchronized
  subst hsz
  have hD := hD0.self (sz := s.heap.size)
  generalize hAe : va_A [(h0, .inr (13, [.ref qt, .int 0, .ref qs, .ref qm, .null]))] s.heap.size = A at hD ⊢
  have hA : ∀ q : Nat, s.heap.size ≤ q → A q := fun q h => by rw [← hAe]; exact Or.inr h
  have hS : va_S A s.heap s.heap [] := va_S.rf
  have hP : va_P (dC, dI) vwCl [(h0, .inr (13, [.ref qt, .int 0, .ref qs, .ref qm, .null]))] s.heap := hP
  have hl := lv_entry ([.ref h0, .int i, .int j]) (n := 5) (Nat.le_of_ble_eq_true rfl)
  rw [lg_entry_eq]
  generalize (lg_sl ([.ref h0, .int i, .int j]) ++ List.replicate (5 - (lg_sl ([.ref h0, .int i, .int j])).length) Slot.unset).toArray = ls at hl ⊢
  have hl : lv_has ls 5 [(0, .ref h0), (1, .int i), (2, .int j)] := hl
  refine lv_aload_n hx hb dX11_type_0 rfl (lv_at hl 0 rfl) ?_
  refine lv_iload_n hx hb dX11_type_1 rfl (lv_at hl 1 rfl) ?_
  have hPc := hP.sub (ws' := [(h0, .inr (13, [.ref qt, .int 0, .ref qs, .ref qm, .null]))]) [0] rfl
  have hDc := hD.sub (ws' := [(h0, .inr (13, [.ref qt, .int 0, .ref qs, .ref qm, .null]))]) [0] (by decide) rfl
  have hKc := hK.sub (tys' := []) [] rfl
  have hFc := va_free (wc := [(h0, .inr (13, [.ref qt, .int 0, .ref qs, .ref qm, .null]))]) hD hS hA [0] rfl
  refine va_callq (va_runV (As := [.int i]) (rest := []) ⟨hx, hb, hml, hown, hts⟩ (cc_typeNumbered l dC dI h0 qt qs qm i s.heap.size) (cwV 1 hts gg_cc_type_cc_typeNumbered_120 rfl rfl rfl (by decide +kernel) ⟨(Nat.le_of_ble_eq_true rfl), (Nat.le_of_ble_eq_true rfl)⟩) ⟨fun a U g mk q => by obtain ⟨q0, q1, qP, qK, qD⟩ := q; exact ⟨q0, q1, qP, va_K.moved (u := U) (U := U.calling g mk a) (Vm.Alike.refl U.vm) qK, qD⟩, va_recv hKc hPc (ci := 13) (q0 := 0) rfl rfl, fun U hU hW => ⟨rfl, by rw [hU], by rw [hU]; exact hPc, va_K.moved hW.alike hKc, hDc.weaken (fun _ _ _ _ => trivial)⟩⟩ rfl rfl hl.1 rfl (lv_room (Nat.le_of_ble_eq_true rfl)) dX11_type_2 ⟨(Nat.le_of_ble_eq_true rfl), (Nat.le_of_ble_eq_true rfl)⟩) hS (fun q _ h => hFc q h) hFc (fun r9 u t H1 locs ht hvm hw hB hz1 hk1 hS => ?_)
  obtain ⟨hP1, hK1, hD1⟩ := hB
  rw [ht] at hP1
  have hK1 := va_K.moved hvm.symm hK1
  obtain ⟨hP, hD⟩ := va_join (wr := []) (w1 := [(h0, .inr (13, [.ref qt, .int 0, .ref qs, .ref qm, .null]))]) hP hD [0] [] rfl rfl (by decide) (by decide) hk1 hFc hP1 hD1
  have hK := (hK.sub (tys' := []) [] rfl).app hK1
  generalize H1 = H at hP hS ⊢
  have hK : va_K (dC, dI) vwCl [] s := hK
  have hP : va_P (dC, dI) vwCl [(h0, .inr (13, [.ref qt, .int 0, .ref qs, .ref qm, .null]))] H := hP
  have hD : va_D A [(h0, .inr (13, [.ref qt, .int 0, .ref qs, .ref qm, .null]))] := hD
  refine W.widen (k := 0) (n := 0) (Nat.le_of_ble_eq_true rfl) (Nat.le_of_ble_eq_true rfl) ?_
  subst hw
  refine W.eq (g2 := F0 m 5 ls [.null]) rfl ?_
  refine lv_astore_nN (lv' := [(3, .null), (0, .ref h0), (1, .int i), (2, .int j)]) hx hb dX11_type_5 rfl hl (by decide) rfl (fun ls hl => ?_)
  refine lv_aload_nN hx hb dX11_type_6 rfl (lv_at hl 0 rfl) ?_
  refine lv_ifnonnullN hx hb dX11_type_7 ?_
  refine lv_iconst (v := (-1)) hx hb dX11_type_10 (by decide) ?_
  have hP9 := hP.sub (ws' := []) [] rfl
  have hD9 := hD.sub (ws' := []) [] (by decide) rfl
  have hK9 := hK.sub (tys' := []) [] rfl
  refine W.widen (k := 0) (n := 0) (Nat.le_of_ble_eq_true rfl) (Nat.le_of_ble_eq_true rfl) ?_
  exact W.iret (v := (-1)) hx hb hr (fun t ht hW => ⟨⟨(-1), (), rfl, rfl, by rw [ht]; exact hP9, va_K.moved hW.alike hK9, hD9⟩, hS.F ht⟩) hS.2.2 dX11_type_11
def ws_cc_sees : List Cond := .code yX11_sees cX11_sees 5 (some .int) :: ([.fieldLink RX11 35 "LevelUnits" "program" "LLevelUnits$Types;", .code yX11_unitNumbered cX11_unitNumbered 2 (some (.object "LevelUnits$Decl")), .methodLink RX11 127 yX11_unitNumbered, .instanceMethod yX11_unitNumbered, .selects RX11 yX11_unitNumbered yX11_unitNumbered, .initialized RX11, .code yX11_typeNumbered cX11_typeNumbered 2 (some (.object "LevelUnits$Node")), .methodLink RX11 120 yX11_typeNumbered, .instanceMethod yX11_typeNumbered, .selects RX11 yX11_typeNumbered yX11_typeNumbered] ++ wsX110)
theorem in_cc_sees_RX11 : ∀ w ∈ wsX110, w ∈ ws_cc_sees := fun _ h => List.mem_cons_of_mem _ (List.mem_append_right _ h)
theorem g0_cc_sees_cc_unitNumbered_127 : GoodIn ws_cc_sees ws_cc_unitNumbered := goodIn_r _ [2, 1, 11, 12, 13, 14, 15] (by decide +kernel) (by decide +kernel)
theorem gg_cc_sees_cc_unitNumbered_127 : GoodIn ws_cc_sees (wsV RX11 127 RX11 yX11_unitNumbered ws_cc_unitNumbered) := goodIn_app (goodIn_of _ (by decide +kernel)) g0_cc_sees_cc_unitNumbered_127
theorem g0_cc_sees_cc_typeNumbered_120 : GoodIn ws_cc_sees ws_cc_typeNumbered := goodIn_r _ [7, 1, 11, 12, 13, 14, 15] (by decide +kernel) (by decide +kernel)
theorem gg_cc_sees_cc_typeNumbered_120 : GoodIn ws_cc_sees (wsV RX11 120 RX11 yX11_typeNumbered ws_cc_typeNumbered) := goodIn_app (goodIn_of _ (by decide +kernel)) g0_cc_sees_cc_typeNumbered_120
set_option maxHeartbeats 4000000 in
set_option maxRecDepth 100000 in
theorem cc_sees (l : Launch) (dC : Nat → ClassId) (dI : Nat → Nat → Nat) (h0 : Nat) (qt : Nat) (qs : Nat) (qm : Nat) (i : Int32) (j : Int32) (sz : Nat) : Met l yX11_sees ws_cc_sees ({ frames := 1, cells := 0, slots := 0, locals := 21 }) (va_Pc [.ref h0, .int i, .int j] (fun U => U.heap.size = sz ∧ va_P (dC, dI) vwCl [(h0, .inr (13, [.ref qt, .int 0, .ref qs, .ref qm, .null]))] U.heap ∧ va_K (dC, dI) vwCl [] U ∧ va_D (fun _ => True) [(h0, .inr (13, [.ref qt, .int 0, .ref qs, .ref qm, .null]))])) (va_Qi (fun (r : Int32) (_ : Unit) => r = (-1)) (fun _ t => va_P (dC, dI) vwCl [] t.heap ∧ va_K (dC, dI) vwCl [] t ∧ va_D (va_A [(h0, .inr (13, [.ref qt, .int 0, .ref qs, .ref qm, .null]))] sz) []) (va_A [(h0, .inr (13, [.ref qt, .int 0, .ref qs, .ref qm, .null]))] sz)) 0 0 (va_A [(h0, .inr (13, [.ref qt, .int 0, .ref qs, .ref qm, .null]))] sz) := by
  refine Met.ofW (cc := cX11_sees) (maxL := 5) (ret := (some .int)) (by decide) rfl ?_
  intro p e s m args below meth c s₁ B hml hv
  obtain ⟨rfl, hsz, hP, hK, hD0⟩ := hv
  have hx := B.exec
  have hb := B.bytes
  have hr := B.returns
  have hts := atoms_spec (ws := ws_cc_sees) B.pre
  have hown : s.vm.findClass RX11 = some m.cls := findClass_of_methodNamed B.named
  have hlocks := B.notSynchronized
  subst hsz
  have hD := hD0.self (sz := s.heap.size)
  generalize hAe : va_A [(h0, .inr (13, [.ref qt, .int 0, .ref qs, .ref qm, .null]))] s.heap.size = A at hD ⊢
  have hA : ∀ q : Nat, s.heap.size ≤ q → A q := fun q h => by rw [← hAe]; exact Or.inr h
  have hS : va_S A s.heap s.heap [] := va_S.rf
  have hP : va_P (dC, dI) vwCl [(h0, .inr (13, [.ref qt, .int 0, .ref qs, .ref qm, .null]))] s.heap := hP
  have hl := lv_entry ([.ref h0, .int i, .int j]) (n := 5) (Nat.le_of_ble_eq_true rfl)
  rw [lg_entry_eq]
  generalize (lg_sl ([.ref h0, .int i, .int j]) ++ List.replicate (5 - (lg_sl ([.ref h0, .int i, .int j])).length) Slot.unset).toArray = ls at hl ⊢
  have hl : lv_has ls 5 [(0, .ref h0), (1, .int i), (2, .int j)] := hl
  refine lv_aload_n hx hb dX11_sees_0 rfl (lv_at hl 0 rfl) ?_
  refine lv_iload_n hx hb dX11_sees_1 rfl (lv_at hl 1 rfl) ?_
  have hPc := hP.sub (ws' := [(h0, .inr (13, [.ref qt, .int 0, .ref qs, .ref qm, .null]))]) [0] rfl
  have hDc := hD.sub (ws' := [(h0, .inr (13, [.ref qt, .int 0, .ref qs, .ref qm, .null]))]) [0] (by decide) rfl
  have hKc := hK.sub (tys' := []) [] rfl
  have hFc := va_free (wc := [(h0, .inr (13, [.ref qt, .int 0, .ref qs, .ref qm, .null]))]) hD hS hA [0] rfl
  refine va_callq (va_runV (As := [.int i]) (rest := []) ⟨hx, hb, hml, hown, hts⟩ (cc_unitNumbered l dC dI h0 qt qs qm i s.heap.size) (cwV 1 hts gg_cc_sees_cc_unitNumbered_127 rfl rfl rfl (by decide +kernel) ⟨(Nat.le_of_ble_eq_true rfl), (Nat.le_of_ble_eq_true rfl)⟩) ⟨fun a U g mk q => by obtain ⟨q0, q1, qP, qK, qD⟩ := q; exact ⟨q0, q1, qP, va_K.moved (u := U) (U := U.calling g mk a) (Vm.Alike.refl U.vm) qK, qD⟩, va_recv hKc hPc (ci := 13) (q0 := 0) rfl rfl, fun U hU hW => ⟨rfl, by rw [hU], by rw [hU]; exact hPc, va_K.moved hW.alike hKc, hDc.weaken (fun _ _ _ _ => trivial)⟩⟩ rfl rfl hl.1 rfl (lv_room (Nat.le_of_ble_eq_true rfl)) dX11_sees_2 ⟨(Nat.le_of_ble_eq_true rfl), (Nat.le_of_ble_eq_true rfl)⟩) hS (fun q _ h => hFc q h) hFc (fun r9 u t H1 locs ht hvm hw hB hz1 hk1 hS => ?_)
  obtain ⟨hP1, hK1, hD1⟩ := hB
  rw [ht] at hP1
  have hK1 := va_K.moved hvm.symm hK1
  obtain ⟨hP, hD⟩ := va_join (wr := []) (w1 := [(h0, .inr (13, [.ref qt, .int 0, .ref qs, .ref qm, .null]))]) hP hD [0] [] rfl rfl (by decide) (by decide) hk1 hFc hP1 hD1
  have hK := (hK.sub (tys' := []) [] rfl).app hK1
  generalize H1 = H at hP hS ⊢
  have hK : va_K (dC, dI) vwCl [] s := hK
  have hP : va_P (dC, dI) vwCl [(h0, .inr (13, [.ref qt, .int 0, .ref qs, .ref qm, .null]))] H := hP
  have hD : va_D A [(h0, .inr (13, [.ref qt, .int 0, .ref qs, .ref qm, .null]))] := hD
  refine W.widen (k := 0) (n := 0) (Nat.le_of_ble_eq_true rfl) (Nat.le_of_ble_eq_true rfl) ?_
  subst hw
  refine W.eq (g2 := F0 m 5 ls [.null]) rfl ?_
  refine lv_astore_nN (lv' := [(3, .null), (0, .ref h0), (1, .int i), (2, .int j)]) hx hb dX11_sees_5 rfl hl (by decide) rfl (fun ls hl => ?_)
  refine lv_aload_n hx hb dX11_sees_6 rfl (lv_at hl 1 rfl) ?_
  refine lv_iload_n hx hb dX11_sees_7 rfl (lv_at hl 3 rfl) ?_
  have hPc := hP.sub (ws' := [(h0, .inr (13, [.ref qt, .int 0, .ref qs, .ref qm, .null]))]) [0] rfl
  have hDc := hD.sub (ws' := [(h0, .inr (13, [.ref qt, .int 0, .ref qs, .ref qm, .null]))]) [0] (by decide) rfl
  have hKc := hK.sub (tys' := []) [] rfl
  have hFc := va_free (wc := [(h0, .inr (13, [.ref qt, .int 0, .ref qs, .ref qm, .null]))]) hD hS hA [0] rfl
  refine va_callq (va_runV (As := [.int j]) (rest := []) ⟨hx, hb, hml, hown, hts⟩ (cc_typeNumbered l dC dI h0 qt qs qm j H.size) (cwV 1 hts gg_cc_sees_cc_typeNumbered_120 rfl rfl rfl (by decide +kernel) ⟨(Nat.le_of_ble_eq_true rfl), (Nat.le_of_ble_eq_true rfl)⟩) ⟨fun a U g mk q => by obtain ⟨q0, q1, qP, qK, qD⟩ := q; exact ⟨q0, q1, qP, va_K.moved (u := U) (U := U.calling g mk a) (Vm.Alike.refl U.vm) qK, qD⟩, va_recv hKc hPc (ci := 13) (q0 := 0) rfl rfl, fun U hU hW => ⟨rfl, by rw [hU], by rw [hU]; exact hPc, va_K.moved hW.alike hKc, hDc.weaken (fun _ _ _ _ => trivial)⟩⟩ rfl rfl hl.1 rfl (lv_room (Nat.le_of_ble_eq_true rfl)) dX11_sees_8 ⟨(Nat.le_of_ble_eq_true rfl), (Nat.le_of_ble_eq_true rfl)⟩) hS (fun q _ h => hFc q h) hFc (fun r9 u t H1 locs ht hvm hw hB hz1 hk1 hS => ?_)
  obtain ⟨hP1, hK1, hD1⟩ := hB
  rw [ht] at hP1
  have hK1 := va_K.moved hvm.symm hK1
  obtain ⟨hP, hD⟩ := va_join (wr := []) (w1 := [(h0, .inr (13, [.ref qt, .int 0, .ref qs, .ref qm, .null]))]) hP hD [0] [] rfl rfl (by decide) (by decide) hk1 hFc hP1 hD1
  have hK := (hK.sub (tys' := []) [] rfl).app hK1
  generalize H1 = H at hP hS ⊢
  have hK : va_K (dC, dI) vwCl [] s := hK
  have hP : va_P (dC, dI) vwCl [(h0, .inr (13, [.ref qt, .int 0, .ref qs, .ref qm, .null]))] H := hP
  have hD : va_D A [(h0, .inr (13, [.ref qt, .int 0, .ref qs, .ref qm, .null]))] := hD
  refine W.widen (k := 0) (n := 0) (Nat.le_of_ble_eq_true rfl) (Nat.le_of_ble_eq_true rfl) ?_
  subst hw
  refine W.eq (g2 := F0 m 11 ls [.null]) rfl ?_
  refine lv_astoreN (lv' := [(4, .null), (3, .null), (0, .ref h0), (1, .int i), (2, .int j)]) hx hb dX11_sees_11 hl (by decide) rfl (fun ls hl => ?_)
  refine lv_aload_nN hx hb dX11_sees_13 rfl (lv_at hl 1 rfl) ?_
  refine lv_ifnullN (tgt := 30) hx hb dX11_sees_14 (by decide) ?_
  refine lv_iconst (v := (-1)) hx hb dX11_sees_30 (by decide) ?_
  have hP9 := hP.sub (ws' := []) [] rfl
  have hD9 := hD.sub (ws' := []) [] (by decide) rfl
  have hK9 := hK.sub (tys' := []) [] rfl
  refine W.widen (k := 0) (n := 0) (Nat.le_of_ble_eq_true rfl) (Nat.le_of_ble_eq_true rfl) ?_
  exact W.iret (v := (-1)) hx hb hr (fun t ht hW => ⟨⟨(-1), (), rfl, rfl, by rw [ht]; exact hP9, va_K.moved hW.alike hK9, hD9⟩, hS.F ht⟩) hS.2.2 dX11_sees_31
def ws_cc_below : List Cond := .code yX11_below cX11_below 7 (some .int) :: ([.fieldLink RX11 35 "LevelUnits" "program" "LLevelUnits$Types;", .code yX11_unitNumbered cX11_unitNumbered 2 (some (.object "LevelUnits$Decl")), .methodLink RX11 127 yX11_unitNumbered, .instanceMethod yX11_unitNumbered, .selects RX11 yX11_unitNumbered yX11_unitNumbered, .initialized RX11, .code yX11_typeNumbered cX11_typeNumbered 2 (some (.object "LevelUnits$Node")), .methodLink RX11 120 yX11_typeNumbered, .instanceMethod yX11_typeNumbered, .selects RX11 yX11_typeNumbered yX11_typeNumbered] ++ wsX110)
theorem in_cc_below_RX11 : ∀ w ∈ wsX110, w ∈ ws_cc_below := fun _ h => List.mem_cons_of_mem _ (List.mem_append_right _ h)
theorem g0_cc_below_cc_unitNumbered_127 : GoodIn ws_cc_below ws_cc_unitNumbered := goodIn_r _ [2, 1, 11, 12, 13, 14, 15] (by decide +kernel) (by decide +kernel)
theorem gg_cc_below_cc_unitNumbered_127 : GoodIn ws_cc_below (wsV RX11 127 RX11 yX11_unitNumbered ws_cc_unitNumbered) := goodIn_app (goodIn_of _ (by decide +kernel)) g0_cc_below_cc_unitNumbered_127
theorem g0_cc_below_cc_typeNumbered_120 : GoodIn ws_cc_below ws_cc_typeNumbered := goodIn_r _ [7, 1, 11, 12, 13, 14, 15] (by decide +kernel) (by decide +kernel)
theorem gg_cc_below_cc_typeNumbered_120 : GoodIn ws_cc_below (wsV RX11 120 RX11 yX11_typeNumbered ws_cc_typeNumbered) := goodIn_app (goodIn_of _ (by decide +kernel)) g0_cc_below_cc_typeNumbered_120
set_option maxHeartbeats 4000000 in
set_option maxRecDepth 100000 in
theorem cc_below (l : Launch) (dC : Nat → ClassId) (dI : Nat → Nat → Nat) (h0 : Nat) (qt : Nat) (qs : Nat) (qm : Nat) (i : Int32) (j : Int32) (k : Int32) (sz : Nat) : Met l yX11_below ws_cc_below ({ frames := 1, cells := 0, slots := 0, locals := 21 }) (va_Pc [.ref h0, .int i, .int j, .int k] (fun U => U.heap.size = sz ∧ va_P (dC, dI) vwCl [(h0, .inr (13, [.ref qt, .int 0, .ref qs, .ref qm, .null]))] U.heap ∧ va_K (dC, dI) vwCl [] U ∧ va_D (fun _ => True) [(h0, .inr (13, [.ref qt, .int 0, .ref qs, .ref qm, .null]))])) (va_Qi (fun (r : Int32) (_ : Unit) => r = (-1)) (fun _ t => va_P (dC, dI) vwCl [] t.heap ∧ va_K (dC, dI) vwCl [] t ∧ va_D (va_A [(h0, .inr (13, [.ref qt, .int 0, .ref qs, .ref qm, .null]))] sz) []) (va_A [(h0, .inr (13, [.ref qt, .int 0, .ref qs, .ref qm, .null]))] sz)) 0 0 (va_A [(h0, .inr (13, [.ref qt, .int 0, .ref qs, .ref qm, .null]))] sz) := by
  refine Met.ofW (cc := cX11_below) (maxL := 7) (ret := (some .int)) (by decide) rfl ?_
  intro p e s m args below meth c s₁ B hml hv
  obtain ⟨rfl, hsz, hP, hK, hD0⟩ := hv
  have hx := B.exec
  have hb := B.bytes
  have hr := B.returns
  have hts := atoms_spec (ws := ws_cc_below) B.pre
  have hown : s.vm.findClass RX11 = some m.cls := findClass_of_methodNamed B.named
  have hlocks := B.notSynchronized
  subst hsz
  have hD := hD0.self (sz := s.heap.size)
  generalize hAe : va_A [(h0, .inr (13, [.ref qt, .int 0, .ref qs, .ref qm, .null]))] s.heap.size = A at hD ⊢
  have hA : ∀ q : Nat, s.heap.size ≤ q → A q := fun q h => by rw [← hAe]; exact Or.inr h
  have hS : va_S A s.heap s.heap [] := va_S.rf
  have hP : va_P (dC, dI) vwCl [(h0, .inr (13, [.ref qt, .int 0, .ref qs, .ref qm, .null]))] s.heap := hP
  have hl := lv_entry ([.ref h0, .int i, .int j, .int k]) (n := 7) (Nat.le_of_ble_eq_true rfl)
  rw [lg_entry_eq]
  generalize (lg_sl ([.ref h0, .int i, .int j, .int k]) ++ List.replicate (7 - (lg_sl ([.ref h0, .int i, .int j, .int k])).length) Slot.unset).toArray = ls at hl ⊢
  have hl : lv_has ls 7 [(0, .ref h0), (1, .int i), (2, .int j), (3, .int k)] := hl
  refine lv_aload_n hx hb dX11_below_0 rfl (lv_at hl 0 rfl) ?_
  refine lv_iload_n hx hb dX11_below_1 rfl (lv_at hl 1 rfl) ?_
  have hPc := hP.sub (ws' := [(h0, .inr (13, [.ref qt, .int 0, .ref qs, .ref qm, .null]))]) [0] rfl
  have hDc := hD.sub (ws' := [(h0, .inr (13, [.ref qt, .int 0, .ref qs, .ref qm, .null]))]) [0] (by decide) rfl
  have hKc := hK.sub (tys' := []) [] rfl
  have hFc := va_free (wc := [(h0, .inr (13, [.ref qt, .int 0, .ref qs, .ref qm, .null]))]) hD hS hA [0] rfl
  refine va_callq (va_runV (As := [.int i]) (rest := []) ⟨hx, hb, hml, hown, hts⟩ (cc_unitNumbered l dC dI h0 qt qs qm i s.heap.size) (cwV 1 hts gg_cc_below_cc_unitNumbered_127 rfl rfl rfl (by decide +kernel) ⟨(Nat.le_of_ble_eq_true rfl), (Nat.le_of_ble_eq_true rfl)⟩) ⟨fun a U g mk q => by obtain ⟨q0, q1, qP, qK, qD⟩ := q; exact ⟨q0, q1, qP, va_K.moved (u := U) (U := U.calling g mk a) (Vm.Alike.refl U.vm) qK, qD⟩, va_recv hKc hPc (ci := 13) (q0 := 0) rfl rfl, fun U hU hW => ⟨rfl, by rw [hU], by rw [hU]; exact hPc, va_K.moved hW.alike hKc, hDc.weaken (fun _ _ _ _ => trivial)⟩⟩ rfl rfl hl.1 rfl (lv_room (Nat.le_of_ble_eq_true rfl)) dX11_below_2 ⟨(Nat.le_of_ble_eq_true rfl), (Nat.le_of_ble_eq_true rfl)⟩) hS (fun q _ h => hFc q h) hFc (fun r9 u t H1 locs ht hvm hw hB hz1 hk1 hS => ?_)
  obtain ⟨hP1, hK1, hD1⟩ := hB
  rw [ht] at hP1
  have hK1 := va_K.moved hvm.symm hK1
  obtain ⟨hP, hD⟩ := va_join (wr := []) (w1 := [(h0, .inr (13, [.ref qt, .int 0, .ref qs, .ref qm, .null]))]) hP hD [0] [] rfl rfl (by decide) (by decide) hk1 hFc hP1 hD1
  have hK := (hK.sub (tys' := []) [] rfl).app hK1
  generalize H1 = H at hP hS ⊢
  have hK : va_K (dC, dI) vwCl [] s := hK
  have hP : va_P (dC, dI) vwCl [(h0, .inr (13, [.ref qt, .int 0, .ref qs, .ref qm, .null]))] H := hP
  have hD : va_D A [(h0, .inr (13, [.ref qt, .int 0, .ref qs, .ref qm, .null]))] := hD
  refine W.widen (k := 0) (n := 0) (Nat.le_of_ble_eq_true rfl) (Nat.le_of_ble_eq_true rfl) ?_
  subst hw
  refine W.eq (g2 := F0 m 5 ls [.null]) rfl ?_
  refine lv_astoreN (lv' := [(4, .null), (0, .ref h0), (1, .int i), (2, .int j), (3, .int k)]) hx hb dX11_below_5 hl (by decide) rfl (fun ls hl => ?_)
  refine lv_aload_n hx hb dX11_below_7 rfl (lv_at hl 1 rfl) ?_
  refine lv_iload_n hx hb dX11_below_8 rfl (lv_at hl 3 rfl) ?_
  have hPc := hP.sub (ws' := [(h0, .inr (13, [.ref qt, .int 0, .ref qs, .ref qm, .null]))]) [0] rfl
  have hDc := hD.sub (ws' := [(h0, .inr (13, [.ref qt, .int 0, .ref qs, .ref qm, .null]))]) [0] (by decide) rfl
  have hKc := hK.sub (tys' := []) [] rfl
  have hFc := va_free (wc := [(h0, .inr (13, [.ref qt, .int 0, .ref qs, .ref qm, .null]))]) hD hS hA [0] rfl
  refine va_callq (va_runV (As := [.int j]) (rest := []) ⟨hx, hb, hml, hown, hts⟩ (cc_typeNumbered l dC dI h0 qt qs qm j H.size) (cwV 1 hts gg_cc_below_cc_typeNumbered_120 rfl rfl rfl (by decide +kernel) ⟨(Nat.le_of_ble_eq_true rfl), (Nat.le_of_ble_eq_true rfl)⟩) ⟨fun a U g mk q => by obtain ⟨q0, q1, qP, qK, qD⟩ := q; exact ⟨q0, q1, qP, va_K.moved (u := U) (U := U.calling g mk a) (Vm.Alike.refl U.vm) qK, qD⟩, va_recv hKc hPc (ci := 13) (q0 := 0) rfl rfl, fun U hU hW => ⟨rfl, by rw [hU], by rw [hU]; exact hPc, va_K.moved hW.alike hKc, hDc.weaken (fun _ _ _ _ => trivial)⟩⟩ rfl rfl hl.1 rfl (lv_room (Nat.le_of_ble_eq_true rfl)) dX11_below_9 ⟨(Nat.le_of_ble_eq_true rfl), (Nat.le_of_ble_eq_true rfl)⟩) hS (fun q _ h => hFc q h) hFc (fun r9 u t H1 locs ht hvm hw hB hz1 hk1 hS => ?_)
  obtain ⟨hP1, hK1, hD1⟩ := hB
  rw [ht] at hP1
  have hK1 := va_K.moved hvm.symm hK1
  obtain ⟨hP, hD⟩ := va_join (wr := []) (w1 := [(h0, .inr (13, [.ref qt, .int 0, .ref qs, .ref qm, .null]))]) hP hD [0] [] rfl rfl (by decide) (by decide) hk1 hFc hP1 hD1
  have hK := (hK.sub (tys' := []) [] rfl).app hK1
  generalize H1 = H at hP hS ⊢
  have hK : va_K (dC, dI) vwCl [] s := hK
  have hP : va_P (dC, dI) vwCl [(h0, .inr (13, [.ref qt, .int 0, .ref qs, .ref qm, .null]))] H := hP
  have hD : va_D A [(h0, .inr (13, [.ref qt, .int 0, .ref qs, .ref qm, .null]))] := hD
  refine W.widen (k := 0) (n := 0) (Nat.le_of_ble_eq_true rfl) (Nat.le_of_ble_eq_true rfl) ?_
  subst hw
  refine W.eq (g2 := F0 m 12 ls [.null]) rfl ?_
  refine lv_astoreN (lv' := [(5, .null), (4, .null), (0, .ref h0), (1, .int i), (2, .int j), (3, .int k)]) hx hb dX11_below_12 hl (by decide) rfl (fun ls hl => ?_)
  refine lv_aload_n hx hb dX11_below_14 rfl (lv_at hl 2 rfl) ?_
  refine lv_iload_n hx hb dX11_below_15 rfl (lv_at hl 5 rfl) ?_
  have hPc := hP.sub (ws' := [(h0, .inr (13, [.ref qt, .int 0, .ref qs, .ref qm, .null]))]) [0] rfl
  have hDc := hD.sub (ws' := [(h0, .inr (13, [.ref qt, .int 0, .ref qs, .ref qm, .null]))]) [0] (by decide) rfl
  have hKc := hK.sub (tys' := []) [] rfl
  have hFc := va_free (wc := [(h0, .inr (13, [.ref qt, .int 0, .ref qs, .ref qm, .null]))]) hD hS hA [0] rfl
  refine va_callq (va_runV (As := [.int k]) (rest := []) ⟨hx, hb, hml, hown, hts⟩ (cc_typeNumbered l dC dI h0 qt qs qm k H.size) (cwV 1 hts gg_cc_below_cc_typeNumbered_120 rfl rfl rfl (by decide +kernel) ⟨(Nat.le_of_ble_eq_true rfl), (Nat.le_of_ble_eq_true rfl)⟩) ⟨fun a U g mk q => by obtain ⟨q0, q1, qP, qK, qD⟩ := q; exact ⟨q0, q1, qP, va_K.moved (u := U) (U := U.calling g mk a) (Vm.Alike.refl U.vm) qK, qD⟩, va_recv hKc hPc (ci := 13) (q0 := 0) rfl rfl, fun U hU hW => ⟨rfl, by rw [hU], by rw [hU]; exact hPc, va_K.moved hW.alike hKc, hDc.weaken (fun _ _ _ _ => trivial)⟩⟩ rfl rfl hl.1 rfl (lv_room (Nat.le_of_ble_eq_true rfl)) dX11_below_16 ⟨(Nat.le_of_ble_eq_true rfl), (Nat.le_of_ble_eq_true rfl)⟩) hS (fun q _ h => hFc q h) hFc (fun r9 u t H1 locs ht hvm hw hB hz1 hk1 hS => ?_)
  obtain ⟨hP1, hK1, hD1⟩ := hB
  rw [ht] at hP1
  have hK1 := va_K.moved hvm.symm hK1
  obtain ⟨hP, hD⟩ := va_join (wr := []) (w1 := [(h0, .inr (13, [.ref qt, .int 0, .ref qs, .ref qm, .null]))]) hP hD [0] [] rfl rfl (by decide) (by decide) hk1 hFc hP1 hD1
  have hK := (hK.sub (tys' := []) [] rfl).app hK1
  generalize H1 = H at hP hS ⊢
  have hK : va_K (dC, dI) vwCl [] s := hK
  have hP : va_P (dC, dI) vwCl [(h0, .inr (13, [.ref qt, .int 0, .ref qs, .ref qm, .null]))] H := hP
  have hD : va_D A [(h0, .inr (13, [.ref qt, .int 0, .ref qs, .ref qm, .null]))] := hD
  refine W.widen (k := 0) (n := 0) (Nat.le_of_ble_eq_true rfl) (Nat.le_of_ble_eq_true rfl) ?_
  subst hw
  refine W.eq (g2 := F0 m 19 ls [.null]) rfl ?_
  refine lv_astoreN (lv' := [(6, .null), (5, .null), (4, .null), (0, .ref h0), (1, .int i), (2, .int j), (3, .int k)]) hx hb dX11_below_19 hl (by decide) rfl (fun ls hl => ?_)
  refine lv_aloadN hx hb dX11_below_21 (lv_at hl 2 rfl) ?_
  refine lv_ifnullN (tgt := 36) hx hb dX11_below_23 (by decide) ?_
  refine lv_iconst (v := (-1)) hx hb dX11_below_36 (by decide) ?_
  have hP9 := hP.sub (ws' := []) [] rfl
  have hD9 := hD.sub (ws' := []) [] (by decide) rfl
  have hK9 := hK.sub (tys' := []) [] rfl
  refine W.widen (k := 0) (n := 0) (Nat.le_of_ble_eq_true rfl) (Nat.le_of_ble_eq_true rfl) ?_
  exact W.iret (v := (-1)) hx hb hr (fun t ht hW => ⟨⟨(-1), (), rfl, rfl, by rw [ht]; exact hP9, va_K.moved hW.alike hK9, hD9⟩, hS.F ht⟩) hS.2.2 dX11_below_37
def ws_cc_output : List Cond := .code yX11_output cX11_output 2 (some .int) :: ([.fieldLink RX11 23 "LevelUnits" "machine" "LLevelUnits$Machine;", .fieldLink RX2 49 "LevelUnits$Machine" "made" "I", .code yX2_outputAt cX2_outputAt 2 (some .int), .methodLink RX11 192 yX2_outputAt, .instanceMethod yX2_outputAt, .selects RX2 yX2_outputAt yX2_outputAt, .initialized RX2] ++ wsX110 ++ wsX20)
theorem in_cc_output_RX11 : ∀ w ∈ wsX110, w ∈ ws_cc_output := fun _ h => List.mem_cons_of_mem _ (List.mem_append_left _ (List.mem_append_right _ h))
theorem in_cc_output_RX2 : ∀ w ∈ wsX20, w ∈ ws_cc_output := fun _ h => List.mem_cons_of_mem _ (List.mem_append_right _ h)
theorem g0_cc_output_cc_outputAt_192 : GoodIn ws_cc_output ws_cc_outputAt := goodIn_r _ [3, 2, 13, 14, 15, 16, 17, 18, 19, 20, 21, 22, 23, 24, 25, 26, 27, 28, 29, 30, 31] (by decide +kernel) (by decide +kernel)
theorem gg_cc_output_cc_outputAt_192 : GoodIn ws_cc_output (wsV RX11 192 RX2 yX2_outputAt ws_cc_outputAt) := goodIn_app (goodIn_of _ (by decide +kernel)) g0_cc_output_cc_outputAt_192
set_option maxHeartbeats 4000000 in
set_option maxRecDepth 100000 in
theorem cc_output (l : Launch) (dC : Nat → ClassId) (dI : Nat → Nat → Nat) (h0 : Nat) (qt : Nat) (qs : Nat) (qm : Nat) (m1 : Nat) (m2 : Nat) (m3 : Nat) (m4 : Nat) (m5 : Nat) (m7 : Nat) (m11 : Nat) (m13 : Nat) (m15 : Nat) (i : Int32) (sz : Nat) : Met l yX11_output ws_cc_output ({ frames := 1, cells := 0, slots := 0, locals := 21 }) (va_Pc [.ref h0, .int i] (fun U => U.heap.size = sz ∧ va_P (dC, dI) vwCl [(h0, .inr (13, [.ref qt, .int 0, .ref qs, .ref qm, .null])), (qm, .inr (4, [.null, .ref m1, .ref m2, .ref m3, .ref m4, .ref m5, .int 0, .ref m7, .int 0, .int 0, .int 0, .ref m11, .int 0, .ref m13, .int 0, .ref m15, .null, .int 0, .int 0]))] U.heap ∧ va_K (dC, dI) vwCl [] U ∧ va_D (fun _ => True) [(h0, .inr (13, [.ref qt, .int 0, .ref qs, .ref qm, .null])), (qm, .inr (4, [.null, .ref m1, .ref m2, .ref m3, .ref m4, .ref m5, .int 0, .ref m7, .int 0, .int 0, .int 0, .ref m11, .int 0, .ref m13, .int 0, .ref m15, .null, .int 0, .int 0]))])) (va_Qi (fun (r : Int32) (_ : Unit) => r = 0) (fun _ t => va_P (dC, dI) vwCl [] t.heap ∧ va_K (dC, dI) vwCl [] t ∧ va_D (va_A [(h0, .inr (13, [.ref qt, .int 0, .ref qs, .ref qm, .null])), (qm, .inr (4, [.null, .ref m1, .ref m2, .ref m3, .ref m4, .ref m5, .int 0, .ref m7, .int 0, .int 0, .int 0, .ref m11, .int 0, .ref m13, .int 0, .ref m15, .null, .int 0, .int 0]))] sz) []) (va_A [(h0, .inr (13, [.ref qt, .int 0, .ref qs, .ref qm, .null])), (qm, .inr (4, [.null, .ref m1, .ref m2, .ref m3, .ref m4, .ref m5, .int 0, .ref m7, .int 0, .int 0, .int 0, .ref m11, .int 0, .ref m13, .int 0, .ref m15, .null, .int 0, .int 0]))] sz)) 0 0 (va_A [(h0, .inr (13, [.ref qt, .int 0, .ref qs, .ref qm, .null])), (qm, .inr (4, [.null, .ref m1, .ref m2, .ref m3, .ref m4, .ref m5, .int 0, .ref m7, .int 0, .int 0, .int 0, .ref m11, .int 0, .ref m13, .int 0, .ref m15, .null, .int 0, .int 0]))] sz) := by
  refine Met.ofW (cc := cX11_output) (maxL := 2) (ret := (some .int)) (by decide) rfl ?_
  intro p e s m args below meth c s₁ B hml hv
  obtain ⟨rfl, hsz, hP, hK, hD0⟩ := hv
  have hx := B.exec
  have hb := B.bytes
  have hr := B.returns
  have hts := atoms_spec (ws := ws_cc_output) B.pre
  have hown : s.vm.findClass RX11 = some m.cls := findClass_of_methodNamed B.named
  have hlocks := B.notSynchronized
  subst hsz
  have hD := hD0.self (sz := s.heap.size)
  generalize hAe : va_A [(h0, .inr (13, [.ref qt, .int 0, .ref qs, .ref qm, .null])), (qm, .inr (4, [.null, .ref m1, .ref m2, .ref m3, .ref m4, .ref m5, .int 0, .ref m7, .int 0, .int 0, .int 0, .ref m11, .int 0, .ref m13, .int 0, .ref m15, .null, .int 0, .int 0]))] s.heap.size = A at hD ⊢
  have hA : ∀ q : Nat, s.heap.size ≤ q → A q := fun q h => by rw [← hAe]; exact Or.inr h
  have hS : va_S A s.heap s.heap [] := va_S.rf
  have hP : va_P (dC, dI) vwCl [(h0, .inr (13, [.ref qt, .int 0, .ref qs, .ref qm, .null])), (qm, .inr (4, [.null, .ref m1, .ref m2, .ref m3, .ref m4, .ref m5, .int 0, .ref m7, .int 0, .int 0, .int 0, .ref m11, .int 0, .ref m13, .int 0, .ref m15, .null, .int 0, .int 0]))] s.heap := hP
  have hl := lv_entry ([.ref h0, .int i]) (n := 2) (Nat.le_of_ble_eq_true rfl)
  rw [lg_entry_eq]
  generalize (lg_sl ([.ref h0, .int i]) ++ List.replicate (2 - (lg_sl ([.ref h0, .int i])).length) Slot.unset).toArray = ls at hl ⊢
  have hl : lv_has ls 2 [(0, .ref h0), (1, .int i)] := hl
  refine lv_aload_n hx hb dX11_output_0 rfl (lv_at hl 0 rfl) ?_
  refine va_get (D := (dC, dI)) (ci := 13) (v := .ref qm) (C := RX11) (T := TX11) (N := 5) hx hb hts in_cc_output_RX11 hown hK hP 0 rfl rfl 3 (by decide) (hts (.fieldLink RX11 23 "LevelUnits" "machine" "LLevelUnits$Machine;") (List.mem_of_getElem? (i := 1) rfl)) (fun _ h9 => h9) rfl dX11_output_1 ?_
  refine lv_iload_n hx hb dX11_output_4 rfl (lv_at hl 1 rfl) ?_
  have hPc := hP.sub (ws' := [(qm, .inr (4, [.null, .ref m1, .ref m2, .ref m3, .ref m4, .ref m5, .int 0, .ref m7, .int 0, .int 0, .int 0, .ref m11, .int 0, .ref m13, .int 0, .ref m15, .null, .int 0, .int 0]))]) [1] rfl
  have hDc := hD.sub (ws' := [(qm, .inr (4, [.null, .ref m1, .ref m2, .ref m3, .ref m4, .ref m5, .int 0, .ref m7, .int 0, .int 0, .int 0, .ref m11, .int 0, .ref m13, .int 0, .ref m15, .null, .int 0, .int 0]))]) [1] (by decide) rfl
  have hKc := hK.sub (tys' := []) [] rfl
  have hFc := va_free (wc := [(qm, .inr (4, [.null, .ref m1, .ref m2, .ref m3, .ref m4, .ref m5, .int 0, .ref m7, .int 0, .int 0, .int 0, .ref m11, .int 0, .ref m13, .int 0, .ref m15, .null, .int 0, .int 0]))]) hD hS hA [1] rfl
  refine va_calli (va_runV (As := [.int i]) (rest := []) ⟨hx, hb, hml, hown, hts⟩ (cc_outputAt l dC dI qm m1 m2 m3 m4 m5 m7 m11 m13 m15 i s.heap.size) (cwV 1 hts gg_cc_output_cc_outputAt_192 rfl rfl rfl (by decide +kernel) ⟨(Nat.le_of_ble_eq_true rfl), (Nat.le_of_ble_eq_true rfl)⟩) ⟨fun a U g mk q => by obtain ⟨q0, q1, qP, qK, qD⟩ := q; exact ⟨q0, q1, qP, va_K.moved (u := U) (U := U.calling g mk a) (Vm.Alike.refl U.vm) qK, qD⟩, va_recv hKc hPc (ci := 4) (q0 := 0) rfl rfl, fun U hU hW => ⟨rfl, by rw [hU], by rw [hU]; exact hPc, va_K.moved hW.alike hKc, hDc.weaken (fun _ _ _ _ => trivial)⟩⟩ rfl rfl hl.1 rfl (lv_room (Nat.le_of_ble_eq_true rfl)) dX11_output_5 ⟨(Nat.le_of_ble_eq_true rfl), (Nat.le_of_ble_eq_true rfl)⟩) hS (fun q _ h => hFc q h) hFc (fun r9 u t H1 locs ht hvm hw hB hz1 hk1 hS => ?_)
  obtain ⟨hP1, hK1, hD1⟩ := hB
  rw [ht] at hP1
  have hK1 := va_K.moved hvm.symm hK1
  obtain ⟨hP, hD⟩ := va_join (wr := [(h0, .inr (13, [.ref qt, .int 0, .ref qs, .ref qm, .null]))]) (w1 := [(qm, .inr (4, [.null, .ref m1, .ref m2, .ref m3, .ref m4, .ref m5, .int 0, .ref m7, .int 0, .int 0, .int 0, .ref m11, .int 0, .ref m13, .int 0, .ref m15, .null, .int 0, .int 0]))]) hP hD [1] [0] rfl rfl (by decide) (by decide) hk1 hFc hP1 hD1
  have hK := (hK.sub (tys' := []) [] rfl).app hK1
  generalize H1 = H at hP hS ⊢
  have hK : va_K (dC, dI) vwCl [] s := hK
  have hP : va_P (dC, dI) vwCl [(h0, .inr (13, [.ref qt, .int 0, .ref qs, .ref qm, .null])), (qm, .inr (4, [.null, .ref m1, .ref m2, .ref m3, .ref m4, .ref m5, .int 0, .ref m7, .int 0, .int 0, .int 0, .ref m11, .int 0, .ref m13, .int 0, .ref m15, .null, .int 0, .int 0]))] H := hP
  have hD : va_D A [(h0, .inr (13, [.ref qt, .int 0, .ref qs, .ref qm, .null])), (qm, .inr (4, [.null, .ref m1, .ref m2, .ref m3, .ref m4, .ref m5, .int 0, .ref m7, .int 0, .int 0, .int 0, .ref m11, .int 0, .ref m13, .int 0, .ref m15, .null, .int 0, .int 0]))] := hD
  refine W.widen (k := 0) (n := 0) (Nat.le_of_ble_eq_true rfl) (Nat.le_of_ble_eq_true rfl) ?_
  obtain rfl : r9 = 0 := hw
  have hP9 := hP.sub (ws' := []) [] rfl
  have hD9 := hD.sub (ws' := []) [] (by decide) rfl
  have hK9 := hK.sub (tys' := []) [] rfl
  refine W.widen (k := 0) (n := 0) (Nat.le_of_ble_eq_true rfl) (Nat.le_of_ble_eq_true rfl) ?_
  exact W.iret (v := 0) hx hb hr (fun t ht hW => ⟨⟨0, (), rfl, rfl, by rw [ht]; exact hP9, va_K.moved hW.alike hK9, hD9⟩, hS.F ht⟩) hS.2.2 dX11_output_8
def ws_cc_cell : List Cond := .code yX11_cell cX11_cell 2 (some .int) :: ([.fieldLink RX11 23 "LevelUnits" "machine" "LLevelUnits$Machine;", .fieldLink RX2 49 "LevelUnits$Machine" "made" "I", .code yX2_globalAt cX2_globalAt 2 (some .int), .methodLink RX11 195 yX2_globalAt, .instanceMethod yX2_globalAt, .selects RX2 yX2_globalAt yX2_globalAt, .initialized RX2] ++ wsX110 ++ wsX20)
theorem in_cc_cell_RX11 : ∀ w ∈ wsX110, w ∈ ws_cc_cell := fun _ h => List.mem_cons_of_mem _ (List.mem_append_left _ (List.mem_append_right _ h))
theorem in_cc_cell_RX2 : ∀ w ∈ wsX20, w ∈ ws_cc_cell := fun _ h => List.mem_cons_of_mem _ (List.mem_append_right _ h)
theorem g0_cc_cell_cc_globalAt_195 : GoodIn ws_cc_cell ws_cc_globalAt := goodIn_r _ [3, 2, 13, 14, 15, 16, 17, 18, 19, 20, 21, 22, 23, 24, 25, 26, 27, 28, 29, 30, 31] (by decide +kernel) (by decide +kernel)
theorem gg_cc_cell_cc_globalAt_195 : GoodIn ws_cc_cell (wsV RX11 195 RX2 yX2_globalAt ws_cc_globalAt) := goodIn_app (goodIn_of _ (by decide +kernel)) g0_cc_cell_cc_globalAt_195
set_option maxHeartbeats 4000000 in
set_option maxRecDepth 100000 in
theorem cc_cell (l : Launch) (dC : Nat → ClassId) (dI : Nat → Nat → Nat) (h0 : Nat) (qt : Nat) (qs : Nat) (qm : Nat) (m1 : Nat) (m2 : Nat) (m3 : Nat) (m4 : Nat) (m5 : Nat) (m7 : Nat) (m11 : Nat) (m13 : Nat) (m15 : Nat) (i : Int32) (sz : Nat) : Met l yX11_cell ws_cc_cell ({ frames := 1, cells := 0, slots := 0, locals := 21 }) (va_Pc [.ref h0, .int i] (fun U => U.heap.size = sz ∧ va_P (dC, dI) vwCl [(h0, .inr (13, [.ref qt, .int 0, .ref qs, .ref qm, .null])), (qm, .inr (4, [.null, .ref m1, .ref m2, .ref m3, .ref m4, .ref m5, .int 0, .ref m7, .int 0, .int 0, .int 0, .ref m11, .int 0, .ref m13, .int 0, .ref m15, .null, .int 0, .int 0]))] U.heap ∧ va_K (dC, dI) vwCl [] U ∧ va_D (fun _ => True) [(h0, .inr (13, [.ref qt, .int 0, .ref qs, .ref qm, .null])), (qm, .inr (4, [.null, .ref m1, .ref m2, .ref m3, .ref m4, .ref m5, .int 0, .ref m7, .int 0, .int 0, .int 0, .ref m11, .int 0, .ref m13, .int 0, .ref m15, .null, .int 0, .int 0]))])) (va_Qi (fun (r : Int32) (_ : Unit) => r = 0) (fun _ t => va_P (dC, dI) vwCl [] t.heap ∧ va_K (dC, dI) vwCl [] t ∧ va_D (va_A [(h0, .inr (13, [.ref qt, .int 0, .ref qs, .ref qm, .null])), (qm, .inr (4, [.null, .ref m1, .ref m2, .ref m3, .ref m4, .ref m5, .int 0, .ref m7, .int 0, .int 0, .int 0, .ref m11, .int 0, .ref m13, .int 0, .ref m15, .null, .int 0, .int 0]))] sz) []) (va_A [(h0, .inr (13, [.ref qt, .int 0, .ref qs, .ref qm, .null])), (qm, .inr (4, [.null, .ref m1, .ref m2, .ref m3, .ref m4, .ref m5, .int 0, .ref m7, .int 0, .int 0, .int 0, .ref m11, .int 0, .ref m13, .int 0, .ref m15, .null, .int 0, .int 0]))] sz)) 0 0 (va_A [(h0, .inr (13, [.ref qt, .int 0, .ref qs, .ref qm, .null])), (qm, .inr (4, [.null, .ref m1, .ref m2, .ref m3, .ref m4, .ref m5, .int 0, .ref m7, .int 0, .int 0, .int 0, .ref m11, .int 0, .ref m13, .int 0, .ref m15, .null, .int 0, .int 0]))] sz) := by
  refine Met.ofW (cc := cX11_cell) (maxL := 2) (ret := (some .int)) (by decide) rfl ?_
  intro p e s m args below meth c s₁ B hml hv
  obtain ⟨rfl, hsz, hP, hK, hD0⟩ := hv
  have hx := B.exec
  have hb := B.bytes
  have hr := B.returns
  have hts := atoms_spec (ws := ws_cc_cell) B.pre
  have hown : s.vm.findClass RX11 = some m.cls := findClass_of_methodNamed B.named
  have hlocks := B.notSynchronized
  subst hsz
  have hD := hD0.self (sz := s.heap.size)
  generalize hAe : va_A [(h0, .inr (13, [.ref qt, .int 0, .ref qs, .ref qm, .null])), (qm, .inr (4, [.null, .ref m1, .ref m2, .ref m3, .ref m4, .ref m5, .int 0, .ref m7, .int 0, .int 0, .int 0, .ref m11, .int 0, .ref m13, .int 0, .ref m15, .null, .int 0, .int 0]))] s.heap.size = A at hD ⊢
  have hA : ∀ q : Nat, s.heap.size ≤ q → A q := fun q h => by rw [← hAe]; exact Or.inr h
  have hS : va_S A s.heap s.heap [] := va_S.rf
  have hP : va_P (dC, dI) vwCl [(h0, .inr (13, [.ref qt, .int 0, .ref qs, .ref qm, .null])), (qm, .inr (4, [.null, .ref m1, .ref m2, .ref m3, .ref m4, .ref m5, .int 0, .ref m7, .int 0, .int 0, .int 0, .ref m11, .int 0, .ref m13, .int 0, .ref m15, .null, .int 0, .int 0]))] s.heap := hP
  have hl := lv_entry ([.ref h0, .int i]) (n := 2) (Nat.le_of_ble_eq_true rfl)
  rw [lg_entry_eq]
  generalize (lg_sl ([.ref h0, .int i]) ++ List.replicate (2 - (lg_sl ([.ref h0, .int i])).length) Slot.unset).toArray = ls at hl ⊢
  have hl : lv_has ls 2 [(0, .ref h0), (1, .int i)] := hl
  refine lv_aload_n hx hb dX11_cell_0 rfl (lv_at hl 0 rfl) ?_
  refine va_get (D := (dC, dI)) (ci := 13) (v := .ref qm) (C := RX11) (T := TX11) (N := 5) hx hb hts in_cc_cell_RX11 hown hK hP 0 rfl rfl 3 (by decide) (hts (.fieldLink RX11 23 "LevelUnits" "machine" "LLevelUnits$Machine;") (List.mem_of_getElem? (i := 1) rfl)) (fun _ h9 => h9) rfl dX11_cell_1 ?_
  refine lv_iload_n hx hb dX11_cell_4 rfl (lv_at hl 1 rfl) ?_
  have hPc := hP.sub (ws' := [(qm, .inr (4, [.null, .ref m1, .ref m2, .ref m3, .ref m4, .ref m5, .int 0, .ref m7, .int 0, .int 0, .int 0, .ref m11, .int 0, .ref m13, .int 0, .ref m15, .null, .int 0, .int 0]))]) [1] rfl
  have hDc := hD.sub (ws' := [(qm, .inr (4, [.null, .ref m1, .ref m2, .ref m3, .ref m4, .ref m5, .int 0, .ref m7, .int 0, .int 0, .int 0, .ref m11, .int 0, .ref m13, .int 0, .ref m15, .null, .int 0, .int 0]))]) [1] (by decide) rfl
  have hKc := hK.sub (tys' := []) [] rfl
  have hFc := va_free (wc := [(qm, .inr (4, [.null, .ref m1, .ref m2, .ref m3, .ref m4, .ref m5, .int 0, .ref m7, .int 0, .int 0, .int 0, .ref m11, .int 0, .ref m13, .int 0, .ref m15, .null, .int 0, .int 0]))]) hD hS hA [1] rfl
  refine va_calli (va_runV (As := [.int i]) (rest := []) ⟨hx, hb, hml, hown, hts⟩ (cc_globalAt l dC dI qm m1 m2 m3 m4 m5 m7 m11 m13 m15 i s.heap.size) (cwV 1 hts gg_cc_cell_cc_globalAt_195 rfl rfl rfl (by decide +kernel) ⟨(Nat.le_of_ble_eq_true rfl), (Nat.le_of_ble_eq_true rfl)⟩) ⟨fun a U g mk q => by obtain ⟨q0, q1, qP, qK, qD⟩ := q; exact ⟨q0, q1, qP, va_K.moved (u := U) (U := U.calling g mk a) (Vm.Alike.refl U.vm) qK, qD⟩, va_recv hKc hPc (ci := 4) (q0 := 0) rfl rfl, fun U hU hW => ⟨rfl, by rw [hU], by rw [hU]; exact hPc, va_K.moved hW.alike hKc, hDc.weaken (fun _ _ _ _ => trivial)⟩⟩ rfl rfl hl.1 rfl (lv_room (Nat.le_of_ble_eq_true rfl)) dX11_cell_5 ⟨(Nat.le_of_ble_eq_true rfl), (Nat.le_of_ble_eq_true rfl)⟩) hS (fun q _ h => hFc q h) hFc (fun r9 u t H1 locs ht hvm hw hB hz1 hk1 hS => ?_)
  obtain ⟨hP1, hK1, hD1⟩ := hB
  rw [ht] at hP1
  have hK1 := va_K.moved hvm.symm hK1
  obtain ⟨hP, hD⟩ := va_join (wr := [(h0, .inr (13, [.ref qt, .int 0, .ref qs, .ref qm, .null]))]) (w1 := [(qm, .inr (4, [.null, .ref m1, .ref m2, .ref m3, .ref m4, .ref m5, .int 0, .ref m7, .int 0, .int 0, .int 0, .ref m11, .int 0, .ref m13, .int 0, .ref m15, .null, .int 0, .int 0]))]) hP hD [1] [0] rfl rfl (by decide) (by decide) hk1 hFc hP1 hD1
  have hK := (hK.sub (tys' := []) [] rfl).app hK1
  generalize H1 = H at hP hS ⊢
  have hK : va_K (dC, dI) vwCl [] s := hK
  have hP : va_P (dC, dI) vwCl [(h0, .inr (13, [.ref qt, .int 0, .ref qs, .ref qm, .null])), (qm, .inr (4, [.null, .ref m1, .ref m2, .ref m3, .ref m4, .ref m5, .int 0, .ref m7, .int 0, .int 0, .int 0, .ref m11, .int 0, .ref m13, .int 0, .ref m15, .null, .int 0, .int 0]))] H := hP
  have hD : va_D A [(h0, .inr (13, [.ref qt, .int 0, .ref qs, .ref qm, .null])), (qm, .inr (4, [.null, .ref m1, .ref m2, .ref m3, .ref m4, .ref m5, .int 0, .ref m7, .int 0, .int 0, .int 0, .ref m11, .int 0, .ref m13, .int 0, .ref m15, .null, .int 0, .int 0]))] := hD
  refine W.widen (k := 0) (n := 0) (Nat.le_of_ble_eq_true rfl) (Nat.le_of_ble_eq_true rfl) ?_
  obtain rfl : r9 = 0 := hw
  have hP9 := hP.sub (ws' := []) [] rfl
  have hD9 := hD.sub (ws' := []) [] (by decide) rfl
  have hK9 := hK.sub (tys' := []) [] rfl
  refine W.widen (k := 0) (n := 0) (Nat.le_of_ble_eq_true rfl) (Nat.le_of_ble_eq_true rfl) ?_
  exact W.iret (v := 0) hx hb hr (fun t ht hW => ⟨⟨0, (), rfl, rfl, by rw [ht]; exact hP9, va_K.moved hW.alike hK9, hD9⟩, hS.F ht⟩) hS.2.2 dX11_cell_8
def ws_cc_thread : List Cond := .code yX11_thread cX11_thread 3 (some .int) :: ([.fieldLink RX11 23 "LevelUnits" "machine" "LLevelUnits$Machine;", .fieldLink RX2 49 "LevelUnits$Machine" "made" "I", .code yX2_threadTold cX2_threadTold 5 (some .int), .methodLink RX11 198 yX2_threadTold, .instanceMethod yX2_threadTold, .selects RX2 yX2_threadTold yX2_threadTold, .initialized RX2] ++ wsX110 ++ wsX20)
theorem in_cc_thread_RX11 : ∀ w ∈ wsX110, w ∈ ws_cc_thread := fun _ h => List.mem_cons_of_mem _ (List.mem_append_left _ (List.mem_append_right _ h))
theorem in_cc_thread_RX2 : ∀ w ∈ wsX20, w ∈ ws_cc_thread := fun _ h => List.mem_cons_of_mem _ (List.mem_append_right _ h)
theorem g0_cc_thread_cc_threadTold_198 : GoodIn ws_cc_thread ws_cc_threadTold := goodIn_r _ [3, 2, 13, 14, 15, 16, 17, 18, 19, 20, 21, 22, 23, 24, 25, 26, 27, 28, 29, 30, 31] (by decide +kernel) (by decide +kernel)
theorem gg_cc_thread_cc_threadTold_198 : GoodIn ws_cc_thread (wsV RX11 198 RX2 yX2_threadTold ws_cc_threadTold) := goodIn_app (goodIn_of _ (by decide +kernel)) g0_cc_thread_cc_threadTold_198
set_option maxHeartbeats 4000000 in
set_option maxRecDepth 100000 in
theorem cc_thread (l : Launch) (dC : Nat → ClassId) (dI : Nat → Nat → Nat) (h0 : Nat) (qt : Nat) (qs : Nat) (qm : Nat) (m1 : Nat) (m2 : Nat) (m3 : Nat) (m4 : Nat) (m5 : Nat) (m7 : Nat) (m11 : Nat) (m13 : Nat) (m15 : Nat) (i : Int32) (j : Int32) (sz : Nat) : Met l yX11_thread ws_cc_thread ({ frames := 1, cells := 0, slots := 0, locals := 24 }) (va_Pc [.ref h0, .int i, .int j] (fun U => U.heap.size = sz ∧ va_P (dC, dI) vwCl [(h0, .inr (13, [.ref qt, .int 0, .ref qs, .ref qm, .null])), (qm, .inr (4, [.null, .ref m1, .ref m2, .ref m3, .ref m4, .ref m5, .int 0, .ref m7, .int 0, .int 0, .int 0, .ref m11, .int 0, .ref m13, .int 0, .ref m15, .null, .int 0, .int 0]))] U.heap ∧ va_K (dC, dI) vwCl [] U ∧ va_D (fun _ => True) [(h0, .inr (13, [.ref qt, .int 0, .ref qs, .ref qm, .null])), (qm, .inr (4, [.null, .ref m1, .ref m2, .ref m3, .ref m4, .ref m5, .int 0, .ref m7, .int 0, .int 0, .int 0, .ref m11, .int 0, .ref m13, .int 0, .ref m15, .null, .int 0, .int 0]))])) (va_Qi (fun (r : Int32) (_ : Unit) => r = (-1)) (fun _ t => va_P (dC, dI) vwCl [] t.heap ∧ va_K (dC, dI) vwCl [] t ∧ va_D (va_A [(h0, .inr (13, [.ref qt, .int 0, .ref qs, .ref qm, .null])), (qm, .inr (4, [.null, .ref m1, .ref m2, .ref m3, .ref m4, .ref m5, .int 0, .ref m7, .int 0, .int 0, .int 0, .ref m11, .int 0, .ref m13, .int 0, .ref m15, .null, .int 0, .int 0]))] sz) []) (va_A [(h0, .inr (13, [.ref qt, .int 0, .ref qs, .ref qm, .null])), (qm, .inr (4, [.null, .ref m1, .ref m2, .ref m3, .ref m4, .ref m5, .int 0, .ref m7, .int 0, .int 0, .int 0, .ref m11, .int 0, .ref m13, .int 0, .ref m15, .null, .int 0, .int 0]))] sz)) 0 0 (va_A [(h0, .inr (13, [.ref qt, .int 0, .ref qs, .ref qm, .null])), (qm, .inr (4, [.null, .ref m1, .ref m2, .ref m3, .ref m4, .ref m5, .int 0, .ref m7, .int 0, .int 0, .int 0, .ref m11, .int 0, .ref m13, .int 0, .ref m15, .null, .int 0, .int 0]))] sz) := by
  refine Met.ofW (cc := cX11_thread) (maxL := 3) (ret := (some .int)) (by decide) rfl ?_
  intro p e s m args below meth c s₁ B hml hv
  obtain ⟨rfl, hsz, hP, hK, hD0⟩ := hv
  have hx := B.exec
  have hb := B.bytes
  have hr := B.returns
  have hts := atoms_spec (ws := ws_cc_thread) B.pre
  have hown : s.vm.findClass RX11 = some m.cls := findClass_of_methodNamed B.named
  have hlocks := B.notSynchronized
  subst hsz
  have hD := hD0.self (sz := s.heap.size)
  generalize hAe : va_A [(h0, .inr (13, [.ref qt, .int 0, .ref qs, .ref qm, .null])), (qm, .inr (4, [.null, .ref m1, .ref m2, .ref m3, .ref m4, .ref m5, .int 0, .ref m7, .int 0, .int 0, .int 0, .ref m11, .int 0, .ref m13, .int 0, .ref m15, .null, .int 0, .int 0]))] s.heap.size = A at hD ⊢
  have hA : ∀ q : Nat, s.heap.size ≤ q → A q := fun q h => by rw [← hAe]; exact Or.inr h
  have hS : va_S A s.heap s.heap [] := va_S.rf
  have hP : va_P (dC, dI) vwCl [(h0, .inr (13, [.ref qt, .int 0, .ref qs, .ref qm, .null])), (qm, .inr (4, [.null, .ref m1, .ref m2, .ref m3, .ref m4, .ref m5, .int 0, .ref m7, .int 0, .int 0, .int 0, .ref m11, .int 0, .ref m13, .int 0, .ref m15, .null, .int 0, .int 0]))] s.heap := hP
  have hl := lv_entry ([.ref h0, .int i, .int j]) (n := 3) (Nat.le_of_ble_eq_true rfl)
  rw [lg_entry_eq]
  generalize (lg_sl ([.ref h0, .int i, .int j]) ++ List.replicate (3 - (lg_sl ([.ref h0, .int i, .int j])).length) Slot.unset).toArray = ls at hl ⊢
  have hl : lv_has ls 3 [(0, .ref h0), (1, .int i), (2, .int j)] := hl
  refine lv_aload_n hx hb dX11_thread_0 rfl (lv_at hl 0 rfl) ?_
  refine va_get (D := (dC, dI)) (ci := 13) (v := .ref qm) (C := RX11) (T := TX11) (N := 5) hx hb hts in_cc_thread_RX11 hown hK hP 0 rfl rfl 3 (by decide) (hts (.fieldLink RX11 23 "LevelUnits" "machine" "LLevelUnits$Machine;") (List.mem_of_getElem? (i := 1) rfl)) (fun _ h9 => h9) rfl dX11_thread_1 ?_
  refine lv_iload_n hx hb dX11_thread_4 rfl (lv_at hl 1 rfl) ?_
  refine lv_iload_n hx hb dX11_thread_5 rfl (lv_at hl 2 rfl) ?_
  have hPc := hP.sub (ws' := [(qm, .inr (4, [.null, .ref m1, .ref m2, .ref m3, .ref m4, .ref m5, .int 0, .ref m7, .int 0, .int 0, .int 0, .ref m11, .int 0, .ref m13, .int 0, .ref m15, .null, .int 0, .int 0]))]) [1] rfl
  have hDc := hD.sub (ws' := [(qm, .inr (4, [.null, .ref m1, .ref m2, .ref m3, .ref m4, .ref m5, .int 0, .ref m7, .int 0, .int 0, .int 0, .ref m11, .int 0, .ref m13, .int 0, .ref m15, .null, .int 0, .int 0]))]) [1] (by decide) rfl
  have hKc := hK.sub (tys' := []) [] rfl
  have hFc := va_free (wc := [(qm, .inr (4, [.null, .ref m1, .ref m2, .ref m3, .ref m4, .ref m5, .int 0, .ref m7, .int 0, .int 0, .int 0, .ref m11, .int 0, .ref m13, .int 0, .ref m15, .null, .int 0, .int 0]))]) hD hS hA [1] rfl
  refine va_calli (va_runV (As := [.int i, .int j]) (rest := []) ⟨hx, hb, hml, hown, hts⟩ (cc_threadTold l dC dI qm m1 m2 m3 m4 m5 m7 m11 m13 m15 i j s.heap.size) (cwV 2 hts gg_cc_thread_cc_threadTold_198 rfl rfl rfl (by decide +kernel) ⟨(Nat.le_of_ble_eq_true rfl), (Nat.le_of_ble_eq_true rfl)⟩) ⟨fun a U g mk q => by obtain ⟨q0, q1, qP, qK, qD⟩ := q; exact ⟨q0, q1, qP, va_K.moved (u := U) (U := U.calling g mk a) (Vm.Alike.refl U.vm) qK, qD⟩, va_recv hKc hPc (ci := 4) (q0 := 0) rfl rfl, fun U hU hW => ⟨rfl, by rw [hU], by rw [hU]; exact hPc, va_K.moved hW.alike hKc, hDc.weaken (fun _ _ _ _ => trivial)⟩⟩ rfl rfl hl.1 rfl (lv_room (Nat.le_of_ble_eq_true rfl)) dX11_thread_6 ⟨(Nat.le_of_ble_eq_true rfl), (Nat.le_of_ble_eq_true rfl)⟩) hS (fun q _ h => hFc q h) hFc (fun r9 u t H1 locs ht hvm hw hB hz1 hk1 hS => ?_)
  obtain ⟨hP1, hK1, hD1⟩ := hB
  rw [ht] at hP1
  have hK1 := va_K.moved hvm.symm hK1
  obtain ⟨hP, hD⟩ := va_join (wr := [(h0, .inr (13, [.ref qt, .int 0, .ref qs, .ref qm, .null]))]) (w1 := [(qm, .inr (4, [.null, .ref m1, .ref m2, .ref m3, .ref m4, .ref m5, .int 0, .ref m7, .int 0, .int 0, .int 0, .ref m11, .int 0, .ref m13, .int 0, .ref m15, .null, .int 0, .int 0]))]) hP hD [1] [0] rfl rfl (by decide) (by decide) hk1 hFc hP1 hD1
  have hK := (hK.sub (tys' := []) [] rfl).app hK1
  generalize H1 = H at hP hS ⊢
  have hK : va_K (dC, dI) vwCl [] s := hK
  have hP : va_P (dC, dI) vwCl [(h0, .inr (13, [.ref qt, .int 0, .ref qs, .ref qm, .null])), (qm, .inr (4, [.null, .ref m1, .ref m2, .ref m3, .ref m4, .ref m5, .int 0, .ref m7, .int 0, .int 0, .int 0, .ref m11, .int 0, .ref m13, .int 0, .ref m15, .null, .int 0, .int 0]))] H := hP
  have hD : va_D A [(h0, .inr (13, [.ref qt, .int 0, .ref qs, .ref qm, .null])), (qm, .inr (4, [.null, .ref m1, .ref m2, .ref m3, .ref m4, .ref m5, .int 0, .ref m7, .int 0, .int 0, .int 0, .ref m11, .int 0, .ref m13, .int 0, .ref m15, .null, .int 0, .int 0]))] := hD
  refine W.widen (k := 0) (n := 0) (Nat.le_of_ble_eq_true rfl) (Nat.le_of_ble_eq_true rfl) ?_
  obtain rfl : r9 = ((-1)) := hw
  have hP9 := hP.sub (ws' := []) [] rfl
  have hD9 := hD.sub (ws' := []) [] (by decide) rfl
  have hK9 := hK.sub (tys' := []) [] rfl
  refine W.widen (k := 0) (n := 0) (Nat.le_of_ble_eq_true rfl) (Nat.le_of_ble_eq_true rfl) ?_
  exact W.iret (v := (-1)) hx hb hr (fun t ht hW => ⟨⟨(-1), (), rfl, rfl, by rw [ht]; exact hP9, va_K.moved hW.alike hK9, hD9⟩, hS.F ht⟩) hS.2.2 dX11_thread_9
def ws_cc_thing : List Cond := .code yX11_thing cX11_thing 3 (some .int) :: ([.fieldLink RX11 23 "LevelUnits" "machine" "LLevelUnits$Machine;", .fieldLink RX2 49 "LevelUnits$Machine" "made" "I", .code yX2_thingTold cX2_thingTold 4 (some .int), .methodLink RX11 202 yX2_thingTold, .instanceMethod yX2_thingTold, .selects RX2 yX2_thingTold yX2_thingTold, .initialized RX2] ++ wsX110 ++ wsX20)
theorem in_cc_thing_RX11 : ∀ w ∈ wsX110, w ∈ ws_cc_thing := fun _ h => List.mem_cons_of_mem _ (List.mem_append_left _ (List.mem_append_right _ h))
theorem in_cc_thing_RX2 : ∀ w ∈ wsX20, w ∈ ws_cc_thing := fun _ h => List.mem_cons_of_mem _ (List.mem_append_right _ h)
theorem g0_cc_thing_cc_thingTold_202 : GoodIn ws_cc_thing ws_cc_thingTold := goodIn_r _ [3, 2, 13, 14, 15, 16, 17, 18, 19, 20, 21, 22, 23, 24, 25, 26, 27, 28, 29, 30, 31] (by decide +kernel) (by decide +kernel)
theorem gg_cc_thing_cc_thingTold_202 : GoodIn ws_cc_thing (wsV RX11 202 RX2 yX2_thingTold ws_cc_thingTold) := goodIn_app (goodIn_of _ (by decide +kernel)) g0_cc_thing_cc_thingTold_202
set_option maxHeartbeats 4000000 in
set_option maxRecDepth 100000 in
theorem cc_thing (l : Launch) (dC : Nat → ClassId) (dI : Nat → Nat → Nat) (h0 : Nat) (qt : Nat) (qs : Nat) (qm : Nat) (m1 : Nat) (m2 : Nat) (m3 : Nat) (m4 : Nat) (m5 : Nat) (m7 : Nat) (m11 : Nat) (m13 : Nat) (m15 : Nat) (i : Int32) (j : Int32) (sz : Nat) : Met l yX11_thing ws_cc_thing ({ frames := 1, cells := 0, slots := 0, locals := 23 }) (va_Pc [.ref h0, .int i, .int j] (fun U => U.heap.size = sz ∧ va_P (dC, dI) vwCl [(h0, .inr (13, [.ref qt, .int 0, .ref qs, .ref qm, .null])), (qm, .inr (4, [.null, .ref m1, .ref m2, .ref m3, .ref m4, .ref m5, .int 0, .ref m7, .int 0, .int 0, .int 0, .ref m11, .int 0, .ref m13, .int 0, .ref m15, .null, .int 0, .int 0]))] U.heap ∧ va_K (dC, dI) vwCl [] U ∧ va_D (fun _ => True) [(h0, .inr (13, [.ref qt, .int 0, .ref qs, .ref qm, .null])), (qm, .inr (4, [.null, .ref m1, .ref m2, .ref m3, .ref m4, .ref m5, .int 0, .ref m7, .int 0, .int 0, .int 0, .ref m11, .int 0, .ref m13, .int 0, .ref m15, .null, .int 0, .int 0]))])) (va_Qi (fun (r : Int32) (_ : Unit) => r = (-1)) (fun _ t => va_P (dC, dI) vwCl [] t.heap ∧ va_K (dC, dI) vwCl [] t ∧ va_D (va_A [(h0, .inr (13, [.ref qt, .int 0, .ref qs, .ref qm, .null])), (qm, .inr (4, [.null, .ref m1, .ref m2, .ref m3, .ref m4, .ref m5, .int 0, .ref m7, .int 0, .int 0, .int 0, .ref m11, .int 0, .ref m13, .int 0, .ref m15, .null, .int 0, .int 0]))] sz) []) (va_A [(h0, .inr (13, [.ref qt, .int 0, .ref qs, .ref qm, .null])), (qm, .inr (4, [.null, .ref m1, .ref m2, .ref m3, .ref m4, .ref m5, .int 0, .ref m7, .int 0, .int 0, .int 0, .ref m11, .int 0, .ref m13, .int 0, .ref m15, .null, .int 0, .int 0]))] sz)) 0 0 (va_A [(h0, .inr (13, [.ref qt, .int 0, .ref qs, .ref qm, .null])), (qm, .inr (4, [.null, .ref m1, .ref m2, .ref m3, .ref m4, .ref m5, .int 0, .ref m7, .int 0, .int 0, .int 0, .ref m11, .int 0, .ref m13, .int 0, .ref m15, .null, .int 0, .int 0]))] sz) := by
  refine Met.ofW (cc := cX11_thing) (maxL := 3) (ret := (some .int)) (by decide) rfl ?_
  intro p e s m args below meth c s₁ B hml hv
  obtain ⟨rfl, hsz, hP, hK, hD0⟩ := hv
  have hx := B.exec
  have hb := B.bytes
  have hr := B.returns
  have hts := atoms_spec (ws := ws_cc_thing) B.pre
  have hown : s.vm.findClass RX11 = some m.cls := findClass_of_methodNamed B.named
  have hlocks := B.notSynchronized
  subst hsz
  have hD := hD0.self (sz := s.heap.size)
  generalize hAe : va_A [(h0, .inr (13, [.ref qt, .int 0, .ref qs, .ref qm, .null])), (qm, .inr (4, [.null, .ref m1, .ref m2, .ref m3, .ref m4, .ref m5, .int 0, .ref m7, .int 0, .int 0, .int 0, .ref m11, .int 0, .ref m13, .int 0, .ref m15, .null, .int 0, .int 0]))] s.heap.size = A at hD ⊢
  have hA : ∀ q : Nat, s.heap.size ≤ q → A q := fun q h => by rw [← hAe]; exact Or.inr h
  have hS : va_S A s.heap s.heap [] := va_S.rf
  have hP : va_P (dC, dI) vwCl [(h0, .inr (13, [.ref qt, .int 0, .ref qs, .ref qm, .null])), (qm, .inr (4, [.null, .ref m1, .ref m2, .ref m3, .ref m4, .ref m5, .int 0, .ref m7, .int 0, .int 0, .int 0, .ref m11, .int 0, .ref m13, .int 0, .ref m15, .null, .int 0, .int 0]))] s.heap := hP
  have hl := lv_entry ([.ref h0, .int i, .int j]) (n := 3) (Nat.le_of_ble_eq_true rfl)
  rw [lg_entry_eq]
  generalize (lg_sl ([.ref h0, .int i, .int j]) ++ List.replicate (3 - (lg_sl ([.ref h0, .int i, .int j])).length) Slot.unset).toArray = ls at hl ⊢
  have hl : lv_has ls 3 [(0, .ref h0), (1, .int i), (2, .int j)] := hl
  refine lv_aload_n hx hb dX11_thing_0 rfl (lv_at hl 0 rfl) ?_
  refine va_get (D := (dC, dI)) (ci := 13) (v := .ref qm) (C := RX11) (T := TX11) (N := 5) hx hb hts in_cc_thing_RX11 hown hK hP 0 rfl rfl 3 (by decide) (hts (.fieldLink RX11 23 "LevelUnits" "machine" "LLevelUnits$Machine;") (List.mem_of_getElem? (i := 1) rfl)) (fun _ h9 => h9) rfl dX11_thing_1 ?_
  refine lv_iload_n hx hb dX11_thing_4 rfl (lv_at hl 1 rfl) ?_
  refine lv_iload_n hx hb dX11_thing_5 rfl (lv_at hl 2 rfl) ?_
  have hPc := hP.sub (ws' := [(qm, .inr (4, [.null, .ref m1, .ref m2, .ref m3, .ref m4, .ref m5, .int 0, .ref m7, .int 0, .int 0, .int 0, .ref m11, .int 0, .ref m13, .int 0, .ref m15, .null, .int 0, .int 0]))]) [1] rfl
  have hDc := hD.sub (ws' := [(qm, .inr (4, [.null, .ref m1, .ref m2, .ref m3, .ref m4, .ref m5, .int 0, .ref m7, .int 0, .int 0, .int 0, .ref m11, .int 0, .ref m13, .int 0, .ref m15, .null, .int 0, .int 0]))]) [1] (by decide) rfl
  have hKc := hK.sub (tys' := []) [] rfl
  have hFc := va_free (wc := [(qm, .inr (4, [.null, .ref m1, .ref m2, .ref m3, .ref m4, .ref m5, .int 0, .ref m7, .int 0, .int 0, .int 0, .ref m11, .int 0, .ref m13, .int 0, .ref m15, .null, .int 0, .int 0]))]) hD hS hA [1] rfl
  refine va_calli (va_runV (As := [.int i, .int j]) (rest := []) ⟨hx, hb, hml, hown, hts⟩ (cc_thingTold l dC dI qm m1 m2 m3 m4 m5 m7 m11 m13 m15 i j s.heap.size) (cwV 2 hts gg_cc_thing_cc_thingTold_202 rfl rfl rfl (by decide +kernel) ⟨(Nat.le_of_ble_eq_true rfl), (Nat.le_of_ble_eq_true rfl)⟩) ⟨fun a U g mk q => by obtain ⟨q0, q1, qP, qK, qD⟩ := q; exact ⟨q0, q1, qP, va_K.moved (u := U) (U := U.calling g mk a) (Vm.Alike.refl U.vm) qK, qD⟩, va_recv hKc hPc (ci := 4) (q0 := 0) rfl rfl, fun U hU hW => ⟨rfl, by rw [hU], by rw [hU]; exact hPc, va_K.moved hW.alike hKc, hDc.weaken (fun _ _ _ _ => trivial)⟩⟩ rfl rfl hl.1 rfl (lv_room (Nat.le_of_ble_eq_true rfl)) dX11_thing_6 ⟨(Nat.le_of_ble_eq_true rfl), (Nat.le_of_ble_eq_true rfl)⟩) hS (fun q _ h => hFc q h) hFc (fun r9 u t H1 locs ht hvm hw hB hz1 hk1 hS => ?_)
  obtain ⟨hP1, hK1, hD1⟩ := hB
  rw [ht] at hP1
  have hK1 := va_K.moved hvm.symm hK1
  obtain ⟨hP, hD⟩ := va_join (wr := [(h0, .inr (13, [.ref qt, .int 0, .ref qs, .ref qm, .null]))]) (w1 := [(qm, .inr (4, [.null, .ref m1, .ref m2, .ref m3, .ref m4, .ref m5, .int 0, .ref m7, .int 0, .int 0, .int 0, .ref m11, .int 0, .ref m13, .int 0, .ref m15, .null, .int 0, .int 0]))]) hP hD [1] [0] rfl rfl (by decide) (by decide) hk1 hFc hP1 hD1
  have hK := (hK.sub (tys' := []) [] rfl).app hK1
  generalize H1 = H at hP hS ⊢
  have hK : va_K (dC, dI) vwCl [] s := hK
  have hP : va_P (dC, dI) vwCl [(h0, .inr (13, [.ref qt, .int 0, .ref qs, .ref qm, .null])), (qm, .inr (4, [.null, .ref m1, .ref m2, .ref m3, .ref m4, .ref m5, .int 0, .ref m7, .int 0, .int 0, .int 0, .ref m11, .int 0, .ref m13, .int 0, .ref m15, .null, .int 0, .int 0]))] H := hP
  have hD : va_D A [(h0, .inr (13, [.ref qt, .int 0, .ref qs, .ref qm, .null])), (qm, .inr (4, [.null, .ref m1, .ref m2, .ref m3, .ref m4, .ref m5, .int 0, .ref m7, .int 0, .int 0, .int 0, .ref m11, .int 0, .ref m13, .int 0, .ref m15, .null, .int 0, .int 0]))] := hD
  refine W.widen (k := 0) (n := 0) (Nat.le_of_ble_eq_true rfl) (Nat.le_of_ble_eq_true rfl) ?_
  obtain rfl : r9 = ((-1)) := hw
  have hP9 := hP.sub (ws' := []) [] rfl
  have hD9 := hD.sub (ws' := []) [] (by decide) rfl
  have hK9 := hK.sub (tys' := []) [] rfl
  refine W.widen (k := 0) (n := 0) (Nat.le_of_ble_eq_true rfl) (Nat.le_of_ble_eq_true rfl) ?_
  exact W.iret (v := (-1)) hx hb hr (fun t ht hW => ⟨⟨(-1), (), rfl, rfl, by rw [ht]; exact hP9, va_K.moved hW.alike hK9, hD9⟩, hS.F ht⟩) hS.2.2 dX11_thing_9
def ws_cc_inside : List Cond := .code yX11_inside cX11_inside 3 (some .int) :: ([.fieldLink RX11 23 "LevelUnits" "machine" "LLevelUnits$Machine;", .fieldLink RX2 49 "LevelUnits$Machine" "made" "I", .code yX2_cellOfThing cX2_cellOfThing 3 (some .int), .methodLink RX11 205 yX2_cellOfThing, .instanceMethod yX2_cellOfThing, .selects RX2 yX2_cellOfThing yX2_cellOfThing, .initialized RX2] ++ wsX110 ++ wsX20)
theorem in_cc_inside_RX11 : ∀ w ∈ wsX110, w ∈ ws_cc_inside := fun _ h => List.mem_cons_of_mem _ (List.mem_append_left _ (List.mem_append_right _ h))
theorem in_cc_inside_RX2 : ∀ w ∈ wsX20, w ∈ ws_cc_inside := fun _ h => List.mem_cons_of_mem _ (List.mem_append_right _ h)
theorem g0_cc_inside_cc_cellOfThing_205 : GoodIn ws_cc_inside ws_cc_cellOfThing := goodIn_r _ [3, 2, 13, 14, 15, 16, 17, 18, 19, 20, 21, 22, 23, 24, 25, 26, 27, 28, 29, 30, 31] (by decide +kernel) (by decide +kernel)
theorem gg_cc_inside_cc_cellOfThing_205 : GoodIn ws_cc_inside (wsV RX11 205 RX2 yX2_cellOfThing ws_cc_cellOfThing) := goodIn_app (goodIn_of _ (by decide +kernel)) g0_cc_inside_cc_cellOfThing_205
set_option maxHeartbeats 4000000 in
set_option maxRecDepth 100000 in
theorem cc_inside (l : Launch) (dC : Nat → ClassId) (dI : Nat → Nat → Nat) (h0 : Nat) (qt : Nat) (qs : Nat) (qm : Nat) (m1 : Nat) (m2 : Nat) (m3 : Nat) (m4 : Nat) (m5 : Nat) (m7 : Nat) (m11 : Nat) (m13 : Nat) (m15 : Nat) (i : Int32) (j : Int32) (sz : Nat) : Met l yX11_inside ws_cc_inside ({ frames := 1, cells := 0, slots := 0, locals := 22 }) (va_Pc [.ref h0, .int i, .int j] (fun U => U.heap.size = sz ∧ va_P (dC, dI) vwCl [(h0, .inr (13, [.ref qt, .int 0, .ref qs, .ref qm, .null])), (qm, .inr (4, [.null, .ref m1, .ref m2, .ref m3, .ref m4, .ref m5, .int 0, .ref m7, .int 0, .int 0, .int 0, .ref m11, .int 0, .ref m13, .int 0, .ref m15, .null, .int 0, .int 0]))] U.heap ∧ va_K (dC, dI) vwCl [] U ∧ va_D (fun _ => True) [(h0, .inr (13, [.ref qt, .int 0, .ref qs, .ref qm, .null])), (qm, .inr (4, [.null, .ref m1, .ref m2, .ref m3, .ref m4, .ref m5, .int 0, .ref m7, .int 0, .int 0, .int 0, .ref m11, .int 0, .ref m13, .int 0, .ref m15, .null, .int 0, .int 0]))])) (va_Qi (fun (r : Int32) (_ : Unit) => r = 0) (fun _ t => va_P (dC, dI) vwCl [] t.heap ∧ va_K (dC, dI) vwCl [] t ∧ va_D (va_A [(h0, .inr (13, [.ref qt, .int 0, .ref qs, .ref qm, .null])), (qm, .inr (4, [.null, .ref m1, .ref m2, .ref m3, .ref m4, .ref m5, .int 0, .ref m7, .int 0, .int 0, .int 0, .ref m11, .int 0, .ref m13, .int 0, .ref m15, .null, .int 0, .int 0]))] sz) []) (va_A [(h0, .inr (13, [.ref qt, .int 0, .ref qs, .ref qm, .null])), (qm, .inr (4, [.null, .ref m1, .ref m2, .ref m3, .ref m4, .ref m5, .int 0, .ref m7, .int 0, .int 0, .int 0, .ref m11, .int 0, .ref m13, .int 0, .ref m15, .null, .int 0, .int 0]))] sz)) 0 0 (va_A [(h0, .inr (13, [.ref qt, .int 0, .ref qs, .ref qm, .null])), (qm, .inr (4, [.null, .ref m1, .ref m2, .ref m3, .ref m4, .ref m5, .int 0, .ref m7, .int 0, .int 0, .int 0, .ref m11, .int 0, .ref m13, .int 0, .ref m15, .null, .int 0, .int 0]))] sz) := by
  refine Met.ofW (cc := cX11_inside) (maxL := 3) (ret := (some .int)) (by decide) rfl ?_
  intro p e s m args below meth c s₁ B hml hv
  obtain ⟨rfl, hsz, hP, hK, hD0⟩ := hv
  have hx := B.exec
  have hb := B.bytes
  have hr := B.returns
  have hts := atoms_spec (ws := ws_cc_inside) B.pre
  have hown : s.vm.findClass RX11 = some m.cls := findClass_of_methodNamed B.named
  have hlocks := B.notSynchronized
  subst hsz
  have hD := hD0.self (sz := s.heap.size)
  generalize hAe : va_A [(h0, .inr (13, [.ref qt, .int 0, .ref qs, .ref qm, .null])), (qm, .inr (4, [.null, .ref m1, .ref m2, .ref m3, .ref m4, .ref m5, .int 0, .ref m7, .int 0, .int 0, .int 0, .ref m11, .int 0, .ref m13, .int 0, .ref m15, .null, .int 0, .int 0]))] s.heap.size = A at hD ⊢
  have hA : ∀ q : Nat, s.heap.size ≤ q → A q := fun q h => by rw [← hAe]; exact Or.inr h
  have hS : va_S A s.heap s.heap [] := va_S.rf
  have hP : va_P (dC, dI) vwCl [(h0, .inr (13, [.ref qt, .int 0, .ref qs, .ref qm, .null])), (qm, .inr (4, [.null, .ref m1, .ref m2, .ref m3, .ref m4, .ref m5, .int 0, .ref m7, .int 0, .int 0, .int 0, .ref m11, .int 0, .ref m13, .int 0, .ref m15, .null, .int 0, .int 0]))] s.heap := hP
  have hl := lv_entry ([.ref h0, .int i, .int j]) (n := 3) (Nat.le_of_ble_eq_true rfl)
  rw [lg_entry_eq]
  generalize (lg_sl ([.ref h0, .int i, .int j]) ++ List.replicate (3 - (lg_sl ([.ref h0, .int i, .int j])).length) Slot.unset).toArray = ls at hl ⊢
  have hl : lv_has ls 3 [(0, .ref h0), (1, .int i), (2, .int j)] := hl
  refine lv_aload_n hx hb dX11_inside_0 rfl (lv_at hl 0 rfl) ?_
  refine va_get (D := (dC, dI)) (ci := 13) (v := .ref qm) (C := RX11) (T := TX11) (N := 5) hx hb hts in_cc_inside_RX11 hown hK hP 0 rfl rfl 3 (by decide) (hts (.fieldLink RX11 23 "LevelUnits" "machine" "LLevelUnits$Machine;") (List.mem_of_getElem? (i := 1) rfl)) (fun _ h9 => h9) rfl dX11_inside_1 ?_
  refine lv_iload_n hx hb dX11_inside_4 rfl (lv_at hl 1 rfl) ?_
  refine lv_iload_n hx hb dX11_inside_5 rfl (lv_at hl 2 rfl) ?_
  have hPc := hP.sub (ws' := [(qm, .inr (4, [.null, .ref m1, .ref m2, .ref m3, .ref m4, .ref m5, .int 0, .ref m7, .int 0, .int 0, .int 0, .ref m11, .int 0, .ref m13, .int 0, .ref m15, .null, .int 0, .int 0]))]) [1] rfl
  have hDc := hD.sub (ws' := [(qm, .inr (4, [.null, .ref m1, .ref m2, .ref m3, .ref m4, .ref m5, .int 0, .ref m7, .int 0, .int 0, .int 0, .ref m11, .int 0, .ref m13, .int 0, .ref m15, .null, .int 0, .int 0]))]) [1] (by decide) rfl
  have hKc := hK.sub (tys' := []) [] rfl
  have hFc := va_free (wc := [(qm, .inr (4, [.null, .ref m1, .ref m2, .ref m3, .ref m4, .ref m5, .int 0, .ref m7, .int 0, .int 0, .int 0, .ref m11, .int 0, .ref m13, .int 0, .ref m15, .null, .int 0, .int 0]))]) hD hS hA [1] rfl
  refine va_calli (va_runV (As := [.int i, .int j]) (rest := []) ⟨hx, hb, hml, hown, hts⟩ (cc_cellOfThing l dC dI qm m1 m2 m3 m4 m5 m7 m11 m13 m15 i j s.heap.size) (cwV 2 hts gg_cc_inside_cc_cellOfThing_205 rfl rfl rfl (by decide +kernel) ⟨(Nat.le_of_ble_eq_true rfl), (Nat.le_of_ble_eq_true rfl)⟩) ⟨fun a U g mk q => by obtain ⟨q0, q1, qP, qK, qD⟩ := q; exact ⟨q0, q1, qP, va_K.moved (u := U) (U := U.calling g mk a) (Vm.Alike.refl U.vm) qK, qD⟩, va_recv hKc hPc (ci := 4) (q0 := 0) rfl rfl, fun U hU hW => ⟨rfl, by rw [hU], by rw [hU]; exact hPc, va_K.moved hW.alike hKc, hDc.weaken (fun _ _ _ _ => trivial)⟩⟩ rfl rfl hl.1 rfl (lv_room (Nat.le_of_ble_eq_true rfl)) dX11_inside_6 ⟨(Nat.le_of_ble_eq_true rfl), (Nat.le_of_ble_eq_true rfl)⟩) hS (fun q _ h => hFc q h) hFc (fun r9 u t H1 locs ht hvm hw hB hz1 hk1 hS => ?_)
  obtain ⟨hP1, hK1, hD1⟩ := hB
  rw [ht] at hP1
  have hK1 := va_K.moved hvm.symm hK1
  obtain ⟨hP, hD⟩ := va_join (wr := [(h0, .inr (13, [.ref qt, .int 0, .ref qs, .ref qm, .null]))]) (w1 := [(qm, .inr (4, [.null, .ref m1, .ref m2, .ref m3, .ref m4, .ref m5, .int 0, .ref m7, .int 0, .int 0, .int 0, .ref m11, .int 0, .ref m13, .int 0, .ref m15, .null, .int 0, .int 0]))]) hP hD [1] [0] rfl rfl (by decide) (by decide) hk1 hFc hP1 hD1
  have hK := (hK.sub (tys' := []) [] rfl).app hK1
  generalize H1 = H at hP hS ⊢
  have hK : va_K (dC, dI) vwCl [] s := hK
  have hP : va_P (dC, dI) vwCl [(h0, .inr (13, [.ref qt, .int 0, .ref qs, .ref qm, .null])), (qm, .inr (4, [.null, .ref m1, .ref m2, .ref m3, .ref m4, .ref m5, .int 0, .ref m7, .int 0, .int 0, .int 0, .ref m11, .int 0, .ref m13, .int 0, .ref m15, .null, .int 0, .int 0]))] H := hP
  have hD : va_D A [(h0, .inr (13, [.ref qt, .int 0, .ref qs, .ref qm, .null])), (qm, .inr (4, [.null, .ref m1, .ref m2, .ref m3, .ref m4, .ref m5, .int 0, .ref m7, .int 0, .int 0, .int 0, .ref m11, .int 0, .ref m13, .int 0, .ref m15, .null, .int 0, .int 0]))] := hD
  refine W.widen (k := 0) (n := 0) (Nat.le_of_ble_eq_true rfl) (Nat.le_of_ble_eq_true rfl) ?_
  obtain rfl : r9 = 0 := hw
  have hP9 := hP.sub (ws' := []) [] rfl
  have hD9 := hD.sub (ws' := []) [] (by decide) rfl
  have hK9 := hK.sub (tys' := []) [] rfl
  refine W.widen (k := 0) (n := 0) (Nat.le_of_ble_eq_true rfl) (Nat.le_of_ble_eq_true rfl) ?_
  exact W.iret (v := 0) hx hb hr (fun t ht hW => ⟨⟨0, (), rfl, rfl, by rw [ht]; exact hP9, va_K.moved hW.alike hK9, hD9⟩, hS.F ht⟩) hS.2.2 dX11_inside_9
