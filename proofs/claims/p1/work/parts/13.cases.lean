set_option maxHeartbeats 4000000 in
set_option maxRecDepth 100000 in
theorem law_case_13 {p : Program} {e : Env} {s : State} {m : MethodId} {below : List Frame} {meth : Method} {c : Code} (l : Launch) (hfl : l.flags = flags0) {b : Nat} {xs : Nat → Int32} (C0 : lw_At p s m meth c b 6 xs) (dC : Nat → ClassId) (dI : Nat → Nat → Nat) (A : Nat → Prop) (hA : ∀ q : Nat, s.heap.size ≤ q → A q) (hAa : ∀ q : Nat, q < s.heap.size → ¬ A q) (hAA : ∀ q : Nat, A q → s.heap.size ≤ q) (q_1 : Nat) (q_2 : Nat) (q_3 : Nat) (q_4 : Nat) (cy_5 : ClassId) (q_6 : Nat) (q_7 : Nat) (q_8 : Nat) (q_9 : Nat) (q_10 : Nat) (q_11 : Nat) (q_12 : Nat) (cy_13 : ClassId) (cy_14 : ClassId) (cy_15 : ClassId) (cy_16 : ClassId) (cy_17 : ClassId) (cy_18 : ClassId) (cy_19 : ClassId) (q_20 : Nat) (q_21 : Nat) (q_22 : Nat) (q_23 : Nat) (q_24 : Nat) (q_25 : Nat) (q_26 : Nat) (q_27 : Nat) (q_28 : Nat) (q_29 : Nat) (F_30 : Nat → Value) (q_31 : Nat) (q_32 : Nat) (q_33 : Nat) (q_34 : Nat) (q_35 : Nat) (q_36 : Nat) (q_37 : Nat) (q_38 : Nat) (cy_39 : ClassId) (cy_40 : ClassId) (cy_41 : ClassId) (cy_42 : ClassId) (cy_43 : ClassId) (cy_44 : ClassId) (cy_45 : ClassId) (q_58 : Nat) (hq0 : F_30 0 = .int 0) (hq1 : F_30 1 = .ref q_38) (hq2 : F_30 2 = .ref q_31) (hq3 : F_30 3 = .int 0) (hq9 : F_30 9 = .ref q_35) (hq10 : F_30 10 = .ref q_36) (hq11 : F_30 11 = .ref q_37) (hq13 : F_30 13 = .ref q_33) (hq14 : F_30 14 = .ref q_34) (hq15 : F_30 15 = .ref q_32) (hq98 : F_30 98 = .int 0) (hq100 : F_30 100 = .int 0) (H : Heap) (locs : List Loc) (ls : Array Slot) (hK : va_K (dC, dI) vwCl [(cy_5, .byte), (cy_13, .int), (cy_14, .int), (cy_15, .int), (cy_16, .int), (cy_17, .int), (cy_18, .int), (cy_19, .int), (cy_39, .byte), (cy_40, .int), (cy_41, .int), (cy_42, .int), (cy_43, .int), (cy_44, .int), (cy_45, .byte)] s) (hP : va_P (dC, dI) vwCl [(q_1, .inr (13, [.ref q_2, .int 0, .ref q_3, .ref q_4, .null])), (q_2, .inl (cy_5, 6000, .inl (fun _ => 0))), (q_3, .inr (9, [.ref q_6, .ref q_7, .ref q_8, .int 0, .null, .int 0, .int 0, .int 0, .ref q_9, .ref q_10, .ref q_11, .ref q_12, .int 0])), (q_6, .inl (cy_13, 6001, .inl (fun _ => 0))), (q_7, .inl (cy_14, 6001, .inl (fun _ => 0))), (q_8, .inl (cy_15, 6001, .inl (fun _ => 0))), (q_9, .inl (cy_16, 256, .inl (fun _ => 0))), (q_10, .inl (cy_17, 3001, .inl (fun _ => 0))), (q_11, .inl (cy_18, 3001, .inl (fun _ => 0))), (q_12, .inl (cy_19, 3001, .inl (fun _ => 0))), (q_4, .inr (4, [.null, .ref q_20, .ref q_21, .ref q_22, .ref q_23, .ref q_24, .int 0, .ref q_25, .int 0, .int 0, .int 0, .ref q_26, .int 0, .ref q_27, .int 0, .ref q_28, .null, .int 0, .int 0])), (q_29, .inr (15, fl 134 F_30)), (q_38, .inr (14, [.null, .null, .null, .null, .null, .int 0])), (q_31, .inl (cy_39, 6000, .inl (fun _ => 0))), (q_35, .inl (cy_40, 6002, .inl (fun _ => 0))), (q_36, .inl (cy_41, 6002, .inl (fun _ => 0))), (q_37, .inl (cy_42, 6002, .inl (fun _ => 0))), (q_33, .inl (cy_43, 6000, .inl (fun _ => 0))), (q_34, .inl (cy_44, 6000, .inl (fun _ => 0))), (q_32, .inl (cy_45, 6600, .inl (fun _ => 0)))] H) (hD : va_D A [(q_1, .inr (13, [.ref q_2, .int 0, .ref q_3, .ref q_4, .null])), (q_2, .inl (cy_5, 6000, .inl (fun _ => 0))), (q_3, .inr (9, [.ref q_6, .ref q_7, .ref q_8, .int 0, .null, .int 0, .int 0, .int 0, .ref q_9, .ref q_10, .ref q_11, .ref q_12, .int 0])), (q_6, .inl (cy_13, 6001, .inl (fun _ => 0))), (q_7, .inl (cy_14, 6001, .inl (fun _ => 0))), (q_8, .inl (cy_15, 6001, .inl (fun _ => 0))), (q_9, .inl (cy_16, 256, .inl (fun _ => 0))), (q_10, .inl (cy_17, 3001, .inl (fun _ => 0))), (q_11, .inl (cy_18, 3001, .inl (fun _ => 0))), (q_12, .inl (cy_19, 3001, .inl (fun _ => 0))), (q_4, .inr (4, [.null, .ref q_20, .ref q_21, .ref q_22, .ref q_23, .ref q_24, .int 0, .ref q_25, .int 0, .int 0, .int 0, .ref q_26, .int 0, .ref q_27, .int 0, .ref q_28, .null, .int 0, .int 0])), (q_29, .inr (15, fl 134 F_30)), (q_38, .inr (14, [.null, .null, .null, .null, .null, .int 0])), (q_31, .inl (cy_39, 6000, .inl (fun _ => 0))), (q_35, .inl (cy_40, 6002, .inl (fun _ => 0))), (q_36, .inl (cy_41, 6002, .inl (fun _ => 0))), (q_37, .inl (cy_42, 6002, .inl (fun _ => 0))), (q_33, .inl (cy_43, 6000, .inl (fun _ => 0))), (q_34, .inl (cy_44, 6000, .inl (fun _ => 0))), (q_32, .inl (cy_45, 6600, .inl (fun _ => 0)))]) (hS : va_S A s.heap H locs) (hl : lv_has ls 7 [(4, .int 0), (3, .ref q_58), (2, .ref q_29), (1, .ref q_1), (0, .ref b)]) : W p l e room_1 s m #[Value.ref b] below meth c H locs 100 719914 (lw_Z below #[Value.ref b] s) (F0 m 591 ls []) := by
  obtain ⟨hx, hb, hr, hml, hown, htsT, hX, hbl, hlocks, hgv⟩ := id C0
  have hown : s.vm.findClass RL = some m.cls := hown
  have hts : ∀ w ∈ ws_law, w.before #[Value.ref b] s = true := fun w h => htsT w (in_law w h)
  have hg := flat_of_before _ hgv
  have hbA : ¬ A b := hAa b hbl
  have hflags : l.stackTraces = false := by unfold Launch.stackTraces; rw [hfl]; decide
  refine lv_aload_n hx hb dL_law_591 rfl (lv_at hl 3 rfl) ?_
  refine lv_aload_n hx hb dL_law_592 rfl (lv_at hl 4 rfl) ?_
  refine lv_iload hx hb dL_law_593 (lv_at hl 0 rfl) ?_
  refine lv_iconst (v := 1) hx hb dL_law_595 (by decide) ?_
  refine lv_iadd hx hb dL_law_596 ?_
  refine lv_topi (fun y9 e9 => ?_)
  have e9 : y9 = 1 := by rw [e9]; decide
  subst e9
  refine va_sld hx hb hX hbl hbA hS (i := 1) (by unfold vp_in; decide) dL_law_597 ?_
  refine lv_topi (fun x_1001 ex_1001 => ?_)
  have ex_1001 : x_1001 = xs 1 := ex_1001
  subst ex_1001
  refine lv_aload_n hx hb dL_law_598 rfl (lv_at hl 4 rfl) ?_
  refine lv_iload hx hb dL_law_599 (lv_at hl 0 rfl) ?_
  refine lv_iconst (v := 2) hx hb dL_law_601 (by decide) ?_
  refine lv_iadd hx hb dL_law_602 ?_
  refine lv_topi (fun y9 e9 => ?_)
  have e9 : y9 = 2 := by rw [e9]; decide
  subst e9
  refine va_sld hx hb hX hbl hbA hS (i := 2) (by unfold vp_in; decide) dL_law_603 ?_
  refine lv_topi (fun x_1002 ex_1002 => ?_)
  have ex_1002 : x_1002 = xs 2 := ex_1002
  subst ex_1002
  have hPc := hP.sub (ws' := [(q_1, .inr (13, [.ref q_2, .int 0, .ref q_3, .ref q_4, .null])), (q_4, .inr (4, [.null, .ref q_20, .ref q_21, .ref q_22, .ref q_23, .ref q_24, .int 0, .ref q_25, .int 0, .int 0, .int 0, .ref q_26, .int 0, .ref q_27, .int 0, .ref q_28, .null, .int 0, .int 0]))]) [0, 10] rfl
  have hDc := hD.sub (ws' := [(q_1, .inr (13, [.ref q_2, .int 0, .ref q_3, .ref q_4, .null])), (q_4, .inr (4, [.null, .ref q_20, .ref q_21, .ref q_22, .ref q_23, .ref q_24, .int 0, .ref q_25, .int 0, .int 0, .int 0, .ref q_26, .int 0, .ref q_27, .int 0, .ref q_28, .null, .int 0, .int 0]))]) [0, 10] (by decide) rfl
  have hKc := hK.sub (tys' := []) [] rfl
  have hFc := va_free (wc := [(q_1, .inr (13, [.ref q_2, .int 0, .ref q_3, .ref q_4, .null])), (q_4, .inr (4, [.null, .ref q_20, .ref q_21, .ref q_22, .ref q_23, .ref q_24, .int 0, .ref q_25, .int 0, .int 0, .int 0, .ref q_26, .int 0, .ref q_27, .int 0, .ref q_28, .null, .int 0, .int 0]))]) hD hS hA [0, 10] rfl
  refine va_calli (va_runV (As := [.int (xs 1), .int (xs 2)]) (rest := []) ⟨hx, hb, hml, hown, hts⟩ (cc_thing l dC dI q_1 q_2 q_3 q_4 q_20 q_21 q_22 q_23 q_24 q_25 q_26 q_27 q_28 (xs 1) (xs 2) H.size) (cwV 2 hts gl_cc_thing_86 rfl rfl rfl (by decide +kernel) ⟨(Nat.le_of_ble_eq_true rfl), (Nat.le_of_ble_eq_true rfl)⟩) ⟨fun a U g mk q => by obtain ⟨q0, q1, qP, qK, qD⟩ := q; exact ⟨q0, q1, qP, va_K.moved (u := U) (U := U.calling g mk a) (Vm.Alike.refl U.vm) qK, qD⟩, va_recv hKc hPc (ci := 13) (q0 := 0) rfl rfl, fun U hU hW => ⟨rfl, by rw [hU], by rw [hU]; exact hPc, va_K.moved hW.alike hKc, hDc.weaken (fun _ _ _ _ => trivial)⟩⟩ rfl rfl hl.1 rfl (lv_room (Nat.le_of_ble_eq_true rfl)) dL_law_604 ⟨(Nat.le_of_ble_eq_true rfl), (Nat.le_of_ble_eq_true rfl)⟩) hS (fun q _ h => hFc q h) hFc (fun r9 u t H1 locs ht hvm hw hB hz1 hk1 hS => ?_)
  obtain ⟨hP1, hK1, hD1⟩ := hB
  rw [ht] at hP1
  have hK1 := va_K.moved hvm.symm hK1
  obtain ⟨hP, hD⟩ := va_join (wr := [(q_2, .inl (cy_5, 6000, .inl (fun _ => 0))), (q_3, .inr (9, [.ref q_6, .ref q_7, .ref q_8, .int 0, .null, .int 0, .int 0, .int 0, .ref q_9, .ref q_10, .ref q_11, .ref q_12, .int 0])), (q_6, .inl (cy_13, 6001, .inl (fun _ => 0))), (q_7, .inl (cy_14, 6001, .inl (fun _ => 0))), (q_8, .inl (cy_15, 6001, .inl (fun _ => 0))), (q_9, .inl (cy_16, 256, .inl (fun _ => 0))), (q_10, .inl (cy_17, 3001, .inl (fun _ => 0))), (q_11, .inl (cy_18, 3001, .inl (fun _ => 0))), (q_12, .inl (cy_19, 3001, .inl (fun _ => 0))), (q_29, .inr (15, fl 134 F_30)), (q_38, .inr (14, [.null, .null, .null, .null, .null, .int 0])), (q_31, .inl (cy_39, 6000, .inl (fun _ => 0))), (q_35, .inl (cy_40, 6002, .inl (fun _ => 0))), (q_36, .inl (cy_41, 6002, .inl (fun _ => 0))), (q_37, .inl (cy_42, 6002, .inl (fun _ => 0))), (q_33, .inl (cy_43, 6000, .inl (fun _ => 0))), (q_34, .inl (cy_44, 6000, .inl (fun _ => 0))), (q_32, .inl (cy_45, 6600, .inl (fun _ => 0)))]) (w1 := []) hP hD [0, 10] [1, 2, 3, 4, 5, 6, 7, 8, 9, 11, 12, 13, 14, 15, 16, 17, 18, 19] rfl rfl (by decide) (by decide) hk1 hFc hP1 hD1
  have hK := (hK.sub (tys' := [(cy_5, .byte), (cy_13, .int), (cy_14, .int), (cy_15, .int), (cy_16, .int), (cy_17, .int), (cy_18, .int), (cy_19, .int), (cy_39, .byte), (cy_40, .int), (cy_41, .int), (cy_42, .int), (cy_43, .int), (cy_44, .int), (cy_45, .byte)]) [0, 1, 2, 3, 4, 5, 6, 7, 8, 9, 10, 11, 12, 13, 14] rfl).app hK1
  generalize H1 = H at hP hS ⊢
  have hK : va_K (dC, dI) vwCl [(cy_5, .byte), (cy_13, .int), (cy_14, .int), (cy_15, .int), (cy_16, .int), (cy_17, .int), (cy_18, .int), (cy_19, .int), (cy_39, .byte), (cy_40, .int), (cy_41, .int), (cy_42, .int), (cy_43, .int), (cy_44, .int), (cy_45, .byte)] s := hK
  have hP : va_P (dC, dI) vwCl [(q_2, .inl (cy_5, 6000, .inl (fun _ => 0))), (q_3, .inr (9, [.ref q_6, .ref q_7, .ref q_8, .int 0, .null, .int 0, .int 0, .int 0, .ref q_9, .ref q_10, .ref q_11, .ref q_12, .int 0])), (q_6, .inl (cy_13, 6001, .inl (fun _ => 0))), (q_7, .inl (cy_14, 6001, .inl (fun _ => 0))), (q_8, .inl (cy_15, 6001, .inl (fun _ => 0))), (q_9, .inl (cy_16, 256, .inl (fun _ => 0))), (q_10, .inl (cy_17, 3001, .inl (fun _ => 0))), (q_11, .inl (cy_18, 3001, .inl (fun _ => 0))), (q_12, .inl (cy_19, 3001, .inl (fun _ => 0))), (q_29, .inr (15, fl 134 F_30)), (q_38, .inr (14, [.null, .null, .null, .null, .null, .int 0])), (q_31, .inl (cy_39, 6000, .inl (fun _ => 0))), (q_35, .inl (cy_40, 6002, .inl (fun _ => 0))), (q_36, .inl (cy_41, 6002, .inl (fun _ => 0))), (q_37, .inl (cy_42, 6002, .inl (fun _ => 0))), (q_33, .inl (cy_43, 6000, .inl (fun _ => 0))), (q_34, .inl (cy_44, 6000, .inl (fun _ => 0))), (q_32, .inl (cy_45, 6600, .inl (fun _ => 0)))] H := hP
  have hD : va_D A [(q_2, .inl (cy_5, 6000, .inl (fun _ => 0))), (q_3, .inr (9, [.ref q_6, .ref q_7, .ref q_8, .int 0, .null, .int 0, .int 0, .int 0, .ref q_9, .ref q_10, .ref q_11, .ref q_12, .int 0])), (q_6, .inl (cy_13, 6001, .inl (fun _ => 0))), (q_7, .inl (cy_14, 6001, .inl (fun _ => 0))), (q_8, .inl (cy_15, 6001, .inl (fun _ => 0))), (q_9, .inl (cy_16, 256, .inl (fun _ => 0))), (q_10, .inl (cy_17, 3001, .inl (fun _ => 0))), (q_11, .inl (cy_18, 3001, .inl (fun _ => 0))), (q_12, .inl (cy_19, 3001, .inl (fun _ => 0))), (q_29, .inr (15, fl 134 F_30)), (q_38, .inr (14, [.null, .null, .null, .null, .null, .int 0])), (q_31, .inl (cy_39, 6000, .inl (fun _ => 0))), (q_35, .inl (cy_40, 6002, .inl (fun _ => 0))), (q_36, .inl (cy_41, 6002, .inl (fun _ => 0))), (q_37, .inl (cy_42, 6002, .inl (fun _ => 0))), (q_33, .inl (cy_43, 6000, .inl (fun _ => 0))), (q_34, .inl (cy_44, 6000, .inl (fun _ => 0))), (q_32, .inl (cy_45, 6600, .inl (fun _ => 0)))] := hD
  refine W.widen (k := 100) (n := 719914) (Nat.le_of_ble_eq_true rfl) (Nat.le_of_ble_eq_true rfl) ?_
  obtain rfl : r9 = ((-1)) := hw
  refine lv_aload_n hx hb dL_law_607 rfl (lv_at hl 2 rfl) ?_
  refine lv_aload_n hx hb dL_law_608 rfl (lv_at hl 4 rfl) ?_
  refine lv_iload hx hb dL_law_609 (lv_at hl 0 rfl) ?_
  refine lv_iconst (v := 1) hx hb dL_law_611 (by decide) ?_
  refine lv_iadd hx hb dL_law_612 ?_
  refine lv_topi (fun y9 e9 => ?_)
  have e9 : y9 = 1 := by rw [e9]; decide
  subst e9
  refine va_sld hx hb hX hbl hbA hS (i := 1) (by unfold vp_in; decide) dL_law_613 ?_
  refine lv_topi (fun x_1003 ex_1003 => ?_)
  have ex_1003 : x_1003 = xs 1 := ex_1003
  subst ex_1003
  refine lv_aload_n hx hb dL_law_614 rfl (lv_at hl 4 rfl) ?_
  refine lv_iload hx hb dL_law_615 (lv_at hl 0 rfl) ?_
  refine lv_iconst (v := 2) hx hb dL_law_617 (by decide) ?_
  refine lv_iadd hx hb dL_law_618 ?_
  refine lv_topi (fun y9 e9 => ?_)
  have e9 : y9 = 2 := by rw [e9]; decide
  subst e9
  refine va_sld hx hb hX hbl hbA hS (i := 2) (by unfold vp_in; decide) dL_law_619 ?_
  refine lv_topi (fun x_1004 ex_1004 => ?_)
  have ex_1004 : x_1004 = xs 2 := ex_1004
  subst ex_1004
  have hPc := hP.sub (ws' := [(q_29, .inr (15, fl 134 F_30))]) [9] rfl
  have hDc := hD.sub (ws' := [(q_29, .inr (15, fl 134 F_30))]) [9] (by decide) rfl
  have hKc := hK.sub (tys' := []) [] rfl
  have hFc := va_free (wc := [(q_29, .inr (15, fl 134 F_30))]) hD hS hA [9] rfl
  refine va_calli (va_runV (As := [.int (xs 1), .int (xs 2)]) (rest := [.int ((-1))]) ⟨hx, hb, hml, hown, hts⟩ (cm_thing l dC dI q_29 F_30 (xs 1) (xs 2) H.size hq100) (cwV 2 hts gl_cm_thing_89 rfl rfl rfl (by decide +kernel) ⟨(Nat.le_of_ble_eq_true rfl), (Nat.le_of_ble_eq_true rfl)⟩) ⟨fun a U g mk q => by obtain ⟨q0, q1, qP, qK, qD⟩ := q; exact ⟨q0, q1, qP, va_K.moved (u := U) (U := U.calling g mk a) (Vm.Alike.refl U.vm) qK, qD⟩, va_recv hKc hPc (ci := 15) (q0 := 0) rfl rfl, fun U hU hW => ⟨rfl, by rw [hU], by rw [hU]; exact hPc, va_K.moved hW.alike hKc, hDc.weaken (fun _ _ _ _ => trivial)⟩⟩ rfl rfl hl.1 rfl (lv_room (Nat.le_of_ble_eq_true rfl)) dL_law_620 ⟨(Nat.le_of_ble_eq_true rfl), (Nat.le_of_ble_eq_true rfl)⟩) hS (fun q _ h => hFc q h) hFc (fun r9 u t H1 locs ht hvm hw hB hz1 hk1 hS => ?_)
  obtain ⟨hP1, hK1, hD1⟩ := hB
  rw [ht] at hP1
  have hK1 := va_K.moved hvm.symm hK1
  obtain ⟨hP, hD⟩ := va_join (wr := [(q_2, .inl (cy_5, 6000, .inl (fun _ => 0))), (q_3, .inr (9, [.ref q_6, .ref q_7, .ref q_8, .int 0, .null, .int 0, .int 0, .int 0, .ref q_9, .ref q_10, .ref q_11, .ref q_12, .int 0])), (q_6, .inl (cy_13, 6001, .inl (fun _ => 0))), (q_7, .inl (cy_14, 6001, .inl (fun _ => 0))), (q_8, .inl (cy_15, 6001, .inl (fun _ => 0))), (q_9, .inl (cy_16, 256, .inl (fun _ => 0))), (q_10, .inl (cy_17, 3001, .inl (fun _ => 0))), (q_11, .inl (cy_18, 3001, .inl (fun _ => 0))), (q_12, .inl (cy_19, 3001, .inl (fun _ => 0))), (q_38, .inr (14, [.null, .null, .null, .null, .null, .int 0])), (q_31, .inl (cy_39, 6000, .inl (fun _ => 0))), (q_35, .inl (cy_40, 6002, .inl (fun _ => 0))), (q_36, .inl (cy_41, 6002, .inl (fun _ => 0))), (q_37, .inl (cy_42, 6002, .inl (fun _ => 0))), (q_33, .inl (cy_43, 6000, .inl (fun _ => 0))), (q_34, .inl (cy_44, 6000, .inl (fun _ => 0))), (q_32, .inl (cy_45, 6600, .inl (fun _ => 0)))]) (w1 := []) hP hD [9] [0, 1, 2, 3, 4, 5, 6, 7, 8, 10, 11, 12, 13, 14, 15, 16, 17] rfl rfl (by decide) (by decide) hk1 hFc hP1 hD1
  have hK := (hK.sub (tys' := [(cy_5, .byte), (cy_13, .int), (cy_14, .int), (cy_15, .int), (cy_16, .int), (cy_17, .int), (cy_18, .int), (cy_19, .int), (cy_39, .byte), (cy_40, .int), (cy_41, .int), (cy_42, .int), (cy_43, .int), (cy_44, .int), (cy_45, .byte)]) [0, 1, 2, 3, 4, 5, 6, 7, 8, 9, 10, 11, 12, 13, 14] rfl).app hK1
  generalize H1 = H at hP hS ⊢
  have hK : va_K (dC, dI) vwCl [(cy_5, .byte), (cy_13, .int), (cy_14, .int), (cy_15, .int), (cy_16, .int), (cy_17, .int), (cy_18, .int), (cy_19, .int), (cy_39, .byte), (cy_40, .int), (cy_41, .int), (cy_42, .int), (cy_43, .int), (cy_44, .int), (cy_45, .byte)] s := hK
  have hP : va_P (dC, dI) vwCl [(q_2, .inl (cy_5, 6000, .inl (fun _ => 0))), (q_3, .inr (9, [.ref q_6, .ref q_7, .ref q_8, .int 0, .null, .int 0, .int 0, .int 0, .ref q_9, .ref q_10, .ref q_11, .ref q_12, .int 0])), (q_6, .inl (cy_13, 6001, .inl (fun _ => 0))), (q_7, .inl (cy_14, 6001, .inl (fun _ => 0))), (q_8, .inl (cy_15, 6001, .inl (fun _ => 0))), (q_9, .inl (cy_16, 256, .inl (fun _ => 0))), (q_10, .inl (cy_17, 3001, .inl (fun _ => 0))), (q_11, .inl (cy_18, 3001, .inl (fun _ => 0))), (q_12, .inl (cy_19, 3001, .inl (fun _ => 0))), (q_38, .inr (14, [.null, .null, .null, .null, .null, .int 0])), (q_31, .inl (cy_39, 6000, .inl (fun _ => 0))), (q_35, .inl (cy_40, 6002, .inl (fun _ => 0))), (q_36, .inl (cy_41, 6002, .inl (fun _ => 0))), (q_37, .inl (cy_42, 6002, .inl (fun _ => 0))), (q_33, .inl (cy_43, 6000, .inl (fun _ => 0))), (q_34, .inl (cy_44, 6000, .inl (fun _ => 0))), (q_32, .inl (cy_45, 6600, .inl (fun _ => 0)))] H := hP
  have hD : va_D A [(q_2, .inl (cy_5, 6000, .inl (fun _ => 0))), (q_3, .inr (9, [.ref q_6, .ref q_7, .ref q_8, .int 0, .null, .int 0, .int 0, .int 0, .ref q_9, .ref q_10, .ref q_11, .ref q_12, .int 0])), (q_6, .inl (cy_13, 6001, .inl (fun _ => 0))), (q_7, .inl (cy_14, 6001, .inl (fun _ => 0))), (q_8, .inl (cy_15, 6001, .inl (fun _ => 0))), (q_9, .inl (cy_16, 256, .inl (fun _ => 0))), (q_10, .inl (cy_17, 3001, .inl (fun _ => 0))), (q_11, .inl (cy_18, 3001, .inl (fun _ => 0))), (q_12, .inl (cy_19, 3001, .inl (fun _ => 0))), (q_38, .inr (14, [.null, .null, .null, .null, .null, .int 0])), (q_31, .inl (cy_39, 6000, .inl (fun _ => 0))), (q_35, .inl (cy_40, 6002, .inl (fun _ => 0))), (q_36, .inl (cy_41, 6002, .inl (fun _ => 0))), (q_37, .inl (cy_42, 6002, .inl (fun _ => 0))), (q_33, .inl (cy_43, 6000, .inl (fun _ => 0))), (q_34, .inl (cy_44, 6000, .inl (fun _ => 0))), (q_32, .inl (cy_45, 6600, .inl (fun _ => 0)))] := hD
  refine W.widen (k := 100) (n := 719914) (Nat.le_of_ble_eq_true rfl) (Nat.le_of_ble_eq_true rfl) ?_
  obtain rfl : r9 = ((-1)) := hw
  refine lv_icmp_eq (tgt := 665) hx hb dL_law_623 (by decide) (fun c9 => ?_) (fun c9 => absurd (by decide) c9)
  clear c9
  refine lv_iinc (v := 6) (lv' := [(4, .int 6), (3, .ref q_58), (2, .ref q_29), (1, .ref q_1), (0, .ref b)]) hx hb dL_law_665 hl (k := 0) rfl (by decide) (by decide) rfl (fun ls hl => ?_)
  refine lv_goto (tgt := 23) hx hb dL_law_668 (by decide) ?_
  refine lv_iload hx hb dL_law_23 (lv_at hl 0 rfl) ?_
  refine lv_aload_n hx hb dL_law_25 rfl (lv_at hl 4 rfl) ?_
  refine va_slen hx hb hX hbl hbA hS dL_law_26 ?_
  refine lv_topi (fun y9 e9 => ?_)
  have e9 : y9 = 6 := e9
  subst e9
  refine lv_bipush (v := 6) hx hb dL_law_27 (by decide) ?_
  refine lv_isub hx hb dL_law_29 ?_
  refine lv_topi (fun y9 e9 => ?_)
  have e9 : y9 = 0 := by rw [e9]; decide
  subst e9
  refine lv_icmp_gt (tgt := 671) hx hb dL_law_30 (by decide) (fun c9 => ?_) (fun c9 => absurd (by decide) c9)
  clear c9
  refine lv_iconst (v := 1) hx hb dL_law_671 (by decide) ?_
  refine va_forget (fun q hq => hAA q.base (hS.2.2 q hq)) ?_
  refine W.widen (k := 600002) (n := 7302232) (Nat.le_of_ble_eq_true rfl) (Nat.le_of_ble_eq_true rfl) ?_
  exact lw_ret hx hb hr hlocks dL_law_672
set_option maxHeartbeats 4000000 in
set_option maxRecDepth 100000 in
theorem law_case_14 {p : Program} {e : Env} {s : State} {m : MethodId} {below : List Frame} {meth : Method} {c : Code} (l : Launch) (hfl : l.flags = flags0) {b : Nat} {xs : Nat → Int32} (C0 : lw_At p s m meth c b 6 xs) (dC : Nat → ClassId) (dI : Nat → Nat → Nat) (A : Nat → Prop) (hA : ∀ q : Nat, s.heap.size ≤ q → A q) (hAa : ∀ q : Nat, q < s.heap.size → ¬ A q) (hAA : ∀ q : Nat, A q → s.heap.size ≤ q) (q_1 : Nat) (q_2 : Nat) (q_3 : Nat) (q_4 : Nat) (cy_5 : ClassId) (q_6 : Nat) (q_7 : Nat) (q_8 : Nat) (q_9 : Nat) (q_10 : Nat) (q_11 : Nat) (q_12 : Nat) (cy_13 : ClassId) (cy_14 : ClassId) (cy_15 : ClassId) (cy_16 : ClassId) (cy_17 : ClassId) (cy_18 : ClassId) (cy_19 : ClassId) (q_20 : Nat) (q_21 : Nat) (q_22 : Nat) (q_23 : Nat) (q_24 : Nat) (q_25 : Nat) (q_26 : Nat) (q_27 : Nat) (q_28 : Nat) (q_29 : Nat) (F_30 : Nat → Value) (q_31 : Nat) (q_32 : Nat) (q_33 : Nat) (q_34 : Nat) (q_35 : Nat) (q_36 : Nat) (q_37 : Nat) (q_38 : Nat) (cy_39 : ClassId) (cy_40 : ClassId) (cy_41 : ClassId) (cy_42 : ClassId) (cy_43 : ClassId) (cy_44 : ClassId) (cy_45 : ClassId) (q_58 : Nat) (hq0 : F_30 0 = .int 0) (hq1 : F_30 1 = .ref q_38) (hq2 : F_30 2 = .ref q_31) (hq3 : F_30 3 = .int 0) (hq9 : F_30 9 = .ref q_35) (hq10 : F_30 10 = .ref q_36) (hq11 : F_30 11 = .ref q_37) (hq13 : F_30 13 = .ref q_33) (hq14 : F_30 14 = .ref q_34) (hq15 : F_30 15 = .ref q_32) (hq98 : F_30 98 = .int 0) (hq100 : F_30 100 = .int 0) (H : Heap) (locs : List Loc) (ls : Array Slot) (hK : va_K (dC, dI) vwCl [(cy_5, .byte), (cy_13, .int), (cy_14, .int), (cy_15, .int), (cy_16, .int), (cy_17, .int), (cy_18, .int), (cy_19, .int), (cy_39, .byte), (cy_40, .int), (cy_41, .int), (cy_42, .int), (cy_43, .int), (cy_44, .int), (cy_45, .byte)] s) (hP : va_P (dC, dI) vwCl [(q_1, .inr (13, [.ref q_2, .int 0, .ref q_3, .ref q_4, .null])), (q_2, .inl (cy_5, 6000, .inl (fun _ => 0))), (q_3, .inr (9, [.ref q_6, .ref q_7, .ref q_8, .int 0, .null, .int 0, .int 0, .int 0, .ref q_9, .ref q_10, .ref q_11, .ref q_12, .int 0])), (q_6, .inl (cy_13, 6001, .inl (fun _ => 0))), (q_7, .inl (cy_14, 6001, .inl (fun _ => 0))), (q_8, .inl (cy_15, 6001, .inl (fun _ => 0))), (q_9, .inl (cy_16, 256, .inl (fun _ => 0))), (q_10, .inl (cy_17, 3001, .inl (fun _ => 0))), (q_11, .inl (cy_18, 3001, .inl (fun _ => 0))), (q_12, .inl (cy_19, 3001, .inl (fun _ => 0))), (q_4, .inr (4, [.null, .ref q_20, .ref q_21, .ref q_22, .ref q_23, .ref q_24, .int 0, .ref q_25, .int 0, .int 0, .int 0, .ref q_26, .int 0, .ref q_27, .int 0, .ref q_28, .null, .int 0, .int 0])), (q_29, .inr (15, fl 134 F_30)), (q_38, .inr (14, [.null, .null, .null, .null, .null, .int 0])), (q_31, .inl (cy_39, 6000, .inl (fun _ => 0))), (q_35, .inl (cy_40, 6002, .inl (fun _ => 0))), (q_36, .inl (cy_41, 6002, .inl (fun _ => 0))), (q_37, .inl (cy_42, 6002, .inl (fun _ => 0))), (q_33, .inl (cy_43, 6000, .inl (fun _ => 0))), (q_34, .inl (cy_44, 6000, .inl (fun _ => 0))), (q_32, .inl (cy_45, 6600, .inl (fun _ => 0)))] H) (hD : va_D A [(q_1, .inr (13, [.ref q_2, .int 0, .ref q_3, .ref q_4, .null])), (q_2, .inl (cy_5, 6000, .inl (fun _ => 0))), (q_3, .inr (9, [.ref q_6, .ref q_7, .ref q_8, .int 0, .null, .int 0, .int 0, .int 0, .ref q_9, .ref q_10, .ref q_11, .ref q_12, .int 0])), (q_6, .inl (cy_13, 6001, .inl (fun _ => 0))), (q_7, .inl (cy_14, 6001, .inl (fun _ => 0))), (q_8, .inl (cy_15, 6001, .inl (fun _ => 0))), (q_9, .inl (cy_16, 256, .inl (fun _ => 0))), (q_10, .inl (cy_17, 3001, .inl (fun _ => 0))), (q_11, .inl (cy_18, 3001, .inl (fun _ => 0))), (q_12, .inl (cy_19, 3001, .inl (fun _ => 0))), (q_4, .inr (4, [.null, .ref q_20, .ref q_21, .ref q_22, .ref q_23, .ref q_24, .int 0, .ref q_25, .int 0, .int 0, .int 0, .ref q_26, .int 0, .ref q_27, .int 0, .ref q_28, .null, .int 0, .int 0])), (q_29, .inr (15, fl 134 F_30)), (q_38, .inr (14, [.null, .null, .null, .null, .null, .int 0])), (q_31, .inl (cy_39, 6000, .inl (fun _ => 0))), (q_35, .inl (cy_40, 6002, .inl (fun _ => 0))), (q_36, .inl (cy_41, 6002, .inl (fun _ => 0))), (q_37, .inl (cy_42, 6002, .inl (fun _ => 0))), (q_33, .inl (cy_43, 6000, .inl (fun _ => 0))), (q_34, .inl (cy_44, 6000, .inl (fun _ => 0))), (q_32, .inl (cy_45, 6600, .inl (fun _ => 0)))]) (hS : va_S A s.heap H locs) (hl : lv_has ls 7 [(4, .int 0), (3, .ref q_58), (2, .ref q_29), (1, .ref q_1), (0, .ref b)]) : W p l e room_1 s m #[Value.ref b] below meth c H locs 100 719914 (lw_Z below #[Value.ref b] s) (F0 m 628 ls []) := by
  obtain ⟨hx, hb, hr, hml, hown, htsT, hX, hbl, hlocks, hgv⟩ := id C0
  have hown : s.vm.findClass RL = some m.cls := hown
  have hts : ∀ w ∈ ws_law, w.before #[Value.ref b] s = true := fun w h => htsT w (in_law w h)
  have hg := flat_of_before _ hgv
  have hbA : ¬ A b := hAa b hbl
  have hflags : l.stackTraces = false := by unfold Launch.stackTraces; rw [hfl]; decide
  refine lv_aload_n hx hb dL_law_628 rfl (lv_at hl 3 rfl) ?_
  refine lv_aload_n hx hb dL_law_629 rfl (lv_at hl 4 rfl) ?_
  refine lv_iload hx hb dL_law_630 (lv_at hl 0 rfl) ?_
  refine lv_iconst (v := 1) hx hb dL_law_632 (by decide) ?_
  refine lv_iadd hx hb dL_law_633 ?_
  refine lv_topi (fun y9 e9 => ?_)
  have e9 : y9 = 1 := by rw [e9]; decide
  subst e9
  refine va_sld hx hb hX hbl hbA hS (i := 1) (by unfold vp_in; decide) dL_law_634 ?_
  refine lv_topi (fun x_1001 ex_1001 => ?_)
  have ex_1001 : x_1001 = xs 1 := ex_1001
  subst ex_1001
  refine lv_aload_n hx hb dL_law_635 rfl (lv_at hl 4 rfl) ?_
  refine lv_iload hx hb dL_law_636 (lv_at hl 0 rfl) ?_
  refine lv_iconst (v := 2) hx hb dL_law_638 (by decide) ?_
  refine lv_iadd hx hb dL_law_639 ?_
  refine lv_topi (fun y9 e9 => ?_)
  have e9 : y9 = 2 := by rw [e9]; decide
  subst e9
  refine va_sld hx hb hX hbl hbA hS (i := 2) (by unfold vp_in; decide) dL_law_640 ?_
  refine lv_topi (fun x_1002 ex_1002 => ?_)
  have ex_1002 : x_1002 = xs 2 := ex_1002
  subst ex_1002
  have hPc := hP.sub (ws' := [(q_1, .inr (13, [.ref q_2, .int 0, .ref q_3, .ref q_4, .null])), (q_4, .inr (4, [.null, .ref q_20, .ref q_21, .ref q_22, .ref q_23, .ref q_24, .int 0, .ref q_25, .int 0, .int 0, .int 0, .ref q_26, .int 0, .ref q_27, .int 0, .ref q_28, .null, .int 0, .int 0]))]) [0, 10] rfl
  have hDc := hD.sub (ws' := [(q_1, .inr (13, [.ref q_2, .int 0, .ref q_3, .ref q_4, .null])), (q_4, .inr (4, [.null, .ref q_20, .ref q_21, .ref q_22, .ref q_23, .ref q_24, .int 0, .ref q_25, .int 0, .int 0, .int 0, .ref q_26, .int 0, .ref q_27, .int 0, .ref q_28, .null, .int 0, .int 0]))]) [0, 10] (by decide) rfl
  have hKc := hK.sub (tys' := []) [] rfl
  have hFc := va_free (wc := [(q_1, .inr (13, [.ref q_2, .int 0, .ref q_3, .ref q_4, .null])), (q_4, .inr (4, [.null, .ref q_20, .ref q_21, .ref q_22, .ref q_23, .ref q_24, .int 0, .ref q_25, .int 0, .int 0, .int 0, .ref q_26, .int 0, .ref q_27, .int 0, .ref q_28, .null, .int 0, .int 0]))]) hD hS hA [0, 10] rfl
  refine va_calli (va_runV (As := [.int (xs 1), .int (xs 2)]) (rest := []) ⟨hx, hb, hml, hown, hts⟩ (cc_inside l dC dI q_1 q_2 q_3 q_4 q_20 q_21 q_22 q_23 q_24 q_25 q_26 q_27 q_28 (xs 1) (xs 2) H.size) (cwV 2 hts gl_cc_inside_90 rfl rfl rfl (by decide +kernel) ⟨(Nat.le_of_ble_eq_true rfl), (Nat.le_of_ble_eq_true rfl)⟩) ⟨fun a U g mk q => by obtain ⟨q0, q1, qP, qK, qD⟩ := q; exact ⟨q0, q1, qP, va_K.moved (u := U) (U := U.calling g mk a) (Vm.Alike.refl U.vm) qK, qD⟩, va_recv hKc hPc (ci := 13) (q0 := 0) rfl rfl, fun U hU hW => ⟨rfl, by rw [hU], by rw [hU]; exact hPc, va_K.moved hW.alike hKc, hDc.weaken (fun _ _ _ _ => trivial)⟩⟩ rfl rfl hl.1 rfl (lv_room (Nat.le_of_ble_eq_true rfl)) dL_law_641 ⟨(Nat.le_of_ble_eq_true rfl), (Nat.le_of_ble_eq_true rfl)⟩) hS (fun q _ h => hFc q h) hFc (fun r9 u t H1 locs ht hvm hw hB hz1 hk1 hS => ?_)
  obtain ⟨hP1, hK1, hD1⟩ := hB
  rw [ht] at hP1
  have hK1 := va_K.moved hvm.symm hK1
  obtain ⟨hP, hD⟩ := va_join (wr := [(q_2, .inl (cy_5, 6000, .inl (fun _ => 0))), (q_3, .inr (9, [.ref q_6, .ref q_7, .ref q_8, .int 0, .null, .int 0, .int 0, .int 0, .ref q_9, .ref q_10, .ref q_11, .ref q_12, .int 0])), (q_6, .inl (cy_13, 6001, .inl (fun _ => 0))), (q_7, .inl (cy_14, 6001, .inl (fun _ => 0))), (q_8, .inl (cy_15, 6001, .inl (fun _ => 0))), (q_9, .inl (cy_16, 256, .inl (fun _ => 0))), (q_10, .inl (cy_17, 3001, .inl (fun _ => 0))), (q_11, .inl (cy_18, 3001, .inl (fun _ => 0))), (q_12, .inl (cy_19, 3001, .inl (fun _ => 0))), (q_29, .inr (15, fl 134 F_30)), (q_38, .inr (14, [.null, .null, .null, .null, .null, .int 0])), (q_31, .inl (cy_39, 6000, .inl (fun _ => 0))), (q_35, .inl (cy_40, 6002, .inl (fun _ => 0))), (q_36, .inl (cy_41, 6002, .inl (fun _ => 0))), (q_37, .inl (cy_42, 6002, .inl (fun _ => 0))), (q_33, .inl (cy_43, 6000, .inl (fun _ => 0))), (q_34, .inl (cy_44, 6000, .inl (fun _ => 0))), (q_32, .inl (cy_45, 6600, .inl (fun _ => 0)))]) (w1 := []) hP hD [0, 10] [1, 2, 3, 4, 5, 6, 7, 8, 9, 11, 12, 13, 14, 15, 16, 17, 18, 19] rfl rfl (by decide) (by decide) hk1 hFc hP1 hD1
  have hK := (hK.sub (tys' := [(cy_5, .byte), (cy_13, .int), (cy_14, .int), (cy_15, .int), (cy_16, .int), (cy_17, .int), (cy_18, .int), (cy_19, .int), (cy_39, .byte), (cy_40, .int), (cy_41, .int), (cy_42, .int), (cy_43, .int), (cy_44, .int), (cy_45, .byte)]) [0, 1, 2, 3, 4, 5, 6, 7, 8, 9, 10, 11, 12, 13, 14] rfl).app hK1
  generalize H1 = H at hP hS ⊢
  have hK : va_K (dC, dI) vwCl [(cy_5, .byte), (cy_13, .int), (cy_14, .int), (cy_15, .int), (cy_16, .int), (cy_17, .int), (cy_18, .int), (cy_19, .int), (cy_39, .byte), (cy_40, .int), (cy_41, .int), (cy_42, .int), (cy_43, .int), (cy_44, .int), (cy_45, .byte)] s := hK
  have hP : va_P (dC, dI) vwCl [(q_2, .inl (cy_5, 6000, .inl (fun _ => 0))), (q_3, .inr (9, [.ref q_6, .ref q_7, .ref q_8, .int 0, .null, .int 0, .int 0, .int 0, .ref q_9, .ref q_10, .ref q_11, .ref q_12, .int 0])), (q_6, .inl (cy_13, 6001, .inl (fun _ => 0))), (q_7, .inl (cy_14, 6001, .inl (fun _ => 0))), (q_8, .inl (cy_15, 6001, .inl (fun _ => 0))), (q_9, .inl (cy_16, 256, .inl (fun _ => 0))), (q_10, .inl (cy_17, 3001, .inl (fun _ => 0))), (q_11, .inl (cy_18, 3001, .inl (fun _ => 0))), (q_12, .inl (cy_19, 3001, .inl (fun _ => 0))), (q_29, .inr (15, fl 134 F_30)), (q_38, .inr (14, [.null, .null, .null, .null, .null, .int 0])), (q_31, .inl (cy_39, 6000, .inl (fun _ => 0))), (q_35, .inl (cy_40, 6002, .inl (fun _ => 0))), (q_36, .inl (cy_41, 6002, .inl (fun _ => 0))), (q_37, .inl (cy_42, 6002, .inl (fun _ => 0))), (q_33, .inl (cy_43, 6000, .inl (fun _ => 0))), (q_34, .inl (cy_44, 6000, .inl (fun _ => 0))), (q_32, .inl (cy_45, 6600, .inl (fun _ => 0)))] H := hP
  have hD : va_D A [(q_2, .inl (cy_5, 6000, .inl (fun _ => 0))), (q_3, .inr (9, [.ref q_6, .ref q_7, .ref q_8, .int 0, .null, .int 0, .int 0, .int 0, .ref q_9, .ref q_10, .ref q_11, .ref q_12, .int 0])), (q_6, .inl (cy_13, 6001, .inl (fun _ => 0))), (q_7, .inl (cy_14, 6001, .inl (fun _ => 0))), (q_8, .inl (cy_15, 6001, .inl (fun _ => 0))), (q_9, .inl (cy_16, 256, .inl (fun _ => 0))), (q_10, .inl (cy_17, 3001, .inl (fun _ => 0))), (q_11, .inl (cy_18, 3001, .inl (fun _ => 0))), (q_12, .inl (cy_19, 3001, .inl (fun _ => 0))), (q_29, .inr (15, fl 134 F_30)), (q_38, .inr (14, [.null, .null, .null, .null, .null, .int 0])), (q_31, .inl (cy_39, 6000, .inl (fun _ => 0))), (q_35, .inl (cy_40, 6002, .inl (fun _ => 0))), (q_36, .inl (cy_41, 6002, .inl (fun _ => 0))), (q_37, .inl (cy_42, 6002, .inl (fun _ => 0))), (q_33, .inl (cy_43, 6000, .inl (fun _ => 0))), (q_34, .inl (cy_44, 6000, .inl (fun _ => 0))), (q_32, .inl (cy_45, 6600, .inl (fun _ => 0)))] := hD
  refine W.widen (k := 100) (n := 719914) (Nat.le_of_ble_eq_true rfl) (Nat.le_of_ble_eq_true rfl) ?_
  obtain rfl : r9 = 0 := hw
  refine lv_aload_n hx hb dL_law_644 rfl (lv_at hl 2 rfl) ?_
  refine lv_aload_n hx hb dL_law_645 rfl (lv_at hl 4 rfl) ?_
  refine lv_iload hx hb dL_law_646 (lv_at hl 0 rfl) ?_
  refine lv_iconst (v := 1) hx hb dL_law_648 (by decide) ?_
  refine lv_iadd hx hb dL_law_649 ?_
  refine lv_topi (fun y9 e9 => ?_)
  have e9 : y9 = 1 := by rw [e9]; decide
  subst e9
  refine va_sld hx hb hX hbl hbA hS (i := 1) (by unfold vp_in; decide) dL_law_650 ?_
  refine lv_topi (fun x_1003 ex_1003 => ?_)
  have ex_1003 : x_1003 = xs 1 := ex_1003
  subst ex_1003
  refine lv_aload_n hx hb dL_law_651 rfl (lv_at hl 4 rfl) ?_
  refine lv_iload hx hb dL_law_652 (lv_at hl 0 rfl) ?_
  refine lv_iconst (v := 2) hx hb dL_law_654 (by decide) ?_
  refine lv_iadd hx hb dL_law_655 ?_
  refine lv_topi (fun y9 e9 => ?_)
  have e9 : y9 = 2 := by rw [e9]; decide
  subst e9
  refine va_sld hx hb hX hbl hbA hS (i := 2) (by unfold vp_in; decide) dL_law_656 ?_
  refine lv_topi (fun x_1004 ex_1004 => ?_)
  have ex_1004 : x_1004 = xs 2 := ex_1004
  subst ex_1004
  have hPc := hP.sub (ws' := [(q_29, .inr (15, fl 134 F_30))]) [9] rfl
  have hDc := hD.sub (ws' := [(q_29, .inr (15, fl 134 F_30))]) [9] (by decide) rfl
  have hKc := hK.sub (tys' := []) [] rfl
  have hFc := va_free (wc := [(q_29, .inr (15, fl 134 F_30))]) hD hS hA [9] rfl
  refine va_calli (va_runV (As := [.int (xs 1), .int (xs 2)]) (rest := [.int 0]) ⟨hx, hb, hml, hown, hts⟩ (cm_inside l dC dI q_29 F_30 (xs 1) (xs 2) H.size hq100) (cwV 2 hts gl_cm_inside_93 rfl rfl rfl (by decide +kernel) ⟨(Nat.le_of_ble_eq_true rfl), (Nat.le_of_ble_eq_true rfl)⟩) ⟨fun a U g mk q => by obtain ⟨q0, q1, qP, qK, qD⟩ := q; exact ⟨q0, q1, qP, va_K.moved (u := U) (U := U.calling g mk a) (Vm.Alike.refl U.vm) qK, qD⟩, va_recv hKc hPc (ci := 15) (q0 := 0) rfl rfl, fun U hU hW => ⟨rfl, by rw [hU], by rw [hU]; exact hPc, va_K.moved hW.alike hKc, hDc.weaken (fun _ _ _ _ => trivial)⟩⟩ rfl rfl hl.1 rfl (lv_room (Nat.le_of_ble_eq_true rfl)) dL_law_657 ⟨(Nat.le_of_ble_eq_true rfl), (Nat.le_of_ble_eq_true rfl)⟩) hS (fun q _ h => hFc q h) hFc (fun r9 u t H1 locs ht hvm hw hB hz1 hk1 hS => ?_)
  obtain ⟨hP1, hK1, hD1⟩ := hB
  rw [ht] at hP1
  have hK1 := va_K.moved hvm.symm hK1
  obtain ⟨hP, hD⟩ := va_join (wr := [(q_2, .inl (cy_5, 6000, .inl (fun _ => 0))), (q_3, .inr (9, [.ref q_6, .ref q_7, .ref q_8, .int 0, .null, .int 0, .int 0, .int 0, .ref q_9, .ref q_10, .ref q_11, .ref q_12, .int 0])), (q_6, .inl (cy_13, 6001, .inl (fun _ => 0))), (q_7, .inl (cy_14, 6001, .inl (fun _ => 0))), (q_8, .inl (cy_15, 6001, .inl (fun _ => 0))), (q_9, .inl (cy_16, 256, .inl (fun _ => 0))), (q_10, .inl (cy_17, 3001, .inl (fun _ => 0))), (q_11, .inl (cy_18, 3001, .inl (fun _ => 0))), (q_12, .inl (cy_19, 3001, .inl (fun _ => 0))), (q_38, .inr (14, [.null, .null, .null, .null, .null, .int 0])), (q_31, .inl (cy_39, 6000, .inl (fun _ => 0))), (q_35, .inl (cy_40, 6002, .inl (fun _ => 0))), (q_36, .inl (cy_41, 6002, .inl (fun _ => 0))), (q_37, .inl (cy_42, 6002, .inl (fun _ => 0))), (q_33, .inl (cy_43, 6000, .inl (fun _ => 0))), (q_34, .inl (cy_44, 6000, .inl (fun _ => 0))), (q_32, .inl (cy_45, 6600, .inl (fun _ => 0)))]) (w1 := []) hP hD [9] [0, 1, 2, 3, 4, 5, 6, 7, 8, 10, 11, 12, 13, 14, 15, 16, 17] rfl rfl (by decide) (by decide) hk1 hFc hP1 hD1
  have hK := (hK.sub (tys' := [(cy_5, .byte), (cy_13, .int), (cy_14, .int), (cy_15, .int), (cy_16, .int), (cy_17, .int), (cy_18, .int), (cy_19, .int), (cy_39, .byte), (cy_40, .int), (cy_41, .int), (cy_42, .int), (cy_43, .int), (cy_44, .int), (cy_45, .byte)]) [0, 1, 2, 3, 4, 5, 6, 7, 8, 9, 10, 11, 12, 13, 14] rfl).app hK1
  generalize H1 = H at hP hS ⊢
  have hK : va_K (dC, dI) vwCl [(cy_5, .byte), (cy_13, .int), (cy_14, .int), (cy_15, .int), (cy_16, .int), (cy_17, .int), (cy_18, .int), (cy_19, .int), (cy_39, .byte), (cy_40, .int), (cy_41, .int), (cy_42, .int), (cy_43, .int), (cy_44, .int), (cy_45, .byte)] s := hK
  have hP : va_P (dC, dI) vwCl [(q_2, .inl (cy_5, 6000, .inl (fun _ => 0))), (q_3, .inr (9, [.ref q_6, .ref q_7, .ref q_8, .int 0, .null, .int 0, .int 0, .int 0, .ref q_9, .ref q_10, .ref q_11, .ref q_12, .int 0])), (q_6, .inl (cy_13, 6001, .inl (fun _ => 0))), (q_7, .inl (cy_14, 6001, .inl (fun _ => 0))), (q_8, .inl (cy_15, 6001, .inl (fun _ => 0))), (q_9, .inl (cy_16, 256, .inl (fun _ => 0))), (q_10, .inl (cy_17, 3001, .inl (fun _ => 0))), (q_11, .inl (cy_18, 3001, .inl (fun _ => 0))), (q_12, .inl (cy_19, 3001, .inl (fun _ => 0))), (q_38, .inr (14, [.null, .null, .null, .null, .null, .int 0])), (q_31, .inl (cy_39, 6000, .inl (fun _ => 0))), (q_35, .inl (cy_40, 6002, .inl (fun _ => 0))), (q_36, .inl (cy_41, 6002, .inl (fun _ => 0))), (q_37, .inl (cy_42, 6002, .inl (fun _ => 0))), (q_33, .inl (cy_43, 6000, .inl (fun _ => 0))), (q_34, .inl (cy_44, 6000, .inl (fun _ => 0))), (q_32, .inl (cy_45, 6600, .inl (fun _ => 0)))] H := hP
  have hD : va_D A [(q_2, .inl (cy_5, 6000, .inl (fun _ => 0))), (q_3, .inr (9, [.ref q_6, .ref q_7, .ref q_8, .int 0, .null, .int 0, .int 0, .int 0, .ref q_9, .ref q_10, .ref q_11, .ref q_12, .int 0])), (q_6, .inl (cy_13, 6001, .inl (fun _ => 0))), (q_7, .inl (cy_14, 6001, .inl (fun _ => 0))), (q_8, .inl (cy_15, 6001, .inl (fun _ => 0))), (q_9, .inl (cy_16, 256, .inl (fun _ => 0))), (q_10, .inl (cy_17, 3001, .inl (fun _ => 0))), (q_11, .inl (cy_18, 3001, .inl (fun _ => 0))), (q_12, .inl (cy_19, 3001, .inl (fun _ => 0))), (q_38, .inr (14, [.null, .null, .null, .null, .null, .int 0])), (q_31, .inl (cy_39, 6000, .inl (fun _ => 0))), (q_35, .inl (cy_40, 6002, .inl (fun _ => 0))), (q_36, .inl (cy_41, 6002, .inl (fun _ => 0))), (q_37, .inl (cy_42, 6002, .inl (fun _ => 0))), (q_33, .inl (cy_43, 6000, .inl (fun _ => 0))), (q_34, .inl (cy_44, 6000, .inl (fun _ => 0))), (q_32, .inl (cy_45, 6600, .inl (fun _ => 0)))] := hD
  refine W.widen (k := 100) (n := 719914) (Nat.le_of_ble_eq_true rfl) (Nat.le_of_ble_eq_true rfl) ?_
  obtain rfl : r9 = 0 := hw
  refine lv_icmp_eq (tgt := 665) hx hb dL_law_660 (by decide) (fun c9 => ?_) (fun c9 => absurd (by decide) c9)
  clear c9
  refine lv_iinc (v := 6) (lv' := [(4, .int 6), (3, .ref q_58), (2, .ref q_29), (1, .ref q_1), (0, .ref b)]) hx hb dL_law_665 hl (k := 0) rfl (by decide) (by decide) rfl (fun ls hl => ?_)
  refine lv_goto (tgt := 23) hx hb dL_law_668 (by decide) ?_
  refine lv_iload hx hb dL_law_23 (lv_at hl 0 rfl) ?_
  refine lv_aload_n hx hb dL_law_25 rfl (lv_at hl 4 rfl) ?_
  refine va_slen hx hb hX hbl hbA hS dL_law_26 ?_
  refine lv_topi (fun y9 e9 => ?_)
  have e9 : y9 = 6 := e9
  subst e9
  refine lv_bipush (v := 6) hx hb dL_law_27 (by decide) ?_
  refine lv_isub hx hb dL_law_29 ?_
  refine lv_topi (fun y9 e9 => ?_)
  have e9 : y9 = 0 := by rw [e9]; decide
  subst e9
  refine lv_icmp_gt (tgt := 671) hx hb dL_law_30 (by decide) (fun c9 => ?_) (fun c9 => absurd (by decide) c9)
  clear c9
  refine lv_iconst (v := 1) hx hb dL_law_671 (by decide) ?_
  refine va_forget (fun q hq => hAA q.base (hS.2.2 q hq)) ?_
  refine W.widen (k := 600002) (n := 7302232) (Nat.le_of_ble_eq_true rfl) (Nat.le_of_ble_eq_true rfl) ?_
  exact lw_ret hx hb hr hlocks dL_law_672
set_option maxHeartbeats 4000000 in
set_option maxRecDepth 100000 in
theorem law_case_15 {p : Program} {e : Env} {s : State} {m : MethodId} {below : List Frame} {meth : Method} {c : Code} (l : Launch) (hfl : l.flags = flags0) {b : Nat} {xs : Nat → Int32} (C0 : lw_At p s m meth c b 6 xs) (dC : Nat → ClassId) (dI : Nat → Nat → Nat) (A : Nat → Prop) (hA : ∀ q : Nat, s.heap.size ≤ q → A q) (hAa : ∀ q : Nat, q < s.heap.size → ¬ A q) (hAA : ∀ q : Nat, A q → s.heap.size ≤ q) (q_1 : Nat) (q_2 : Nat) (q_3 : Nat) (q_4 : Nat) (cy_5 : ClassId) (q_6 : Nat) (q_7 : Nat) (q_8 : Nat) (q_9 : Nat) (q_10 : Nat) (q_11 : Nat) (q_12 : Nat) (cy_13 : ClassId) (cy_14 : ClassId) (cy_15 : ClassId) (cy_16 : ClassId) (cy_17 : ClassId) (cy_18 : ClassId) (cy_19 : ClassId) (q_20 : Nat) (q_21 : Nat) (q_22 : Nat) (q_23 : Nat) (q_24 : Nat) (q_25 : Nat) (q_26 : Nat) (q_27 : Nat) (q_28 : Nat) (q_29 : Nat) (F_30 : Nat → Value) (q_31 : Nat) (q_32 : Nat) (q_33 : Nat) (q_34 : Nat) (q_35 : Nat) (q_36 : Nat) (q_37 : Nat) (q_38 : Nat) (cy_39 : ClassId) (cy_40 : ClassId) (cy_41 : ClassId) (cy_42 : ClassId) (cy_43 : ClassId) (cy_44 : ClassId) (cy_45 : ClassId) (q_58 : Nat) (hq0 : F_30 0 = .int 0) (hq1 : F_30 1 = .ref q_38) (hq2 : F_30 2 = .ref q_31) (hq3 : F_30 3 = .int 0) (hq9 : F_30 9 = .ref q_35) (hq10 : F_30 10 = .ref q_36) (hq11 : F_30 11 = .ref q_37) (hq13 : F_30 13 = .ref q_33) (hq14 : F_30 14 = .ref q_34) (hq15 : F_30 15 = .ref q_32) (hq98 : F_30 98 = .int 0) (hq100 : F_30 100 = .int 0) (H : Heap) (locs : List Loc) (ls : Array Slot) (hK : va_K (dC, dI) vwCl [(cy_5, .byte), (cy_13, .int), (cy_14, .int), (cy_15, .int), (cy_16, .int), (cy_17, .int), (cy_18, .int), (cy_19, .int), (cy_39, .byte), (cy_40, .int), (cy_41, .int), (cy_42, .int), (cy_43, .int), (cy_44, .int), (cy_45, .byte)] s) (hP : va_P (dC, dI) vwCl [(q_1, .inr (13, [.ref q_2, .int 0, .ref q_3, .ref q_4, .null])), (q_2, .inl (cy_5, 6000, .inl (fun _ => 0))), (q_3, .inr (9, [.ref q_6, .ref q_7, .ref q_8, .int 0, .null, .int 0, .int 0, .int 0, .ref q_9, .ref q_10, .ref q_11, .ref q_12, .int 0])), (q_6, .inl (cy_13, 6001, .inl (fun _ => 0))), (q_7, .inl (cy_14, 6001, .inl (fun _ => 0))), (q_8, .inl (cy_15, 6001, .inl (fun _ => 0))), (q_9, .inl (cy_16, 256, .inl (fun _ => 0))), (q_10, .inl (cy_17, 3001, .inl (fun _ => 0))), (q_11, .inl (cy_18, 3001, .inl (fun _ => 0))), (q_12, .inl (cy_19, 3001, .inl (fun _ => 0))), (q_4, .inr (4, [.null, .ref q_20, .ref q_21, .ref q_22, .ref q_23, .ref q_24, .int 0, .ref q_25, .int 0, .int 0, .int 0, .ref q_26, .int 0, .ref q_27, .int 0, .ref q_28, .null, .int 0, .int 0])), (q_29, .inr (15, fl 134 F_30)), (q_38, .inr (14, [.null, .null, .null, .null, .null, .int 0])), (q_31, .inl (cy_39, 6000, .inl (fun _ => 0))), (q_35, .inl (cy_40, 6002, .inl (fun _ => 0))), (q_36, .inl (cy_41, 6002, .inl (fun _ => 0))), (q_37, .inl (cy_42, 6002, .inl (fun _ => 0))), (q_33, .inl (cy_43, 6000, .inl (fun _ => 0))), (q_34, .inl (cy_44, 6000, .inl (fun _ => 0))), (q_32, .inl (cy_45, 6600, .inl (fun _ => 0)))] H) (hD : va_D A [(q_1, .inr (13, [.ref q_2, .int 0, .ref q_3, .ref q_4, .null])), (q_2, .inl (cy_5, 6000, .inl (fun _ => 0))), (q_3, .inr (9, [.ref q_6, .ref q_7, .ref q_8, .int 0, .null, .int 0, .int 0, .int 0, .ref q_9, .ref q_10, .ref q_11, .ref q_12, .int 0])), (q_6, .inl (cy_13, 6001, .inl (fun _ => 0))), (q_7, .inl (cy_14, 6001, .inl (fun _ => 0))), (q_8, .inl (cy_15, 6001, .inl (fun _ => 0))), (q_9, .inl (cy_16, 256, .inl (fun _ => 0))), (q_10, .inl (cy_17, 3001, .inl (fun _ => 0))), (q_11, .inl (cy_18, 3001, .inl (fun _ => 0))), (q_12, .inl (cy_19, 3001, .inl (fun _ => 0))), (q_4, .inr (4, [.null, .ref q_20, .ref q_21, .ref q_22, .ref q_23, .ref q_24, .int 0, .ref q_25, .int 0, .int 0, .int 0, .ref q_26, .int 0, .ref q_27, .int 0, .ref q_28, .null, .int 0, .int 0])), (q_29, .inr (15, fl 134 F_30)), (q_38, .inr (14, [.null, .null, .null, .null, .null, .int 0])), (q_31, .inl (cy_39, 6000, .inl (fun _ => 0))), (q_35, .inl (cy_40, 6002, .inl (fun _ => 0))), (q_36, .inl (cy_41, 6002, .inl (fun _ => 0))), (q_37, .inl (cy_42, 6002, .inl (fun _ => 0))), (q_33, .inl (cy_43, 6000, .inl (fun _ => 0))), (q_34, .inl (cy_44, 6000, .inl (fun _ => 0))), (q_32, .inl (cy_45, 6600, .inl (fun _ => 0)))]) (hS : va_S A s.heap H locs) (hl : lv_has ls 7 [(4, .int 0), (3, .ref q_58), (2, .ref q_29), (1, .ref q_1), (0, .ref b)]) : W p l e room_1 s m #[Value.ref b] below meth c H locs 100 719914 (lw_Z below #[Value.ref b] s) (F0 m 665 ls []) := by
  obtain ⟨hx, hb, hr, hml, hown, htsT, hX, hbl, hlocks, hgv⟩ := id C0
  have hown : s.vm.findClass RL = some m.cls := hown
  have hts : ∀ w ∈ ws_law, w.before #[Value.ref b] s = true := fun w h => htsT w (in_law w h)
  have hg := flat_of_before _ hgv
  have hbA : ¬ A b := hAa b hbl
  have hflags : l.stackTraces = false := by unfold Launch.stackTraces; rw [hfl]; decide
  refine lv_iinc (v := 6) (lv' := [(4, .int 6), (3, .ref q_58), (2, .ref q_29), (1, .ref q_1), (0, .ref b)]) hx hb dL_law_665 hl (k := 0) rfl (by decide) (by decide) rfl (fun ls hl => ?_)
  refine lv_goto (tgt := 23) hx hb dL_law_668 (by decide) ?_
  refine lv_iload hx hb dL_law_23 (lv_at hl 0 rfl) ?_
  refine lv_aload_n hx hb dL_law_25 rfl (lv_at hl 4 rfl) ?_
  refine va_slen hx hb hX hbl hbA hS dL_law_26 ?_
  refine lv_topi (fun y9 e9 => ?_)
  have e9 : y9 = 6 := e9
  subst e9
  refine lv_bipush (v := 6) hx hb dL_law_27 (by decide) ?_
  refine lv_isub hx hb dL_law_29 ?_
  refine lv_topi (fun y9 e9 => ?_)
  have e9 : y9 = 0 := by rw [e9]; decide
  subst e9
  refine lv_icmp_gt (tgt := 671) hx hb dL_law_30 (by decide) (fun c9 => ?_) (fun c9 => absurd (by decide) c9)
  clear c9
  refine lv_iconst (v := 1) hx hb dL_law_671 (by decide) ?_
  refine va_forget (fun q hq => hAA q.base (hS.2.2 q hq)) ?_
  refine W.widen (k := 600002) (n := 7302232) (Nat.le_of_ble_eq_true rfl) (Nat.le_of_ble_eq_true rfl) ?_
  exact lw_ret hx hb hr hlocks dL_law_672
set_option maxHeartbeats 4000000 in
set_option maxRecDepth 100000 in
theorem law_count_0 {p : Program} {e : Env} {s : State} {m : MethodId} {below : List Frame} {meth : Method} {c : Code} (l : Launch) (hfl : l.flags = flags0) {b : Nat} {xs : Nat → Int32} (C0 : lw_At p s m meth c b 6 xs) (dC : Nat → ClassId) (dI : Nat → Nat → Nat) (A : Nat → Prop) (hA : ∀ q : Nat, s.heap.size ≤ q → A q) (hAa : ∀ q : Nat, q < s.heap.size → ¬ A q) (hAA : ∀ q : Nat, A q → s.heap.size ≤ q) (q_1 : Nat) (q_2 : Nat) (q_3 : Nat) (q_4 : Nat) (cy_5 : ClassId) (q_6 : Nat) (q_7 : Nat) (q_8 : Nat) (q_9 : Nat) (q_10 : Nat) (q_11 : Nat) (q_12 : Nat) (cy_13 : ClassId) (cy_14 : ClassId) (cy_15 : ClassId) (cy_16 : ClassId) (cy_17 : ClassId) (cy_18 : ClassId) (cy_19 : ClassId) (q_20 : Nat) (q_21 : Nat) (q_22 : Nat) (q_23 : Nat) (q_24 : Nat) (q_25 : Nat) (q_26 : Nat) (q_27 : Nat) (q_28 : Nat) (q_29 : Nat) (F_30 : Nat → Value) (q_31 : Nat) (q_32 : Nat) (q_33 : Nat) (q_34 : Nat) (q_35 : Nat) (q_36 : Nat) (q_37 : Nat) (q_38 : Nat) (cy_39 : ClassId) (cy_40 : ClassId) (cy_41 : ClassId) (cy_42 : ClassId) (cy_43 : ClassId) (cy_44 : ClassId) (cy_45 : ClassId) (q_58 : Nat) (hq0 : F_30 0 = .int 0) (hq1 : F_30 1 = .ref q_38) (hq2 : F_30 2 = .ref q_31) (hq3 : F_30 3 = .int 0) (hq9 : F_30 9 = .ref q_35) (hq10 : F_30 10 = .ref q_36) (hq11 : F_30 11 = .ref q_37) (hq13 : F_30 13 = .ref q_33) (hq14 : F_30 14 = .ref q_34) (hq15 : F_30 15 = .ref q_32) (hq98 : F_30 98 = .int 0) (hq100 : F_30 100 = .int 0) (hcnt : xs 1 = 0) (H : Heap) (locs : List Loc) (ls : Array Slot) (hK : va_K (dC, dI) vwCl [(cy_5, .byte), (cy_13, .int), (cy_14, .int), (cy_15, .int), (cy_16, .int), (cy_17, .int), (cy_18, .int), (cy_19, .int), (cy_39, .byte), (cy_40, .int), (cy_41, .int), (cy_42, .int), (cy_43, .int), (cy_44, .int), (cy_45, .byte)] s) (hP : va_P (dC, dI) vwCl [(q_1, .inr (13, [.ref q_2, .int 0, .ref q_3, .ref q_4, .null])), (q_2, .inl (cy_5, 6000, .inl (fun _ => 0))), (q_3, .inr (9, [.ref q_6, .ref q_7, .ref q_8, .int 0, .null, .int 0, .int 0, .int 0, .ref q_9, .ref q_10, .ref q_11, .ref q_12, .int 0])), (q_6, .inl (cy_13, 6001, .inl (fun _ => 0))), (q_7, .inl (cy_14, 6001, .inl (fun _ => 0))), (q_8, .inl (cy_15, 6001, .inl (fun _ => 0))), (q_9, .inl (cy_16, 256, .inl (fun _ => 0))), (q_10, .inl (cy_17, 3001, .inl (fun _ => 0))), (q_11, .inl (cy_18, 3001, .inl (fun _ => 0))), (q_12, .inl (cy_19, 3001, .inl (fun _ => 0))), (q_4, .inr (4, [.null, .ref q_20, .ref q_21, .ref q_22, .ref q_23, .ref q_24, .int 0, .ref q_25, .int 0, .int 0, .int 0, .ref q_26, .int 0, .ref q_27, .int 0, .ref q_28, .null, .int 0, .int 0])), (q_29, .inr (15, fl 134 F_30)), (q_38, .inr (14, [.null, .null, .null, .null, .null, .int 0])), (q_31, .inl (cy_39, 6000, .inl (fun _ => 0))), (q_35, .inl (cy_40, 6002, .inl (fun _ => 0))), (q_36, .inl (cy_41, 6002, .inl (fun _ => 0))), (q_37, .inl (cy_42, 6002, .inl (fun _ => 0))), (q_33, .inl (cy_43, 6000, .inl (fun _ => 0))), (q_34, .inl (cy_44, 6000, .inl (fun _ => 0))), (q_32, .inl (cy_45, 6600, .inl (fun _ => 0)))] H) (hD : va_D A [(q_1, .inr (13, [.ref q_2, .int 0, .ref q_3, .ref q_4, .null])), (q_2, .inl (cy_5, 6000, .inl (fun _ => 0))), (q_3, .inr (9, [.ref q_6, .ref q_7, .ref q_8, .int 0, .null, .int 0, .int 0, .int 0, .ref q_9, .ref q_10, .ref q_11, .ref q_12, .int 0])), (q_6, .inl (cy_13, 6001, .inl (fun _ => 0))), (q_7, .inl (cy_14, 6001, .inl (fun _ => 0))), (q_8, .inl (cy_15, 6001, .inl (fun _ => 0))), (q_9, .inl (cy_16, 256, .inl (fun _ => 0))), (q_10, .inl (cy_17, 3001, .inl (fun _ => 0))), (q_11, .inl (cy_18, 3001, .inl (fun _ => 0))), (q_12, .inl (cy_19, 3001, .inl (fun _ => 0))), (q_4, .inr (4, [.null, .ref q_20, .ref q_21, .ref q_22, .ref q_23, .ref q_24, .int 0, .ref q_25, .int 0, .int 0, .int 0, .ref q_26, .int 0, .ref q_27, .int 0, .ref q_28, .null, .int 0, .int 0])), (q_29, .inr (15, fl 134 F_30)), (q_38, .inr (14, [.null, .null, .null, .null, .null, .int 0])), (q_31, .inl (cy_39, 6000, .inl (fun _ => 0))), (q_35, .inl (cy_40, 6002, .inl (fun _ => 0))), (q_36, .inl (cy_41, 6002, .inl (fun _ => 0))), (q_37, .inl (cy_42, 6002, .inl (fun _ => 0))), (q_33, .inl (cy_43, 6000, .inl (fun _ => 0))), (q_34, .inl (cy_44, 6000, .inl (fun _ => 0))), (q_32, .inl (cy_45, 6600, .inl (fun _ => 0)))]) (hS : va_S A s.heap H locs) (hl : lv_has ls 7 [(4, .int 0), (3, .ref q_58), (2, .ref q_29), (1, .ref q_1), (0, .ref b)]) : W p l e room_1 s m #[Value.ref b] below meth c H locs 100 719914 (lw_Z below #[Value.ref b] s) (F0 m 227 ls []) := by
  obtain ⟨hx, hb, hr, hml, hown, htsT, hX, hbl, hlocks, hgv⟩ := id C0
  have hown : s.vm.findClass RL = some m.cls := hown
  have hts : ∀ w ∈ ws_law, w.before #[Value.ref b] s = true := fun w h => htsT w (in_law w h)
  have hg := flat_of_before _ hgv
  have hbA : ¬ A b := hAa b hbl
  have hflags : l.stackTraces = false := by unfold Launch.stackTraces; rw [hfl]; decide
  refine lv_aload_n hx hb dL_law_227 rfl (lv_at hl 3 rfl) ?_
  refine lv_aload_n hx hb dL_law_228 rfl (lv_at hl 4 rfl) ?_
  refine lv_iload hx hb dL_law_229 (lv_at hl 0 rfl) ?_
  refine lv_iconst (v := 1) hx hb dL_law_231 (by decide) ?_
  refine lv_iadd hx hb dL_law_232 ?_
  refine lv_topi (fun y9 e9 => ?_)
  have e9 : y9 = 1 := by rw [e9]; decide
  subst e9
  refine va_sld hx hb hX hbl hbA hS (i := 1) (by unfold vp_in; decide) dL_law_233 ?_
  refine lv_topi (fun x_1001 ex_1001 => ?_)
  have ex_1001 : x_1001 = xs 1 := ex_1001
  have ex_1001 : x_1001 = 0 := ex_1001.trans hcnt
  subst ex_1001
  have hPc := hP.sub (ws' := [(q_1, .inr (13, [.ref q_2, .int 0, .ref q_3, .ref q_4, .null])), (q_4, .inr (4, [.null, .ref q_20, .ref q_21, .ref q_22, .ref q_23, .ref q_24, .int 0, .ref q_25, .int 0, .int 0, .int 0, .ref q_26, .int 0, .ref q_27, .int 0, .ref q_28, .null, .int 0, .int 0]))]) [0, 10] rfl
  have hDc := hD.sub (ws' := [(q_1, .inr (13, [.ref q_2, .int 0, .ref q_3, .ref q_4, .null])), (q_4, .inr (4, [.null, .ref q_20, .ref q_21, .ref q_22, .ref q_23, .ref q_24, .int 0, .ref q_25, .int 0, .int 0, .int 0, .ref q_26, .int 0, .ref q_27, .int 0, .ref q_28, .null, .int 0, .int 0]))]) [0, 10] (by decide) rfl
  have hKc := hK.sub (tys' := []) [] rfl
  have hFc := va_free (wc := [(q_1, .inr (13, [.ref q_2, .int 0, .ref q_3, .ref q_4, .null])), (q_4, .inr (4, [.null, .ref q_20, .ref q_21, .ref q_22, .ref q_23, .ref q_24, .int 0, .ref q_25, .int 0, .int 0, .int 0, .ref q_26, .int 0, .ref q_27, .int 0, .ref q_28, .null, .int 0, .int 0]))]) hD hS hA [0, 10] rfl
  refine va_calli (va_runV (As := [.int 0]) (rest := []) ⟨hx, hb, hml, hown, hts⟩ (cc_count l dC dI q_1 q_2 q_3 q_4 q_20 q_21 q_22 q_23 q_24 q_25 q_26 q_27 q_28 0 H.size) (cwV 1 hts gl_cc_count_39 rfl rfl rfl (by decide +kernel) ⟨(Nat.le_of_ble_eq_true rfl), (Nat.le_of_ble_eq_true rfl)⟩) ⟨fun a U g mk q => by obtain ⟨q0, q1, qP, qK, qD⟩ := q; exact ⟨q0, q1, qP, va_K.moved (u := U) (U := U.calling g mk a) (Vm.Alike.refl U.vm) qK, qD⟩, va_recv hKc hPc (ci := 13) (q0 := 0) rfl rfl, fun U hU hW => ⟨rfl, by rw [hU], by rw [hU]; exact hPc, va_K.moved hW.alike hKc, hDc.weaken (fun _ _ _ _ => trivial)⟩⟩ rfl rfl hl.1 rfl (lv_room (Nat.le_of_ble_eq_true rfl)) dL_law_234 ⟨(Nat.le_of_ble_eq_true rfl), (Nat.le_of_ble_eq_true rfl)⟩) hS (fun q _ h => hFc q h) hFc (fun r9 u t H1 locs ht hvm hw hB hz1 hk1 hS => ?_)
  obtain ⟨hP1, hK1, hD1⟩ := hB
  rw [ht] at hP1
  have hK1 := va_K.moved hvm.symm hK1
  obtain ⟨hP, hD⟩ := va_join (wr := [(q_2, .inl (cy_5, 6000, .inl (fun _ => 0))), (q_3, .inr (9, [.ref q_6, .ref q_7, .ref q_8, .int 0, .null, .int 0, .int 0, .int 0, .ref q_9, .ref q_10, .ref q_11, .ref q_12, .int 0])), (q_6, .inl (cy_13, 6001, .inl (fun _ => 0))), (q_7, .inl (cy_14, 6001, .inl (fun _ => 0))), (q_8, .inl (cy_15, 6001, .inl (fun _ => 0))), (q_9, .inl (cy_16, 256, .inl (fun _ => 0))), (q_10, .inl (cy_17, 3001, .inl (fun _ => 0))), (q_11, .inl (cy_18, 3001, .inl (fun _ => 0))), (q_12, .inl (cy_19, 3001, .inl (fun _ => 0))), (q_29, .inr (15, fl 134 F_30)), (q_38, .inr (14, [.null, .null, .null, .null, .null, .int 0])), (q_31, .inl (cy_39, 6000, .inl (fun _ => 0))), (q_35, .inl (cy_40, 6002, .inl (fun _ => 0))), (q_36, .inl (cy_41, 6002, .inl (fun _ => 0))), (q_37, .inl (cy_42, 6002, .inl (fun _ => 0))), (q_33, .inl (cy_43, 6000, .inl (fun _ => 0))), (q_34, .inl (cy_44, 6000, .inl (fun _ => 0))), (q_32, .inl (cy_45, 6600, .inl (fun _ => 0)))]) (w1 := []) hP hD [0, 10] [1, 2, 3, 4, 5, 6, 7, 8, 9, 11, 12, 13, 14, 15, 16, 17, 18, 19] rfl rfl (by decide) (by decide) hk1 hFc hP1 hD1
  have hK := (hK.sub (tys' := [(cy_5, .byte), (cy_13, .int), (cy_14, .int), (cy_15, .int), (cy_16, .int), (cy_17, .int), (cy_18, .int), (cy_19, .int), (cy_39, .byte), (cy_40, .int), (cy_41, .int), (cy_42, .int), (cy_43, .int), (cy_44, .int), (cy_45, .byte)]) [0, 1, 2, 3, 4, 5, 6, 7, 8, 9, 10, 11, 12, 13, 14] rfl).app hK1
  generalize H1 = H at hP hS ⊢
  have hK : va_K (dC, dI) vwCl [(cy_5, .byte), (cy_13, .int), (cy_14, .int), (cy_15, .int), (cy_16, .int), (cy_17, .int), (cy_18, .int), (cy_19, .int), (cy_39, .byte), (cy_40, .int), (cy_41, .int), (cy_42, .int), (cy_43, .int), (cy_44, .int), (cy_45, .byte)] s := hK
  have hP : va_P (dC, dI) vwCl [(q_2, .inl (cy_5, 6000, .inl (fun _ => 0))), (q_3, .inr (9, [.ref q_6, .ref q_7, .ref q_8, .int 0, .null, .int 0, .int 0, .int 0, .ref q_9, .ref q_10, .ref q_11, .ref q_12, .int 0])), (q_6, .inl (cy_13, 6001, .inl (fun _ => 0))), (q_7, .inl (cy_14, 6001, .inl (fun _ => 0))), (q_8, .inl (cy_15, 6001, .inl (fun _ => 0))), (q_9, .inl (cy_16, 256, .inl (fun _ => 0))), (q_10, .inl (cy_17, 3001, .inl (fun _ => 0))), (q_11, .inl (cy_18, 3001, .inl (fun _ => 0))), (q_12, .inl (cy_19, 3001, .inl (fun _ => 0))), (q_29, .inr (15, fl 134 F_30)), (q_38, .inr (14, [.null, .null, .null, .null, .null, .int 0])), (q_31, .inl (cy_39, 6000, .inl (fun _ => 0))), (q_35, .inl (cy_40, 6002, .inl (fun _ => 0))), (q_36, .inl (cy_41, 6002, .inl (fun _ => 0))), (q_37, .inl (cy_42, 6002, .inl (fun _ => 0))), (q_33, .inl (cy_43, 6000, .inl (fun _ => 0))), (q_34, .inl (cy_44, 6000, .inl (fun _ => 0))), (q_32, .inl (cy_45, 6600, .inl (fun _ => 0)))] H := hP
  have hD : va_D A [(q_2, .inl (cy_5, 6000, .inl (fun _ => 0))), (q_3, .inr (9, [.ref q_6, .ref q_7, .ref q_8, .int 0, .null, .int 0, .int 0, .int 0, .ref q_9, .ref q_10, .ref q_11, .ref q_12, .int 0])), (q_6, .inl (cy_13, 6001, .inl (fun _ => 0))), (q_7, .inl (cy_14, 6001, .inl (fun _ => 0))), (q_8, .inl (cy_15, 6001, .inl (fun _ => 0))), (q_9, .inl (cy_16, 256, .inl (fun _ => 0))), (q_10, .inl (cy_17, 3001, .inl (fun _ => 0))), (q_11, .inl (cy_18, 3001, .inl (fun _ => 0))), (q_12, .inl (cy_19, 3001, .inl (fun _ => 0))), (q_29, .inr (15, fl 134 F_30)), (q_38, .inr (14, [.null, .null, .null, .null, .null, .int 0])), (q_31, .inl (cy_39, 6000, .inl (fun _ => 0))), (q_35, .inl (cy_40, 6002, .inl (fun _ => 0))), (q_36, .inl (cy_41, 6002, .inl (fun _ => 0))), (q_37, .inl (cy_42, 6002, .inl (fun _ => 0))), (q_33, .inl (cy_43, 6000, .inl (fun _ => 0))), (q_34, .inl (cy_44, 6000, .inl (fun _ => 0))), (q_32, .inl (cy_45, 6600, .inl (fun _ => 0)))] := hD
  refine W.widen (k := 100) (n := 719914) (Nat.le_of_ble_eq_true rfl) (Nat.le_of_ble_eq_true rfl) ?_
  obtain rfl : r9 = (cntS 0) := hw
  refine lv_aload_n hx hb dL_law_237 rfl (lv_at hl 2 rfl) ?_
  refine lv_aload_n hx hb dL_law_238 rfl (lv_at hl 4 rfl) ?_
  refine lv_iload hx hb dL_law_239 (lv_at hl 0 rfl) ?_
  refine lv_iconst (v := 1) hx hb dL_law_241 (by decide) ?_
  refine lv_iadd hx hb dL_law_242 ?_
  refine lv_topi (fun y9 e9 => ?_)
  have e9 : y9 = 1 := by rw [e9]; decide
  subst e9
  refine va_sld hx hb hX hbl hbA hS (i := 1) (by unfold vp_in; decide) dL_law_243 ?_
  refine lv_topi (fun x_1002 ex_1002 => ?_)
  have ex_1002 : x_1002 = xs 1 := ex_1002
  have ex_1002 : x_1002 = 0 := ex_1002.trans hcnt
  subst ex_1002
  have hPc := hP.sub (ws' := [(q_29, .inr (15, fl 134 F_30))]) [9] rfl
  have hDc := hD.sub (ws' := [(q_29, .inr (15, fl 134 F_30))]) [9] (by decide) rfl
  have hKc := hK.sub (tys' := []) [] rfl
  have hFc := va_free (wc := [(q_29, .inr (15, fl 134 F_30))]) hD hS hA [9] rfl
  refine va_calli (va_runV (As := [.int 0]) (rest := [.int (cntS 0)]) ⟨hx, hb, hml, hown, hts⟩ (cm_count_0 l dC dI q_29 F_30 H.size hq3 hq98 hq100) (cwV 1 hts gl_cm_count_0_42 rfl rfl rfl (by decide +kernel) ⟨(Nat.le_of_ble_eq_true rfl), (Nat.le_of_ble_eq_true rfl)⟩) ⟨fun a U g mk q => by obtain ⟨q0, q1, qP, qK, qD⟩ := q; exact ⟨q0, q1, qP, va_K.moved (u := U) (U := U.calling g mk a) (Vm.Alike.refl U.vm) qK, qD⟩, va_recv hKc hPc (ci := 15) (q0 := 0) rfl rfl, fun U hU hW => ⟨rfl, by rw [hU], by rw [hU]; exact hPc, va_K.moved hW.alike hKc, hDc.weaken (fun _ _ _ _ => trivial)⟩⟩ rfl rfl hl.1 rfl (lv_room (Nat.le_of_ble_eq_true rfl)) dL_law_244 ⟨(Nat.le_of_ble_eq_true rfl), (Nat.le_of_ble_eq_true rfl)⟩) hS (fun q _ h => hFc q h) hFc (fun r9 u t H1 locs ht hvm hw hB hz1 hk1 hS => ?_)
  obtain ⟨hP1, hK1, hD1⟩ := hB
  rw [ht] at hP1
  have hK1 := va_K.moved hvm.symm hK1
  obtain ⟨hP, hD⟩ := va_join (wr := [(q_2, .inl (cy_5, 6000, .inl (fun _ => 0))), (q_3, .inr (9, [.ref q_6, .ref q_7, .ref q_8, .int 0, .null, .int 0, .int 0, .int 0, .ref q_9, .ref q_10, .ref q_11, .ref q_12, .int 0])), (q_6, .inl (cy_13, 6001, .inl (fun _ => 0))), (q_7, .inl (cy_14, 6001, .inl (fun _ => 0))), (q_8, .inl (cy_15, 6001, .inl (fun _ => 0))), (q_9, .inl (cy_16, 256, .inl (fun _ => 0))), (q_10, .inl (cy_17, 3001, .inl (fun _ => 0))), (q_11, .inl (cy_18, 3001, .inl (fun _ => 0))), (q_12, .inl (cy_19, 3001, .inl (fun _ => 0))), (q_38, .inr (14, [.null, .null, .null, .null, .null, .int 0])), (q_31, .inl (cy_39, 6000, .inl (fun _ => 0))), (q_35, .inl (cy_40, 6002, .inl (fun _ => 0))), (q_36, .inl (cy_41, 6002, .inl (fun _ => 0))), (q_37, .inl (cy_42, 6002, .inl (fun _ => 0))), (q_33, .inl (cy_43, 6000, .inl (fun _ => 0))), (q_34, .inl (cy_44, 6000, .inl (fun _ => 0))), (q_32, .inl (cy_45, 6600, .inl (fun _ => 0)))]) (w1 := []) hP hD [9] [0, 1, 2, 3, 4, 5, 6, 7, 8, 10, 11, 12, 13, 14, 15, 16, 17] rfl rfl (by decide) (by decide) hk1 hFc hP1 hD1
  have hK := (hK.sub (tys' := [(cy_5, .byte), (cy_13, .int), (cy_14, .int), (cy_15, .int), (cy_16, .int), (cy_17, .int), (cy_18, .int), (cy_19, .int), (cy_39, .byte), (cy_40, .int), (cy_41, .int), (cy_42, .int), (cy_43, .int), (cy_44, .int), (cy_45, .byte)]) [0, 1, 2, 3, 4, 5, 6, 7, 8, 9, 10, 11, 12, 13, 14] rfl).app hK1
  generalize H1 = H at hP hS ⊢
  have hK : va_K (dC, dI) vwCl [(cy_5, .byte), (cy_13, .int), (cy_14, .int), (cy_15, .int), (cy_16, .int), (cy_17, .int), (cy_18, .int), (cy_19, .int), (cy_39, .byte), (cy_40, .int), (cy_41, .int), (cy_42, .int), (cy_43, .int), (cy_44, .int), (cy_45, .byte)] s := hK
  have hP : va_P (dC, dI) vwCl [(q_2, .inl (cy_5, 6000, .inl (fun _ => 0))), (q_3, .inr (9, [.ref q_6, .ref q_7, .ref q_8, .int 0, .null, .int 0, .int 0, .int 0, .ref q_9, .ref q_10, .ref q_11, .ref q_12, .int 0])), (q_6, .inl (cy_13, 6001, .inl (fun _ => 0))), (q_7, .inl (cy_14, 6001, .inl (fun _ => 0))), (q_8, .inl (cy_15, 6001, .inl (fun _ => 0))), (q_9, .inl (cy_16, 256, .inl (fun _ => 0))), (q_10, .inl (cy_17, 3001, .inl (fun _ => 0))), (q_11, .inl (cy_18, 3001, .inl (fun _ => 0))), (q_12, .inl (cy_19, 3001, .inl (fun _ => 0))), (q_38, .inr (14, [.null, .null, .null, .null, .null, .int 0])), (q_31, .inl (cy_39, 6000, .inl (fun _ => 0))), (q_35, .inl (cy_40, 6002, .inl (fun _ => 0))), (q_36, .inl (cy_41, 6002, .inl (fun _ => 0))), (q_37, .inl (cy_42, 6002, .inl (fun _ => 0))), (q_33, .inl (cy_43, 6000, .inl (fun _ => 0))), (q_34, .inl (cy_44, 6000, .inl (fun _ => 0))), (q_32, .inl (cy_45, 6600, .inl (fun _ => 0)))] H := hP
  have hD : va_D A [(q_2, .inl (cy_5, 6000, .inl (fun _ => 0))), (q_3, .inr (9, [.ref q_6, .ref q_7, .ref q_8, .int 0, .null, .int 0, .int 0, .int 0, .ref q_9, .ref q_10, .ref q_11, .ref q_12, .int 0])), (q_6, .inl (cy_13, 6001, .inl (fun _ => 0))), (q_7, .inl (cy_14, 6001, .inl (fun _ => 0))), (q_8, .inl (cy_15, 6001, .inl (fun _ => 0))), (q_9, .inl (cy_16, 256, .inl (fun _ => 0))), (q_10, .inl (cy_17, 3001, .inl (fun _ => 0))), (q_11, .inl (cy_18, 3001, .inl (fun _ => 0))), (q_12, .inl (cy_19, 3001, .inl (fun _ => 0))), (q_38, .inr (14, [.null, .null, .null, .null, .null, .int 0])), (q_31, .inl (cy_39, 6000, .inl (fun _ => 0))), (q_35, .inl (cy_40, 6002, .inl (fun _ => 0))), (q_36, .inl (cy_41, 6002, .inl (fun _ => 0))), (q_37, .inl (cy_42, 6002, .inl (fun _ => 0))), (q_33, .inl (cy_43, 6000, .inl (fun _ => 0))), (q_34, .inl (cy_44, 6000, .inl (fun _ => 0))), (q_32, .inl (cy_45, 6600, .inl (fun _ => 0)))] := hD
  refine W.widen (k := 100) (n := 719914) (Nat.le_of_ble_eq_true rfl) (Nat.le_of_ble_eq_true rfl) ?_
  obtain rfl : r9 = 0 := hw
  refine lv_icmp_eq (tgt := 665) hx hb dL_law_247 (by decide) (fun c9 => ?_) (fun c9 => absurd (by decide) c9)
  refine lv_iinc (v := 6) (lv' := [(4, .int 6), (3, .ref q_58), (2, .ref q_29), (1, .ref q_1), (0, .ref b)]) hx hb dL_law_665 hl (k := 0) rfl (by decide) (by decide) rfl (fun ls hl => ?_)
  refine lv_goto (tgt := 23) hx hb dL_law_668 (by decide) ?_
  refine lv_iload hx hb dL_law_23 (lv_at hl 0 rfl) ?_
  refine lv_aload_n hx hb dL_law_25 rfl (lv_at hl 4 rfl) ?_
  refine va_slen hx hb hX hbl hbA hS dL_law_26 ?_
  refine lv_topi (fun y9 e9 => ?_)
  have e9 : y9 = 6 := e9
  subst e9
  refine lv_bipush (v := 6) hx hb dL_law_27 (by decide) ?_
  refine lv_isub hx hb dL_law_29 ?_
  refine lv_topi (fun y9 e9 => ?_)
  have e9 : y9 = 0 := by rw [e9]; decide
  subst e9
  refine lv_icmp_gt (tgt := 671) hx hb dL_law_30 (by decide) (fun c9 => ?_) (fun c9 => absurd (by decide) c9)
  clear c9
  refine lv_iconst (v := 1) hx hb dL_law_671 (by decide) ?_
  refine va_forget (fun q hq => hAA q.base (hS.2.2 q hq)) ?_
  refine W.widen (k := 600002) (n := 7302232) (Nat.le_of_ble_eq_true rfl) (Nat.le_of_ble_eq_true rfl) ?_
  exact lw_ret hx hb hr hlocks dL_law_672
set_option maxHeartbeats 4000000 in
set_option maxRecDepth 100000 in
theorem law_count_1 {p : Program} {e : Env} {s : State} {m : MethodId} {below : List Frame} {meth : Method} {c : Code} (l : Launch) (hfl : l.flags = flags0) {b : Nat} {xs : Nat → Int32} (C0 : lw_At p s m meth c b 6 xs) (dC : Nat → ClassId) (dI : Nat → Nat → Nat) (A : Nat → Prop) (hA : ∀ q : Nat, s.heap.size ≤ q → A q) (hAa : ∀ q : Nat, q < s.heap.size → ¬ A q) (hAA : ∀ q : Nat, A q → s.heap.size ≤ q) (q_1 : Nat) (q_2 : Nat) (q_3 : Nat) (q_4 : Nat) (cy_5 : ClassId) (q_6 : Nat) (q_7 : Nat) (q_8 : Nat) (q_9 : Nat) (q_10 : Nat) (q_11 : Nat) (q_12 : Nat) (cy_13 : ClassId) (cy_14 : ClassId) (cy_15 : ClassId) (cy_16 : ClassId) (cy_17 : ClassId) (cy_18 : ClassId) (cy_19 : ClassId) (q_20 : Nat) (q_21 : Nat) (q_22 : Nat) (q_23 : Nat) (q_24 : Nat) (q_25 : Nat) (q_26 : Nat) (q_27 : Nat) (q_28 : Nat) (q_29 : Nat) (F_30 : Nat → Value) (q_31 : Nat) (q_32 : Nat) (q_33 : Nat) (q_34 : Nat) (q_35 : Nat) (q_36 : Nat) (q_37 : Nat) (q_38 : Nat) (cy_39 : ClassId) (cy_40 : ClassId) (cy_41 : ClassId) (cy_42 : ClassId) (cy_43 : ClassId) (cy_44 : ClassId) (cy_45 : ClassId) (q_58 : Nat) (hq0 : F_30 0 = .int 0) (hq1 : F_30 1 = .ref q_38) (hq2 : F_30 2 = .ref q_31) (hq3 : F_30 3 = .int 0) (hq9 : F_30 9 = .ref q_35) (hq10 : F_30 10 = .ref q_36) (hq11 : F_30 11 = .ref q_37) (hq13 : F_30 13 = .ref q_33) (hq14 : F_30 14 = .ref q_34) (hq15 : F_30 15 = .ref q_32) (hq98 : F_30 98 = .int 0) (hq100 : F_30 100 = .int 0) (hcnt : xs 1 = 1) (H : Heap) (locs : List Loc) (ls : Array Slot) (hK : va_K (dC, dI) vwCl [(cy_5, .byte), (cy_13, .int), (cy_14, .int), (cy_15, .int), (cy_16, .int), (cy_17, .int), (cy_18, .int), (cy_19, .int), (cy_39, .byte), (cy_40, .int), (cy_41, .int), (cy_42, .int), (cy_43, .int), (cy_44, .int), (cy_45, .byte)] s) (hP : va_P (dC, dI) vwCl [(q_1, .inr (13, [.ref q_2, .int 0, .ref q_3, .ref q_4, .null])), (q_2, .inl (cy_5, 6000, .inl (fun _ => 0))), (q_3, .inr (9, [.ref q_6, .ref q_7, .ref q_8, .int 0, .null, .int 0, .int 0, .int 0, .ref q_9, .ref q_10, .ref q_11, .ref q_12, .int 0])), (q_6, .inl (cy_13, 6001, .inl (fun _ => 0))), (q_7, .inl (cy_14, 6001, .inl (fun _ => 0))), (q_8, .inl (cy_15, 6001, .inl (fun _ => 0))), (q_9, .inl (cy_16, 256, .inl (fun _ => 0))), (q_10, .inl (cy_17, 3001, .inl (fun _ => 0))), (q_11, .inl (cy_18, 3001, .inl (fun _ => 0))), (q_12, .inl (cy_19, 3001, .inl (fun _ => 0))), (q_4, .inr (4, [.null, .ref q_20, .ref q_21, .ref q_22, .ref q_23, .ref q_24, .int 0, .ref q_25, .int 0, .int 0, .int 0, .ref q_26, .int 0, .ref q_27, .int 0, .ref q_28, .null, .int 0, .int 0])), (q_29, .inr (15, fl 134 F_30)), (q_38, .inr (14, [.null, .null, .null, .null, .null, .int 0])), (q_31, .inl (cy_39, 6000, .inl (fun _ => 0))), (q_35, .inl (cy_40, 6002, .inl (fun _ => 0))), (q_36, .inl (cy_41, 6002, .inl (fun _ => 0))), (q_37, .inl (cy_42, 6002, .inl (fun _ => 0))), (q_33, .inl (cy_43, 6000, .inl (fun _ => 0))), (q_34, .inl (cy_44, 6000, .inl (fun _ => 0))), (q_32, .inl (cy_45, 6600, .inl (fun _ => 0)))] H) (hD : va_D A [(q_1, .inr (13, [.ref q_2, .int 0, .ref q_3, .ref q_4, .null])), (q_2, .inl (cy_5, 6000, .inl (fun _ => 0))), (q_3, .inr (9, [.ref q_6, .ref q_7, .ref q_8, .int 0, .null, .int 0, .int 0, .int 0, .ref q_9, .ref q_10, .ref q_11, .ref q_12, .int 0])), (q_6, .inl (cy_13, 6001, .inl (fun _ => 0))), (q_7, .inl (cy_14, 6001, .inl (fun _ => 0))), (q_8, .inl (cy_15, 6001, .inl (fun _ => 0))), (q_9, .inl (cy_16, 256, .inl (fun _ => 0))), (q_10, .inl (cy_17, 3001, .inl (fun _ => 0))), (q_11, .inl (cy_18, 3001, .inl (fun _ => 0))), (q_12, .inl (cy_19, 3001, .inl (fun _ => 0))), (q_4, .inr (4, [.null, .ref q_20, .ref q_21, .ref q_22, .ref q_23, .ref q_24, .int 0, .ref q_25, .int 0, .int 0, .int 0, .ref q_26, .int 0, .ref q_27, .int 0, .ref q_28, .null, .int 0, .int 0])), (q_29, .inr (15, fl 134 F_30)), (q_38, .inr (14, [.null, .null, .null, .null, .null, .int 0])), (q_31, .inl (cy_39, 6000, .inl (fun _ => 0))), (q_35, .inl (cy_40, 6002, .inl (fun _ => 0))), (q_36, .inl (cy_41, 6002, .inl (fun _ => 0))), (q_37, .inl (cy_42, 6002, .inl (fun _ => 0))), (q_33, .inl (cy_43, 6000, .inl (fun _ => 0))), (q_34, .inl (cy_44, 6000, .inl (fun _ => 0))), (q_32, .inl (cy_45, 6600, .inl (fun _ => 0)))]) (hS : va_S A s.heap H locs) (hl : lv_has ls 7 [(4, .int 0), (3, .ref q_58), (2, .ref q_29), (1, .ref q_1), (0, .ref b)]) : W p l e room_1 s m #[Value.ref b] below meth c H locs 100 719914 (lw_Z below #[Value.ref b] s) (F0 m 227 ls []) := by
  obtain ⟨hx, hb, hr, hml, hown, htsT, hX, hbl, hlocks, hgv⟩ := id C0
  have hown : s.vm.findClass RL = some m.cls := hown
  have hts : ∀ w ∈ ws_law, w.before #[Value.ref b] s = true := fun w h => htsT w (in_law w h)
  have hg := flat_of_before _ hgv
  have hbA : ¬ A b := hAa b hbl
  have hflags : l.stackTraces = false := by unfold Launch.stackTraces; rw [hfl]; decide
  refine lv_aload_n hx hb dL_law_227 rfl (lv_at hl 3 rfl) ?_
  refine lv_aload_n hx hb dL_law_228 rfl (lv_at hl 4 rfl) ?_
  refine lv_iload hx hb dL_law_229 (lv_at hl 0 rfl) ?_
  refine lv_iconst (v := 1) hx hb dL_law_231 (by decide) ?_
  refine lv_iadd hx hb dL_law_232 ?_
  refine lv_topi (fun y9 e9 => ?_)
  have e9 : y9 = 1 := by rw [e9]; decide
  subst e9
  refine va_sld hx hb hX hbl hbA hS (i := 1) (by unfold vp_in; decide) dL_law_233 ?_
  refine lv_topi (fun x_1001 ex_1001 => ?_)
  have ex_1001 : x_1001 = xs 1 := ex_1001
  have ex_1001 : x_1001 = 1 := ex_1001.trans hcnt
  subst ex_1001
  have hPc := hP.sub (ws' := [(q_1, .inr (13, [.ref q_2, .int 0, .ref q_3, .ref q_4, .null])), (q_4, .inr (4, [.null, .ref q_20, .ref q_21, .ref q_22, .ref q_23, .ref q_24, .int 0, .ref q_25, .int 0, .int 0, .int 0, .ref q_26, .int 0, .ref q_27, .int 0, .ref q_28, .null, .int 0, .int 0]))]) [0, 10] rfl
  have hDc := hD.sub (ws' := [(q_1, .inr (13, [.ref q_2, .int 0, .ref q_3, .ref q_4, .null])), (q_4, .inr (4, [.null, .ref q_20, .ref q_21, .ref q_22, .ref q_23, .ref q_24, .int 0, .ref q_25, .int 0, .int 0, .int 0, .ref q_26, .int 0, .ref q_27, .int 0, .ref q_28, .null, .int 0, .int 0]))]) [0, 10] (by decide) rfl
  have hKc := hK.sub (tys' := []) [] rfl
  have hFc := va_free (wc := [(q_1, .inr (13, [.ref q_2, .int 0, .ref q_3, .ref q_4, .null])), (q_4, .inr (4, [.null, .ref q_20, .ref q_21, .ref q_22, .ref q_23, .ref q_24, .int 0, .ref q_25, .int 0, .int 0, .int 0, .ref q_26, .int 0, .ref q_27, .int 0, .ref q_28, .null, .int 0, .int 0]))]) hD hS hA [0, 10] rfl
  refine va_calli (va_runV (As := [.int 1]) (rest := []) ⟨hx, hb, hml, hown, hts⟩ (cc_count l dC dI q_1 q_2 q_3 q_4 q_20 q_21 q_22 q_23 q_24 q_25 q_26 q_27 q_28 1 H.size) (cwV 1 hts gl_cc_count_39 rfl rfl rfl (by decide +kernel) ⟨(Nat.le_of_ble_eq_true rfl), (Nat.le_of_ble_eq_true rfl)⟩) ⟨fun a U g mk q => by obtain ⟨q0, q1, qP, qK, qD⟩ := q; exact ⟨q0, q1, qP, va_K.moved (u := U) (U := U.calling g mk a) (Vm.Alike.refl U.vm) qK, qD⟩, va_recv hKc hPc (ci := 13) (q0 := 0) rfl rfl, fun U hU hW => ⟨rfl, by rw [hU], by rw [hU]; exact hPc, va_K.moved hW.alike hKc, hDc.weaken (fun _ _ _ _ => trivial)⟩⟩ rfl rfl hl.1 rfl (lv_room (Nat.le_of_ble_eq_true rfl)) dL_law_234 ⟨(Nat.le_of_ble_eq_true rfl), (Nat.le_of_ble_eq_true rfl)⟩) hS (fun q _ h => hFc q h) hFc (fun r9 u t H1 locs ht hvm hw hB hz1 hk1 hS => ?_)
  obtain ⟨hP1, hK1, hD1⟩ := hB
  rw [ht] at hP1
  have hK1 := va_K.moved hvm.symm hK1
  obtain ⟨hP, hD⟩ := va_join (wr := [(q_2, .inl (cy_5, 6000, .inl (fun _ => 0))), (q_3, .inr (9, [.ref q_6, .ref q_7, .ref q_8, .int 0, .null, .int 0, .int 0, .int 0, .ref q_9, .ref q_10, .ref q_11, .ref q_12, .int 0])), (q_6, .inl (cy_13, 6001, .inl (fun _ => 0))), (q_7, .inl (cy_14, 6001, .inl (fun _ => 0))), (q_8, .inl (cy_15, 6001, .inl (fun _ => 0))), (q_9, .inl (cy_16, 256, .inl (fun _ => 0))), (q_10, .inl (cy_17, 3001, .inl (fun _ => 0))), (q_11, .inl (cy_18, 3001, .inl (fun _ => 0))), (q_12, .inl (cy_19, 3001, .inl (fun _ => 0))), (q_29, .inr (15, fl 134 F_30)), (q_38, .inr (14, [.null, .null, .null, .null, .null, .int 0])), (q_31, .inl (cy_39, 6000, .inl (fun _ => 0))), (q_35, .inl (cy_40, 6002, .inl (fun _ => 0))), (q_36, .inl (cy_41, 6002, .inl (fun _ => 0))), (q_37, .inl (cy_42, 6002, .inl (fun _ => 0))), (q_33, .inl (cy_43, 6000, .inl (fun _ => 0))), (q_34, .inl (cy_44, 6000, .inl (fun _ => 0))), (q_32, .inl (cy_45, 6600, .inl (fun _ => 0)))]) (w1 := []) hP hD [0, 10] [1, 2, 3, 4, 5, 6, 7, 8, 9, 11, 12, 13, 14, 15, 16, 17, 18, 19] rfl rfl (by decide) (by decide) hk1 hFc hP1 hD1
  have hK := (hK.sub (tys' := [(cy_5, .byte), (cy_13, .int), (cy_14, .int), (cy_15, .int), (cy_16, .int), (cy_17, .int), (cy_18, .int), (cy_19, .int), (cy_39, .byte), (cy_40, .int), (cy_41, .int), (cy_42, .int), (cy_43, .int), (cy_44, .int), (cy_45, .byte)]) [0, 1, 2, 3, 4, 5, 6, 7, 8, 9, 10, 11, 12, 13, 14] rfl).app hK1
  generalize H1 = H at hP hS ⊢
  have hK : va_K (dC, dI) vwCl [(cy_5, .byte), (cy_13, .int), (cy_14, .int), (cy_15, .int), (cy_16, .int), (cy_17, .int), (cy_18, .int), (cy_19, .int), (cy_39, .byte), (cy_40, .int), (cy_41, .int), (cy_42, .int), (cy_43, .int), (cy_44, .int), (cy_45, .byte)] s := hK
  have hP : va_P (dC, dI) vwCl [(q_2, .inl (cy_5, 6000, .inl (fun _ => 0))), (q_3, .inr (9, [.ref q_6, .ref q_7, .ref q_8, .int 0, .null, .int 0, .int 0, .int 0, .ref q_9, .ref q_10, .ref q_11, .ref q_12, .int 0])), (q_6, .inl (cy_13, 6001, .inl (fun _ => 0))), (q_7, .inl (cy_14, 6001, .inl (fun _ => 0))), (q_8, .inl (cy_15, 6001, .inl (fun _ => 0))), (q_9, .inl (cy_16, 256, .inl (fun _ => 0))), (q_10, .inl (cy_17, 3001, .inl (fun _ => 0))), (q_11, .inl (cy_18, 3001, .inl (fun _ => 0))), (q_12, .inl (cy_19, 3001, .inl (fun _ => 0))), (q_29, .inr (15, fl 134 F_30)), (q_38, .inr (14, [.null, .null, .null, .null, .null, .int 0])), (q_31, .inl (cy_39, 6000, .inl (fun _ => 0))), (q_35, .inl (cy_40, 6002, .inl (fun _ => 0))), (q_36, .inl (cy_41, 6002, .inl (fun _ => 0))), (q_37, .inl (cy_42, 6002, .inl (fun _ => 0))), (q_33, .inl (cy_43, 6000, .inl (fun _ => 0))), (q_34, .inl (cy_44, 6000, .inl (fun _ => 0))), (q_32, .inl (cy_45, 6600, .inl (fun _ => 0)))] H := hP
  have hD : va_D A [(q_2, .inl (cy_5, 6000, .inl (fun _ => 0))), (q_3, .inr (9, [.ref q_6, .ref q_7, .ref q_8, .int 0, .null, .int 0, .int 0, .int 0, .ref q_9, .ref q_10, .ref q_11, .ref q_12, .int 0])), (q_6, .inl (cy_13, 6001, .inl (fun _ => 0))), (q_7, .inl (cy_14, 6001, .inl (fun _ => 0))), (q_8, .inl (cy_15, 6001, .inl (fun _ => 0))), (q_9, .inl (cy_16, 256, .inl (fun _ => 0))), (q_10, .inl (cy_17, 3001, .inl (fun _ => 0))), (q_11, .inl (cy_18, 3001, .inl (fun _ => 0))), (q_12, .inl (cy_19, 3001, .inl (fun _ => 0))), (q_29, .inr (15, fl 134 F_30)), (q_38, .inr (14, [.null, .null, .null, .null, .null, .int 0])), (q_31, .inl (cy_39, 6000, .inl (fun _ => 0))), (q_35, .inl (cy_40, 6002, .inl (fun _ => 0))), (q_36, .inl (cy_41, 6002, .inl (fun _ => 0))), (q_37, .inl (cy_42, 6002, .inl (fun _ => 0))), (q_33, .inl (cy_43, 6000, .inl (fun _ => 0))), (q_34, .inl (cy_44, 6000, .inl (fun _ => 0))), (q_32, .inl (cy_45, 6600, .inl (fun _ => 0)))] := hD
  refine W.widen (k := 100) (n := 719914) (Nat.le_of_ble_eq_true rfl) (Nat.le_of_ble_eq_true rfl) ?_
  obtain rfl : r9 = (cntS 1) := hw
  refine lv_aload_n hx hb dL_law_237 rfl (lv_at hl 2 rfl) ?_
  refine lv_aload_n hx hb dL_law_238 rfl (lv_at hl 4 rfl) ?_
  refine lv_iload hx hb dL_law_239 (lv_at hl 0 rfl) ?_
  refine lv_iconst (v := 1) hx hb dL_law_241 (by decide) ?_
  refine lv_iadd hx hb dL_law_242 ?_
  refine lv_topi (fun y9 e9 => ?_)
  have e9 : y9 = 1 := by rw [e9]; decide
  subst e9
  refine va_sld hx hb hX hbl hbA hS (i := 1) (by unfold vp_in; decide) dL_law_243 ?_
  refine lv_topi (fun x_1002 ex_1002 => ?_)
  have ex_1002 : x_1002 = xs 1 := ex_1002
  have ex_1002 : x_1002 = 1 := ex_1002.trans hcnt
  subst ex_1002
  have hPc := hP.sub (ws' := [(q_29, .inr (15, fl 134 F_30))]) [9] rfl
  have hDc := hD.sub (ws' := [(q_29, .inr (15, fl 134 F_30))]) [9] (by decide) rfl
  have hKc := hK.sub (tys' := []) [] rfl
  have hFc := va_free (wc := [(q_29, .inr (15, fl 134 F_30))]) hD hS hA [9] rfl
  refine va_calli (va_runV (As := [.int 1]) (rest := [.int (cntS 1)]) ⟨hx, hb, hml, hown, hts⟩ (cm_count_1 l dC dI q_29 F_30 H.size hq3 hq98 hq100) (cwV 1 hts gl_cm_count_1_42 rfl rfl rfl (by decide +kernel) ⟨(Nat.le_of_ble_eq_true rfl), (Nat.le_of_ble_eq_true rfl)⟩) ⟨fun a U g mk q => by obtain ⟨q0, q1, qP, qK, qD⟩ := q; exact ⟨q0, q1, qP, va_K.moved (u := U) (U := U.calling g mk a) (Vm.Alike.refl U.vm) qK, qD⟩, va_recv hKc hPc (ci := 15) (q0 := 0) rfl rfl, fun U hU hW => ⟨rfl, by rw [hU], by rw [hU]; exact hPc, va_K.moved hW.alike hKc, hDc.weaken (fun _ _ _ _ => trivial)⟩⟩ rfl rfl hl.1 rfl (lv_room (Nat.le_of_ble_eq_true rfl)) dL_law_244 ⟨(Nat.le_of_ble_eq_true rfl), (Nat.le_of_ble_eq_true rfl)⟩) hS (fun q _ h => hFc q h) hFc (fun r9 u t H1 locs ht hvm hw hB hz1 hk1 hS => ?_)
  obtain ⟨hP1, hK1, hD1⟩ := hB
  rw [ht] at hP1
  have hK1 := va_K.moved hvm.symm hK1
  obtain ⟨hP, hD⟩ := va_join (wr := [(q_2, .inl (cy_5, 6000, .inl (fun _ => 0))), (q_3, .inr (9, [.ref q_6, .ref q_7, .ref q_8, .int 0, .null, .int 0, .int 0, .int 0, .ref q_9, .ref q_10, .ref q_11, .ref q_12, .int 0])), (q_6, .inl (cy_13, 6001, .inl (fun _ => 0))), (q_7, .inl (cy_14, 6001, .inl (fun _ => 0))), (q_8, .inl (cy_15, 6001, .inl (fun _ => 0))), (q_9, .inl (cy_16, 256, .inl (fun _ => 0))), (q_10, .inl (cy_17, 3001, .inl (fun _ => 0))), (q_11, .inl (cy_18, 3001, .inl (fun _ => 0))), (q_12, .inl (cy_19, 3001, .inl (fun _ => 0))), (q_38, .inr (14, [.null, .null, .null, .null, .null, .int 0])), (q_31, .inl (cy_39, 6000, .inl (fun _ => 0))), (q_35, .inl (cy_40, 6002, .inl (fun _ => 0))), (q_36, .inl (cy_41, 6002, .inl (fun _ => 0))), (q_37, .inl (cy_42, 6002, .inl (fun _ => 0))), (q_33, .inl (cy_43, 6000, .inl (fun _ => 0))), (q_34, .inl (cy_44, 6000, .inl (fun _ => 0))), (q_32, .inl (cy_45, 6600, .inl (fun _ => 0)))]) (w1 := []) hP hD [9] [0, 1, 2, 3, 4, 5, 6, 7, 8, 10, 11, 12, 13, 14, 15, 16, 17] rfl rfl (by decide) (by decide) hk1 hFc hP1 hD1
  have hK := (hK.sub (tys' := [(cy_5, .byte), (cy_13, .int), (cy_14, .int), (cy_15, .int), (cy_16, .int), (cy_17, .int), (cy_18, .int), (cy_19, .int), (cy_39, .byte), (cy_40, .int), (cy_41, .int), (cy_42, .int), (cy_43, .int), (cy_44, .int), (cy_45, .byte)]) [0, 1, 2, 3, 4, 5, 6, 7, 8, 9, 10, 11, 12, 13, 14] rfl).app hK1
  generalize H1 = H at hP hS ⊢
  have hK : va_K (dC, dI) vwCl [(cy_5, .byte), (cy_13, .int), (cy_14, .int), (cy_15, .int), (cy_16, .int), (cy_17, .int), (cy_18, .int), (cy_19, .int), (cy_39, .byte), (cy_40, .int), (cy_41, .int), (cy_42, .int), (cy_43, .int), (cy_44, .int), (cy_45, .byte)] s := hK
  have hP : va_P (dC, dI) vwCl [(q_2, .inl (cy_5, 6000, .inl (fun _ => 0))), (q_3, .inr (9, [.ref q_6, .ref q_7, .ref q_8, .int 0, .null, .int 0, .int 0, .int 0, .ref q_9, .ref q_10, .ref q_11, .ref q_12, .int 0])), (q_6, .inl (cy_13, 6001, .inl (fun _ => 0))), (q_7, .inl (cy_14, 6001, .inl (fun _ => 0))), (q_8, .inl (cy_15, 6001, .inl (fun _ => 0))), (q_9, .inl (cy_16, 256, .inl (fun _ => 0))), (q_10, .inl (cy_17, 3001, .inl (fun _ => 0))), (q_11, .inl (cy_18, 3001, .inl (fun _ => 0))), (q_12, .inl (cy_19, 3001, .inl (fun _ => 0))), (q_38, .inr (14, [.null, .null, .null, .null, .null, .int 0])), (q_31, .inl (cy_39, 6000, .inl (fun _ => 0))), (q_35, .inl (cy_40, 6002, .inl (fun _ => 0))), (q_36, .inl (cy_41, 6002, .inl (fun _ => 0))), (q_37, .inl (cy_42, 6002, .inl (fun _ => 0))), (q_33, .inl (cy_43, 6000, .inl (fun _ => 0))), (q_34, .inl (cy_44, 6000, .inl (fun _ => 0))), (q_32, .inl (cy_45, 6600, .inl (fun _ => 0)))] H := hP
  have hD : va_D A [(q_2, .inl (cy_5, 6000, .inl (fun _ => 0))), (q_3, .inr (9, [.ref q_6, .ref q_7, .ref q_8, .int 0, .null, .int 0, .int 0, .int 0, .ref q_9, .ref q_10, .ref q_11, .ref q_12, .int 0])), (q_6, .inl (cy_13, 6001, .inl (fun _ => 0))), (q_7, .inl (cy_14, 6001, .inl (fun _ => 0))), (q_8, .inl (cy_15, 6001, .inl (fun _ => 0))), (q_9, .inl (cy_16, 256, .inl (fun _ => 0))), (q_10, .inl (cy_17, 3001, .inl (fun _ => 0))), (q_11, .inl (cy_18, 3001, .inl (fun _ => 0))), (q_12, .inl (cy_19, 3001, .inl (fun _ => 0))), (q_38, .inr (14, [.null, .null, .null, .null, .null, .int 0])), (q_31, .inl (cy_39, 6000, .inl (fun _ => 0))), (q_35, .inl (cy_40, 6002, .inl (fun _ => 0))), (q_36, .inl (cy_41, 6002, .inl (fun _ => 0))), (q_37, .inl (cy_42, 6002, .inl (fun _ => 0))), (q_33, .inl (cy_43, 6000, .inl (fun _ => 0))), (q_34, .inl (cy_44, 6000, .inl (fun _ => 0))), (q_32, .inl (cy_45, 6600, .inl (fun _ => 0)))] := hD
  refine W.widen (k := 100) (n := 719914) (Nat.le_of_ble_eq_true rfl) (Nat.le_of_ble_eq_true rfl) ?_
  obtain rfl : r9 = 0 := hw
  refine lv_icmp_eq (tgt := 665) hx hb dL_law_247 (by decide) (fun c9 => ?_) (fun c9 => absurd (by decide) c9)
  refine lv_iinc (v := 6) (lv' := [(4, .int 6), (3, .ref q_58), (2, .ref q_29), (1, .ref q_1), (0, .ref b)]) hx hb dL_law_665 hl (k := 0) rfl (by decide) (by decide) rfl (fun ls hl => ?_)
  refine lv_goto (tgt := 23) hx hb dL_law_668 (by decide) ?_
  refine lv_iload hx hb dL_law_23 (lv_at hl 0 rfl) ?_
  refine lv_aload_n hx hb dL_law_25 rfl (lv_at hl 4 rfl) ?_
  refine va_slen hx hb hX hbl hbA hS dL_law_26 ?_
  refine lv_topi (fun y9 e9 => ?_)
  have e9 : y9 = 6 := e9
  subst e9
  refine lv_bipush (v := 6) hx hb dL_law_27 (by decide) ?_
  refine lv_isub hx hb dL_law_29 ?_
  refine lv_topi (fun y9 e9 => ?_)
  have e9 : y9 = 0 := by rw [e9]; decide
  subst e9
  refine lv_icmp_gt (tgt := 671) hx hb dL_law_30 (by decide) (fun c9 => ?_) (fun c9 => absurd (by decide) c9)
  clear c9
  refine lv_iconst (v := 1) hx hb dL_law_671 (by decide) ?_
  refine va_forget (fun q hq => hAA q.base (hS.2.2 q hq)) ?_
  refine W.widen (k := 600002) (n := 7302232) (Nat.le_of_ble_eq_true rfl) (Nat.le_of_ble_eq_true rfl) ?_
  exact lw_ret hx hb hr hlocks dL_law_672
set_option maxHeartbeats 4000000 in
set_option maxRecDepth 100000 in
theorem law_count_2 {p : Program} {e : Env} {s : State} {m : MethodId} {below : List Frame} {meth : Method} {c : Code} (l : Launch) (hfl : l.flags = flags0) {b : Nat} {xs : Nat → Int32} (C0 : lw_At p s m meth c b 6 xs) (dC : Nat → ClassId) (dI : Nat → Nat → Nat) (A : Nat → Prop) (hA : ∀ q : Nat, s.heap.size ≤ q → A q) (hAa : ∀ q : Nat, q < s.heap.size → ¬ A q) (hAA : ∀ q : Nat, A q → s.heap.size ≤ q) (q_1 : Nat) (q_2 : Nat) (q_3 : Nat) (q_4 : Nat) (cy_5 : ClassId) (q_6 : Nat) (q_7 : Nat) (q_8 : Nat) (q_9 : Nat) (q_10 : Nat) (q_11 : Nat) (q_12 : Nat) (cy_13 : ClassId) (cy_14 : ClassId) (cy_15 : ClassId) (cy_16 : ClassId) (cy_17 : ClassId) (cy_18 : ClassId) (cy_19 : ClassId) (q_20 : Nat) (q_21 : Nat) (q_22 : Nat) (q_23 : Nat) (q_24 : Nat) (q_25 : Nat) (q_26 : Nat) (q_27 : Nat) (q_28 : Nat) (q_29 : Nat) (F_30 : Nat → Value) (q_31 : Nat) (q_32 : Nat) (q_33 : Nat) (q_34 : Nat) (q_35 : Nat) (q_36 : Nat) (q_37 : Nat) (q_38 : Nat) (cy_39 : ClassId) (cy_40 : ClassId) (cy_41 : ClassId) (cy_42 : ClassId) (cy_43 : ClassId) (cy_44 : ClassId) (cy_45 : ClassId) (q_58 : Nat) (hq0 : F_30 0 = .int 0) (hq1 : F_30 1 = .ref q_38) (hq2 : F_30 2 = .ref q_31) (hq3 : F_30 3 = .int 0) (hq9 : F_30 9 = .ref q_35) (hq10 : F_30 10 = .ref q_36) (hq11 : F_30 11 = .ref q_37) (hq13 : F_30 13 = .ref q_33) (hq14 : F_30 14 = .ref q_34) (hq15 : F_30 15 = .ref q_32) (hq98 : F_30 98 = .int 0) (hq100 : F_30 100 = .int 0) (hcnt : xs 1 = 2) (H : Heap) (locs : List Loc) (ls : Array Slot) (hK : va_K (dC, dI) vwCl [(cy_5, .byte), (cy_13, .int), (cy_14, .int), (cy_15, .int), (cy_16, .int), (cy_17, .int), (cy_18, .int), (cy_19, .int), (cy_39, .byte), (cy_40, .int), (cy_41, .int), (cy_42, .int), (cy_43, .int), (cy_44, .int), (cy_45, .byte)] s) (hP : va_P (dC, dI) vwCl [(q_1, .inr (13, [.ref q_2, .int 0, .ref q_3, .ref q_4, .null])), (q_2, .inl (cy_5, 6000, .inl (fun _ => 0))), (q_3, .inr (9, [.ref q_6, .ref q_7, .ref q_8, .int 0, .null, .int 0, .int 0, .int 0, .ref q_9, .ref q_10, .ref q_11, .ref q_12, .int 0])), (q_6, .inl (cy_13, 6001, .inl (fun _ => 0))), (q_7, .inl (cy_14, 6001, .inl (fun _ => 0))), (q_8, .inl (cy_15, 6001, .inl (fun _ => 0))), (q_9, .inl (cy_16, 256, .inl (fun _ => 0))), (q_10, .inl (cy_17, 3001, .inl (fun _ => 0))), (q_11, .inl (cy_18, 3001, .inl (fun _ => 0))), (q_12, .inl (cy_19, 3001, .inl (fun _ => 0))), (q_4, .inr (4, [.null, .ref q_20, .ref q_21, .ref q_22, .ref q_23, .ref q_24, .int 0, .ref q_25, .int 0, .int 0, .int 0, .ref q_26, .int 0, .ref q_27, .int 0, .ref q_28, .null, .int 0, .int 0])), (q_29, .inr (15, fl 134 F_30)), (q_38, .inr (14, [.null, .null, .null, .null, .null, .int 0])), (q_31, .inl (cy_39, 6000, .inl (fun _ => 0))), (q_35, .inl (cy_40, 6002, .inl (fun _ => 0))), (q_36, .inl (cy_41, 6002, .inl (fun _ => 0))), (q_37, .inl (cy_42, 6002, .inl (fun _ => 0))), (q_33, .inl (cy_43, 6000, .inl (fun _ => 0))), (q_34, .inl (cy_44, 6000, .inl (fun _ => 0))), (q_32, .inl (cy_45, 6600, .inl (fun _ => 0)))] H) (hD : va_D A [(q_1, .inr (13, [.ref q_2, .int 0, .ref q_3, .ref q_4, .null])), (q_2, .inl (cy_5, 6000, .inl (fun _ => 0))), (q_3, .inr (9, [.ref q_6, .ref q_7, .ref q_8, .int 0, .null, .int 0, .int 0, .int 0, .ref q_9, .ref q_10, .ref q_11, .ref q_12, .int 0])), (q_6, .inl (cy_13, 6001, .inl (fun _ => 0))), (q_7, .inl (cy_14, 6001, .inl (fun _ => 0))), (q_8, .inl (cy_15, 6001, .inl (fun _ => 0))), (q_9, .inl (cy_16, 256, .inl (fun _ => 0))), (q_10, .inl (cy_17, 3001, .inl (fun _ => 0))), (q_11, .inl (cy_18, 3001, .inl (fun _ => 0))), (q_12, .inl (cy_19, 3001, .inl (fun _ => 0))), (q_4, .inr (4, [.null, .ref q_20, .ref q_21, .ref q_22, .ref q_23, .ref q_24, .int 0, .ref q_25, .int 0, .int 0, .int 0, .ref q_26, .int 0, .ref q_27, .int 0, .ref q_28, .null, .int 0, .int 0])), (q_29, .inr (15, fl 134 F_30)), (q_38, .inr (14, [.null, .null, .null, .null, .null, .int 0])), (q_31, .inl (cy_39, 6000, .inl (fun _ => 0))), (q_35, .inl (cy_40, 6002, .inl (fun _ => 0))), (q_36, .inl (cy_41, 6002, .inl (fun _ => 0))), (q_37, .inl (cy_42, 6002, .inl (fun _ => 0))), (q_33, .inl (cy_43, 6000, .inl (fun _ => 0))), (q_34, .inl (cy_44, 6000, .inl (fun _ => 0))), (q_32, .inl (cy_45, 6600, .inl (fun _ => 0)))]) (hS : va_S A s.heap H locs) (hl : lv_has ls 7 [(4, .int 0), (3, .ref q_58), (2, .ref q_29), (1, .ref q_1), (0, .ref b)]) : W p l e room_1 s m #[Value.ref b] below meth c H locs 100 719914 (lw_Z below #[Value.ref b] s) (F0 m 227 ls []) := by
  obtain ⟨hx, hb, hr, hml, hown, htsT, hX, hbl, hlocks, hgv⟩ := id C0
  have hown : s.vm.findClass RL = some m.cls := hown
  have hts : ∀ w ∈ ws_law, w.before #[Value.ref b] s = true := fun w h => htsT w (in_law w h)
  have hg := flat_of_before _ hgv
  have hbA : ¬ A b := hAa b hbl
  have hflags : l.stackTraces = false := by unfold Launch.stackTraces; rw [hfl]; decide
  refine lv_aload_n hx hb dL_law_227 rfl (lv_at hl 3 rfl) ?_
  refine lv_aload_n hx hb dL_law_228 rfl (lv_at hl 4 rfl) ?_
  refine lv_iload hx hb dL_law_229 (lv_at hl 0 rfl) ?_
  refine lv_iconst (v := 1) hx hb dL_law_231 (by decide) ?_
  refine lv_iadd hx hb dL_law_232 ?_
  refine lv_topi (fun y9 e9 => ?_)
  have e9 : y9 = 1 := by rw [e9]; decide
  subst e9
  refine va_sld hx hb hX hbl hbA hS (i := 1) (by unfold vp_in; decide) dL_law_233 ?_
  refine lv_topi (fun x_1001 ex_1001 => ?_)
  have ex_1001 : x_1001 = xs 1 := ex_1001
  have ex_1001 : x_1001 = 2 := ex_1001.trans hcnt
  subst ex_1001
  have hPc := hP.sub (ws' := [(q_1, .inr (13, [.ref q_2, .int 0, .ref q_3, .ref q_4, .null])), (q_4, .inr (4, [.null, .ref q_20, .ref q_21, .ref q_22, .ref q_23, .ref q_24, .int 0, .ref q_25, .int 0, .int 0, .int 0, .ref q_26, .int 0, .ref q_27, .int 0, .ref q_28, .null, .int 0, .int 0]))]) [0, 10] rfl
  have hDc := hD.sub (ws' := [(q_1, .inr (13, [.ref q_2, .int 0, .ref q_3, .ref q_4, .null])), (q_4, .inr (4, [.null, .ref q_20, .ref q_21, .ref q_22, .ref q_23, .ref q_24, .int 0, .ref q_25, .int 0, .int 0, .int 0, .ref q_26, .int 0, .ref q_27, .int 0, .ref q_28, .null, .int 0, .int 0]))]) [0, 10] (by decide) rfl
  have hKc := hK.sub (tys' := []) [] rfl
  have hFc := va_free (wc := [(q_1, .inr (13, [.ref q_2, .int 0, .ref q_3, .ref q_4, .null])), (q_4, .inr (4, [.null, .ref q_20, .ref q_21, .ref q_22, .ref q_23, .ref q_24, .int 0, .ref q_25, .int 0, .int 0, .int 0, .ref q_26, .int 0, .ref q_27, .int 0, .ref q_28, .null, .int 0, .int 0]))]) hD hS hA [0, 10] rfl
  refine va_calli (va_runV (As := [.int 2]) (rest := []) ⟨hx, hb, hml, hown, hts⟩ (cc_count l dC dI q_1 q_2 q_3 q_4 q_20 q_21 q_22 q_23 q_24 q_25 q_26 q_27 q_28 2 H.size) (cwV 1 hts gl_cc_count_39 rfl rfl rfl (by decide +kernel) ⟨(Nat.le_of_ble_eq_true rfl), (Nat.le_of_ble_eq_true rfl)⟩) ⟨fun a U g mk q => by obtain ⟨q0, q1, qP, qK, qD⟩ := q; exact ⟨q0, q1, qP, va_K.moved (u := U) (U := U.calling g mk a) (Vm.Alike.refl U.vm) qK, qD⟩, va_recv hKc hPc (ci := 13) (q0 := 0) rfl rfl, fun U hU hW => ⟨rfl, by rw [hU], by rw [hU]; exact hPc, va_K.moved hW.alike hKc, hDc.weaken (fun _ _ _ _ => trivial)⟩⟩ rfl rfl hl.1 rfl (lv_room (Nat.le_of_ble_eq_true rfl)) dL_law_234 ⟨(Nat.le_of_ble_eq_true rfl), (Nat.le_of_ble_eq_true rfl)⟩) hS (fun q _ h => hFc q h) hFc (fun r9 u t H1 locs ht hvm hw hB hz1 hk1 hS => ?_)
  obtain ⟨hP1, hK1, hD1⟩ := hB
  rw [ht] at hP1
  have hK1 := va_K.moved hvm.symm hK1
  obtain ⟨hP, hD⟩ := va_join (wr := [(q_2, .inl (cy_5, 6000, .inl (fun _ => 0))), (q_3, .inr (9, [.ref q_6, .ref q_7, .ref q_8, .int 0, .null, .int 0, .int 0, .int 0, .ref q_9, .ref q_10, .ref q_11, .ref q_12, .int 0])), (q_6, .inl (cy_13, 6001, .inl (fun _ => 0))), (q_7, .inl (cy_14, 6001, .inl (fun _ => 0))), (q_8, .inl (cy_15, 6001, .inl (fun _ => 0))), (q_9, .inl (cy_16, 256, .inl (fun _ => 0))), (q_10, .inl (cy_17, 3001, .inl (fun _ => 0))), (q_11, .inl (cy_18, 3001, .inl (fun _ => 0))), (q_12, .inl (cy_19, 3001, .inl (fun _ => 0))), (q_29, .inr (15, fl 134 F_30)), (q_38, .inr (14, [.null, .null, .null, .null, .null, .int 0])), (q_31, .inl (cy_39, 6000, .inl (fun _ => 0))), (q_35, .inl (cy_40, 6002, .inl (fun _ => 0))), (q_36, .inl (cy_41, 6002, .inl (fun _ => 0))), (q_37, .inl (cy_42, 6002, .inl (fun _ => 0))), (q_33, .inl (cy_43, 6000, .inl (fun _ => 0))), (q_34, .inl (cy_44, 6000, .inl (fun _ => 0))), (q_32, .inl (cy_45, 6600, .inl (fun _ => 0)))]) (w1 := []) hP hD [0, 10] [1, 2, 3, 4, 5, 6, 7, 8, 9, 11, 12, 13, 14, 15, 16, 17, 18, 19] rfl rfl (by decide) (by decide) hk1 hFc hP1 hD1
  have hK := (hK.sub (tys' := [(cy_5, .byte), (cy_13, .int), (cy_14, .int), (cy_15, .int), (cy_16, .int), (cy_17, .int), (cy_18, .int), (cy_19, .int), (cy_39, .byte), (cy_40, .int), (cy_41, .int), (cy_42, .int), (cy_43, .int), (cy_44, .int), (cy_45, .byte)]) [0, 1, 2, 3, 4, 5, 6, 7, 8, 9, 10, 11, 12, 13, 14] rfl).app hK1
  generalize H1 = H at hP hS ⊢
  have hK : va_K (dC, dI) vwCl [(cy_5, .byte), (cy_13, .int), (cy_14, .int), (cy_15, .int), (cy_16, .int), (cy_17, .int), (cy_18, .int), (cy_19, .int), (cy_39, .byte), (cy_40, .int), (cy_41, .int), (cy_42, .int), (cy_43, .int), (cy_44, .int), (cy_45, .byte)] s := hK
  have hP : va_P (dC, dI) vwCl [(q_2, .inl (cy_5, 6000, .inl (fun _ => 0))), (q_3, .inr (9, [.ref q_6, .ref q_7, .ref q_8, .int 0, .null, .int 0, .int 0, .int 0, .ref q_9, .ref q_10, .ref q_11, .ref q_12, .int 0])), (q_6, .inl (cy_13, 6001, .inl (fun _ => 0))), (q_7, .inl (cy_14, 6001, .inl (fun _ => 0))), (q_8, .inl (cy_15, 6001, .inl (fun _ => 0))), (q_9, .inl (cy_16, 256, .inl (fun _ => 0))), (q_10, .inl (cy_17, 3001, .inl (fun _ => 0))), (q_11, .inl (cy_18, 3001, .inl (fun _ => 0))), (q_12, .inl (cy_19, 3001, .inl (fun _ => 0))), (q_29, .inr (15, fl 134 F_30)), (q_38, .inr (14, [.null, .null, .null, .null, .null, .int 0])), (q_31, .inl (cy_39, 6000, .inl (fun _ => 0))), (q_35, .inl (cy_40, 6002, .inl (fun _ => 0))), (q_36, .inl (cy_41, 6002, .inl (fun _ => 0))), (q_37, .inl (cy_42, 6002, .inl (fun _ => 0))), (q_33, .inl (cy_43, 6000, .inl (fun _ => 0))), (q_34, .inl (cy_44, 6000, .inl (fun _ => 0))), (q_32, .inl (cy_45, 6600, .inl (fun _ => 0)))] H := hP
  have hD : va_D A [(q_2, .inl (cy_5, 6000, .inl (fun _ => 0))), (q_3, .inr (9, [.ref q_6, .ref q_7, .ref q_8, .int 0, .null, .int 0, .int 0, .int 0, .ref q_9, .ref q_10, .ref q_11, .ref q_12, .int 0])), (q_6, .inl (cy_13, 6001, .inl (fun _ => 0))), (q_7, .inl (cy_14, 6001, .inl (fun _ => 0))), (q_8, .inl (cy_15, 6001, .inl (fun _ => 0))), (q_9, .inl (cy_16, 256, .inl (fun _ => 0))), (q_10, .inl (cy_17, 3001, .inl (fun _ => 0))), (q_11, .inl (cy_18, 3001, .inl (fun _ => 0))), (q_12, .inl (cy_19, 3001, .inl (fun _ => 0))), (q_29, .inr (15, fl 134 F_30)), (q_38, .inr (14, [.null, .null, .null, .null, .null, .int 0])), (q_31, .inl (cy_39, 6000, .inl (fun _ => 0))), (q_35, .inl (cy_40, 6002, .inl (fun _ => 0))), (q_36, .inl (cy_41, 6002, .inl (fun _ => 0))), (q_37, .inl (cy_42, 6002, .inl (fun _ => 0))), (q_33, .inl (cy_43, 6000, .inl (fun _ => 0))), (q_34, .inl (cy_44, 6000, .inl (fun _ => 0))), (q_32, .inl (cy_45, 6600, .inl (fun _ => 0)))] := hD
  refine W.widen (k := 100) (n := 719914) (Nat.le_of_ble_eq_true rfl) (Nat.le_of_ble_eq_true rfl) ?_
  obtain rfl : r9 = (cntS 2) := hw
  refine lv_aload_n hx hb dL_law_237 rfl (lv_at hl 2 rfl) ?_
  refine lv_aload_n hx hb dL_law_238 rfl (lv_at hl 4 rfl) ?_
  refine lv_iload hx hb dL_law_239 (lv_at hl 0 rfl) ?_
  refine lv_iconst (v := 1) hx hb dL_law_241 (by decide) ?_
  refine lv_iadd hx hb dL_law_242 ?_
  refine lv_topi (fun y9 e9 => ?_)
  have e9 : y9 = 1 := by rw [e9]; decide
  subst e9
  refine va_sld hx hb hX hbl hbA hS (i := 1) (by unfold vp_in; decide) dL_law_243 ?_
  refine lv_topi (fun x_1002 ex_1002 => ?_)
  have ex_1002 : x_1002 = xs 1 := ex_1002
  have ex_1002 : x_1002 = 2 := ex_1002.trans hcnt
  subst ex_1002
  have hPc := hP.sub (ws' := [(q_29, .inr (15, fl 134 F_30))]) [9] rfl
  have hDc := hD.sub (ws' := [(q_29, .inr (15, fl 134 F_30))]) [9] (by decide) rfl
  have hKc := hK.sub (tys' := []) [] rfl
  have hFc := va_free (wc := [(q_29, .inr (15, fl 134 F_30))]) hD hS hA [9] rfl
  refine va_calli (va_runV (As := [.int 2]) (rest := [.int (cntS 2)]) ⟨hx, hb, hml, hown, hts⟩ (cm_count_2 l dC dI q_29 F_30 H.size hq3 hq98 hq100) (cwV 1 hts gl_cm_count_2_42 rfl rfl rfl (by decide +kernel) ⟨(Nat.le_of_ble_eq_true rfl), (Nat.le_of_ble_eq_true rfl)⟩) ⟨fun a U g mk q => by obtain ⟨q0, q1, qP, qK, qD⟩ := q; exact ⟨q0, q1, qP, va_K.moved (u := U) (U := U.calling g mk a) (Vm.Alike.refl U.vm) qK, qD⟩, va_recv hKc hPc (ci := 15) (q0 := 0) rfl rfl, fun U hU hW => ⟨rfl, by rw [hU], by rw [hU]; exact hPc, va_K.moved hW.alike hKc, hDc.weaken (fun _ _ _ _ => trivial)⟩⟩ rfl rfl hl.1 rfl (lv_room (Nat.le_of_ble_eq_true rfl)) dL_law_244 ⟨(Nat.le_of_ble_eq_true rfl), (Nat.le_of_ble_eq_true rfl)⟩) hS (fun q _ h => hFc q h) hFc (fun r9 u t H1 locs ht hvm hw hB hz1 hk1 hS => ?_)
  obtain ⟨hP1, hK1, hD1⟩ := hB
  rw [ht] at hP1
  have hK1 := va_K.moved hvm.symm hK1
  obtain ⟨hP, hD⟩ := va_join (wr := [(q_2, .inl (cy_5, 6000, .inl (fun _ => 0))), (q_3, .inr (9, [.ref q_6, .ref q_7, .ref q_8, .int 0, .null, .int 0, .int 0, .int 0, .ref q_9, .ref q_10, .ref q_11, .ref q_12, .int 0])), (q_6, .inl (cy_13, 6001, .inl (fun _ => 0))), (q_7, .inl (cy_14, 6001, .inl (fun _ => 0))), (q_8, .inl (cy_15, 6001, .inl (fun _ => 0))), (q_9, .inl (cy_16, 256, .inl (fun _ => 0))), (q_10, .inl (cy_17, 3001, .inl (fun _ => 0))), (q_11, .inl (cy_18, 3001, .inl (fun _ => 0))), (q_12, .inl (cy_19, 3001, .inl (fun _ => 0))), (q_38, .inr (14, [.null, .null, .null, .null, .null, .int 0])), (q_31, .inl (cy_39, 6000, .inl (fun _ => 0))), (q_35, .inl (cy_40, 6002, .inl (fun _ => 0))), (q_36, .inl (cy_41, 6002, .inl (fun _ => 0))), (q_37, .inl (cy_42, 6002, .inl (fun _ => 0))), (q_33, .inl (cy_43, 6000, .inl (fun _ => 0))), (q_34, .inl (cy_44, 6000, .inl (fun _ => 0))), (q_32, .inl (cy_45, 6600, .inl (fun _ => 0)))]) (w1 := []) hP hD [9] [0, 1, 2, 3, 4, 5, 6, 7, 8, 10, 11, 12, 13, 14, 15, 16, 17] rfl rfl (by decide) (by decide) hk1 hFc hP1 hD1
  have hK := (hK.sub (tys' := [(cy_5, .byte), (cy_13, .int), (cy_14, .int), (cy_15, .int), (cy_16, .int), (cy_17, .int), (cy_18, .int), (cy_19, .int), (cy_39, .byte), (cy_40, .int), (cy_41, .int), (cy_42, .int), (cy_43, .int), (cy_44, .int), (cy_45, .byte)]) [0, 1, 2, 3, 4, 5, 6, 7, 8, 9, 10, 11, 12, 13, 14] rfl).app hK1
  generalize H1 = H at hP hS ⊢
  have hK : va_K (dC, dI) vwCl [(cy_5, .byte), (cy_13, .int), (cy_14, .int), (cy_15, .int), (cy_16, .int), (cy_17, .int), (cy_18, .int), (cy_19, .int), (cy_39, .byte), (cy_40, .int), (cy_41, .int), (cy_42, .int), (cy_43, .int), (cy_44, .int), (cy_45, .byte)] s := hK
  have hP : va_P (dC, dI) vwCl [(q_2, .inl (cy_5, 6000, .inl (fun _ => 0))), (q_3, .inr (9, [.ref q_6, .ref q_7, .ref q_8, .int 0, .null, .int 0, .int 0, .int 0, .ref q_9, .ref q_10, .ref q_11, .ref q_12, .int 0])), (q_6, .inl (cy_13, 6001, .inl (fun _ => 0))), (q_7, .inl (cy_14, 6001, .inl (fun _ => 0))), (q_8, .inl (cy_15, 6001, .inl (fun _ => 0))), (q_9, .inl (cy_16, 256, .inl (fun _ => 0))), (q_10, .inl (cy_17, 3001, .inl (fun _ => 0))), (q_11, .inl (cy_18, 3001, .inl (fun _ => 0))), (q_12, .inl (cy_19, 3001, .inl (fun _ => 0))), (q_38, .inr (14, [.null, .null, .null, .null, .null, .int 0])), (q_31, .inl (cy_39, 6000, .inl (fun _ => 0))), (q_35, .inl (cy_40, 6002, .inl (fun _ => 0))), (q_36, .inl (cy_41, 6002, .inl (fun _ => 0))), (q_37, .inl (cy_42, 6002, .inl (fun _ => 0))), (q_33, .inl (cy_43, 6000, .inl (fun _ => 0))), (q_34, .inl (cy_44, 6000, .inl (fun _ => 0))), (q_32, .inl (cy_45, 6600, .inl (fun _ => 0)))] H := hP
  have hD : va_D A [(q_2, .inl (cy_5, 6000, .inl (fun _ => 0))), (q_3, .inr (9, [.ref q_6, .ref q_7, .ref q_8, .int 0, .null, .int 0, .int 0, .int 0, .ref q_9, .ref q_10, .ref q_11, .ref q_12, .int 0])), (q_6, .inl (cy_13, 6001, .inl (fun _ => 0))), (q_7, .inl (cy_14, 6001, .inl (fun _ => 0))), (q_8, .inl (cy_15, 6001, .inl (fun _ => 0))), (q_9, .inl (cy_16, 256, .inl (fun _ => 0))), (q_10, .inl (cy_17, 3001, .inl (fun _ => 0))), (q_11, .inl (cy_18, 3001, .inl (fun _ => 0))), (q_12, .inl (cy_19, 3001, .inl (fun _ => 0))), (q_38, .inr (14, [.null, .null, .null, .null, .null, .int 0])), (q_31, .inl (cy_39, 6000, .inl (fun _ => 0))), (q_35, .inl (cy_40, 6002, .inl (fun _ => 0))), (q_36, .inl (cy_41, 6002, .inl (fun _ => 0))), (q_37, .inl (cy_42, 6002, .inl (fun _ => 0))), (q_33, .inl (cy_43, 6000, .inl (fun _ => 0))), (q_34, .inl (cy_44, 6000, .inl (fun _ => 0))), (q_32, .inl (cy_45, 6600, .inl (fun _ => 0)))] := hD
  refine W.widen (k := 100) (n := 719914) (Nat.le_of_ble_eq_true rfl) (Nat.le_of_ble_eq_true rfl) ?_
  obtain rfl : r9 = 0 := hw
  refine lv_icmp_eq (tgt := 665) hx hb dL_law_247 (by decide) (fun c9 => ?_) (fun c9 => absurd (by decide) c9)
  refine lv_iinc (v := 6) (lv' := [(4, .int 6), (3, .ref q_58), (2, .ref q_29), (1, .ref q_1), (0, .ref b)]) hx hb dL_law_665 hl (k := 0) rfl (by decide) (by decide) rfl (fun ls hl => ?_)
  refine lv_goto (tgt := 23) hx hb dL_law_668 (by decide) ?_
  refine lv_iload hx hb dL_law_23 (lv_at hl 0 rfl) ?_
  refine lv_aload_n hx hb dL_law_25 rfl (lv_at hl 4 rfl) ?_
  refine va_slen hx hb hX hbl hbA hS dL_law_26 ?_
  refine lv_topi (fun y9 e9 => ?_)
  have e9 : y9 = 6 := e9
  subst e9
  refine lv_bipush (v := 6) hx hb dL_law_27 (by decide) ?_
  refine lv_isub hx hb dL_law_29 ?_
  refine lv_topi (fun y9 e9 => ?_)
  have e9 : y9 = 0 := by rw [e9]; decide
  subst e9
  refine lv_icmp_gt (tgt := 671) hx hb dL_law_30 (by decide) (fun c9 => ?_) (fun c9 => absurd (by decide) c9)
  clear c9
  refine lv_iconst (v := 1) hx hb dL_law_671 (by decide) ?_
  refine va_forget (fun q hq => hAA q.base (hS.2.2 q hq)) ?_
  refine W.widen (k := 600002) (n := 7302232) (Nat.le_of_ble_eq_true rfl) (Nat.le_of_ble_eq_true rfl) ?_
  exact lw_ret hx hb hr hlocks dL_law_672
set_option maxHeartbeats 4000000 in
set_option maxRecDepth 100000 in
theorem law_count_3 {p : Program} {e : Env} {s : State} {m : MethodId} {below : List Frame} {meth : Method} {c : Code} (l : Launch) (hfl : l.flags = flags0) {b : Nat} {xs : Nat → Int32} (C0 : lw_At p s m meth c b 6 xs) (dC : Nat → ClassId) (dI : Nat → Nat → Nat) (A : Nat → Prop) (hA : ∀ q : Nat, s.heap.size ≤ q → A q) (hAa : ∀ q : Nat, q < s.heap.size → ¬ A q) (hAA : ∀ q : Nat, A q → s.heap.size ≤ q) (q_1 : Nat) (q_2 : Nat) (q_3 : Nat) (q_4 : Nat) (cy_5 : ClassId) (q_6 : Nat) (q_7 : Nat) (q_8 : Nat) (q_9 : Nat) (q_10 : Nat) (q_11 : Nat) (q_12 : Nat) (cy_13 : ClassId) (cy_14 : ClassId) (cy_15 : ClassId) (cy_16 : ClassId) (cy_17 : ClassId) (cy_18 : ClassId) (cy_19 : ClassId) (q_20 : Nat) (q_21 : Nat) (q_22 : Nat) (q_23 : Nat) (q_24 : Nat) (q_25 : Nat) (q_26 : Nat) (q_27 : Nat) (q_28 : Nat) (q_29 : Nat) (F_30 : Nat → Value) (q_31 : Nat) (q_32 : Nat) (q_33 : Nat) (q_34 : Nat) (q_35 : Nat) (q_36 : Nat) (q_37 : Nat) (q_38 : Nat) (cy_39 : ClassId) (cy_40 : ClassId) (cy_41 : ClassId) (cy_42 : ClassId) (cy_43 : ClassId) (cy_44 : ClassId) (cy_45 : ClassId) (q_58 : Nat) (hq0 : F_30 0 = .int 0) (hq1 : F_30 1 = .ref q_38) (hq2 : F_30 2 = .ref q_31) (hq3 : F_30 3 = .int 0) (hq9 : F_30 9 = .ref q_35) (hq10 : F_30 10 = .ref q_36) (hq11 : F_30 11 = .ref q_37) (hq13 : F_30 13 = .ref q_33) (hq14 : F_30 14 = .ref q_34) (hq15 : F_30 15 = .ref q_32) (hq98 : F_30 98 = .int 0) (hq100 : F_30 100 = .int 0) (hcnt : xs 1 = 3) (H : Heap) (locs : List Loc) (ls : Array Slot) (hK : va_K (dC, dI) vwCl [(cy_5, .byte), (cy_13, .int), (cy_14, .int), (cy_15, .int), (cy_16, .int), (cy_17, .int), (cy_18, .int), (cy_19, .int), (cy_39, .byte), (cy_40, .int), (cy_41, .int), (cy_42, .int), (cy_43, .int), (cy_44, .int), (cy_45, .byte)] s) (hP : va_P (dC, dI) vwCl [(q_1, .inr (13, [.ref q_2, .int 0, .ref q_3, .ref q_4, .null])), (q_2, .inl (cy_5, 6000, .inl (fun _ => 0))), (q_3, .inr (9, [.ref q_6, .ref q_7, .ref q_8, .int 0, .null, .int 0, .int 0, .int 0, .ref q_9, .ref q_10, .ref q_11, .ref q_12, .int 0])), (q_6, .inl (cy_13, 6001, .inl (fun _ => 0))), (q_7, .inl (cy_14, 6001, .inl (fun _ => 0))), (q_8, .inl (cy_15, 6001, .inl (fun _ => 0))), (q_9, .inl (cy_16, 256, .inl (fun _ => 0))), (q_10, .inl (cy_17, 3001, .inl (fun _ => 0))), (q_11, .inl (cy_18, 3001, .inl (fun _ => 0))), (q_12, .inl (cy_19, 3001, .inl (fun _ => 0))), (q_4, .inr (4, [.null, .ref q_20, .ref q_21, .ref q_22, .ref q_23, .ref q_24, .int 0, .ref q_25, .int 0, .int 0, .int 0, .ref q_26, .int 0, .ref q_27, .int 0, .ref q_28, .null, .int 0, .int 0])), (q_29, .inr (15, fl 134 F_30)), (q_38, .inr (14, [.null, .null, .null, .null, .null, .int 0])), (q_31, .inl (cy_39, 6000, .inl (fun _ => 0))), (q_35, .inl (cy_40, 6002, .inl (fun _ => 0))), (q_36, .inl (cy_41, 6002, .inl (fun _ => 0))), (q_37, .inl (cy_42, 6002, .inl (fun _ => 0))), (q_33, .inl (cy_43, 6000, .inl (fun _ => 0))), (q_34, .inl (cy_44, 6000, .inl (fun _ => 0))), (q_32, .inl (cy_45, 6600, .inl (fun _ => 0)))] H) (hD : va_D A [(q_1, .inr (13, [.ref q_2, .int 0, .ref q_3, .ref q_4, .null])), (q_2, .inl (cy_5, 6000, .inl (fun _ => 0))), (q_3, .inr (9, [.ref q_6, .ref q_7, .ref q_8, .int 0, .null, .int 0, .int 0, .int 0, .ref q_9, .ref q_10, .ref q_11, .ref q_12, .int 0])), (q_6, .inl (cy_13, 6001, .inl (fun _ => 0))), (q_7, .inl (cy_14, 6001, .inl (fun _ => 0))), (q_8, .inl (cy_15, 6001, .inl (fun _ => 0))), (q_9, .inl (cy_16, 256, .inl (fun _ => 0))), (q_10, .inl (cy_17, 3001, .inl (fun _ => 0))), (q_11, .inl (cy_18, 3001, .inl (fun _ => 0))), (q_12, .inl (cy_19, 3001, .inl (fun _ => 0))), (q_4, .inr (4, [.null, .ref q_20, .ref q_21, .ref q_22, .ref q_23, .ref q_24, .int 0, .ref q_25, .int 0, .int 0, .int 0, .ref q_26, .int 0, .ref q_27, .int 0, .ref q_28, .null, .int 0, .int 0])), (q_29, .inr (15, fl 134 F_30)), (q_38, .inr (14, [.null, .null, .null, .null, .null, .int 0])), (q_31, .inl (cy_39, 6000, .inl (fun _ => 0))), (q_35, .inl (cy_40, 6002, .inl (fun _ => 0))), (q_36, .inl (cy_41, 6002, .inl (fun _ => 0))), (q_37, .inl (cy_42, 6002, .inl (fun _ => 0))), (q_33, .inl (cy_43, 6000, .inl (fun _ => 0))), (q_34, .inl (cy_44, 6000, .inl (fun _ => 0))), (q_32, .inl (cy_45, 6600, .inl (fun _ => 0)))]) (hS : va_S A s.heap H locs) (hl : lv_has ls 7 [(4, .int 0), (3, .ref q_58), (2, .ref q_29), (1, .ref q_1), (0, .ref b)]) : W p l e room_1 s m #[Value.ref b] below meth c H locs 100 719914 (lw_Z below #[Value.ref b] s) (F0 m 227 ls []) := by
  obtain ⟨hx, hb, hr, hml, hown, htsT, hX, hbl, hlocks, hgv⟩ := id C0
  have hown : s.vm.findClass RL = some m.cls := hown
  have hts : ∀ w ∈ ws_law, w.before #[Value.ref b] s = true := fun w h => htsT w (in_law w h)
  have hg := flat_of_before _ hgv
  have hbA : ¬ A b := hAa b hbl
  have hflags : l.stackTraces = false := by unfold Launch.stackTraces; rw [hfl]; decide
  refine lv_aload_n hx hb dL_law_227 rfl (lv_at hl 3 rfl) ?_
  refine lv_aload_n hx hb dL_law_228 rfl (lv_at hl 4 rfl) ?_
  refine lv_iload hx hb dL_law_229 (lv_at hl 0 rfl) ?_
  refine lv_iconst (v := 1) hx hb dL_law_231 (by decide) ?_
  refine lv_iadd hx hb dL_law_232 ?_
  refine lv_topi (fun y9 e9 => ?_)
  have e9 : y9 = 1 := by rw [e9]; decide
  subst e9
  refine va_sld hx hb hX hbl hbA hS (i := 1) (by unfold vp_in; decide) dL_law_233 ?_
  refine lv_topi (fun x_1001 ex_1001 => ?_)
  have ex_1001 : x_1001 = xs 1 := ex_1001
  have ex_1001 : x_1001 = 3 := ex_1001.trans hcnt
  subst ex_1001
  have hPc := hP.sub (ws' := [(q_1, .inr (13, [.ref q_2, .int 0, .ref q_3, .ref q_4, .null])), (q_4, .inr (4, [.null, .ref q_20, .ref q_21, .ref q_22, .ref q_23, .ref q_24, .int 0, .ref q_25, .int 0, .int 0, .int 0, .ref q_26, .int 0, .ref q_27, .int 0, .ref q_28, .null, .int 0, .int 0]))]) [0, 10] rfl
  have hDc := hD.sub (ws' := [(q_1, .inr (13, [.ref q_2, .int 0, .ref q_3, .ref q_4, .null])), (q_4, .inr (4, [.null, .ref q_20, .ref q_21, .ref q_22, .ref q_23, .ref q_24, .int 0, .ref q_25, .int 0, .int 0, .int 0, .ref q_26, .int 0, .ref q_27, .int 0, .ref q_28, .null, .int 0, .int 0]))]) [0, 10] (by decide) rfl
  have hKc := hK.sub (tys' := []) [] rfl
  have hFc := va_free (wc := [(q_1, .inr (13, [.ref q_2, .int 0, .ref q_3, .ref q_4, .null])), (q_4, .inr (4, [.null, .ref q_20, .ref q_21, .ref q_22, .ref q_23, .ref q_24, .int 0, .ref q_25, .int 0, .int 0, .int 0, .ref q_26, .int 0, .ref q_27, .int 0, .ref q_28, .null, .int 0, .int 0]))]) hD hS hA [0, 10] rfl
  refine va_calli (va_runV (As := [.int 3]) (rest := []) ⟨hx, hb, hml, hown, hts⟩ (cc_count l dC dI q_1 q_2 q_3 q_4 q_20 q_21 q_22 q_23 q_24 q_25 q_26 q_27 q_28 3 H.size) (cwV 1 hts gl_cc_count_39 rfl rfl rfl (by decide +kernel) ⟨(Nat.le_of_ble_eq_true rfl), (Nat.le_of_ble_eq_true rfl)⟩) ⟨fun a U g mk q => by obtain ⟨q0, q1, qP, qK, qD⟩ := q; exact ⟨q0, q1, qP, va_K.moved (u := U) (U := U.calling g mk a) (Vm.Alike.refl U.vm) qK, qD⟩, va_recv hKc hPc (ci := 13) (q0 := 0) rfl rfl, fun U hU hW => ⟨rfl, by rw [hU], by rw [hU]; exact hPc, va_K.moved hW.alike hKc, hDc.weaken (fun _ _ _ _ => trivial)⟩⟩ rfl rfl hl.1 rfl (lv_room (Nat.le_of_ble_eq_true rfl)) dL_law_234 ⟨(Nat.le_of_ble_eq_true rfl), (Nat.le_of_ble_eq_true rfl)⟩) hS (fun q _ h => hFc q h) hFc (fun r9 u t H1 locs ht hvm hw hB hz1 hk1 hS => ?_)
  obtain ⟨hP1, hK1, hD1⟩ := hB
  rw [ht] at hP1
  have hK1 := va_K.moved hvm.symm hK1
  obtain ⟨hP, hD⟩ := va_join (wr := [(q_2, .inl (cy_5, 6000, .inl (fun _ => 0))), (q_3, .inr (9, [.ref q_6, .ref q_7, .ref q_8, .int 0, .null, .int 0, .int 0, .int 0, .ref q_9, .ref q_10, .ref q_11, .ref q_12, .int 0])), (q_6, .inl (cy_13, 6001, .inl (fun _ => 0))), (q_7, .inl (cy_14, 6001, .inl (fun _ => 0))), (q_8, .inl (cy_15, 6001, .inl (fun _ => 0))), (q_9, .inl (cy_16, 256, .inl (fun _ => 0))), (q_10, .inl (cy_17, 3001, .inl (fun _ => 0))), (q_11, .inl (cy_18, 3001, .inl (fun _ => 0))), (q_12, .inl (cy_19, 3001, .inl (fun _ => 0))), (q_29, .inr (15, fl 134 F_30)), (q_38, .inr (14, [.null, .null, .null, .null, .null, .int 0])), (q_31, .inl (cy_39, 6000, .inl (fun _ => 0))), (q_35, .inl (cy_40, 6002, .inl (fun _ => 0))), (q_36, .inl (cy_41, 6002, .inl (fun _ => 0))), (q_37, .inl (cy_42, 6002, .inl (fun _ => 0))), (q_33, .inl (cy_43, 6000, .inl (fun _ => 0))), (q_34, .inl (cy_44, 6000, .inl (fun _ => 0))), (q_32, .inl (cy_45, 6600, .inl (fun _ => 0)))]) (w1 := []) hP hD [0, 10] [1, 2, 3, 4, 5, 6, 7, 8, 9, 11, 12, 13, 14, 15, 16, 17, 18, 19] rfl rfl (by decide) (by decide) hk1 hFc hP1 hD1
  have hK := (hK.sub (tys' := [(cy_5, .byte), (cy_13, .int), (cy_14, .int), (cy_15, .int), (cy_16, .int), (cy_17, .int), (cy_18, .int), (cy_19, .int), (cy_39, .byte), (cy_40, .int), (cy_41, .int), (cy_42, .int), (cy_43, .int), (cy_44, .int), (cy_45, .byte)]) [0, 1, 2, 3, 4, 5, 6, 7, 8, 9, 10, 11, 12, 13, 14] rfl).app hK1
  generalize H1 = H at hP hS ⊢
  have hK : va_K (dC, dI) vwCl [(cy_5, .byte), (cy_13, .int), (cy_14, .int), (cy_15, .int), (cy_16, .int), (cy_17, .int), (cy_18, .int), (cy_19, .int), (cy_39, .byte), (cy_40, .int), (cy_41, .int), (cy_42, .int), (cy_43, .int), (cy_44, .int), (cy_45, .byte)] s := hK
  have hP : va_P (dC, dI) vwCl [(q_2, .inl (cy_5, 6000, .inl (fun _ => 0))), (q_3, .inr (9, [.ref q_6, .ref q_7, .ref q_8, .int 0, .null, .int 0, .int 0, .int 0, .ref q_9, .ref q_10, .ref q_11, .ref q_12, .int 0])), (q_6, .inl (cy_13, 6001, .inl (fun _ => 0))), (q_7, .inl (cy_14, 6001, .inl (fun _ => 0))), (q_8, .inl (cy_15, 6001, .inl (fun _ => 0))), (q_9, .inl (cy_16, 256, .inl (fun _ => 0))), (q_10, .inl (cy_17, 3001, .inl (fun _ => 0))), (q_11, .inl (cy_18, 3001, .inl (fun _ => 0))), (q_12, .inl (cy_19, 3001, .inl (fun _ => 0))), (q_29, .inr (15, fl 134 F_30)), (q_38, .inr (14, [.null, .null, .null, .null, .null, .int 0])), (q_31, .inl (cy_39, 6000, .inl (fun _ => 0))), (q_35, .inl (cy_40, 6002, .inl (fun _ => 0))), (q_36, .inl (cy_41, 6002, .inl (fun _ => 0))), (q_37, .inl (cy_42, 6002, .inl (fun _ => 0))), (q_33, .inl (cy_43, 6000, .inl (fun _ => 0))), (q_34, .inl (cy_44, 6000, .inl (fun _ => 0))), (q_32, .inl (cy_45, 6600, .inl (fun _ => 0)))] H := hP
  have hD : va_D A [(q_2, .inl (cy_5, 6000, .inl (fun _ => 0))), (q_3, .inr (9, [.ref q_6, .ref q_7, .ref q_8, .int 0, .null, .int 0, .int 0, .int 0, .ref q_9, .ref q_10, .ref q_11, .ref q_12, .int 0])), (q_6, .inl (cy_13, 6001, .inl (fun _ => 0))), (q_7, .inl (cy_14, 6001, .inl (fun _ => 0))), (q_8, .inl (cy_15, 6001, .inl (fun _ => 0))), (q_9, .inl (cy_16, 256, .inl (fun _ => 0))), (q_10, .inl (cy_17, 3001, .inl (fun _ => 0))), (q_11, .inl (cy_18, 3001, .inl (fun _ => 0))), (q_12, .inl (cy_19, 3001, .inl (fun _ => 0))), (q_29, .inr (15, fl 134 F_30)), (q_38, .inr (14, [.null, .null, .null, .null, .null, .int 0])), (q_31, .inl (cy_39, 6000, .inl (fun _ => 0))), (q_35, .inl (cy_40, 6002, .inl (fun _ => 0))), (q_36, .inl (cy_41, 6002, .inl (fun _ => 0))), (q_37, .inl (cy_42, 6002, .inl (fun _ => 0))), (q_33, .inl (cy_43, 6000, .inl (fun _ => 0))), (q_34, .inl (cy_44, 6000, .inl (fun _ => 0))), (q_32, .inl (cy_45, 6600, .inl (fun _ => 0)))] := hD
  refine W.widen (k := 100) (n := 719914) (Nat.le_of_ble_eq_true rfl) (Nat.le_of_ble_eq_true rfl) ?_
  obtain rfl : r9 = (cntS 3) := hw
  refine lv_aload_n hx hb dL_law_237 rfl (lv_at hl 2 rfl) ?_
  refine lv_aload_n hx hb dL_law_238 rfl (lv_at hl 4 rfl) ?_
  refine lv_iload hx hb dL_law_239 (lv_at hl 0 rfl) ?_
  refine lv_iconst (v := 1) hx hb dL_law_241 (by decide) ?_
  refine lv_iadd hx hb dL_law_242 ?_
  refine lv_topi (fun y9 e9 => ?_)
  have e9 : y9 = 1 := by rw [e9]; decide
  subst e9
  refine va_sld hx hb hX hbl hbA hS (i := 1) (by unfold vp_in; decide) dL_law_243 ?_
  refine lv_topi (fun x_1002 ex_1002 => ?_)
  have ex_1002 : x_1002 = xs 1 := ex_1002
  have ex_1002 : x_1002 = 3 := ex_1002.trans hcnt
  subst ex_1002
  have hPc := hP.sub (ws' := [(q_29, .inr (15, fl 134 F_30))]) [9] rfl
  have hDc := hD.sub (ws' := [(q_29, .inr (15, fl 134 F_30))]) [9] (by decide) rfl
  have hKc := hK.sub (tys' := []) [] rfl
  have hFc := va_free (wc := [(q_29, .inr (15, fl 134 F_30))]) hD hS hA [9] rfl
  refine va_calli (va_runV (As := [.int 3]) (rest := [.int (cntS 3)]) ⟨hx, hb, hml, hown, hts⟩ (cm_count_3 l dC dI q_29 F_30 H.size hq3 hq98 hq100) (cwV 1 hts gl_cm_count_3_42 rfl rfl rfl (by decide +kernel) ⟨(Nat.le_of_ble_eq_true rfl), (Nat.le_of_ble_eq_true rfl)⟩) ⟨fun a U g mk q => by obtain ⟨q0, q1, qP, qK, qD⟩ := q; exact ⟨q0, q1, qP, va_K.moved (u := U) (U := U.calling g mk a) (Vm.Alike.refl U.vm) qK, qD⟩, va_recv hKc hPc (ci := 15) (q0 := 0) rfl rfl, fun U hU hW => ⟨rfl, by rw [hU], by rw [hU]; exact hPc, va_K.moved hW.alike hKc, hDc.weaken (fun _ _ _ _ => trivial)⟩⟩ rfl rfl hl.1 rfl (lv_room (Nat.le_of_ble_eq_true rfl)) dL_law_244 ⟨(Nat.le_of_ble_eq_true rfl), (Nat.le_of_ble_eq_true rfl)⟩) hS (fun q _ h => hFc q h) hFc (fun r9 u t H1 locs ht hvm hw hB hz1 hk1 hS => ?_)
  obtain ⟨hP1, hK1, hD1⟩ := hB
  rw [ht] at hP1
  have hK1 := va_K.moved hvm.symm hK1
  obtain ⟨hP, hD⟩ := va_join (wr := [(q_2, .inl (cy_5, 6000, .inl (fun _ => 0))), (q_3, .inr (9, [.ref q_6, .ref q_7, .ref q_8, .int 0, .null, .int 0, .int 0, .int 0, .ref q_9, .ref q_10, .ref q_11, .ref q_12, .int 0])), (q_6, .inl (cy_13, 6001, .inl (fun _ => 0))), (q_7, .inl (cy_14, 6001, .inl (fun _ => 0))), (q_8, .inl (cy_15, 6001, .inl (fun _ => 0))), (q_9, .inl (cy_16, 256, .inl (fun _ => 0))), (q_10, .inl (cy_17, 3001, .inl (fun _ => 0))), (q_11, .inl (cy_18, 3001, .inl (fun _ => 0))), (q_12, .inl (cy_19, 3001, .inl (fun _ => 0))), (q_38, .inr (14, [.null, .null, .null, .null, .null, .int 0])), (q_31, .inl (cy_39, 6000, .inl (fun _ => 0))), (q_35, .inl (cy_40, 6002, .inl (fun _ => 0))), (q_36, .inl (cy_41, 6002, .inl (fun _ => 0))), (q_37, .inl (cy_42, 6002, .inl (fun _ => 0))), (q_33, .inl (cy_43, 6000, .inl (fun _ => 0))), (q_34, .inl (cy_44, 6000, .inl (fun _ => 0))), (q_32, .inl (cy_45, 6600, .inl (fun _ => 0)))]) (w1 := []) hP hD [9] [0, 1, 2, 3, 4, 5, 6, 7, 8, 10, 11, 12, 13, 14, 15, 16, 17] rfl rfl (by decide) (by decide) hk1 hFc hP1 hD1
  have hK := (hK.sub (tys' := [(cy_5, .byte), (cy_13, .int), (cy_14, .int), (cy_15, .int), (cy_16, .int), (cy_17, .int), (cy_18, .int), (cy_19, .int), (cy_39, .byte), (cy_40, .int), (cy_41, .int), (cy_42, .int), (cy_43, .int), (cy_44, .int), (cy_45, .byte)]) [0, 1, 2, 3, 4, 5, 6, 7, 8, 9, 10, 11, 12, 13, 14] rfl).app hK1
  generalize H1 = H at hP hS ⊢
  have hK : va_K (dC, dI) vwCl [(cy_5, .byte), (cy_13, .int), (cy_14, .int), (cy_15, .int), (cy_16, .int), (cy_17, .int), (cy_18, .int), (cy_19, .int), (cy_39, .byte), (cy_40, .int), (cy_41, .int), (cy_42, .int), (cy_43, .int), (cy_44, .int), (cy_45, .byte)] s := hK
  have hP : va_P (dC, dI) vwCl [(q_2, .inl (cy_5, 6000, .inl (fun _ => 0))), (q_3, .inr (9, [.ref q_6, .ref q_7, .ref q_8, .int 0, .null, .int 0, .int 0, .int 0, .ref q_9, .ref q_10, .ref q_11, .ref q_12, .int 0])), (q_6, .inl (cy_13, 6001, .inl (fun _ => 0))), (q_7, .inl (cy_14, 6001, .inl (fun _ => 0))), (q_8, .inl (cy_15, 6001, .inl (fun _ => 0))), (q_9, .inl (cy_16, 256, .inl (fun _ => 0))), (q_10, .inl (cy_17, 3001, .inl (fun _ => 0))), (q_11, .inl (cy_18, 3001, .inl (fun _ => 0))), (q_12, .inl (cy_19, 3001, .inl (fun _ => 0))), (q_38, .inr (14, [.null, .null, .null, .null, .null, .int 0])), (q_31, .inl (cy_39, 6000, .inl (fun _ => 0))), (q_35, .inl (cy_40, 6002, .inl (fun _ => 0))), (q_36, .inl (cy_41, 6002, .inl (fun _ => 0))), (q_37, .inl (cy_42, 6002, .inl (fun _ => 0))), (q_33, .inl (cy_43, 6000, .inl (fun _ => 0))), (q_34, .inl (cy_44, 6000, .inl (fun _ => 0))), (q_32, .inl (cy_45, 6600, .inl (fun _ => 0)))] H := hP
  have hD : va_D A [(q_2, .inl (cy_5, 6000, .inl (fun _ => 0))), (q_3, .inr (9, [.ref q_6, .ref q_7, .ref q_8, .int 0, .null, .int 0, .int 0, .int 0, .ref q_9, .ref q_10, .ref q_11, .ref q_12, .int 0])), (q_6, .inl (cy_13, 6001, .inl (fun _ => 0))), (q_7, .inl (cy_14, 6001, .inl (fun _ => 0))), (q_8, .inl (cy_15, 6001, .inl (fun _ => 0))), (q_9, .inl (cy_16, 256, .inl (fun _ => 0))), (q_10, .inl (cy_17, 3001, .inl (fun _ => 0))), (q_11, .inl (cy_18, 3001, .inl (fun _ => 0))), (q_12, .inl (cy_19, 3001, .inl (fun _ => 0))), (q_38, .inr (14, [.null, .null, .null, .null, .null, .int 0])), (q_31, .inl (cy_39, 6000, .inl (fun _ => 0))), (q_35, .inl (cy_40, 6002, .inl (fun _ => 0))), (q_36, .inl (cy_41, 6002, .inl (fun _ => 0))), (q_37, .inl (cy_42, 6002, .inl (fun _ => 0))), (q_33, .inl (cy_43, 6000, .inl (fun _ => 0))), (q_34, .inl (cy_44, 6000, .inl (fun _ => 0))), (q_32, .inl (cy_45, 6600, .inl (fun _ => 0)))] := hD
  refine W.widen (k := 100) (n := 719914) (Nat.le_of_ble_eq_true rfl) (Nat.le_of_ble_eq_true rfl) ?_
  obtain rfl : r9 = 0 := hw
  refine lv_icmp_eq (tgt := 665) hx hb dL_law_247 (by decide) (fun c9 => ?_) (fun c9 => absurd (by decide) c9)
  refine lv_iinc (v := 6) (lv' := [(4, .int 6), (3, .ref q_58), (2, .ref q_29), (1, .ref q_1), (0, .ref b)]) hx hb dL_law_665 hl (k := 0) rfl (by decide) (by decide) rfl (fun ls hl => ?_)
  refine lv_goto (tgt := 23) hx hb dL_law_668 (by decide) ?_
  refine lv_iload hx hb dL_law_23 (lv_at hl 0 rfl) ?_
  refine lv_aload_n hx hb dL_law_25 rfl (lv_at hl 4 rfl) ?_
  refine va_slen hx hb hX hbl hbA hS dL_law_26 ?_
  refine lv_topi (fun y9 e9 => ?_)
  have e9 : y9 = 6 := e9
  subst e9
  refine lv_bipush (v := 6) hx hb dL_law_27 (by decide) ?_
  refine lv_isub hx hb dL_law_29 ?_
  refine lv_topi (fun y9 e9 => ?_)
  have e9 : y9 = 0 := by rw [e9]; decide
  subst e9
  refine lv_icmp_gt (tgt := 671) hx hb dL_law_30 (by decide) (fun c9 => ?_) (fun c9 => absurd (by decide) c9)
  clear c9
  refine lv_iconst (v := 1) hx hb dL_law_671 (by decide) ?_
  refine va_forget (fun q hq => hAA q.base (hS.2.2 q hq)) ?_
  refine W.widen (k := 600002) (n := 7302232) (Nat.le_of_ble_eq_true rfl) (Nat.le_of_ble_eq_true rfl) ?_
  exact lw_ret hx hb hr hlocks dL_law_672
set_option maxHeartbeats 4000000 in
set_option maxRecDepth 100000 in
theorem law_count_4 {p : Program} {e : Env} {s : State} {m : MethodId} {below : List Frame} {meth : Method} {c : Code} (l : Launch) (hfl : l.flags = flags0) {b : Nat} {xs : Nat → Int32} (C0 : lw_At p s m meth c b 6 xs) (dC : Nat → ClassId) (dI : Nat → Nat → Nat) (A : Nat → Prop) (hA : ∀ q : Nat, s.heap.size ≤ q → A q) (hAa : ∀ q : Nat, q < s.heap.size → ¬ A q) (hAA : ∀ q : Nat, A q → s.heap.size ≤ q) (q_1 : Nat) (q_2 : Nat) (q_3 : Nat) (q_4 : Nat) (cy_5 : ClassId) (q_6 : Nat) (q_7 : Nat) (q_8 : Nat) (q_9 : Nat) (q_10 : Nat) (q_11 : Nat) (q_12 : Nat) (cy_13 : ClassId) (cy_14 : ClassId) (cy_15 : ClassId) (cy_16 : ClassId) (cy_17 : ClassId) (cy_18 : ClassId) (cy_19 : ClassId) (q_20 : Nat) (q_21 : Nat) (q_22 : Nat) (q_23 : Nat) (q_24 : Nat) (q_25 : Nat) (q_26 : Nat) (q_27 : Nat) (q_28 : Nat) (q_29 : Nat) (F_30 : Nat → Value) (q_31 : Nat) (q_32 : Nat) (q_33 : Nat) (q_34 : Nat) (q_35 : Nat) (q_36 : Nat) (q_37 : Nat) (q_38 : Nat) (cy_39 : ClassId) (cy_40 : ClassId) (cy_41 : ClassId) (cy_42 : ClassId) (cy_43 : ClassId) (cy_44 : ClassId) (cy_45 : ClassId) (q_58 : Nat) (hq0 : F_30 0 = .int 0) (hq1 : F_30 1 = .ref q_38) (hq2 : F_30 2 = .ref q_31) (hq3 : F_30 3 = .int 0) (hq9 : F_30 9 = .ref q_35) (hq10 : F_30 10 = .ref q_36) (hq11 : F_30 11 = .ref q_37) (hq13 : F_30 13 = .ref q_33) (hq14 : F_30 14 = .ref q_34) (hq15 : F_30 15 = .ref q_32) (hq98 : F_30 98 = .int 0) (hq100 : F_30 100 = .int 0) (hcnt : xs 1 = 4) (H : Heap) (locs : List Loc) (ls : Array Slot) (hK : va_K (dC, dI) vwCl [(cy_5, .byte), (cy_13, .int), (cy_14, .int), (cy_15, .int), (cy_16, .int), (cy_17, .int), (cy_18, .int), (cy_19, .int), (cy_39, .byte), (cy_40, .int), (cy_41, .int), (cy_42, .int), (cy_43, .int), (cy_44, .int), (cy_45, .byte)] s) (hP : va_P (dC, dI) vwCl [(q_1, .inr (13, [.ref q_2, .int 0, .ref q_3, .ref q_4, .null])), (q_2, .inl (cy_5, 6000, .inl (fun _ => 0))), (q_3, .inr (9, [.ref q_6, .ref q_7, .ref q_8, .int 0, .null, .int 0, .int 0, .int 0, .ref q_9, .ref q_10, .ref q_11, .ref q_12, .int 0])), (q_6, .inl (cy_13, 6001, .inl (fun _ => 0))), (q_7, .inl (cy_14, 6001, .inl (fun _ => 0))), (q_8, .inl (cy_15, 6001, .inl (fun _ => 0))), (q_9, .inl (cy_16, 256, .inl (fun _ => 0))), (q_10, .inl (cy_17, 3001, .inl (fun _ => 0))), (q_11, .inl (cy_18, 3001, .inl (fun _ => 0))), (q_12, .inl (cy_19, 3001, .inl (fun _ => 0))), (q_4, .inr (4, [.null, .ref q_20, .ref q_21, .ref q_22, .ref q_23, .ref q_24, .int 0, .ref q_25, .int 0, .int 0, .int 0, .ref q_26, .int 0, .ref q_27, .int 0, .ref q_28, .null, .int 0, .int 0])), (q_29, .inr (15, fl 134 F_30)), (q_38, .inr (14, [.null, .null, .null, .null, .null, .int 0])), (q_31, .inl (cy_39, 6000, .inl (fun _ => 0))), (q_35, .inl (cy_40, 6002, .inl (fun _ => 0))), (q_36, .inl (cy_41, 6002, .inl (fun _ => 0))), (q_37, .inl (cy_42, 6002, .inl (fun _ => 0))), (q_33, .inl (cy_43, 6000, .inl (fun _ => 0))), (q_34, .inl (cy_44, 6000, .inl (fun _ => 0))), (q_32, .inl (cy_45, 6600, .inl (fun _ => 0)))] H) (hD : va_D A [(q_1, .inr (13, [.ref q_2, .int 0, .ref q_3, .ref q_4, .null])), (q_2, .inl (cy_5, 6000, .inl (fun _ => 0))), (q_3, .inr (9, [.ref q_6, .ref q_7, .ref q_8, .int 0, .null, .int 0, .int 0, .int 0, .ref q_9, .ref q_10, .ref q_11, .ref q_12, .int 0])), (q_6, .inl (cy_13, 6001, .inl (fun _ => 0))), (q_7, .inl (cy_14, 6001, .inl (fun _ => 0))), (q_8, .inl (cy_15, 6001, .inl (fun _ => 0))), (q_9, .inl (cy_16, 256, .inl (fun _ => 0))), (q_10, .inl (cy_17, 3001, .inl (fun _ => 0))), (q_11, .inl (cy_18, 3001, .inl (fun _ => 0))), (q_12, .inl (cy_19, 3001, .inl (fun _ => 0))), (q_4, .inr (4, [.null, .ref q_20, .ref q_21, .ref q_22, .ref q_23, .ref q_24, .int 0, .ref q_25, .int 0, .int 0, .int 0, .ref q_26, .int 0, .ref q_27, .int 0, .ref q_28, .null, .int 0, .int 0])), (q_29, .inr (15, fl 134 F_30)), (q_38, .inr (14, [.null, .null, .null, .null, .null, .int 0])), (q_31, .inl (cy_39, 6000, .inl (fun _ => 0))), (q_35, .inl (cy_40, 6002, .inl (fun _ => 0))), (q_36, .inl (cy_41, 6002, .inl (fun _ => 0))), (q_37, .inl (cy_42, 6002, .inl (fun _ => 0))), (q_33, .inl (cy_43, 6000, .inl (fun _ => 0))), (q_34, .inl (cy_44, 6000, .inl (fun _ => 0))), (q_32, .inl (cy_45, 6600, .inl (fun _ => 0)))]) (hS : va_S A s.heap H locs) (hl : lv_has ls 7 [(4, .int 0), (3, .ref q_58), (2, .ref q_29), (1, .ref q_1), (0, .ref b)]) : W p l e room_1 s m #[Value.ref b] below meth c H locs 100 719914 (lw_Z below #[Value.ref b] s) (F0 m 227 ls []) := by
  obtain ⟨hx, hb, hr, hml, hown, htsT, hX, hbl, hlocks, hgv⟩ := id C0
  have hown : s.vm.findClass RL = some m.cls := hown
  have hts : ∀ w ∈ ws_law, w.before #[Value.ref b] s = true := fun w h => htsT w (in_law w h)
  have hg := flat_of_before _ hgv
  have hbA : ¬ A b := hAa b hbl
  have hflags : l.stackTraces = false := by unfold Launch.stackTraces; rw [hfl]; decide
  refine lv_aload_n hx hb dL_law_227 rfl (lv_at hl 3 rfl) ?_
  refine lv_aload_n hx hb dL_law_228 rfl (lv_at hl 4 rfl) ?_
  refine lv_iload hx hb dL_law_229 (lv_at hl 0 rfl) ?_
  refine lv_iconst (v := 1) hx hb dL_law_231 (by decide) ?_
  refine lv_iadd hx hb dL_law_232 ?_
  refine lv_topi (fun y9 e9 => ?_)
  have e9 : y9 = 1 := by rw [e9]; decide
  subst e9
  refine va_sld hx hb hX hbl hbA hS (i := 1) (by unfold vp_in; decide) dL_law_233 ?_
  refine lv_topi (fun x_1001 ex_1001 => ?_)
  have ex_1001 : x_1001 = xs 1 := ex_1001
  have ex_1001 : x_1001 = 4 := ex_1001.trans hcnt
  subst ex_1001
  have hPc := hP.sub (ws' := [(q_1, .inr (13, [.ref q_2, .int 0, .ref q_3, .ref q_4, .null])), (q_4, .inr (4, [.null, .ref q_20, .ref q_21, .ref q_22, .ref q_23, .ref q_24, .int 0, .ref q_25, .int 0, .int 0, .int 0, .ref q_26, .int 0, .ref q_27, .int 0, .ref q_28, .null, .int 0, .int 0]))]) [0, 10] rfl
  have hDc := hD.sub (ws' := [(q_1, .inr (13, [.ref q_2, .int 0, .ref q_3, .ref q_4, .null])), (q_4, .inr (4, [.null, .ref q_20, .ref q_21, .ref q_22, .ref q_23, .ref q_24, .int 0, .ref q_25, .int 0, .int 0, .int 0, .ref q_26, .int 0, .ref q_27, .int 0, .ref q_28, .null, .int 0, .int 0]))]) [0, 10] (by decide) rfl
  have hKc := hK.sub (tys' := []) [] rfl
  have hFc := va_free (wc := [(q_1, .inr (13, [.ref q_2, .int 0, .ref q_3, .ref q_4, .null])), (q_4, .inr (4, [.null, .ref q_20, .ref q_21, .ref q_22, .ref q_23, .ref q_24, .int 0, .ref q_25, .int 0, .int 0, .int 0, .ref q_26, .int 0, .ref q_27, .int 0, .ref q_28, .null, .int 0, .int 0]))]) hD hS hA [0, 10] rfl
  refine va_calli (va_runV (As := [.int 4]) (rest := []) ⟨hx, hb, hml, hown, hts⟩ (cc_count l dC dI q_1 q_2 q_3 q_4 q_20 q_21 q_22 q_23 q_24 q_25 q_26 q_27 q_28 4 H.size) (cwV 1 hts gl_cc_count_39 rfl rfl rfl (by decide +kernel) ⟨(Nat.le_of_ble_eq_true rfl), (Nat.le_of_ble_eq_true rfl)⟩) ⟨fun a U g mk q => by obtain ⟨q0, q1, qP, qK, qD⟩ := q; exact ⟨q0, q1, qP, va_K.moved (u := U) (U := U.calling g mk a) (Vm.Alike.refl U.vm) qK, qD⟩, va_recv hKc hPc (ci := 13) (q0 := 0) rfl rfl, fun U hU hW => ⟨rfl, by rw [hU], by rw [hU]; exact hPc, va_K.moved hW.alike hKc, hDc.weaken (fun _ _ _ _ => trivial)⟩⟩ rfl rfl hl.1 rfl (lv_room (Nat.le_of_ble_eq_true rfl)) dL_law_234 ⟨(Nat.le_of_ble_eq_true rfl), (Nat.le_of_ble_eq_true rfl)⟩) hS (fun q _ h => hFc q h) hFc (fun r9 u t H1 locs ht hvm hw hB hz1 hk1 hS => ?_)
  obtain ⟨hP1, hK1, hD1⟩ := hB
  rw [ht] at hP1
  have hK1 := va_K.moved hvm.symm hK1
  obtain ⟨hP, hD⟩ := va_join (wr := [(q_2, .inl (cy_5, 6000, .inl (fun _ => 0))), (q_3, .inr (9, [.ref q_6, .ref q_7, .ref q_8, .int 0, .null, .int 0, .int 0, .int 0, .ref q_9, .ref q_10, .ref q_11, .ref q_12, .int 0])), (q_6, .inl (cy_13, 6001, .inl (fun _ => 0))), (q_7, .inl (cy_14, 6001, .inl (fun _ => 0))), (q_8, .inl (cy_15, 6001, .inl (fun _ => 0))), (q_9, .inl (cy_16, 256, .inl (fun _ => 0))), (q_10, .inl (cy_17, 3001, .inl (fun _ => 0))), (q_11, .inl (cy_18, 3001, .inl (fun _ => 0))), (q_12, .inl (cy_19, 3001, .inl (fun _ => 0))), (q_29, .inr (15, fl 134 F_30)), (q_38, .inr (14, [.null, .null, .null, .null, .null, .int 0])), (q_31, .inl (cy_39, 6000, .inl (fun _ => 0))), (q_35, .inl (cy_40, 6002, .inl (fun _ => 0))), (q_36, .inl (cy_41, 6002, .inl (fun _ => 0))), (q_37, .inl (cy_42, 6002, .inl (fun _ => 0))), (q_33, .inl (cy_43, 6000, .inl (fun _ => 0))), (q_34, .inl (cy_44, 6000, .inl (fun _ => 0))), (q_32, .inl (cy_45, 6600, .inl (fun _ => 0)))]) (w1 := []) hP hD [0, 10] [1, 2, 3, 4, 5, 6, 7, 8, 9, 11, 12, 13, 14, 15, 16, 17, 18, 19] rfl rfl (by decide) (by decide) hk1 hFc hP1 hD1
  have hK := (hK.sub (tys' := [(cy_5, .byte), (cy_13, .int), (cy_14, .int), (cy_15, .int), (cy_16, .int), (cy_17, .int), (cy_18, .int), (cy_19, .int), (cy_39, .byte), (cy_40, .int), (cy_41, .int), (cy_42, .int), (cy_43, .int), (cy_44, .int), (cy_45, .byte)]) [0, 1, 2, 3, 4, 5, 6, 7, 8, 9, 10, 11, 12, 13, 14] rfl).app hK1
  generalize H1 = H at hP hS ⊢
  have hK : va_K (dC, dI) vwCl [(cy_5, .byte), (cy_13, .int), (cy_14, .int), (cy_15, .int), (cy_16, .int), (cy_17, .int), (cy_18, .int), (cy_19, .int), (cy_39, .byte), (cy_40, .int), (cy_41, .int), (cy_42, .int), (cy_43, .int), (cy_44, .int), (cy_45, .byte)] s := hK
  have hP : va_P (dC, dI) vwCl [(q_2, .inl (cy_5, 6000, .inl (fun _ => 0))), (q_3, .inr (9, [.ref q_6, .ref q_7, .ref q_8, .int 0, .null, .int 0, .int 0, .int 0, .ref q_9, .ref q_10, .ref q_11, .ref q_12, .int 0])), (q_6, .inl (cy_13, 6001, .inl (fun _ => 0))), (q_7, .inl (cy_14, 6001, .inl (fun _ => 0))), (q_8, .inl (cy_15, 6001, .inl (fun _ => 0))), (q_9, .inl (cy_16, 256, .inl (fun _ => 0))), (q_10, .inl (cy_17, 3001, .inl (fun _ => 0))), (q_11, .inl (cy_18, 3001, .inl (fun _ => 0))), (q_12, .inl (cy_19, 3001, .inl (fun _ => 0))), (q_29, .inr (15, fl 134 F_30)), (q_38, .inr (14, [.null, .null, .null, .null, .null, .int 0])), (q_31, .inl (cy_39, 6000, .inl (fun _ => 0))), (q_35, .inl (cy_40, 6002, .inl (fun _ => 0))), (q_36, .inl (cy_41, 6002, .inl (fun _ => 0))), (q_37, .inl (cy_42, 6002, .inl (fun _ => 0))), (q_33, .inl (cy_43, 6000, .inl (fun _ => 0))), (q_34, .inl (cy_44, 6000, .inl (fun _ => 0))), (q_32, .inl (cy_45, 6600, .inl (fun _ => 0)))] H := hP
  have hD : va_D A [(q_2, .inl (cy_5, 6000, .inl (fun _ => 0))), (q_3, .inr (9, [.ref q_6, .ref q_7, .ref q_8, .int 0, .null, .int 0, .int 0, .int 0, .ref q_9, .ref q_10, .ref q_11, .ref q_12, .int 0])), (q_6, .inl (cy_13, 6001, .inl (fun _ => 0))), (q_7, .inl (cy_14, 6001, .inl (fun _ => 0))), (q_8, .inl (cy_15, 6001, .inl (fun _ => 0))), (q_9, .inl (cy_16, 256, .inl (fun _ => 0))), (q_10, .inl (cy_17, 3001, .inl (fun _ => 0))), (q_11, .inl (cy_18, 3001, .inl (fun _ => 0))), (q_12, .inl (cy_19, 3001, .inl (fun _ => 0))), (q_29, .inr (15, fl 134 F_30)), (q_38, .inr (14, [.null, .null, .null, .null, .null, .int 0])), (q_31, .inl (cy_39, 6000, .inl (fun _ => 0))), (q_35, .inl (cy_40, 6002, .inl (fun _ => 0))), (q_36, .inl (cy_41, 6002, .inl (fun _ => 0))), (q_37, .inl (cy_42, 6002, .inl (fun _ => 0))), (q_33, .inl (cy_43, 6000, .inl (fun _ => 0))), (q_34, .inl (cy_44, 6000, .inl (fun _ => 0))), (q_32, .inl (cy_45, 6600, .inl (fun _ => 0)))] := hD
  refine W.widen (k := 100) (n := 719914) (Nat.le_of_ble_eq_true rfl) (Nat.le_of_ble_eq_true rfl) ?_
  obtain rfl : r9 = (cntS 4) := hw
  refine lv_aload_n hx hb dL_law_237 rfl (lv_at hl 2 rfl) ?_
  refine lv_aload_n hx hb dL_law_238 rfl (lv_at hl 4 rfl) ?_
  refine lv_iload hx hb dL_law_239 (lv_at hl 0 rfl) ?_
  refine lv_iconst (v := 1) hx hb dL_law_241 (by decide) ?_
  refine lv_iadd hx hb dL_law_242 ?_
  refine lv_topi (fun y9 e9 => ?_)
  have e9 : y9 = 1 := by rw [e9]; decide
  subst e9
  refine va_sld hx hb hX hbl hbA hS (i := 1) (by unfold vp_in; decide) dL_law_243 ?_
  refine lv_topi (fun x_1002 ex_1002 => ?_)
  have ex_1002 : x_1002 = xs 1 := ex_1002
  have ex_1002 : x_1002 = 4 := ex_1002.trans hcnt
  subst ex_1002
  have hPc := hP.sub (ws' := [(q_29, .inr (15, fl 134 F_30))]) [9] rfl
  have hDc := hD.sub (ws' := [(q_29, .inr (15, fl 134 F_30))]) [9] (by decide) rfl
  have hKc := hK.sub (tys' := []) [] rfl
  have hFc := va_free (wc := [(q_29, .inr (15, fl 134 F_30))]) hD hS hA [9] rfl
  refine va_calli (va_runV (As := [.int 4]) (rest := [.int (cntS 4)]) ⟨hx, hb, hml, hown, hts⟩ (cm_count_4 l dC dI q_29 F_30 H.size hq3 hq98 hq100) (cwV 1 hts gl_cm_count_4_42 rfl rfl rfl (by decide +kernel) ⟨(Nat.le_of_ble_eq_true rfl), (Nat.le_of_ble_eq_true rfl)⟩) ⟨fun a U g mk q => by obtain ⟨q0, q1, qP, qK, qD⟩ := q; exact ⟨q0, q1, qP, va_K.moved (u := U) (U := U.calling g mk a) (Vm.Alike.refl U.vm) qK, qD⟩, va_recv hKc hPc (ci := 15) (q0 := 0) rfl rfl, fun U hU hW => ⟨rfl, by rw [hU], by rw [hU]; exact hPc, va_K.moved hW.alike hKc, hDc.weaken (fun _ _ _ _ => trivial)⟩⟩ rfl rfl hl.1 rfl (lv_room (Nat.le_of_ble_eq_true rfl)) dL_law_244 ⟨(Nat.le_of_ble_eq_true rfl), (Nat.le_of_ble_eq_true rfl)⟩) hS (fun q _ h => hFc q h) hFc (fun r9 u t H1 locs ht hvm hw hB hz1 hk1 hS => ?_)
  obtain ⟨hP1, hK1, hD1⟩ := hB
  rw [ht] at hP1
  have hK1 := va_K.moved hvm.symm hK1
  obtain ⟨hP, hD⟩ := va_join (wr := [(q_2, .inl (cy_5, 6000, .inl (fun _ => 0))), (q_3, .inr (9, [.ref q_6, .ref q_7, .ref q_8, .int 0, .null, .int 0, .int 0, .int 0, .ref q_9, .ref q_10, .ref q_11, .ref q_12, .int 0])), (q_6, .inl (cy_13, 6001, .inl (fun _ => 0))), (q_7, .inl (cy_14, 6001, .inl (fun _ => 0))), (q_8, .inl (cy_15, 6001, .inl (fun _ => 0))), (q_9, .inl (cy_16, 256, .inl (fun _ => 0))), (q_10, .inl (cy_17, 3001, .inl (fun _ => 0))), (q_11, .inl (cy_18, 3001, .inl (fun _ => 0))), (q_12, .inl (cy_19, 3001, .inl (fun _ => 0))), (q_38, .inr (14, [.null, .null, .null, .null, .null, .int 0])), (q_31, .inl (cy_39, 6000, .inl (fun _ => 0))), (q_35, .inl (cy_40, 6002, .inl (fun _ => 0))), (q_36, .inl (cy_41, 6002, .inl (fun _ => 0))), (q_37, .inl (cy_42, 6002, .inl (fun _ => 0))), (q_33, .inl (cy_43, 6000, .inl (fun _ => 0))), (q_34, .inl (cy_44, 6000, .inl (fun _ => 0))), (q_32, .inl (cy_45, 6600, .inl (fun _ => 0)))]) (w1 := []) hP hD [9] [0, 1, 2, 3, 4, 5, 6, 7, 8, 10, 11, 12, 13, 14, 15, 16, 17] rfl rfl (by decide) (by decide) hk1 hFc hP1 hD1
  have hK := (hK.sub (tys' := [(cy_5, .byte), (cy_13, .int), (cy_14, .int), (cy_15, .int), (cy_16, .int), (cy_17, .int), (cy_18, .int), (cy_19, .int), (cy_39, .byte), (cy_40, .int), (cy_41, .int), (cy_42, .int), (cy_43, .int), (cy_44, .int), (cy_45, .byte)]) [0, 1, 2, 3, 4, 5, 6, 7, 8, 9, 10, 11, 12, 13, 14] rfl).app hK1
  generalize H1 = H at hP hS ⊢
  have hK : va_K (dC, dI) vwCl [(cy_5, .byte), (cy_13, .int), (cy_14, .int), (cy_15, .int), (cy_16, .int), (cy_17, .int), (cy_18, .int), (cy_19, .int), (cy_39, .byte), (cy_40, .int), (cy_41, .int), (cy_42, .int), (cy_43, .int), (cy_44, .int), (cy_45, .byte)] s := hK
  have hP : va_P (dC, dI) vwCl [(q_2, .inl (cy_5, 6000, .inl (fun _ => 0))), (q_3, .inr (9, [.ref q_6, .ref q_7, .ref q_8, .int 0, .null, .int 0, .int 0, .int 0, .ref q_9, .ref q_10, .ref q_11, .ref q_12, .int 0])), (q_6, .inl (cy_13, 6001, .inl (fun _ => 0))), (q_7, .inl (cy_14, 6001, .inl (fun _ => 0))), (q_8, .inl (cy_15, 6001, .inl (fun _ => 0))), (q_9, .inl (cy_16, 256, .inl (fun _ => 0))), (q_10, .inl (cy_17, 3001, .inl (fun _ => 0))), (q_11, .inl (cy_18, 3001, .inl (fun _ => 0))), (q_12, .inl (cy_19, 3001, .inl (fun _ => 0))), (q_38, .inr (14, [.null, .null, .null, .null, .null, .int 0])), (q_31, .inl (cy_39, 6000, .inl (fun _ => 0))), (q_35, .inl (cy_40, 6002, .inl (fun _ => 0))), (q_36, .inl (cy_41, 6002, .inl (fun _ => 0))), (q_37, .inl (cy_42, 6002, .inl (fun _ => 0))), (q_33, .inl (cy_43, 6000, .inl (fun _ => 0))), (q_34, .inl (cy_44, 6000, .inl (fun _ => 0))), (q_32, .inl (cy_45, 6600, .inl (fun _ => 0)))] H := hP
  have hD : va_D A [(q_2, .inl (cy_5, 6000, .inl (fun _ => 0))), (q_3, .inr (9, [.ref q_6, .ref q_7, .ref q_8, .int 0, .null, .int 0, .int 0, .int 0, .ref q_9, .ref q_10, .ref q_11, .ref q_12, .int 0])), (q_6, .inl (cy_13, 6001, .inl (fun _ => 0))), (q_7, .inl (cy_14, 6001, .inl (fun _ => 0))), (q_8, .inl (cy_15, 6001, .inl (fun _ => 0))), (q_9, .inl (cy_16, 256, .inl (fun _ => 0))), (q_10, .inl (cy_17, 3001, .inl (fun _ => 0))), (q_11, .inl (cy_18, 3001, .inl (fun _ => 0))), (q_12, .inl (cy_19, 3001, .inl (fun _ => 0))), (q_38, .inr (14, [.null, .null, .null, .null, .null, .int 0])), (q_31, .inl (cy_39, 6000, .inl (fun _ => 0))), (q_35, .inl (cy_40, 6002, .inl (fun _ => 0))), (q_36, .inl (cy_41, 6002, .inl (fun _ => 0))), (q_37, .inl (cy_42, 6002, .inl (fun _ => 0))), (q_33, .inl (cy_43, 6000, .inl (fun _ => 0))), (q_34, .inl (cy_44, 6000, .inl (fun _ => 0))), (q_32, .inl (cy_45, 6600, .inl (fun _ => 0)))] := hD
  refine W.widen (k := 100) (n := 719914) (Nat.le_of_ble_eq_true rfl) (Nat.le_of_ble_eq_true rfl) ?_
  obtain rfl : r9 = 0 := hw
  refine lv_icmp_eq (tgt := 665) hx hb dL_law_247 (by decide) (fun c9 => ?_) (fun c9 => absurd (by decide) c9)
  refine lv_iinc (v := 6) (lv' := [(4, .int 6), (3, .ref q_58), (2, .ref q_29), (1, .ref q_1), (0, .ref b)]) hx hb dL_law_665 hl (k := 0) rfl (by decide) (by decide) rfl (fun ls hl => ?_)
  refine lv_goto (tgt := 23) hx hb dL_law_668 (by decide) ?_
  refine lv_iload hx hb dL_law_23 (lv_at hl 0 rfl) ?_
  refine lv_aload_n hx hb dL_law_25 rfl (lv_at hl 4 rfl) ?_
  refine va_slen hx hb hX hbl hbA hS dL_law_26 ?_
  refine lv_topi (fun y9 e9 => ?_)
  have e9 : y9 = 6 := e9
  subst e9
  refine lv_bipush (v := 6) hx hb dL_law_27 (by decide) ?_
  refine lv_isub hx hb dL_law_29 ?_
  refine lv_topi (fun y9 e9 => ?_)
  have e9 : y9 = 0 := by rw [e9]; decide
  subst e9
  refine lv_icmp_gt (tgt := 671) hx hb dL_law_30 (by decide) (fun c9 => ?_) (fun c9 => absurd (by decide) c9)
  clear c9
  refine lv_iconst (v := 1) hx hb dL_law_671 (by decide) ?_
  refine va_forget (fun q hq => hAA q.base (hS.2.2 q hq)) ?_
  refine W.widen (k := 600002) (n := 7302232) (Nat.le_of_ble_eq_true rfl) (Nat.le_of_ble_eq_true rfl) ?_
  exact lw_ret hx hb hr hlocks dL_law_672
set_option maxHeartbeats 4000000 in
set_option maxRecDepth 100000 in
theorem law_count_5 {p : Program} {e : Env} {s : State} {m : MethodId} {below : List Frame} {meth : Method} {c : Code} (l : Launch) (hfl : l.flags = flags0) {b : Nat} {xs : Nat → Int32} (C0 : lw_At p s m meth c b 6 xs) (dC : Nat → ClassId) (dI : Nat → Nat → Nat) (A : Nat → Prop) (hA : ∀ q : Nat, s.heap.size ≤ q → A q) (hAa : ∀ q : Nat, q < s.heap.size → ¬ A q) (hAA : ∀ q : Nat, A q → s.heap.size ≤ q) (q_1 : Nat) (q_2 : Nat) (q_3 : Nat) (q_4 : Nat) (cy_5 : ClassId) (q_6 : Nat) (q_7 : Nat) (q_8 : Nat) (q_9 : Nat) (q_10 : Nat) (q_11 : Nat) (q_12 : Nat) (cy_13 : ClassId) (cy_14 : ClassId) (cy_15 : ClassId) (cy_16 : ClassId) (cy_17 : ClassId) (cy_18 : ClassId) (cy_19 : ClassId) (q_20 : Nat) (q_21 : Nat) (q_22 : Nat) (q_23 : Nat) (q_24 : Nat) (q_25 : Nat) (q_26 : Nat) (q_27 : Nat) (q_28 : Nat) (q_29 : Nat) (F_30 : Nat → Value) (q_31 : Nat) (q_32 : Nat) (q_33 : Nat) (q_34 : Nat) (q_35 : Nat) (q_36 : Nat) (q_37 : Nat) (q_38 : Nat) (cy_39 : ClassId) (cy_40 : ClassId) (cy_41 : ClassId) (cy_42 : ClassId) (cy_43 : ClassId) (cy_44 : ClassId) (cy_45 : ClassId) (q_58 : Nat) (hq0 : F_30 0 = .int 0) (hq1 : F_30 1 = .ref q_38) (hq2 : F_30 2 = .ref q_31) (hq3 : F_30 3 = .int 0) (hq9 : F_30 9 = .ref q_35) (hq10 : F_30 10 = .ref q_36) (hq11 : F_30 11 = .ref q_37) (hq13 : F_30 13 = .ref q_33) (hq14 : F_30 14 = .ref q_34) (hq15 : F_30 15 = .ref q_32) (hq98 : F_30 98 = .int 0) (hq100 : F_30 100 = .int 0) (hcnt : xs 1 = 5) (H : Heap) (locs : List Loc) (ls : Array Slot) (hK : va_K (dC, dI) vwCl [(cy_5, .byte), (cy_13, .int), (cy_14, .int), (cy_15, .int), (cy_16, .int), (cy_17, .int), (cy_18, .int), (cy_19, .int), (cy_39, .byte), (cy_40, .int), (cy_41, .int), (cy_42, .int), (cy_43, .int), (cy_44, .int), (cy_45, .byte)] s) (hP : va_P (dC, dI) vwCl [(q_1, .inr (13, [.ref q_2, .int 0, .ref q_3, .ref q_4, .null])), (q_2, .inl (cy_5, 6000, .inl (fun _ => 0))), (q_3, .inr (9, [.ref q_6, .ref q_7, .ref q_8, .int 0, .null, .int 0, .int 0, .int 0, .ref q_9, .ref q_10, .ref q_11, .ref q_12, .int 0])), (q_6, .inl (cy_13, 6001, .inl (fun _ => 0))), (q_7, .inl (cy_14, 6001, .inl (fun _ => 0))), (q_8, .inl (cy_15, 6001, .inl (fun _ => 0))), (q_9, .inl (cy_16, 256, .inl (fun _ => 0))), (q_10, .inl (cy_17, 3001, .inl (fun _ => 0))), (q_11, .inl (cy_18, 3001, .inl (fun _ => 0))), (q_12, .inl (cy_19, 3001, .inl (fun _ => 0))), (q_4, .inr (4, [.null, .ref q_20, .ref q_21, .ref q_22, .ref q_23, .ref q_24, .int 0, .ref q_25, .int 0, .int 0, .int 0, .ref q_26, .int 0, .ref q_27, .int 0, .ref q_28, .null, .int 0, .int 0])), (q_29, .inr (15, fl 134 F_30)), (q_38, .inr (14, [.null, .null, .null, .null, .null, .int 0])), (q_31, .inl (cy_39, 6000, .inl (fun _ => 0))), (q_35, .inl (cy_40, 6002, .inl (fun _ => 0))), (q_36, .inl (cy_41, 6002, .inl (fun _ => 0))), (q_37, .inl (cy_42, 6002, .inl (fun _ => 0))), (q_33, .inl (cy_43, 6000, .inl (fun _ => 0))), (q_34, .inl (cy_44, 6000, .inl (fun _ => 0))), (q_32, .inl (cy_45, 6600, .inl (fun _ => 0)))] H) (hD : va_D A [(q_1, .inr (13, [.ref q_2, .int 0, .ref q_3, .ref q_4, .null])), (q_2, .inl (cy_5, 6000, .inl (fun _ => 0))), (q_3, .inr (9, [.ref q_6, .ref q_7, .ref q_8, .int 0, .null, .int 0, .int 0, .int 0, .ref q_9, .ref q_10, .ref q_11, .ref q_12, .int 0])), (q_6, .inl (cy_13, 6001, .inl (fun _ => 0))), (q_7, .inl (cy_14, 6001, .inl (fun _ => 0))), (q_8, .inl (cy_15, 6001, .inl (fun _ => 0))), (q_9, .inl (cy_16, 256, .inl (fun _ => 0))), (q_10, .inl (cy_17, 3001, .inl (fun _ => 0))), (q_11, .inl (cy_18, 3001, .inl (fun _ => 0))), (q_12, .inl (cy_19, 3001, .inl (fun _ => 0))), (q_4, .inr (4, [.null, .ref q_20, .ref q_21, .ref q_22, .ref q_23, .ref q_24, .int 0, .ref q_25, .int 0, .int 0, .int 0, .ref q_26, .int 0, .ref q_27, .int 0, .ref q_28, .null, .int 0, .int 0])), (q_29, .inr (15, fl 134 F_30)), (q_38, .inr (14, [.null, .null, .null, .null, .null, .int 0])), (q_31, .inl (cy_39, 6000, .inl (fun _ => 0))), (q_35, .inl (cy_40, 6002, .inl (fun _ => 0))), (q_36, .inl (cy_41, 6002, .inl (fun _ => 0))), (q_37, .inl (cy_42, 6002, .inl (fun _ => 0))), (q_33, .inl (cy_43, 6000, .inl (fun _ => 0))), (q_34, .inl (cy_44, 6000, .inl (fun _ => 0))), (q_32, .inl (cy_45, 6600, .inl (fun _ => 0)))]) (hS : va_S A s.heap H locs) (hl : lv_has ls 7 [(4, .int 0), (3, .ref q_58), (2, .ref q_29), (1, .ref q_1), (0, .ref b)]) : W p l e room_1 s m #[Value.ref b] below meth c H locs 100 719914 (lw_Z below #[Value.ref b] s) (F0 m 227 ls []) := by
  obtain ⟨hx, hb, hr, hml, hown, htsT, hX, hbl, hlocks, hgv⟩ := id C0
  have hown : s.vm.findClass RL = some m.cls := hown
  have hts : ∀ w ∈ ws_law, w.before #[Value.ref b] s = true := fun w h => htsT w (in_law w h)
  have hg := flat_of_before _ hgv
  have hbA : ¬ A b := hAa b hbl
  have hflags : l.stackTraces = false := by unfold Launch.stackTraces; rw [hfl]; decide
  refine lv_aload_n hx hb dL_law_227 rfl (lv_at hl 3 rfl) ?_
  refine lv_aload_n hx hb dL_law_228 rfl (lv_at hl 4 rfl) ?_
  refine lv_iload hx hb dL_law_229 (lv_at hl 0 rfl) ?_
  refine lv_iconst (v := 1) hx hb dL_law_231 (by decide) ?_
  refine lv_iadd hx hb dL_law_232 ?_
  refine lv_topi (fun y9 e9 => ?_)
  have e9 : y9 = 1 := by rw [e9]; decide
  subst e9
  refine va_sld hx hb hX hbl hbA hS (i := 1) (by unfold vp_in; decide) dL_law_233 ?_
  refine lv_topi (fun x_1001 ex_1001 => ?_)
  have ex_1001 : x_1001 = xs 1 := ex_1001
  have ex_1001 : x_1001 = 5 := ex_1001.trans hcnt
  subst ex_1001
  have hPc := hP.sub (ws' := [(q_1, .inr (13, [.ref q_2, .int 0, .ref q_3, .ref q_4, .null])), (q_4, .inr (4, [.null, .ref q_20, .ref q_21, .ref q_22, .ref q_23, .ref q_24, .int 0, .ref q_25, .int 0, .int 0, .int 0, .ref q_26, .int 0, .ref q_27, .int 0, .ref q_28, .null, .int 0, .int 0]))]) [0, 10] rfl
  have hDc := hD.sub (ws' := [(q_1, .inr (13, [.ref q_2, .int 0, .ref q_3, .ref q_4, .null])), (q_4, .inr (4, [.null, .ref q_20, .ref q_21, .ref q_22, .ref q_23, .ref q_24, .int 0, .ref q_25, .int 0, .int 0, .int 0, .ref q_26, .int 0, .ref q_27, .int 0, .ref q_28, .null, .int 0, .int 0]))]) [0, 10] (by decide) rfl
  have hKc := hK.sub (tys' := []) [] rfl
  have hFc := va_free (wc := [(q_1, .inr (13, [.ref q_2, .int 0, .ref q_3, .ref q_4, .null])), (q_4, .inr (4, [.null, .ref q_20, .ref q_21, .ref q_22, .ref q_23, .ref q_24, .int 0, .ref q_25, .int 0, .int 0, .int 0, .ref q_26, .int 0, .ref q_27, .int 0, .ref q_28, .null, .int 0, .int 0]))]) hD hS hA [0, 10] rfl
  refine va_calli (va_runV (As := [.int 5]) (rest := []) ⟨hx, hb, hml, hown, hts⟩ (cc_count l dC dI q_1 q_2 q_3 q_4 q_20 q_21 q_22 q_23 q_24 q_25 q_26 q_27 q_28 5 H.size) (cwV 1 hts gl_cc_count_39 rfl rfl rfl (by decide +kernel) ⟨(Nat.le_of_ble_eq_true rfl), (Nat.le_of_ble_eq_true rfl)⟩) ⟨fun a U g mk q => by obtain ⟨q0, q1, qP, qK, qD⟩ := q; exact ⟨q0, q1, qP, va_K.moved (u := U) (U := U.calling g mk a) (Vm.Alike.refl U.vm) qK, qD⟩, va_recv hKc hPc (ci := 13) (q0 := 0) rfl rfl, fun U hU hW => ⟨rfl, by rw [hU], by rw [hU]; exact hPc, va_K.moved hW.alike hKc, hDc.weaken (fun _ _ _ _ => trivial)⟩⟩ rfl rfl hl.1 rfl (lv_room (Nat.le_of_ble_eq_true rfl)) dL_law_234 ⟨(Nat.le_of_ble_eq_true rfl), (Nat.le_of_ble_eq_true rfl)⟩) hS (fun q _ h => hFc q h) hFc (fun r9 u t H1 locs ht hvm hw hB hz1 hk1 hS => ?_)
  obtain ⟨hP1, hK1, hD1⟩ := hB
  rw [ht] at hP1
  have hK1 := va_K.moved hvm.symm hK1
  obtain ⟨hP, hD⟩ := va_join (wr := [(q_2, .inl (cy_5, 6000, .inl (fun _ => 0))), (q_3, .inr (9, [.ref q_6, .ref q_7, .ref q_8, .int 0, .null, .int 0, .int 0, .int 0, .ref q_9, .ref q_10, .ref q_11, .ref q_12, .int 0])), (q_6, .inl (cy_13, 6001, .inl (fun _ => 0))), (q_7, .inl (cy_14, 6001, .inl (fun _ => 0))), (q_8, .inl (cy_15, 6001, .inl (fun _ => 0))), (q_9, .inl (cy_16, 256, .inl (fun _ => 0))), (q_10, .inl (cy_17, 3001, .inl (fun _ => 0))), (q_11, .inl (cy_18, 3001, .inl (fun _ => 0))), (q_12, .inl (cy_19, 3001, .inl (fun _ => 0))), (q_29, .inr (15, fl 134 F_30)), (q_38, .inr (14, [.null, .null, .null, .null, .null, .int 0])), (q_31, .inl (cy_39, 6000, .inl (fun _ => 0))), (q_35, .inl (cy_40, 6002, .inl (fun _ => 0))), (q_36, .inl (cy_41, 6002, .inl (fun _ => 0))), (q_37, .inl (cy_42, 6002, .inl (fun _ => 0))), (q_33, .inl (cy_43, 6000, .inl (fun _ => 0))), (q_34, .inl (cy_44, 6000, .inl (fun _ => 0))), (q_32, .inl (cy_45, 6600, .inl (fun _ => 0)))]) (w1 := []) hP hD [0, 10] [1, 2, 3, 4, 5, 6, 7, 8, 9, 11, 12, 13, 14, 15, 16, 17, 18, 19] rfl rfl (by decide) (by decide) hk1 hFc hP1 hD1
  have hK := (hK.sub (tys' := [(cy_5, .byte), (cy_13, .int), (cy_14, .int), (cy_15, .int), (cy_16, .int), (cy_17, .int), (cy_18, .int), (cy_19, .int), (cy_39, .byte), (cy_40, .int), (cy_41, .int), (cy_42, .int), (cy_43, .int), (cy_44, .int), (cy_45, .byte)]) [0, 1, 2, 3, 4, 5, 6, 7, 8, 9, 10, 11, 12, 13, 14] rfl).app hK1
  generalize H1 = H at hP hS ⊢
  have hK : va_K (dC, dI) vwCl [(cy_5, .byte), (cy_13, .int), (cy_14, .int), (cy_15, .int), (cy_16, .int), (cy_17, .int), (cy_18, .int), (cy_19, .int), (cy_39, .byte), (cy_40, .int), (cy_41, .int), (cy_42, .int), (cy_43, .int), (cy_44, .int), (cy_45, .byte)] s := hK
  have hP : va_P (dC, dI) vwCl [(q_2, .inl (cy_5, 6000, .inl (fun _ => 0))), (q_3, .inr (9, [.ref q_6, .ref q_7, .ref q_8, .int 0, .null, .int 0, .int 0, .int 0, .ref q_9, .ref q_10, .ref q_11, .ref q_12, .int 0])), (q_6, .inl (cy_13, 6001, .inl (fun _ => 0))), (q_7, .inl (cy_14, 6001, .inl (fun _ => 0))), (q_8, .inl (cy_15, 6001, .inl (fun _ => 0))), (q_9, .inl (cy_16, 256, .inl (fun _ => 0))), (q_10, .inl (cy_17, 3001, .inl (fun _ => 0))), (q_11, .inl (cy_18, 3001, .inl (fun _ => 0))), (q_12, .inl (cy_19, 3001, .inl (fun _ => 0))), (q_29, .inr (15, fl 134 F_30)), (q_38, .inr (14, [.null, .null, .null, .null, .null, .int 0])), (q_31, .inl (cy_39, 6000, .inl (fun _ => 0))), (q_35, .inl (cy_40, 6002, .inl (fun _ => 0))), (q_36, .inl (cy_41, 6002, .inl (fun _ => 0))), (q_37, .inl (cy_42, 6002, .inl (fun _ => 0))), (q_33, .inl (cy_43, 6000, .inl (fun _ => 0))), (q_34, .inl (cy_44, 6000, .inl (fun _ => 0))), (q_32, .inl (cy_45, 6600, .inl (fun _ => 0)))] H := hP
  have hD : va_D A [(q_2, .inl (cy_5, 6000, .inl (fun _ => 0))), (q_3, .inr (9, [.ref q_6, .ref q_7, .ref q_8, .int 0, .null, .int 0, .int 0, .int 0, .ref q_9, .ref q_10, .ref q_11, .ref q_12, .int 0])), (q_6, .inl (cy_13, 6001, .inl (fun _ => 0))), (q_7, .inl (cy_14, 6001, .inl (fun _ => 0))), (q_8, .inl (cy_15, 6001, .inl (fun _ => 0))), (q_9, .inl (cy_16, 256, .inl (fun _ => 0))), (q_10, .inl (cy_17, 3001, .inl (fun _ => 0))), (q_11, .inl (cy_18, 3001, .inl (fun _ => 0))), (q_12, .inl (cy_19, 3001, .inl (fun _ => 0))), (q_29, .inr (15, fl 134 F_30)), (q_38, .inr (14, [.null, .null, .null, .null, .null, .int 0])), (q_31, .inl (cy_39, 6000, .inl (fun _ => 0))), (q_35, .inl (cy_40, 6002, .inl (fun _ => 0))), (q_36, .inl (cy_41, 6002, .inl (fun _ => 0))), (q_37, .inl (cy_42, 6002, .inl (fun _ => 0))), (q_33, .inl (cy_43, 6000, .inl (fun _ => 0))), (q_34, .inl (cy_44, 6000, .inl (fun _ => 0))), (q_32, .inl (cy_45, 6600, .inl (fun _ => 0)))] := hD
  refine W.widen (k := 100) (n := 719914) (Nat.le_of_ble_eq_true rfl) (Nat.le_of_ble_eq_true rfl) ?_
  obtain rfl : r9 = (cntS 5) := hw
  refine lv_aload_n hx hb dL_law_237 rfl (lv_at hl 2 rfl) ?_
  refine lv_aload_n hx hb dL_law_238 rfl (lv_at hl 4 rfl) ?_
  refine lv_iload hx hb dL_law_239 (lv_at hl 0 rfl) ?_
  refine lv_iconst (v := 1) hx hb dL_law_241 (by decide) ?_
  refine lv_iadd hx hb dL_law_242 ?_
  refine lv_topi (fun y9 e9 => ?_)
  have e9 : y9 = 1 := by rw [e9]; decide
  subst e9
  refine va_sld hx hb hX hbl hbA hS (i := 1) (by unfold vp_in; decide) dL_law_243 ?_
  refine lv_topi (fun x_1002 ex_1002 => ?_)
  have ex_1002 : x_1002 = xs 1 := ex_1002
  have ex_1002 : x_1002 = 5 := ex_1002.trans hcnt
  subst ex_1002
  have hPc := hP.sub (ws' := [(q_29, .inr (15, fl 134 F_30))]) [9] rfl
  have hDc := hD.sub (ws' := [(q_29, .inr (15, fl 134 F_30))]) [9] (by decide) rfl
  have hKc := hK.sub (tys' := []) [] rfl
  have hFc := va_free (wc := [(q_29, .inr (15, fl 134 F_30))]) hD hS hA [9] rfl
  refine va_calli (va_runV (As := [.int 5]) (rest := [.int (cntS 5)]) ⟨hx, hb, hml, hown, hts⟩ (cm_count_5 l dC dI q_29 F_30 H.size hq3 hq98 hq100) (cwV 1 hts gl_cm_count_5_42 rfl rfl rfl (by decide +kernel) ⟨(Nat.le_of_ble_eq_true rfl), (Nat.le_of_ble_eq_true rfl)⟩) ⟨fun a U g mk q => by obtain ⟨q0, q1, qP, qK, qD⟩ := q; exact ⟨q0, q1, qP, va_K.moved (u := U) (U := U.calling g mk a) (Vm.Alike.refl U.vm) qK, qD⟩, va_recv hKc hPc (ci := 15) (q0 := 0) rfl rfl, fun U hU hW => ⟨rfl, by rw [hU], by rw [hU]; exact hPc, va_K.moved hW.alike hKc, hDc.weaken (fun _ _ _ _ => trivial)⟩⟩ rfl rfl hl.1 rfl (lv_room (Nat.le_of_ble_eq_true rfl)) dL_law_244 ⟨(Nat.le_of_ble_eq_true rfl), (Nat.le_of_ble_eq_true rfl)⟩) hS (fun q _ h => hFc q h) hFc (fun r9 u t H1 locs ht hvm hw hB hz1 hk1 hS => ?_)
  obtain ⟨hP1, hK1, hD1⟩ := hB
  rw [ht] at hP1
  have hK1 := va_K.moved hvm.symm hK1
  obtain ⟨hP, hD⟩ := va_join (wr := [(q_2, .inl (cy_5, 6000, .inl (fun _ => 0))), (q_3, .inr (9, [.ref q_6, .ref q_7, .ref q_8, .int 0, .null, .int 0, .int 0, .int 0, .ref q_9, .ref q_10, .ref q_11, .ref q_12, .int 0])), (q_6, .inl (cy_13, 6001, .inl (fun _ => 0))), (q_7, .inl (cy_14, 6001, .inl (fun _ => 0))), (q_8, .inl (cy_15, 6001, .inl (fun _ => 0))), (q_9, .inl (cy_16, 256, .inl (fun _ => 0))), (q_10, .inl (cy_17, 3001, .inl (fun _ => 0))), (q_11, .inl (cy_18, 3001, .inl (fun _ => 0))), (q_12, .inl (cy_19, 3001, .inl (fun _ => 0))), (q_38, .inr (14, [.null, .null, .null, .null, .null, .int 0])), (q_31, .inl (cy_39, 6000, .inl (fun _ => 0))), (q_35, .inl (cy_40, 6002, .inl (fun _ => 0))), (q_36, .inl (cy_41, 6002, .inl (fun _ => 0))), (q_37, .inl (cy_42, 6002, .inl (fun _ => 0))), (q_33, .inl (cy_43, 6000, .inl (fun _ => 0))), (q_34, .inl (cy_44, 6000, .inl (fun _ => 0))), (q_32, .inl (cy_45, 6600, .inl (fun _ => 0)))]) (w1 := []) hP hD [9] [0, 1, 2, 3, 4, 5, 6, 7, 8, 10, 11, 12, 13, 14, 15, 16, 17] rfl rfl (by decide) (by decide) hk1 hFc hP1 hD1
  have hK := (hK.sub (tys' := [(cy_5, .byte), (cy_13, .int), (cy_14, .int), (cy_15, .int), (cy_16, .int), (cy_17, .int), (cy_18, .int), (cy_19, .int), (cy_39, .byte), (cy_40, .int), (cy_41, .int), (cy_42, .int), (cy_43, .int), (cy_44, .int), (cy_45, .byte)]) [0, 1, 2, 3, 4, 5, 6, 7, 8, 9, 10, 11, 12, 13, 14] rfl).app hK1
  generalize H1 = H at hP hS ⊢
  have hK : va_K (dC, dI) vwCl [(cy_5, .byte), (cy_13, .int), (cy_14, .int), (cy_15, .int), (cy_16, .int), (cy_17, .int), (cy_18, .int), (cy_19, .int), (cy_39, .byte), (cy_40, .int), (cy_41, .int), (cy_42, .int), (cy_43, .int), (cy_44, .int), (cy_45, .byte)] s := hK
  have hP : va_P (dC, dI) vwCl [(q_2, .inl (cy_5, 6000, .inl (fun _ => 0))), (q_3, .inr (9, [.ref q_6, .ref q_7, .ref q_8, .int 0, .null, .int 0, .int 0, .int 0, .ref q_9, .ref q_10, .ref q_11, .ref q_12, .int 0])), (q_6, .inl (cy_13, 6001, .inl (fun _ => 0))), (q_7, .inl (cy_14, 6001, .inl (fun _ => 0))), (q_8, .inl (cy_15, 6001, .inl (fun _ => 0))), (q_9, .inl (cy_16, 256, .inl (fun _ => 0))), (q_10, .inl (cy_17, 3001, .inl (fun _ => 0))), (q_11, .inl (cy_18, 3001, .inl (fun _ => 0))), (q_12, .inl (cy_19, 3001, .inl (fun _ => 0))), (q_38, .inr (14, [.null, .null, .null, .null, .null, .int 0])), (q_31, .inl (cy_39, 6000, .inl (fun _ => 0))), (q_35, .inl (cy_40, 6002, .inl (fun _ => 0))), (q_36, .inl (cy_41, 6002, .inl (fun _ => 0))), (q_37, .inl (cy_42, 6002, .inl (fun _ => 0))), (q_33, .inl (cy_43, 6000, .inl (fun _ => 0))), (q_34, .inl (cy_44, 6000, .inl (fun _ => 0))), (q_32, .inl (cy_45, 6600, .inl (fun _ => 0)))] H := hP
  have hD : va_D A [(q_2, .inl (cy_5, 6000, .inl (fun _ => 0))), (q_3, .inr (9, [.ref q_6, .ref q_7, .ref q_8, .int 0, .null, .int 0, .int 0, .int 0, .ref q_9, .ref q_10, .ref q_11, .ref q_12, .int 0])), (q_6, .inl (cy_13, 6001, .inl (fun _ => 0))), (q_7, .inl (cy_14, 6001, .inl (fun _ => 0))), (q_8, .inl (cy_15, 6001, .inl (fun _ => 0))), (q_9, .inl (cy_16, 256, .inl (fun _ => 0))), (q_10, .inl (cy_17, 3001, .inl (fun _ => 0))), (q_11, .inl (cy_18, 3001, .inl (fun _ => 0))), (q_12, .inl (cy_19, 3001, .inl (fun _ => 0))), (q_38, .inr (14, [.null, .null, .null, .null, .null, .int 0])), (q_31, .inl (cy_39, 6000, .inl (fun _ => 0))), (q_35, .inl (cy_40, 6002, .inl (fun _ => 0))), (q_36, .inl (cy_41, 6002, .inl (fun _ => 0))), (q_37, .inl (cy_42, 6002, .inl (fun _ => 0))), (q_33, .inl (cy_43, 6000, .inl (fun _ => 0))), (q_34, .inl (cy_44, 6000, .inl (fun _ => 0))), (q_32, .inl (cy_45, 6600, .inl (fun _ => 0)))] := hD
  refine W.widen (k := 100) (n := 719914) (Nat.le_of_ble_eq_true rfl) (Nat.le_of_ble_eq_true rfl) ?_
  obtain rfl : r9 = 0 := hw
  refine lv_icmp_eq (tgt := 665) hx hb dL_law_247 (by decide) (fun c9 => ?_) (fun c9 => absurd (by decide) c9)
  refine lv_iinc (v := 6) (lv' := [(4, .int 6), (3, .ref q_58), (2, .ref q_29), (1, .ref q_1), (0, .ref b)]) hx hb dL_law_665 hl (k := 0) rfl (by decide) (by decide) rfl (fun ls hl => ?_)
  refine lv_goto (tgt := 23) hx hb dL_law_668 (by decide) ?_
  refine lv_iload hx hb dL_law_23 (lv_at hl 0 rfl) ?_
  refine lv_aload_n hx hb dL_law_25 rfl (lv_at hl 4 rfl) ?_
  refine va_slen hx hb hX hbl hbA hS dL_law_26 ?_
  refine lv_topi (fun y9 e9 => ?_)
  have e9 : y9 = 6 := e9
  subst e9
  refine lv_bipush (v := 6) hx hb dL_law_27 (by decide) ?_
  refine lv_isub hx hb dL_law_29 ?_
  refine lv_topi (fun y9 e9 => ?_)
  have e9 : y9 = 0 := by rw [e9]; decide
  subst e9
  refine lv_icmp_gt (tgt := 671) hx hb dL_law_30 (by decide) (fun c9 => ?_) (fun c9 => absurd (by decide) c9)
  clear c9
  refine lv_iconst (v := 1) hx hb dL_law_671 (by decide) ?_
  refine va_forget (fun q hq => hAA q.base (hS.2.2 q hq)) ?_
  refine W.widen (k := 600002) (n := 7302232) (Nat.le_of_ble_eq_true rfl) (Nat.le_of_ble_eq_true rfl) ?_
  exact lw_ret hx hb hr hlocks dL_law_672
set_option maxHeartbeats 4000000 in
set_option maxRecDepth 100000 in
theorem law_count_out {p : Program} {e : Env} {s : State} {m : MethodId} {below : List Frame} {meth : Method} {c : Code} (l : Launch) (hfl : l.flags = flags0) {b : Nat} {xs : Nat → Int32} (C0 : lw_At p s m meth c b 6 xs) (dC : Nat → ClassId) (dI : Nat → Nat → Nat) (A : Nat → Prop) (hA : ∀ q : Nat, s.heap.size ≤ q → A q) (hAa : ∀ q : Nat, q < s.heap.size → ¬ A q) (hAA : ∀ q : Nat, A q → s.heap.size ≤ q) (q_1 : Nat) (q_2 : Nat) (q_3 : Nat) (q_4 : Nat) (cy_5 : ClassId) (q_6 : Nat) (q_7 : Nat) (q_8 : Nat) (q_9 : Nat) (q_10 : Nat) (q_11 : Nat) (q_12 : Nat) (cy_13 : ClassId) (cy_14 : ClassId) (cy_15 : ClassId) (cy_16 : ClassId) (cy_17 : ClassId) (cy_18 : ClassId) (cy_19 : ClassId) (q_20 : Nat) (q_21 : Nat) (q_22 : Nat) (q_23 : Nat) (q_24 : Nat) (q_25 : Nat) (q_26 : Nat) (q_27 : Nat) (q_28 : Nat) (q_29 : Nat) (F_30 : Nat → Value) (q_31 : Nat) (q_32 : Nat) (q_33 : Nat) (q_34 : Nat) (q_35 : Nat) (q_36 : Nat) (q_37 : Nat) (q_38 : Nat) (cy_39 : ClassId) (cy_40 : ClassId) (cy_41 : ClassId) (cy_42 : ClassId) (cy_43 : ClassId) (cy_44 : ClassId) (cy_45 : ClassId) (q_58 : Nat) (hq0 : F_30 0 = .int 0) (hq1 : F_30 1 = .ref q_38) (hq2 : F_30 2 = .ref q_31) (hq3 : F_30 3 = .int 0) (hq9 : F_30 9 = .ref q_35) (hq10 : F_30 10 = .ref q_36) (hq11 : F_30 11 = .ref q_37) (hq13 : F_30 13 = .ref q_33) (hq14 : F_30 14 = .ref q_34) (hq15 : F_30 15 = .ref q_32) (hq98 : F_30 98 = .int 0) (hq100 : F_30 100 = .int 0) (hout : (xs 1).toInt < 0 ∨ 5 < (xs 1).toInt) (H : Heap) (locs : List Loc) (ls : Array Slot) (hK : va_K (dC, dI) vwCl [(cy_5, .byte), (cy_13, .int), (cy_14, .int), (cy_15, .int), (cy_16, .int), (cy_17, .int), (cy_18, .int), (cy_19, .int), (cy_39, .byte), (cy_40, .int), (cy_41, .int), (cy_42, .int), (cy_43, .int), (cy_44, .int), (cy_45, .byte)] s) (hP : va_P (dC, dI) vwCl [(q_1, .inr (13, [.ref q_2, .int 0, .ref q_3, .ref q_4, .null])), (q_2, .inl (cy_5, 6000, .inl (fun _ => 0))), (q_3, .inr (9, [.ref q_6, .ref q_7, .ref q_8, .int 0, .null, .int 0, .int 0, .int 0, .ref q_9, .ref q_10, .ref q_11, .ref q_12, .int 0])), (q_6, .inl (cy_13, 6001, .inl (fun _ => 0))), (q_7, .inl (cy_14, 6001, .inl (fun _ => 0))), (q_8, .inl (cy_15, 6001, .inl (fun _ => 0))), (q_9, .inl (cy_16, 256, .inl (fun _ => 0))), (q_10, .inl (cy_17, 3001, .inl (fun _ => 0))), (q_11, .inl (cy_18, 3001, .inl (fun _ => 0))), (q_12, .inl (cy_19, 3001, .inl (fun _ => 0))), (q_4, .inr (4, [.null, .ref q_20, .ref q_21, .ref q_22, .ref q_23, .ref q_24, .int 0, .ref q_25, .int 0, .int 0, .int 0, .ref q_26, .int 0, .ref q_27, .int 0, .ref q_28, .null, .int 0, .int 0])), (q_29, .inr (15, fl 134 F_30)), (q_38, .inr (14, [.null, .null, .null, .null, .null, .int 0])), (q_31, .inl (cy_39, 6000, .inl (fun _ => 0))), (q_35, .inl (cy_40, 6002, .inl (fun _ => 0))), (q_36, .inl (cy_41, 6002, .inl (fun _ => 0))), (q_37, .inl (cy_42, 6002, .inl (fun _ => 0))), (q_33, .inl (cy_43, 6000, .inl (fun _ => 0))), (q_34, .inl (cy_44, 6000, .inl (fun _ => 0))), (q_32, .inl (cy_45, 6600, .inl (fun _ => 0)))] H) (hD : va_D A [(q_1, .inr (13, [.ref q_2, .int 0, .ref q_3, .ref q_4, .null])), (q_2, .inl (cy_5, 6000, .inl (fun _ => 0))), (q_3, .inr (9, [.ref q_6, .ref q_7, .ref q_8, .int 0, .null, .int 0, .int 0, .int 0, .ref q_9, .ref q_10, .ref q_11, .ref q_12, .int 0])), (q_6, .inl (cy_13, 6001, .inl (fun _ => 0))), (q_7, .inl (cy_14, 6001, .inl (fun _ => 0))), (q_8, .inl (cy_15, 6001, .inl (fun _ => 0))), (q_9, .inl (cy_16, 256, .inl (fun _ => 0))), (q_10, .inl (cy_17, 3001, .inl (fun _ => 0))), (q_11, .inl (cy_18, 3001, .inl (fun _ => 0))), (q_12, .inl (cy_19, 3001, .inl (fun _ => 0))), (q_4, .inr (4, [.null, .ref q_20, .ref q_21, .ref q_22, .ref q_23, .ref q_24, .int 0, .ref q_25, .int 0, .int 0, .int 0, .ref q_26, .int 0, .ref q_27, .int 0, .ref q_28, .null, .int 0, .int 0])), (q_29, .inr (15, fl 134 F_30)), (q_38, .inr (14, [.null, .null, .null, .null, .null, .int 0])), (q_31, .inl (cy_39, 6000, .inl (fun _ => 0))), (q_35, .inl (cy_40, 6002, .inl (fun _ => 0))), (q_36, .inl (cy_41, 6002, .inl (fun _ => 0))), (q_37, .inl (cy_42, 6002, .inl (fun _ => 0))), (q_33, .inl (cy_43, 6000, .inl (fun _ => 0))), (q_34, .inl (cy_44, 6000, .inl (fun _ => 0))), (q_32, .inl (cy_45, 6600, .inl (fun _ => 0)))]) (hS : va_S A s.heap H locs) (hl : lv_has ls 7 [(4, .int 0), (3, .ref q_58), (2, .ref q_29), (1, .ref q_1), (0, .ref b)]) : W p l e room_1 s m #[Value.ref b] below meth c H locs 100 719914 (lw_Z below #[Value.ref b] s) (F0 m 227 ls []) := by
  obtain ⟨hx, hb, hr, hml, hown, htsT, hX, hbl, hlocks, hgv⟩ := id C0
  have hown : s.vm.findClass RL = some m.cls := hown
  have hts : ∀ w ∈ ws_law, w.before #[Value.ref b] s = true := fun w h => htsT w (in_law w h)
  have hg := flat_of_before _ hgv
  have hbA : ¬ A b := hAa b hbl
  have hflags : l.stackTraces = false := by unfold Launch.stackTraces; rw [hfl]; decide
  refine lv_aload_n hx hb dL_law_227 rfl (lv_at hl 3 rfl) ?_
  refine lv_aload_n hx hb dL_law_228 rfl (lv_at hl 4 rfl) ?_
  refine lv_iload hx hb dL_law_229 (lv_at hl 0 rfl) ?_
  refine lv_iconst (v := 1) hx hb dL_law_231 (by decide) ?_
  refine lv_iadd hx hb dL_law_232 ?_
  refine lv_topi (fun y9 e9 => ?_)
  have e9 : y9 = 1 := by rw [e9]; decide
  subst e9
  refine va_sld hx hb hX hbl hbA hS (i := 1) (by unfold vp_in; decide) dL_law_233 ?_
  refine lv_topi (fun x_1001 ex_1001 => ?_)
  have ex_1001 : x_1001 = xs 1 := ex_1001
  subst ex_1001
  have hPc := hP.sub (ws' := [(q_1, .inr (13, [.ref q_2, .int 0, .ref q_3, .ref q_4, .null])), (q_4, .inr (4, [.null, .ref q_20, .ref q_21, .ref q_22, .ref q_23, .ref q_24, .int 0, .ref q_25, .int 0, .int 0, .int 0, .ref q_26, .int 0, .ref q_27, .int 0, .ref q_28, .null, .int 0, .int 0]))]) [0, 10] rfl
  have hDc := hD.sub (ws' := [(q_1, .inr (13, [.ref q_2, .int 0, .ref q_3, .ref q_4, .null])), (q_4, .inr (4, [.null, .ref q_20, .ref q_21, .ref q_22, .ref q_23, .ref q_24, .int 0, .ref q_25, .int 0, .int 0, .int 0, .ref q_26, .int 0, .ref q_27, .int 0, .ref q_28, .null, .int 0, .int 0]))]) [0, 10] (by decide) rfl
  have hKc := hK.sub (tys' := []) [] rfl
  have hFc := va_free (wc := [(q_1, .inr (13, [.ref q_2, .int 0, .ref q_3, .ref q_4, .null])), (q_4, .inr (4, [.null, .ref q_20, .ref q_21, .ref q_22, .ref q_23, .ref q_24, .int 0, .ref q_25, .int 0, .int 0, .int 0, .ref q_26, .int 0, .ref q_27, .int 0, .ref q_28, .null, .int 0, .int 0]))]) hD hS hA [0, 10] rfl
  refine va_calli (va_runV (As := [.int (xs 1)]) (rest := []) ⟨hx, hb, hml, hown, hts⟩ (cc_count l dC dI q_1 q_2 q_3 q_4 q_20 q_21 q_22 q_23 q_24 q_25 q_26 q_27 q_28 (xs 1) H.size) (cwV 1 hts gl_cc_count_39 rfl rfl rfl (by decide +kernel) ⟨(Nat.le_of_ble_eq_true rfl), (Nat.le_of_ble_eq_true rfl)⟩) ⟨fun a U g mk q => by obtain ⟨q0, q1, qP, qK, qD⟩ := q; exact ⟨q0, q1, qP, va_K.moved (u := U) (U := U.calling g mk a) (Vm.Alike.refl U.vm) qK, qD⟩, va_recv hKc hPc (ci := 13) (q0 := 0) rfl rfl, fun U hU hW => ⟨rfl, by rw [hU], by rw [hU]; exact hPc, va_K.moved hW.alike hKc, hDc.weaken (fun _ _ _ _ => trivial)⟩⟩ rfl rfl hl.1 rfl (lv_room (Nat.le_of_ble_eq_true rfl)) dL_law_234 ⟨(Nat.le_of_ble_eq_true rfl), (Nat.le_of_ble_eq_true rfl)⟩) hS (fun q _ h => hFc q h) hFc (fun r9 u t H1 locs ht hvm hw hB hz1 hk1 hS => ?_)
  obtain ⟨hP1, hK1, hD1⟩ := hB
  rw [ht] at hP1
  have hK1 := va_K.moved hvm.symm hK1
  obtain ⟨hP, hD⟩ := va_join (wr := [(q_2, .inl (cy_5, 6000, .inl (fun _ => 0))), (q_3, .inr (9, [.ref q_6, .ref q_7, .ref q_8, .int 0, .null, .int 0, .int 0, .int 0, .ref q_9, .ref q_10, .ref q_11, .ref q_12, .int 0])), (q_6, .inl (cy_13, 6001, .inl (fun _ => 0))), (q_7, .inl (cy_14, 6001, .inl (fun _ => 0))), (q_8, .inl (cy_15, 6001, .inl (fun _ => 0))), (q_9, .inl (cy_16, 256, .inl (fun _ => 0))), (q_10, .inl (cy_17, 3001, .inl (fun _ => 0))), (q_11, .inl (cy_18, 3001, .inl (fun _ => 0))), (q_12, .inl (cy_19, 3001, .inl (fun _ => 0))), (q_29, .inr (15, fl 134 F_30)), (q_38, .inr (14, [.null, .null, .null, .null, .null, .int 0])), (q_31, .inl (cy_39, 6000, .inl (fun _ => 0))), (q_35, .inl (cy_40, 6002, .inl (fun _ => 0))), (q_36, .inl (cy_41, 6002, .inl (fun _ => 0))), (q_37, .inl (cy_42, 6002, .inl (fun _ => 0))), (q_33, .inl (cy_43, 6000, .inl (fun _ => 0))), (q_34, .inl (cy_44, 6000, .inl (fun _ => 0))), (q_32, .inl (cy_45, 6600, .inl (fun _ => 0)))]) (w1 := []) hP hD [0, 10] [1, 2, 3, 4, 5, 6, 7, 8, 9, 11, 12, 13, 14, 15, 16, 17, 18, 19] rfl rfl (by decide) (by decide) hk1 hFc hP1 hD1
  have hK := (hK.sub (tys' := [(cy_5, .byte), (cy_13, .int), (cy_14, .int), (cy_15, .int), (cy_16, .int), (cy_17, .int), (cy_18, .int), (cy_19, .int), (cy_39, .byte), (cy_40, .int), (cy_41, .int), (cy_42, .int), (cy_43, .int), (cy_44, .int), (cy_45, .byte)]) [0, 1, 2, 3, 4, 5, 6, 7, 8, 9, 10, 11, 12, 13, 14] rfl).app hK1
  generalize H1 = H at hP hS ⊢
  have hK : va_K (dC, dI) vwCl [(cy_5, .byte), (cy_13, .int), (cy_14, .int), (cy_15, .int), (cy_16, .int), (cy_17, .int), (cy_18, .int), (cy_19, .int), (cy_39, .byte), (cy_40, .int), (cy_41, .int), (cy_42, .int), (cy_43, .int), (cy_44, .int), (cy_45, .byte)] s := hK
  have hP : va_P (dC, dI) vwCl [(q_2, .inl (cy_5, 6000, .inl (fun _ => 0))), (q_3, .inr (9, [.ref q_6, .ref q_7, .ref q_8, .int 0, .null, .int 0, .int 0, .int 0, .ref q_9, .ref q_10, .ref q_11, .ref q_12, .int 0])), (q_6, .inl (cy_13, 6001, .inl (fun _ => 0))), (q_7, .inl (cy_14, 6001, .inl (fun _ => 0))), (q_8, .inl (cy_15, 6001, .inl (fun _ => 0))), (q_9, .inl (cy_16, 256, .inl (fun _ => 0))), (q_10, .inl (cy_17, 3001, .inl (fun _ => 0))), (q_11, .inl (cy_18, 3001, .inl (fun _ => 0))), (q_12, .inl (cy_19, 3001, .inl (fun _ => 0))), (q_29, .inr (15, fl 134 F_30)), (q_38, .inr (14, [.null, .null, .null, .null, .null, .int 0])), (q_31, .inl (cy_39, 6000, .inl (fun _ => 0))), (q_35, .inl (cy_40, 6002, .inl (fun _ => 0))), (q_36, .inl (cy_41, 6002, .inl (fun _ => 0))), (q_37, .inl (cy_42, 6002, .inl (fun _ => 0))), (q_33, .inl (cy_43, 6000, .inl (fun _ => 0))), (q_34, .inl (cy_44, 6000, .inl (fun _ => 0))), (q_32, .inl (cy_45, 6600, .inl (fun _ => 0)))] H := hP
  have hD : va_D A [(q_2, .inl (cy_5, 6000, .inl (fun _ => 0))), (q_3, .inr (9, [.ref q_6, .ref q_7, .ref q_8, .int 0, .null, .int 0, .int 0, .int 0, .ref q_9, .ref q_10, .ref q_11, .ref q_12, .int 0])), (q_6, .inl (cy_13, 6001, .inl (fun _ => 0))), (q_7, .inl (cy_14, 6001, .inl (fun _ => 0))), (q_8, .inl (cy_15, 6001, .inl (fun _ => 0))), (q_9, .inl (cy_16, 256, .inl (fun _ => 0))), (q_10, .inl (cy_17, 3001, .inl (fun _ => 0))), (q_11, .inl (cy_18, 3001, .inl (fun _ => 0))), (q_12, .inl (cy_19, 3001, .inl (fun _ => 0))), (q_29, .inr (15, fl 134 F_30)), (q_38, .inr (14, [.null, .null, .null, .null, .null, .int 0])), (q_31, .inl (cy_39, 6000, .inl (fun _ => 0))), (q_35, .inl (cy_40, 6002, .inl (fun _ => 0))), (q_36, .inl (cy_41, 6002, .inl (fun _ => 0))), (q_37, .inl (cy_42, 6002, .inl (fun _ => 0))), (q_33, .inl (cy_43, 6000, .inl (fun _ => 0))), (q_34, .inl (cy_44, 6000, .inl (fun _ => 0))), (q_32, .inl (cy_45, 6600, .inl (fun _ => 0)))] := hD
  refine W.widen (k := 100) (n := 719914) (Nat.le_of_ble_eq_true rfl) (Nat.le_of_ble_eq_true rfl) ?_
  obtain rfl : r9 = (cntS (xs 1)) := hw
  refine lv_aload_n hx hb dL_law_237 rfl (lv_at hl 2 rfl) ?_
  refine lv_aload_n hx hb dL_law_238 rfl (lv_at hl 4 rfl) ?_
  refine lv_iload hx hb dL_law_239 (lv_at hl 0 rfl) ?_
  refine lv_iconst (v := 1) hx hb dL_law_241 (by decide) ?_
  refine lv_iadd hx hb dL_law_242 ?_
  refine lv_topi (fun y9 e9 => ?_)
  have e9 : y9 = 1 := by rw [e9]; decide
  subst e9
  refine va_sld hx hb hX hbl hbA hS (i := 1) (by unfold vp_in; decide) dL_law_243 ?_
  refine lv_topi (fun x_1002 ex_1002 => ?_)
  have ex_1002 : x_1002 = xs 1 := ex_1002
  subst ex_1002
  have hPc := hP.sub (ws' := [(q_29, .inr (15, fl 134 F_30))]) [9] rfl
  have hDc := hD.sub (ws' := [(q_29, .inr (15, fl 134 F_30))]) [9] (by decide) rfl
  have hKc := hK.sub (tys' := []) [] rfl
  have hFc := va_free (wc := [(q_29, .inr (15, fl 134 F_30))]) hD hS hA [9] rfl
  refine va_calli (va_runV (As := [.int (xs 1)]) (rest := [.int (cntS (xs 1))]) ⟨hx, hb, hml, hown, hts⟩ (cm_count_out l dC dI q_29 F_30 (xs 1) H.size hq100 hout) (cwV 1 hts gl_cm_count_out_42 rfl rfl rfl (by decide +kernel) ⟨(Nat.le_of_ble_eq_true rfl), (Nat.le_of_ble_eq_true rfl)⟩) ⟨fun a U g mk q => by obtain ⟨q0, q1, qP, qK, qD⟩ := q; exact ⟨q0, q1, qP, va_K.moved (u := U) (U := U.calling g mk a) (Vm.Alike.refl U.vm) qK, qD⟩, va_recv hKc hPc (ci := 15) (q0 := 0) rfl rfl, fun U hU hW => ⟨rfl, by rw [hU], by rw [hU]; exact hPc, va_K.moved hW.alike hKc, hDc.weaken (fun _ _ _ _ => trivial)⟩⟩ rfl rfl hl.1 rfl (lv_room (Nat.le_of_ble_eq_true rfl)) dL_law_244 ⟨(Nat.le_of_ble_eq_true rfl), (Nat.le_of_ble_eq_true rfl)⟩) hS (fun q _ h => hFc q h) hFc (fun r9 u t H1 locs ht hvm hw hB hz1 hk1 hS => ?_)
  obtain ⟨hP1, hK1, hD1⟩ := hB
  rw [ht] at hP1
  have hK1 := va_K.moved hvm.symm hK1
  obtain ⟨hP, hD⟩ := va_join (wr := [(q_2, .inl (cy_5, 6000, .inl (fun _ => 0))), (q_3, .inr (9, [.ref q_6, .ref q_7, .ref q_8, .int 0, .null, .int 0, .int 0, .int 0, .ref q_9, .ref q_10, .ref q_11, .ref q_12, .int 0])), (q_6, .inl (cy_13, 6001, .inl (fun _ => 0))), (q_7, .inl (cy_14, 6001, .inl (fun _ => 0))), (q_8, .inl (cy_15, 6001, .inl (fun _ => 0))), (q_9, .inl (cy_16, 256, .inl (fun _ => 0))), (q_10, .inl (cy_17, 3001, .inl (fun _ => 0))), (q_11, .inl (cy_18, 3001, .inl (fun _ => 0))), (q_12, .inl (cy_19, 3001, .inl (fun _ => 0))), (q_38, .inr (14, [.null, .null, .null, .null, .null, .int 0])), (q_31, .inl (cy_39, 6000, .inl (fun _ => 0))), (q_35, .inl (cy_40, 6002, .inl (fun _ => 0))), (q_36, .inl (cy_41, 6002, .inl (fun _ => 0))), (q_37, .inl (cy_42, 6002, .inl (fun _ => 0))), (q_33, .inl (cy_43, 6000, .inl (fun _ => 0))), (q_34, .inl (cy_44, 6000, .inl (fun _ => 0))), (q_32, .inl (cy_45, 6600, .inl (fun _ => 0)))]) (w1 := []) hP hD [9] [0, 1, 2, 3, 4, 5, 6, 7, 8, 10, 11, 12, 13, 14, 15, 16, 17] rfl rfl (by decide) (by decide) hk1 hFc hP1 hD1
  have hK := (hK.sub (tys' := [(cy_5, .byte), (cy_13, .int), (cy_14, .int), (cy_15, .int), (cy_16, .int), (cy_17, .int), (cy_18, .int), (cy_19, .int), (cy_39, .byte), (cy_40, .int), (cy_41, .int), (cy_42, .int), (cy_43, .int), (cy_44, .int), (cy_45, .byte)]) [0, 1, 2, 3, 4, 5, 6, 7, 8, 9, 10, 11, 12, 13, 14] rfl).app hK1
  generalize H1 = H at hP hS ⊢
  have hK : va_K (dC, dI) vwCl [(cy_5, .byte), (cy_13, .int), (cy_14, .int), (cy_15, .int), (cy_16, .int), (cy_17, .int), (cy_18, .int), (cy_19, .int), (cy_39, .byte), (cy_40, .int), (cy_41, .int), (cy_42, .int), (cy_43, .int), (cy_44, .int), (cy_45, .byte)] s := hK
  have hP : va_P (dC, dI) vwCl [(q_2, .inl (cy_5, 6000, .inl (fun _ => 0))), (q_3, .inr (9, [.ref q_6, .ref q_7, .ref q_8, .int 0, .null, .int 0, .int 0, .int 0, .ref q_9, .ref q_10, .ref q_11, .ref q_12, .int 0])), (q_6, .inl (cy_13, 6001, .inl (fun _ => 0))), (q_7, .inl (cy_14, 6001, .inl (fun _ => 0))), (q_8, .inl (cy_15, 6001, .inl (fun _ => 0))), (q_9, .inl (cy_16, 256, .inl (fun _ => 0))), (q_10, .inl (cy_17, 3001, .inl (fun _ => 0))), (q_11, .inl (cy_18, 3001, .inl (fun _ => 0))), (q_12, .inl (cy_19, 3001, .inl (fun _ => 0))), (q_38, .inr (14, [.null, .null, .null, .null, .null, .int 0])), (q_31, .inl (cy_39, 6000, .inl (fun _ => 0))), (q_35, .inl (cy_40, 6002, .inl (fun _ => 0))), (q_36, .inl (cy_41, 6002, .inl (fun _ => 0))), (q_37, .inl (cy_42, 6002, .inl (fun _ => 0))), (q_33, .inl (cy_43, 6000, .inl (fun _ => 0))), (q_34, .inl (cy_44, 6000, .inl (fun _ => 0))), (q_32, .inl (cy_45, 6600, .inl (fun _ => 0)))] H := hP
  have hD : va_D A [(q_2, .inl (cy_5, 6000, .inl (fun _ => 0))), (q_3, .inr (9, [.ref q_6, .ref q_7, .ref q_8, .int 0, .null, .int 0, .int 0, .int 0, .ref q_9, .ref q_10, .ref q_11, .ref q_12, .int 0])), (q_6, .inl (cy_13, 6001, .inl (fun _ => 0))), (q_7, .inl (cy_14, 6001, .inl (fun _ => 0))), (q_8, .inl (cy_15, 6001, .inl (fun _ => 0))), (q_9, .inl (cy_16, 256, .inl (fun _ => 0))), (q_10, .inl (cy_17, 3001, .inl (fun _ => 0))), (q_11, .inl (cy_18, 3001, .inl (fun _ => 0))), (q_12, .inl (cy_19, 3001, .inl (fun _ => 0))), (q_38, .inr (14, [.null, .null, .null, .null, .null, .int 0])), (q_31, .inl (cy_39, 6000, .inl (fun _ => 0))), (q_35, .inl (cy_40, 6002, .inl (fun _ => 0))), (q_36, .inl (cy_41, 6002, .inl (fun _ => 0))), (q_37, .inl (cy_42, 6002, .inl (fun _ => 0))), (q_33, .inl (cy_43, 6000, .inl (fun _ => 0))), (q_34, .inl (cy_44, 6000, .inl (fun _ => 0))), (q_32, .inl (cy_45, 6600, .inl (fun _ => 0)))] := hD
  refine W.widen (k := 100) (n := 719914) (Nat.le_of_ble_eq_true rfl) (Nat.le_of_ble_eq_true rfl) ?_
  obtain rfl : r9 = (cntM (xs 1)) := hw
  refine lv_icmp_eq (tgt := 665) hx hb dL_law_247 (by decide) (fun c9 => ?_) (fun c9 => absurd (cnt_eq hout) c9)
  refine lv_iinc (v := 6) (lv' := [(4, .int 6), (3, .ref q_58), (2, .ref q_29), (1, .ref q_1), (0, .ref b)]) hx hb dL_law_665 hl (k := 0) rfl (by decide) (by decide) rfl (fun ls hl => ?_)
  refine lv_goto (tgt := 23) hx hb dL_law_668 (by decide) ?_
  refine lv_iload hx hb dL_law_23 (lv_at hl 0 rfl) ?_
  refine lv_aload_n hx hb dL_law_25 rfl (lv_at hl 4 rfl) ?_
  refine va_slen hx hb hX hbl hbA hS dL_law_26 ?_
  refine lv_topi (fun y9 e9 => ?_)
  have e9 : y9 = 6 := e9
  subst e9
  refine lv_bipush (v := 6) hx hb dL_law_27 (by decide) ?_
  refine lv_isub hx hb dL_law_29 ?_
  refine lv_topi (fun y9 e9 => ?_)
  have e9 : y9 = 0 := by rw [e9]; decide
  subst e9
  refine lv_icmp_gt (tgt := 671) hx hb dL_law_30 (by decide) (fun c9 => ?_) (fun c9 => absurd (by decide) c9)
  clear c9
  refine lv_iconst (v := 1) hx hb dL_law_671 (by decide) ?_
  refine va_forget (fun q hq => hAA q.base (hS.2.2 q hq)) ?_
  refine W.widen (k := 600002) (n := 7302232) (Nat.le_of_ble_eq_true rfl) (Nat.le_of_ble_eq_true rfl) ?_
  exact lw_ret hx hb hr hlocks dL_law_672
set_option maxHeartbeats 4000000 in
set_option maxRecDepth 100000 in
theorem law_run_bad {p : Program} {e : Env} {s : State} {m : MethodId} {below : List Frame} {meth : Method} {c : Code} (l : Launch) (hfl : l.flags = flags0) {b : Nat} {xs : Nat → Int32} (C0 : lw_At p s m meth c b 6 xs) (dC : Nat → ClassId) (dI : Nat → Nat → Nat) (A : Nat → Prop) (hA : ∀ q : Nat, s.heap.size ≤ q → A q) (hAa : ∀ q : Nat, q < s.heap.size → ¬ A q) (hAA : ∀ q : Nat, A q → s.heap.size ≤ q) (q_1 : Nat) (q_2 : Nat) (q_3 : Nat) (q_4 : Nat) (cy_5 : ClassId) (q_6 : Nat) (q_7 : Nat) (q_8 : Nat) (q_9 : Nat) (q_10 : Nat) (q_11 : Nat) (q_12 : Nat) (cy_13 : ClassId) (cy_14 : ClassId) (cy_15 : ClassId) (cy_16 : ClassId) (cy_17 : ClassId) (cy_18 : ClassId) (cy_19 : ClassId) (q_20 : Nat) (q_21 : Nat) (q_22 : Nat) (q_23 : Nat) (q_24 : Nat) (q_25 : Nat) (q_26 : Nat) (q_27 : Nat) (q_28 : Nat) (q_29 : Nat) (F_30 : Nat → Value) (q_31 : Nat) (q_32 : Nat) (q_33 : Nat) (q_34 : Nat) (q_35 : Nat) (q_36 : Nat) (q_37 : Nat) (q_38 : Nat) (cy_39 : ClassId) (cy_40 : ClassId) (cy_41 : ClassId) (cy_42 : ClassId) (cy_43 : ClassId) (cy_44 : ClassId) (cy_45 : ClassId) (q_58 : Nat) (hq0 : F_30 0 = .int 0) (hq1 : F_30 1 = .ref q_38) (hq2 : F_30 2 = .ref q_31) (hq3 : F_30 3 = .int 0) (hq9 : F_30 9 = .ref q_35) (hq10 : F_30 10 = .ref q_36) (hq11 : F_30 11 = .ref q_37) (hq13 : F_30 13 = .ref q_33) (hq14 : F_30 14 = .ref q_34) (hq15 : F_30 15 = .ref q_32) (hq98 : F_30 98 = .int 0) (hq100 : F_30 100 = .int 0) (hbad : (xs 1) < 0 ∨ ¬ (xs 1) ≤ 2000) (H : Heap) (locs : List Loc) (ls : Array Slot) (hK : va_K (dC, dI) vwCl [(cy_5, .byte), (cy_13, .int), (cy_14, .int), (cy_15, .int), (cy_16, .int), (cy_17, .int), (cy_18, .int), (cy_19, .int), (cy_39, .byte), (cy_40, .int), (cy_41, .int), (cy_42, .int), (cy_43, .int), (cy_44, .int), (cy_45, .byte)] s) (hP : va_P (dC, dI) vwCl [(q_1, .inr (13, [.ref q_2, .int 0, .ref q_3, .ref q_4, .null])), (q_2, .inl (cy_5, 6000, .inl (fun _ => 0))), (q_3, .inr (9, [.ref q_6, .ref q_7, .ref q_8, .int 0, .null, .int 0, .int 0, .int 0, .ref q_9, .ref q_10, .ref q_11, .ref q_12, .int 0])), (q_6, .inl (cy_13, 6001, .inl (fun _ => 0))), (q_7, .inl (cy_14, 6001, .inl (fun _ => 0))), (q_8, .inl (cy_15, 6001, .inl (fun _ => 0))), (q_9, .inl (cy_16, 256, .inl (fun _ => 0))), (q_10, .inl (cy_17, 3001, .inl (fun _ => 0))), (q_11, .inl (cy_18, 3001, .inl (fun _ => 0))), (q_12, .inl (cy_19, 3001, .inl (fun _ => 0))), (q_4, .inr (4, [.null, .ref q_20, .ref q_21, .ref q_22, .ref q_23, .ref q_24, .int 0, .ref q_25, .int 0, .int 0, .int 0, .ref q_26, .int 0, .ref q_27, .int 0, .ref q_28, .null, .int 0, .int 0])), (q_29, .inr (15, fl 134 F_30)), (q_38, .inr (14, [.null, .null, .null, .null, .null, .int 0])), (q_31, .inl (cy_39, 6000, .inl (fun _ => 0))), (q_35, .inl (cy_40, 6002, .inl (fun _ => 0))), (q_36, .inl (cy_41, 6002, .inl (fun _ => 0))), (q_37, .inl (cy_42, 6002, .inl (fun _ => 0))), (q_33, .inl (cy_43, 6000, .inl (fun _ => 0))), (q_34, .inl (cy_44, 6000, .inl (fun _ => 0))), (q_32, .inl (cy_45, 6600, .inl (fun _ => 0)))] H) (hD : va_D A [(q_1, .inr (13, [.ref q_2, .int 0, .ref q_3, .ref q_4, .null])), (q_2, .inl (cy_5, 6000, .inl (fun _ => 0))), (q_3, .inr (9, [.ref q_6, .ref q_7, .ref q_8, .int 0, .null, .int 0, .int 0, .int 0, .ref q_9, .ref q_10, .ref q_11, .ref q_12, .int 0])), (q_6, .inl (cy_13, 6001, .inl (fun _ => 0))), (q_7, .inl (cy_14, 6001, .inl (fun _ => 0))), (q_8, .inl (cy_15, 6001, .inl (fun _ => 0))), (q_9, .inl (cy_16, 256, .inl (fun _ => 0))), (q_10, .inl (cy_17, 3001, .inl (fun _ => 0))), (q_11, .inl (cy_18, 3001, .inl (fun _ => 0))), (q_12, .inl (cy_19, 3001, .inl (fun _ => 0))), (q_4, .inr (4, [.null, .ref q_20, .ref q_21, .ref q_22, .ref q_23, .ref q_24, .int 0, .ref q_25, .int 0, .int 0, .int 0, .ref q_26, .int 0, .ref q_27, .int 0, .ref q_28, .null, .int 0, .int 0])), (q_29, .inr (15, fl 134 F_30)), (q_38, .inr (14, [.null, .null, .null, .null, .null, .int 0])), (q_31, .inl (cy_39, 6000, .inl (fun _ => 0))), (q_35, .inl (cy_40, 6002, .inl (fun _ => 0))), (q_36, .inl (cy_41, 6002, .inl (fun _ => 0))), (q_37, .inl (cy_42, 6002, .inl (fun _ => 0))), (q_33, .inl (cy_43, 6000, .inl (fun _ => 0))), (q_34, .inl (cy_44, 6000, .inl (fun _ => 0))), (q_32, .inl (cy_45, 6600, .inl (fun _ => 0)))]) (hS : va_S A s.heap H locs) (hl : lv_has ls 7 [(4, .int 0), (3, .ref q_58), (2, .ref q_29), (1, .ref q_1), (0, .ref b)]) : W p l e room_1 s m #[Value.ref b] below meth c H locs 100 719914 (lw_Z below #[Value.ref b] s) (F0 m 448 ls []) := by
  obtain ⟨hx, hb, hr, hml, hown, htsT, hX, hbl, hlocks, hgv⟩ := id C0
  have hown : s.vm.findClass RL = some m.cls := hown
  have hts : ∀ w ∈ ws_law, w.before #[Value.ref b] s = true := fun w h => htsT w (in_law w h)
  have hg := flat_of_before _ hgv
  have hbA : ¬ A b := hAa b hbl
  have hflags : l.stackTraces = false := by unfold Launch.stackTraces; rw [hfl]; decide
  obtain ⟨sa180, hEsa180⟩ := law_str180 hgv
  have hN0 : vk_R RX11 180 kx180 sa180 s := vk_R.of (htsT (.stringRef RX11 180 kx180) (List.mem_of_getElem? (i := 2502) (by decide +kernel))) hEsa180
  have hN1 : va_Nw (.castable "java/lang/IllegalArgumentException" "java/lang/IllegalArgumentException") s := va_Nw.of rfl (htsT (.castable "java/lang/IllegalArgumentException" "java/lang/IllegalArgumentException") (List.mem_of_getElem? (i := 2094) (by decide +kernel)))
  have hN2 : va_Nw (.declares (Bundle.initS "java/lang/Throwable")) s := va_Nw.of rfl (htsT (.declares (Bundle.initS "java/lang/Throwable")) (List.mem_of_getElem? (i := 2020) (by decide +kernel)))
  have hN3 : va_Nw (.declares (Bundle.initS "java/lang/Exception")) s := va_Nw.of rfl (htsT (.declares (Bundle.initS "java/lang/Exception")) (List.mem_of_getElem? (i := 2018) (by decide +kernel)))
  have hN4 : va_Nw (.declares (Bundle.initS "java/lang/RuntimeException")) s := va_Nw.of rfl (htsT (.declares (Bundle.initS "java/lang/RuntimeException")) (List.mem_of_getElem? (i := 2016) (by decide +kernel)))
  have hN5 : vx_Zq "java/lang/Throwable" "UNASSIGNED_STACK" "[Ljava/lang/StackTraceElement;" A s s.heap := vx_Zqof (htsT (.laysStatic "java/lang/Throwable" "UNASSIGNED_STACK" "[Ljava/lang/StackTraceElement;") (List.mem_of_getElem? (i := 2039) (by decide +kernel))) (htsT (.initialized "java/lang/Throwable") (List.mem_of_getElem? (i := 391) (by decide +kernel))) (hg (.isRef (.static "java/lang/Throwable" "UNASSIGNED_STACK" "[Ljava/lang/StackTraceElement;")) (List.mem_of_getElem? (i := 9) (by decide +kernel))) hAa
  have hN6 : vx_Zq "java/lang/Throwable" "SUPPRESSED_SENTINEL" "Ljava/util/List;" A s s.heap := vx_Zqof (htsT (.laysStatic "java/lang/Throwable" "SUPPRESSED_SENTINEL" "Ljava/util/List;") (List.mem_of_getElem? (i := 2041) (by decide +kernel))) (htsT (.initialized "java/lang/Throwable") (List.mem_of_getElem? (i := 391) (by decide +kernel))) (hg (.isRef (.static "java/lang/Throwable" "SUPPRESSED_SENTINEL" "Ljava/util/List;")) (List.mem_of_getElem? (i := 10) (by decide +kernel))) hAa
  refine lv_aload_n hx hb dL_law_448 rfl (lv_at hl 3 rfl) ?_
  refine lv_aload_n hx hb dL_law_449 rfl (lv_at hl 4 rfl) ?_
  refine lv_iload hx hb dL_law_450 (lv_at hl 0 rfl) ?_
  refine lv_iconst (v := 1) hx hb dL_law_452 (by decide) ?_
  refine lv_iadd hx hb dL_law_453 ?_
  refine lv_topi (fun y9 e9 => ?_)
  have e9 : y9 = 1 := by rw [e9]; decide
  subst e9
  refine va_sld hx hb hX hbl hbA hS (i := 1) (by unfold vp_in; decide) dL_law_454 ?_
  refine lv_topi (fun x_1001 ex_1001 => ?_)
  have ex_1001 : x_1001 = xs 1 := ex_1001
  subst ex_1001
  refine lv_aload_n hx hb dL_law_455 rfl (lv_at hl 1 rfl) ?_
  have hPc := hP.sub (ws' := [(q_1, .inr (13, [.ref q_2, .int 0, .ref q_3, .ref q_4, .null]))]) [0] rfl
  have hDc := hD.sub (ws' := [(q_1, .inr (13, [.ref q_2, .int 0, .ref q_3, .ref q_4, .null]))]) [0] (by decide) rfl
  have hKc := hK.sub (tys' := []) [] rfl
  have hFc := va_free (wc := [(q_1, .inr (13, [.ref q_2, .int 0, .ref q_3, .ref q_4, .null]))]) hD hS hA [0] rfl
  refine va_calli (vx_runSW (As := [.ref q_1, .int (xs 1), .ref q_58]) (rest := []) ⟨hx, hb, hml, hown, hts⟩ (cl_run_bad l dC dI q_1 q_2 q_3 q_4 sa180 (xs 1) q_58 H.size hbad hflags) (vx_cwSW 3 hts gl_cl_run_bad_70 rfl rfl rfl (by decide +kernel) ⟨(Nat.le_of_ble_eq_true rfl), (Nat.le_of_ble_eq_true rfl)⟩) ⟨fun a U g mk q => by obtain ⟨q0, q1, qP, qK, qD, qN0, qN1, qN2, qN3, qN4, qN5, qN6⟩ := q; exact ⟨q0, q1, qP, va_K.moved (u := U) (U := U.calling g mk a) (Vm.Alike.refl U.vm) qK, qD, vk_R.same (u := U) (U := U.calling g mk a) rfl qN0, va_Nw.same (u := U) rfl rfl qN1, va_Nw.same (u := U) rfl rfl qN2, va_Nw.same (u := U) rfl rfl qN3, va_Nw.same (u := U) rfl rfl qN4, vx_Zq.moved (u := U) (U := U.calling g mk a) (Vm.Alike.refl U.vm) qN5, vx_Zq.moved (u := U) (U := U.calling g mk a) (Vm.Alike.refl U.vm) qN6⟩, fun U hU hW => ⟨rfl, by rw [hU], by rw [hU]; exact hPc, va_K.moved hW.alike hKc, hDc.weaken (fun _ _ _ _ => trivial), vk_R.warm hW hN0, va_Nw.warmC hW hN1, va_Nw.warmD hW hN2, va_Nw.warmD hW hN3, va_Nw.warmD hW hN4, (by rw [hU]; exact vx_Zq.moved hW.alike ((hN5.kept (fun a h1 h2 => hS.2.1 a h1 h2)).narrow hFc)), (by rw [hU]; exact vx_Zq.moved hW.alike ((hN6.kept (fun a h1 h2 => hS.2.1 a h1 h2)).narrow hFc))⟩⟩ rfl rfl hl.1 rfl (lv_room (Nat.le_of_ble_eq_true rfl)) dL_law_456 ⟨(Nat.le_of_ble_eq_true rfl), (Nat.le_of_ble_eq_true rfl)⟩) hS (fun q _ h => hFc q h) hFc (fun r9 u t H1 locs ht hvm hw hB hz1 hk1 hS => ?_)
  obtain ⟨hP1, hK1, hD1⟩ := hB
  rw [ht] at hP1
  have hK1 := va_K.moved hvm.symm hK1
  obtain ⟨hP, hD⟩ := va_join (wr := [(q_2, .inl (cy_5, 6000, .inl (fun _ => 0))), (q_3, .inr (9, [.ref q_6, .ref q_7, .ref q_8, .int 0, .null, .int 0, .int 0, .int 0, .ref q_9, .ref q_10, .ref q_11, .ref q_12, .int 0])), (q_6, .inl (cy_13, 6001, .inl (fun _ => 0))), (q_7, .inl (cy_14, 6001, .inl (fun _ => 0))), (q_8, .inl (cy_15, 6001, .inl (fun _ => 0))), (q_9, .inl (cy_16, 256, .inl (fun _ => 0))), (q_10, .inl (cy_17, 3001, .inl (fun _ => 0))), (q_11, .inl (cy_18, 3001, .inl (fun _ => 0))), (q_12, .inl (cy_19, 3001, .inl (fun _ => 0))), (q_4, .inr (4, [.null, .ref q_20, .ref q_21, .ref q_22, .ref q_23, .ref q_24, .int 0, .ref q_25, .int 0, .int 0, .int 0, .ref q_26, .int 0, .ref q_27, .int 0, .ref q_28, .null, .int 0, .int 0])), (q_29, .inr (15, fl 134 F_30)), (q_38, .inr (14, [.null, .null, .null, .null, .null, .int 0])), (q_31, .inl (cy_39, 6000, .inl (fun _ => 0))), (q_35, .inl (cy_40, 6002, .inl (fun _ => 0))), (q_36, .inl (cy_41, 6002, .inl (fun _ => 0))), (q_37, .inl (cy_42, 6002, .inl (fun _ => 0))), (q_33, .inl (cy_43, 6000, .inl (fun _ => 0))), (q_34, .inl (cy_44, 6000, .inl (fun _ => 0))), (q_32, .inl (cy_45, 6600, .inl (fun _ => 0)))]) (w1 := []) hP hD [0] [1, 2, 3, 4, 5, 6, 7, 8, 9, 10, 11, 12, 13, 14, 15, 16, 17, 18, 19] rfl rfl (by decide) (by decide) hk1 hFc hP1 hD1
  have hK := (hK.sub (tys' := [(cy_5, .byte), (cy_13, .int), (cy_14, .int), (cy_15, .int), (cy_16, .int), (cy_17, .int), (cy_18, .int), (cy_19, .int), (cy_39, .byte), (cy_40, .int), (cy_41, .int), (cy_42, .int), (cy_43, .int), (cy_44, .int), (cy_45, .byte)]) [0, 1, 2, 3, 4, 5, 6, 7, 8, 9, 10, 11, 12, 13, 14] rfl).app hK1
  generalize H1 = H at hP hS ⊢
  have hK : va_K (dC, dI) vwCl [(cy_5, .byte), (cy_13, .int), (cy_14, .int), (cy_15, .int), (cy_16, .int), (cy_17, .int), (cy_18, .int), (cy_19, .int), (cy_39, .byte), (cy_40, .int), (cy_41, .int), (cy_42, .int), (cy_43, .int), (cy_44, .int), (cy_45, .byte)] s := hK
  have hP : va_P (dC, dI) vwCl [(q_2, .inl (cy_5, 6000, .inl (fun _ => 0))), (q_3, .inr (9, [.ref q_6, .ref q_7, .ref q_8, .int 0, .null, .int 0, .int 0, .int 0, .ref q_9, .ref q_10, .ref q_11, .ref q_12, .int 0])), (q_6, .inl (cy_13, 6001, .inl (fun _ => 0))), (q_7, .inl (cy_14, 6001, .inl (fun _ => 0))), (q_8, .inl (cy_15, 6001, .inl (fun _ => 0))), (q_9, .inl (cy_16, 256, .inl (fun _ => 0))), (q_10, .inl (cy_17, 3001, .inl (fun _ => 0))), (q_11, .inl (cy_18, 3001, .inl (fun _ => 0))), (q_12, .inl (cy_19, 3001, .inl (fun _ => 0))), (q_4, .inr (4, [.null, .ref q_20, .ref q_21, .ref q_22, .ref q_23, .ref q_24, .int 0, .ref q_25, .int 0, .int 0, .int 0, .ref q_26, .int 0, .ref q_27, .int 0, .ref q_28, .null, .int 0, .int 0])), (q_29, .inr (15, fl 134 F_30)), (q_38, .inr (14, [.null, .null, .null, .null, .null, .int 0])), (q_31, .inl (cy_39, 6000, .inl (fun _ => 0))), (q_35, .inl (cy_40, 6002, .inl (fun _ => 0))), (q_36, .inl (cy_41, 6002, .inl (fun _ => 0))), (q_37, .inl (cy_42, 6002, .inl (fun _ => 0))), (q_33, .inl (cy_43, 6000, .inl (fun _ => 0))), (q_34, .inl (cy_44, 6000, .inl (fun _ => 0))), (q_32, .inl (cy_45, 6600, .inl (fun _ => 0)))] H := hP
  have hD : va_D A [(q_2, .inl (cy_5, 6000, .inl (fun _ => 0))), (q_3, .inr (9, [.ref q_6, .ref q_7, .ref q_8, .int 0, .null, .int 0, .int 0, .int 0, .ref q_9, .ref q_10, .ref q_11, .ref q_12, .int 0])), (q_6, .inl (cy_13, 6001, .inl (fun _ => 0))), (q_7, .inl (cy_14, 6001, .inl (fun _ => 0))), (q_8, .inl (cy_15, 6001, .inl (fun _ => 0))), (q_9, .inl (cy_16, 256, .inl (fun _ => 0))), (q_10, .inl (cy_17, 3001, .inl (fun _ => 0))), (q_11, .inl (cy_18, 3001, .inl (fun _ => 0))), (q_12, .inl (cy_19, 3001, .inl (fun _ => 0))), (q_4, .inr (4, [.null, .ref q_20, .ref q_21, .ref q_22, .ref q_23, .ref q_24, .int 0, .ref q_25, .int 0, .int 0, .int 0, .ref q_26, .int 0, .ref q_27, .int 0, .ref q_28, .null, .int 0, .int 0])), (q_29, .inr (15, fl 134 F_30)), (q_38, .inr (14, [.null, .null, .null, .null, .null, .int 0])), (q_31, .inl (cy_39, 6000, .inl (fun _ => 0))), (q_35, .inl (cy_40, 6002, .inl (fun _ => 0))), (q_36, .inl (cy_41, 6002, .inl (fun _ => 0))), (q_37, .inl (cy_42, 6002, .inl (fun _ => 0))), (q_33, .inl (cy_43, 6000, .inl (fun _ => 0))), (q_34, .inl (cy_44, 6000, .inl (fun _ => 0))), (q_32, .inl (cy_45, 6600, .inl (fun _ => 0)))] := hD
  refine W.widen (k := 101) (n := 719920) (Nat.le_of_ble_eq_true rfl) (Nat.le_of_ble_eq_true rfl) ?_
  obtain rfl : r9 = 1 := hw
  refine lv_istore (lv' := [(5, .int 1), (4, .int 0), (3, .ref q_58), (2, .ref q_29), (1, .ref q_1), (0, .ref b)]) hx hb dL_law_459 hl (by decide) rfl (fun ls hl => ?_)
  refine lv_aload_n hx hb dL_law_461 rfl (lv_at hl 3 rfl) ?_
  refine lv_aload_n hx hb dL_law_462 rfl (lv_at hl 5 rfl) ?_
  refine lv_iload hx hb dL_law_463 (lv_at hl 1 rfl) ?_
  refine lv_iconst (v := 1) hx hb dL_law_465 (by decide) ?_
  refine lv_iadd hx hb dL_law_466 ?_
  refine lv_topi (fun y9 e9 => ?_)
  have e9 : y9 = 1 := by rw [e9]; decide
  subst e9
  refine va_sld hx hb hX hbl hbA hS (i := 1) (by unfold vp_in; decide) dL_law_467 ?_
  refine lv_topi (fun x_1002 ex_1002 => ?_)
  have ex_1002 : x_1002 = xs 1 := ex_1002
  subst ex_1002
  have hPc := hP.sub (ws' := [(q_29, .inr (15, fl 134 F_30))]) [10] rfl
  have hDc := hD.sub (ws' := [(q_29, .inr (15, fl 134 F_30))]) [10] (by decide) rfl
  have hKc := hK.sub (tys' := []) [] rfl
  have hFc := va_free (wc := [(q_29, .inr (15, fl 134 F_30))]) hD hS hA [10] rfl
  refine va_calli (va_runV (As := [.int (xs 1)]) (rest := []) ⟨hx, hb, hml, hown, hts⟩ (cm_run_bad l dC dI q_29 F_30 (xs 1) H.size hq100 hbad) (cwV 1 hts gl_cm_run_bad_73 rfl rfl rfl (by decide +kernel) ⟨(Nat.le_of_ble_eq_true rfl), (Nat.le_of_ble_eq_true rfl)⟩) ⟨fun a U g mk q => by obtain ⟨q0, q1, qP, qK, qD⟩ := q; exact ⟨q0, q1, qP, va_K.moved (u := U) (U := U.calling g mk a) (Vm.Alike.refl U.vm) qK, qD⟩, va_recv hKc hPc (ci := 15) (q0 := 0) rfl rfl, fun U hU hW => ⟨rfl, by rw [hU], by rw [hU]; exact hPc, va_K.moved hW.alike hKc, hDc.weaken (fun _ _ _ _ => trivial)⟩⟩ rfl rfl hl.1 rfl (lv_room (Nat.le_of_ble_eq_true rfl)) dL_law_468 ⟨(Nat.le_of_ble_eq_true rfl), (Nat.le_of_ble_eq_true rfl)⟩) hS (fun q _ h => hFc q h) hFc (fun r9 u t H1 locs ht hvm hw hB hz1 hk1 hS => ?_)
  obtain ⟨F_1003, hf_1004, hx_1005, hP1, hK1, hD1⟩ := hB
  rw [ht] at hP1
  have hK1 := va_K.moved hvm.symm hK1
  have hk_1006 : F_1003 0 = .int 1 := hf_1004
  have hk_1007 : F_1003 3 = .int 0 := ((hx_1005 3 (by omega)).trans hq3)
  have hk_1008 : F_1003 98 = .int 0 := ((hx_1005 98 (by omega)).trans hq98)
  have hk_1009 : F_1003 100 = .int 0 := ((hx_1005 100 (by omega)).trans hq100)
  have hk_1010 : F_1003 2 = .ref q_31 := ((hx_1005 2 (by omega)).trans hq2)
  have hk_1011 : F_1003 15 = .ref q_32 := ((hx_1005 15 (by omega)).trans hq15)
  have hk_1012 : F_1003 13 = .ref q_33 := ((hx_1005 13 (by omega)).trans hq13)
  have hk_1013 : F_1003 14 = .ref q_34 := ((hx_1005 14 (by omega)).trans hq14)
  have hk_1014 : F_1003 9 = .ref q_35 := ((hx_1005 9 (by omega)).trans hq9)
  have hk_1015 : F_1003 10 = .ref q_36 := ((hx_1005 10 (by omega)).trans hq10)
  have hk_1016 : F_1003 11 = .ref q_37 := ((hx_1005 11 (by omega)).trans hq11)
  have hk_1017 : F_1003 1 = .ref q_38 := ((hx_1005 1 (by omega)).trans hq1)
  obtain ⟨hP, hD⟩ := va_join (wr := [(q_2, .inl (cy_5, 6000, .inl (fun _ => 0))), (q_3, .inr (9, [.ref q_6, .ref q_7, .ref q_8, .int 0, .null, .int 0, .int 0, .int 0, .ref q_9, .ref q_10, .ref q_11, .ref q_12, .int 0])), (q_6, .inl (cy_13, 6001, .inl (fun _ => 0))), (q_7, .inl (cy_14, 6001, .inl (fun _ => 0))), (q_8, .inl (cy_15, 6001, .inl (fun _ => 0))), (q_9, .inl (cy_16, 256, .inl (fun _ => 0))), (q_10, .inl (cy_17, 3001, .inl (fun _ => 0))), (q_11, .inl (cy_18, 3001, .inl (fun _ => 0))), (q_12, .inl (cy_19, 3001, .inl (fun _ => 0))), (q_4, .inr (4, [.null, .ref q_20, .ref q_21, .ref q_22, .ref q_23, .ref q_24, .int 0, .ref q_25, .int 0, .int 0, .int 0, .ref q_26, .int 0, .ref q_27, .int 0, .ref q_28, .null, .int 0, .int 0])), (q_38, .inr (14, [.null, .null, .null, .null, .null, .int 0])), (q_31, .inl (cy_39, 6000, .inl (fun _ => 0))), (q_35, .inl (cy_40, 6002, .inl (fun _ => 0))), (q_36, .inl (cy_41, 6002, .inl (fun _ => 0))), (q_37, .inl (cy_42, 6002, .inl (fun _ => 0))), (q_33, .inl (cy_43, 6000, .inl (fun _ => 0))), (q_34, .inl (cy_44, 6000, .inl (fun _ => 0))), (q_32, .inl (cy_45, 6600, .inl (fun _ => 0)))]) (w1 := [(q_29, .inr (15, fl 134 F_1003))]) hP hD [10] [0, 1, 2, 3, 4, 5, 6, 7, 8, 9, 11, 12, 13, 14, 15, 16, 17, 18] rfl rfl (by decide) (by decide) hk1 hFc hP1 hD1
  have hK := (hK.sub (tys' := [(cy_5, .byte), (cy_13, .int), (cy_14, .int), (cy_15, .int), (cy_16, .int), (cy_17, .int), (cy_18, .int), (cy_19, .int), (cy_39, .byte), (cy_40, .int), (cy_41, .int), (cy_42, .int), (cy_43, .int), (cy_44, .int), (cy_45, .byte)]) [0, 1, 2, 3, 4, 5, 6, 7, 8, 9, 10, 11, 12, 13, 14] rfl).app hK1
  generalize H1 = H at hP hS ⊢
  have hK : va_K (dC, dI) vwCl [(cy_5, .byte), (cy_13, .int), (cy_14, .int), (cy_15, .int), (cy_16, .int), (cy_17, .int), (cy_18, .int), (cy_19, .int), (cy_39, .byte), (cy_40, .int), (cy_41, .int), (cy_42, .int), (cy_43, .int), (cy_44, .int), (cy_45, .byte)] s := hK
  have hP : va_P (dC, dI) vwCl [(q_2, .inl (cy_5, 6000, .inl (fun _ => 0))), (q_3, .inr (9, [.ref q_6, .ref q_7, .ref q_8, .int 0, .null, .int 0, .int 0, .int 0, .ref q_9, .ref q_10, .ref q_11, .ref q_12, .int 0])), (q_6, .inl (cy_13, 6001, .inl (fun _ => 0))), (q_7, .inl (cy_14, 6001, .inl (fun _ => 0))), (q_8, .inl (cy_15, 6001, .inl (fun _ => 0))), (q_9, .inl (cy_16, 256, .inl (fun _ => 0))), (q_10, .inl (cy_17, 3001, .inl (fun _ => 0))), (q_11, .inl (cy_18, 3001, .inl (fun _ => 0))), (q_12, .inl (cy_19, 3001, .inl (fun _ => 0))), (q_4, .inr (4, [.null, .ref q_20, .ref q_21, .ref q_22, .ref q_23, .ref q_24, .int 0, .ref q_25, .int 0, .int 0, .int 0, .ref q_26, .int 0, .ref q_27, .int 0, .ref q_28, .null, .int 0, .int 0])), (q_38, .inr (14, [.null, .null, .null, .null, .null, .int 0])), (q_31, .inl (cy_39, 6000, .inl (fun _ => 0))), (q_35, .inl (cy_40, 6002, .inl (fun _ => 0))), (q_36, .inl (cy_41, 6002, .inl (fun _ => 0))), (q_37, .inl (cy_42, 6002, .inl (fun _ => 0))), (q_33, .inl (cy_43, 6000, .inl (fun _ => 0))), (q_34, .inl (cy_44, 6000, .inl (fun _ => 0))), (q_32, .inl (cy_45, 6600, .inl (fun _ => 0))), (q_29, .inr (15, fl 134 F_1003))] H := hP
  have hD : va_D A [(q_2, .inl (cy_5, 6000, .inl (fun _ => 0))), (q_3, .inr (9, [.ref q_6, .ref q_7, .ref q_8, .int 0, .null, .int 0, .int 0, .int 0, .ref q_9, .ref q_10, .ref q_11, .ref q_12, .int 0])), (q_6, .inl (cy_13, 6001, .inl (fun _ => 0))), (q_7, .inl (cy_14, 6001, .inl (fun _ => 0))), (q_8, .inl (cy_15, 6001, .inl (fun _ => 0))), (q_9, .inl (cy_16, 256, .inl (fun _ => 0))), (q_10, .inl (cy_17, 3001, .inl (fun _ => 0))), (q_11, .inl (cy_18, 3001, .inl (fun _ => 0))), (q_12, .inl (cy_19, 3001, .inl (fun _ => 0))), (q_4, .inr (4, [.null, .ref q_20, .ref q_21, .ref q_22, .ref q_23, .ref q_24, .int 0, .ref q_25, .int 0, .int 0, .int 0, .ref q_26, .int 0, .ref q_27, .int 0, .ref q_28, .null, .int 0, .int 0])), (q_38, .inr (14, [.null, .null, .null, .null, .null, .int 0])), (q_31, .inl (cy_39, 6000, .inl (fun _ => 0))), (q_35, .inl (cy_40, 6002, .inl (fun _ => 0))), (q_36, .inl (cy_41, 6002, .inl (fun _ => 0))), (q_37, .inl (cy_42, 6002, .inl (fun _ => 0))), (q_33, .inl (cy_43, 6000, .inl (fun _ => 0))), (q_34, .inl (cy_44, 6000, .inl (fun _ => 0))), (q_32, .inl (cy_45, 6600, .inl (fun _ => 0))), (q_29, .inr (15, fl 134 F_1003))] := hD
  refine W.widen (k := 101) (n := 719920) (Nat.le_of_ble_eq_true rfl) (Nat.le_of_ble_eq_true rfl) ?_
  obtain rfl : r9 = 0 := hw
  refine lv_istore (lv' := [(6, .int 0), (5, .int 1), (4, .int 0), (3, .ref q_58), (2, .ref q_29), (1, .ref q_1), (0, .ref b)]) hx hb dL_law_471 hl (by decide) rfl (fun ls hl => ?_)
  refine lv_aload_n hx hb dL_law_473 rfl (lv_at hl 4 rfl) ?_
  have hPc := hP.sub (ws' := [(q_29, .inr (15, fl 134 F_1003))]) [18] rfl
  have hDc := hD.sub (ws' := [(q_29, .inr (15, fl 134 F_1003))]) [18] (by decide) rfl
  have hKc := hK.sub (tys' := []) [] rfl
  have hFc := va_free (wc := [(q_29, .inr (15, fl 134 F_1003))]) hD hS hA [18] rfl
  refine va_calli (va_runV (As := []) (rest := []) ⟨hx, hb, hml, hown, hts⟩ (cm_thrown_1 l dC dI q_29 F_1003 H.size hk_1006) (cwV 0 hts gl_cm_thrown_1_67 rfl rfl rfl (by decide +kernel) ⟨(Nat.le_of_ble_eq_true rfl), (Nat.le_of_ble_eq_true rfl)⟩) ⟨fun a U g mk q => by obtain ⟨q0, q1, qP, qK, qD⟩ := q; exact ⟨q0, q1, qP, va_K.moved (u := U) (U := U.calling g mk a) (Vm.Alike.refl U.vm) qK, qD⟩, va_recv hKc hPc (ci := 15) (q0 := 0) rfl rfl, fun U hU hW => ⟨rfl, by rw [hU], by rw [hU]; exact hPc, va_K.moved hW.alike hKc, hDc.weaken (fun _ _ _ _ => trivial)⟩⟩ rfl rfl hl.1 rfl (lv_room (Nat.le_of_ble_eq_true rfl)) dL_law_474 ⟨(Nat.le_of_ble_eq_true rfl), (Nat.le_of_ble_eq_true rfl)⟩) hS (fun q _ h => hFc q h) hFc (fun r9 u t H1 locs ht hvm hw hB hz1 hk1 hS => ?_)
  obtain ⟨hf_1018, hP1, hK1, hD1⟩ := hB
  rw [ht] at hP1
  have hK1 := va_K.moved hvm.symm hK1
  obtain ⟨hP, hD⟩ := va_join (wr := [(q_2, .inl (cy_5, 6000, .inl (fun _ => 0))), (q_3, .inr (9, [.ref q_6, .ref q_7, .ref q_8, .int 0, .null, .int 0, .int 0, .int 0, .ref q_9, .ref q_10, .ref q_11, .ref q_12, .int 0])), (q_6, .inl (cy_13, 6001, .inl (fun _ => 0))), (q_7, .inl (cy_14, 6001, .inl (fun _ => 0))), (q_8, .inl (cy_15, 6001, .inl (fun _ => 0))), (q_9, .inl (cy_16, 256, .inl (fun _ => 0))), (q_10, .inl (cy_17, 3001, .inl (fun _ => 0))), (q_11, .inl (cy_18, 3001, .inl (fun _ => 0))), (q_12, .inl (cy_19, 3001, .inl (fun _ => 0))), (q_4, .inr (4, [.null, .ref q_20, .ref q_21, .ref q_22, .ref q_23, .ref q_24, .int 0, .ref q_25, .int 0, .int 0, .int 0, .ref q_26, .int 0, .ref q_27, .int 0, .ref q_28, .null, .int 0, .int 0])), (q_38, .inr (14, [.null, .null, .null, .null, .null, .int 0])), (q_31, .inl (cy_39, 6000, .inl (fun _ => 0))), (q_35, .inl (cy_40, 6002, .inl (fun _ => 0))), (q_36, .inl (cy_41, 6002, .inl (fun _ => 0))), (q_37, .inl (cy_42, 6002, .inl (fun _ => 0))), (q_33, .inl (cy_43, 6000, .inl (fun _ => 0))), (q_34, .inl (cy_44, 6000, .inl (fun _ => 0))), (q_32, .inl (cy_45, 6600, .inl (fun _ => 0)))]) (w1 := [(q_29, .inr (15, fl 134 F_1003))]) hP hD [18] [0, 1, 2, 3, 4, 5, 6, 7, 8, 9, 10, 11, 12, 13, 14, 15, 16, 17] rfl rfl (by decide) (by decide) hk1 hFc hP1 hD1
  have hK := (hK.sub (tys' := [(cy_5, .byte), (cy_13, .int), (cy_14, .int), (cy_15, .int), (cy_16, .int), (cy_17, .int), (cy_18, .int), (cy_19, .int), (cy_39, .byte), (cy_40, .int), (cy_41, .int), (cy_42, .int), (cy_43, .int), (cy_44, .int), (cy_45, .byte)]) [0, 1, 2, 3, 4, 5, 6, 7, 8, 9, 10, 11, 12, 13, 14] rfl).app hK1
  generalize H1 = H at hP hS ⊢
  have hK : va_K (dC, dI) vwCl [(cy_5, .byte), (cy_13, .int), (cy_14, .int), (cy_15, .int), (cy_16, .int), (cy_17, .int), (cy_18, .int), (cy_19, .int), (cy_39, .byte), (cy_40, .int), (cy_41, .int), (cy_42, .int), (cy_43, .int), (cy_44, .int), (cy_45, .byte)] s := hK
  have hP : va_P (dC, dI) vwCl [(q_2, .inl (cy_5, 6000, .inl (fun _ => 0))), (q_3, .inr (9, [.ref q_6, .ref q_7, .ref q_8, .int 0, .null, .int 0, .int 0, .int 0, .ref q_9, .ref q_10, .ref q_11, .ref q_12, .int 0])), (q_6, .inl (cy_13, 6001, .inl (fun _ => 0))), (q_7, .inl (cy_14, 6001, .inl (fun _ => 0))), (q_8, .inl (cy_15, 6001, .inl (fun _ => 0))), (q_9, .inl (cy_16, 256, .inl (fun _ => 0))), (q_10, .inl (cy_17, 3001, .inl (fun _ => 0))), (q_11, .inl (cy_18, 3001, .inl (fun _ => 0))), (q_12, .inl (cy_19, 3001, .inl (fun _ => 0))), (q_4, .inr (4, [.null, .ref q_20, .ref q_21, .ref q_22, .ref q_23, .ref q_24, .int 0, .ref q_25, .int 0, .int 0, .int 0, .ref q_26, .int 0, .ref q_27, .int 0, .ref q_28, .null, .int 0, .int 0])), (q_38, .inr (14, [.null, .null, .null, .null, .null, .int 0])), (q_31, .inl (cy_39, 6000, .inl (fun _ => 0))), (q_35, .inl (cy_40, 6002, .inl (fun _ => 0))), (q_36, .inl (cy_41, 6002, .inl (fun _ => 0))), (q_37, .inl (cy_42, 6002, .inl (fun _ => 0))), (q_33, .inl (cy_43, 6000, .inl (fun _ => 0))), (q_34, .inl (cy_44, 6000, .inl (fun _ => 0))), (q_32, .inl (cy_45, 6600, .inl (fun _ => 0))), (q_29, .inr (15, fl 134 F_1003))] H := hP
  have hD : va_D A [(q_2, .inl (cy_5, 6000, .inl (fun _ => 0))), (q_3, .inr (9, [.ref q_6, .ref q_7, .ref q_8, .int 0, .null, .int 0, .int 0, .int 0, .ref q_9, .ref q_10, .ref q_11, .ref q_12, .int 0])), (q_6, .inl (cy_13, 6001, .inl (fun _ => 0))), (q_7, .inl (cy_14, 6001, .inl (fun _ => 0))), (q_8, .inl (cy_15, 6001, .inl (fun _ => 0))), (q_9, .inl (cy_16, 256, .inl (fun _ => 0))), (q_10, .inl (cy_17, 3001, .inl (fun _ => 0))), (q_11, .inl (cy_18, 3001, .inl (fun _ => 0))), (q_12, .inl (cy_19, 3001, .inl (fun _ => 0))), (q_4, .inr (4, [.null, .ref q_20, .ref q_21, .ref q_22, .ref q_23, .ref q_24, .int 0, .ref q_25, .int 0, .int 0, .int 0, .ref q_26, .int 0, .ref q_27, .int 0, .ref q_28, .null, .int 0, .int 0])), (q_38, .inr (14, [.null, .null, .null, .null, .null, .int 0])), (q_31, .inl (cy_39, 6000, .inl (fun _ => 0))), (q_35, .inl (cy_40, 6002, .inl (fun _ => 0))), (q_36, .inl (cy_41, 6002, .inl (fun _ => 0))), (q_37, .inl (cy_42, 6002, .inl (fun _ => 0))), (q_33, .inl (cy_43, 6000, .inl (fun _ => 0))), (q_34, .inl (cy_44, 6000, .inl (fun _ => 0))), (q_32, .inl (cy_45, 6600, .inl (fun _ => 0))), (q_29, .inr (15, fl 134 F_1003))] := hD
  refine W.widen (k := 101) (n := 719920) (Nat.le_of_ble_eq_true rfl) (Nat.le_of_ble_eq_true rfl) ?_
  obtain rfl : r9 = 1 := hw
  refine lv_iload hx hb dL_law_477 (lv_at hl 1 rfl) ?_
  refine lv_icmp_eq (tgt := 484) hx hb dL_law_479 (by decide) (fun c9 => ?_) (fun c9 => absurd (by decide) c9)
  clear c9
  refine lv_iload hx hb dL_law_484 (lv_at hl 1 rfl) ?_
  refine lv_if_ne (tgt := 501) hx hb dL_law_486 (by decide) (fun c9 => ?_) (fun c9 => absurd c9 (by decide))
  clear c9
  refine lv_goto (tgt := 665) hx hb dL_law_501 (by decide) ?_
  refine lv_iinc (v := 6) (lv' := [(4, .int 6), (6, .int 0), (5, .int 1), (3, .ref q_58), (2, .ref q_29), (1, .ref q_1), (0, .ref b)]) hx hb dL_law_665 hl (k := 2) rfl (by decide) (by decide) rfl (fun ls hl => ?_)
  refine lv_goto (tgt := 23) hx hb dL_law_668 (by decide) ?_
  refine lv_iload hx hb dL_law_23 (lv_at hl 0 rfl) ?_
  refine lv_aload_n hx hb dL_law_25 rfl (lv_at hl 6 rfl) ?_
  refine va_slen hx hb hX hbl hbA hS dL_law_26 ?_
  refine lv_topi (fun y9 e9 => ?_)
  have e9 : y9 = 6 := e9
  subst e9
  refine lv_bipush (v := 6) hx hb dL_law_27 (by decide) ?_
  refine lv_isub hx hb dL_law_29 ?_
  refine lv_topi (fun y9 e9 => ?_)
  have e9 : y9 = 0 := by rw [e9]; decide
  subst e9
  refine lv_icmp_gt (tgt := 671) hx hb dL_law_30 (by decide) (fun c9 => ?_) (fun c9 => absurd (by decide) c9)
  clear c9
  refine lv_iconst (v := 1) hx hb dL_law_671 (by decide) ?_
  refine va_forget (fun q hq => hAA q.base (hS.2.2 q hq)) ?_
  refine W.widen (k := 600002) (n := 7302232) (Nat.le_of_ble_eq_true rfl) (Nat.le_of_ble_eq_true rfl) ?_
  exact lw_ret hx hb hr hlocks dL_law_672
set_option maxHeartbeats 4000000 in
set_option maxRecDepth 100000 in
theorem law_run_none {p : Program} {e : Env} {s : State} {m : MethodId} {below : List Frame} {meth : Method} {c : Code} (l : Launch) (hfl : l.flags = flags0) {b : Nat} {xs : Nat → Int32} (C0 : lw_At p s m meth c b 6 xs) (dC : Nat → ClassId) (dI : Nat → Nat → Nat) (A : Nat → Prop) (hA : ∀ q : Nat, s.heap.size ≤ q → A q) (hAa : ∀ q : Nat, q < s.heap.size → ¬ A q) (hAA : ∀ q : Nat, A q → s.heap.size ≤ q) (q_1 : Nat) (q_2 : Nat) (q_3 : Nat) (q_4 : Nat) (cy_5 : ClassId) (q_6 : Nat) (q_7 : Nat) (q_8 : Nat) (q_9 : Nat) (q_10 : Nat) (q_11 : Nat) (q_12 : Nat) (cy_13 : ClassId) (cy_14 : ClassId) (cy_15 : ClassId) (cy_16 : ClassId) (cy_17 : ClassId) (cy_18 : ClassId) (cy_19 : ClassId) (q_20 : Nat) (q_21 : Nat) (q_22 : Nat) (q_23 : Nat) (q_24 : Nat) (q_25 : Nat) (q_26 : Nat) (q_27 : Nat) (q_28 : Nat) (q_29 : Nat) (F_30 : Nat → Value) (q_31 : Nat) (q_32 : Nat) (q_33 : Nat) (q_34 : Nat) (q_35 : Nat) (q_36 : Nat) (q_37 : Nat) (q_38 : Nat) (cy_39 : ClassId) (cy_40 : ClassId) (cy_41 : ClassId) (cy_42 : ClassId) (cy_43 : ClassId) (cy_44 : ClassId) (cy_45 : ClassId) (q_58 : Nat) (hq0 : F_30 0 = .int 0) (hq1 : F_30 1 = .ref q_38) (hq2 : F_30 2 = .ref q_31) (hq3 : F_30 3 = .int 0) (hq9 : F_30 9 = .ref q_35) (hq10 : F_30 10 = .ref q_36) (hq11 : F_30 11 = .ref q_37) (hq13 : F_30 13 = .ref q_33) (hq14 : F_30 14 = .ref q_34) (hq15 : F_30 15 = .ref q_32) (hq98 : F_30 98 = .int 0) (hq100 : F_30 100 = .int 0) (hlo : ¬ (xs 1) < 0) (hhi : (xs 1) ≤ 2000) (H : Heap) (locs : List Loc) (ls : Array Slot) (hK : va_K (dC, dI) vwCl [(cy_5, .byte), (cy_13, .int), (cy_14, .int), (cy_15, .int), (cy_16, .int), (cy_17, .int), (cy_18, .int), (cy_19, .int), (cy_39, .byte), (cy_40, .int), (cy_41, .int), (cy_42, .int), (cy_43, .int), (cy_44, .int), (cy_45, .byte)] s) (hP : va_P (dC, dI) vwCl [(q_1, .inr (13, [.ref q_2, .int 0, .ref q_3, .ref q_4, .null])), (q_2, .inl (cy_5, 6000, .inl (fun _ => 0))), (q_3, .inr (9, [.ref q_6, .ref q_7, .ref q_8, .int 0, .null, .int 0, .int 0, .int 0, .ref q_9, .ref q_10, .ref q_11, .ref q_12, .int 0])), (q_6, .inl (cy_13, 6001, .inl (fun _ => 0))), (q_7, .inl (cy_14, 6001, .inl (fun _ => 0))), (q_8, .inl (cy_15, 6001, .inl (fun _ => 0))), (q_9, .inl (cy_16, 256, .inl (fun _ => 0))), (q_10, .inl (cy_17, 3001, .inl (fun _ => 0))), (q_11, .inl (cy_18, 3001, .inl (fun _ => 0))), (q_12, .inl (cy_19, 3001, .inl (fun _ => 0))), (q_4, .inr (4, [.null, .ref q_20, .ref q_21, .ref q_22, .ref q_23, .ref q_24, .int 0, .ref q_25, .int 0, .int 0, .int 0, .ref q_26, .int 0, .ref q_27, .int 0, .ref q_28, .null, .int 0, .int 0])), (q_29, .inr (15, fl 134 F_30)), (q_38, .inr (14, [.null, .null, .null, .null, .null, .int 0])), (q_31, .inl (cy_39, 6000, .inl (fun _ => 0))), (q_35, .inl (cy_40, 6002, .inl (fun _ => 0))), (q_36, .inl (cy_41, 6002, .inl (fun _ => 0))), (q_37, .inl (cy_42, 6002, .inl (fun _ => 0))), (q_33, .inl (cy_43, 6000, .inl (fun _ => 0))), (q_34, .inl (cy_44, 6000, .inl (fun _ => 0))), (q_32, .inl (cy_45, 6600, .inl (fun _ => 0)))] H) (hD : va_D A [(q_1, .inr (13, [.ref q_2, .int 0, .ref q_3, .ref q_4, .null])), (q_2, .inl (cy_5, 6000, .inl (fun _ => 0))), (q_3, .inr (9, [.ref q_6, .ref q_7, .ref q_8, .int 0, .null, .int 0, .int 0, .int 0, .ref q_9, .ref q_10, .ref q_11, .ref q_12, .int 0])), (q_6, .inl (cy_13, 6001, .inl (fun _ => 0))), (q_7, .inl (cy_14, 6001, .inl (fun _ => 0))), (q_8, .inl (cy_15, 6001, .inl (fun _ => 0))), (q_9, .inl (cy_16, 256, .inl (fun _ => 0))), (q_10, .inl (cy_17, 3001, .inl (fun _ => 0))), (q_11, .inl (cy_18, 3001, .inl (fun _ => 0))), (q_12, .inl (cy_19, 3001, .inl (fun _ => 0))), (q_4, .inr (4, [.null, .ref q_20, .ref q_21, .ref q_22, .ref q_23, .ref q_24, .int 0, .ref q_25, .int 0, .int 0, .int 0, .ref q_26, .int 0, .ref q_27, .int 0, .ref q_28, .null, .int 0, .int 0])), (q_29, .inr (15, fl 134 F_30)), (q_38, .inr (14, [.null, .null, .null, .null, .null, .int 0])), (q_31, .inl (cy_39, 6000, .inl (fun _ => 0))), (q_35, .inl (cy_40, 6002, .inl (fun _ => 0))), (q_36, .inl (cy_41, 6002, .inl (fun _ => 0))), (q_37, .inl (cy_42, 6002, .inl (fun _ => 0))), (q_33, .inl (cy_43, 6000, .inl (fun _ => 0))), (q_34, .inl (cy_44, 6000, .inl (fun _ => 0))), (q_32, .inl (cy_45, 6600, .inl (fun _ => 0)))]) (hS : va_S A s.heap H locs) (hl : lv_has ls 7 [(4, .int 0), (3, .ref q_58), (2, .ref q_29), (1, .ref q_1), (0, .ref b)]) : W p l e room_1 s m #[Value.ref b] below meth c H locs 100 719914 (lw_Z below #[Value.ref b] s) (F0 m 448 ls []) := by
  obtain ⟨hx, hb, hr, hml, hown, htsT, hX, hbl, hlocks, hgv⟩ := id C0
  have hown : s.vm.findClass RL = some m.cls := hown
  have hts : ∀ w ∈ ws_law, w.before #[Value.ref b] s = true := fun w h => htsT w (in_law w h)
  have hg := flat_of_before _ hgv
  have hbA : ¬ A b := hAa b hbl
  have hflags : l.stackTraces = false := by unfold Launch.stackTraces; rw [hfl]; decide
  obtain ⟨sa187, hEsa187⟩ := law_str187 hgv
  have hN0 : vk_R RX11 187 kx187 sa187 s := vk_R.of (htsT (.stringRef RX11 187 kx187) (List.mem_of_getElem? (i := 2508) (by decide +kernel))) hEsa187
  have hN1 : va_Nw (.castable "java/lang/IllegalStateException" "java/lang/IllegalStateException") s := va_Nw.of rfl (htsT (.castable "java/lang/IllegalStateException" "java/lang/IllegalStateException") (List.mem_of_getElem? (i := 2014) (by decide +kernel)))
  have hN2 : va_Nw (.declares (Bundle.initS "java/lang/Throwable")) s := va_Nw.of rfl (htsT (.declares (Bundle.initS "java/lang/Throwable")) (List.mem_of_getElem? (i := 2020) (by decide +kernel)))
  have hN3 : va_Nw (.declares (Bundle.initS "java/lang/Exception")) s := va_Nw.of rfl (htsT (.declares (Bundle.initS "java/lang/Exception")) (List.mem_of_getElem? (i := 2018) (by decide +kernel)))
  have hN4 : va_Nw (.declares (Bundle.initS "java/lang/RuntimeException")) s := va_Nw.of rfl (htsT (.declares (Bundle.initS "java/lang/RuntimeException")) (List.mem_of_getElem? (i := 2016) (by decide +kernel)))
  have hN5 : vx_Zq "java/lang/Throwable" "UNASSIGNED_STACK" "[Ljava/lang/StackTraceElement;" A s s.heap := vx_Zqof (htsT (.laysStatic "java/lang/Throwable" "UNASSIGNED_STACK" "[Ljava/lang/StackTraceElement;") (List.mem_of_getElem? (i := 2039) (by decide +kernel))) (htsT (.initialized "java/lang/Throwable") (List.mem_of_getElem? (i := 391) (by decide +kernel))) (hg (.isRef (.static "java/lang/Throwable" "UNASSIGNED_STACK" "[Ljava/lang/StackTraceElement;")) (List.mem_of_getElem? (i := 9) (by decide +kernel))) hAa
  have hN6 : vx_Zq "java/lang/Throwable" "SUPPRESSED_SENTINEL" "Ljava/util/List;" A s s.heap := vx_Zqof (htsT (.laysStatic "java/lang/Throwable" "SUPPRESSED_SENTINEL" "Ljava/util/List;") (List.mem_of_getElem? (i := 2041) (by decide +kernel))) (htsT (.initialized "java/lang/Throwable") (List.mem_of_getElem? (i := 391) (by decide +kernel))) (hg (.isRef (.static "java/lang/Throwable" "SUPPRESSED_SENTINEL" "Ljava/util/List;")) (List.mem_of_getElem? (i := 10) (by decide +kernel))) hAa
  have hN7 : va_Nc "java/lang/IllegalStateException" "java/lang/IllegalArgumentException" s := va_Nc.of (hg (.not (.castable "java/lang/IllegalStateException" "java/lang/IllegalArgumentException")) (List.mem_of_getElem? (i := 263) (by decide +kernel)))
  refine lv_aload_n hx hb dL_law_448 rfl (lv_at hl 3 rfl) ?_
  refine lv_aload_n hx hb dL_law_449 rfl (lv_at hl 4 rfl) ?_
  refine lv_iload hx hb dL_law_450 (lv_at hl 0 rfl) ?_
  refine lv_iconst (v := 1) hx hb dL_law_452 (by decide) ?_
  refine lv_iadd hx hb dL_law_453 ?_
  refine lv_topi (fun y9 e9 => ?_)
  have e9 : y9 = 1 := by rw [e9]; decide
  subst e9
  refine va_sld hx hb hX hbl hbA hS (i := 1) (by unfold vp_in; decide) dL_law_454 ?_
  refine lv_topi (fun x_1001 ex_1001 => ?_)
  have ex_1001 : x_1001 = xs 1 := ex_1001
  subst ex_1001
  refine lv_aload_n hx hb dL_law_455 rfl (lv_at hl 1 rfl) ?_
  have hPc := hP.sub (ws' := [(q_1, .inr (13, [.ref q_2, .int 0, .ref q_3, .ref q_4, .null])), (q_4, .inr (4, [.null, .ref q_20, .ref q_21, .ref q_22, .ref q_23, .ref q_24, .int 0, .ref q_25, .int 0, .int 0, .int 0, .ref q_26, .int 0, .ref q_27, .int 0, .ref q_28, .null, .int 0, .int 0]))]) [0, 10] rfl
  have hDc := hD.sub (ws' := [(q_1, .inr (13, [.ref q_2, .int 0, .ref q_3, .ref q_4, .null])), (q_4, .inr (4, [.null, .ref q_20, .ref q_21, .ref q_22, .ref q_23, .ref q_24, .int 0, .ref q_25, .int 0, .int 0, .int 0, .ref q_26, .int 0, .ref q_27, .int 0, .ref q_28, .null, .int 0, .int 0]))]) [0, 10] (by decide) rfl
  have hKc := hK.sub (tys' := []) [] rfl
  have hFc := va_free (wc := [(q_1, .inr (13, [.ref q_2, .int 0, .ref q_3, .ref q_4, .null])), (q_4, .inr (4, [.null, .ref q_20, .ref q_21, .ref q_22, .ref q_23, .ref q_24, .int 0, .ref q_25, .int 0, .int 0, .int 0, .ref q_26, .int 0, .ref q_27, .int 0, .ref q_28, .null, .int 0, .int 0]))]) hD hS hA [0, 10] rfl
  refine va_calli (vx_runSW (As := [.ref q_1, .int (xs 1), .ref q_58]) (rest := []) ⟨hx, hb, hml, hown, hts⟩ (cl_run_none l dC dI q_1 q_2 q_3 q_4 q_20 q_21 q_22 q_23 q_24 q_25 q_26 q_27 q_28 sa187 (xs 1) q_58 H.size hlo hhi hflags) (vx_cwSW 3 hts gl_cl_run_none_70 rfl rfl rfl (by decide +kernel) ⟨(Nat.le_of_ble_eq_true rfl), (Nat.le_of_ble_eq_true rfl)⟩) ⟨fun a U g mk q => by obtain ⟨q0, q1, qP, qK, qD, qN0, qN1, qN2, qN3, qN4, qN5, qN6, qN7⟩ := q; exact ⟨q0, q1, qP, va_K.moved (u := U) (U := U.calling g mk a) (Vm.Alike.refl U.vm) qK, qD, vk_R.same (u := U) (U := U.calling g mk a) rfl qN0, va_Nw.same (u := U) rfl rfl qN1, va_Nw.same (u := U) rfl rfl qN2, va_Nw.same (u := U) rfl rfl qN3, va_Nw.same (u := U) rfl rfl qN4, vx_Zq.moved (u := U) (U := U.calling g mk a) (Vm.Alike.refl U.vm) qN5, vx_Zq.moved (u := U) (U := U.calling g mk a) (Vm.Alike.refl U.vm) qN6, va_Nc.moved (u := U) (U := U.calling g mk a) (Vm.Alike.refl U.vm) qN7⟩, fun U hU hW => ⟨rfl, by rw [hU], by rw [hU]; exact hPc, va_K.moved hW.alike hKc, hDc.weaken (fun _ _ _ _ => trivial), vk_R.warm hW hN0, va_Nw.warmC hW hN1, va_Nw.warmD hW hN2, va_Nw.warmD hW hN3, va_Nw.warmD hW hN4, (by rw [hU]; exact vx_Zq.moved hW.alike ((hN5.kept (fun a h1 h2 => hS.2.1 a h1 h2)).narrow hFc)), (by rw [hU]; exact vx_Zq.moved hW.alike ((hN6.kept (fun a h1 h2 => hS.2.1 a h1 h2)).narrow hFc)), va_Nc.moved hW.alike hN7⟩⟩ rfl rfl hl.1 rfl (lv_room (Nat.le_of_ble_eq_true rfl)) dL_law_456 ⟨(Nat.le_of_ble_eq_true rfl), (Nat.le_of_ble_eq_true rfl)⟩) hS (fun q _ h => hFc q h) hFc (fun r9 u t H1 locs ht hvm hw hB hz1 hk1 hS => ?_)
  obtain ⟨hP1, hK1, hD1⟩ := hB
  rw [ht] at hP1
  have hK1 := va_K.moved hvm.symm hK1
  obtain ⟨hP, hD⟩ := va_join (wr := [(q_2, .inl (cy_5, 6000, .inl (fun _ => 0))), (q_3, .inr (9, [.ref q_6, .ref q_7, .ref q_8, .int 0, .null, .int 0, .int 0, .int 0, .ref q_9, .ref q_10, .ref q_11, .ref q_12, .int 0])), (q_6, .inl (cy_13, 6001, .inl (fun _ => 0))), (q_7, .inl (cy_14, 6001, .inl (fun _ => 0))), (q_8, .inl (cy_15, 6001, .inl (fun _ => 0))), (q_9, .inl (cy_16, 256, .inl (fun _ => 0))), (q_10, .inl (cy_17, 3001, .inl (fun _ => 0))), (q_11, .inl (cy_18, 3001, .inl (fun _ => 0))), (q_12, .inl (cy_19, 3001, .inl (fun _ => 0))), (q_29, .inr (15, fl 134 F_30)), (q_38, .inr (14, [.null, .null, .null, .null, .null, .int 0])), (q_31, .inl (cy_39, 6000, .inl (fun _ => 0))), (q_35, .inl (cy_40, 6002, .inl (fun _ => 0))), (q_36, .inl (cy_41, 6002, .inl (fun _ => 0))), (q_37, .inl (cy_42, 6002, .inl (fun _ => 0))), (q_33, .inl (cy_43, 6000, .inl (fun _ => 0))), (q_34, .inl (cy_44, 6000, .inl (fun _ => 0))), (q_32, .inl (cy_45, 6600, .inl (fun _ => 0)))]) (w1 := []) hP hD [0, 10] [1, 2, 3, 4, 5, 6, 7, 8, 9, 11, 12, 13, 14, 15, 16, 17, 18, 19] rfl rfl (by decide) (by decide) hk1 hFc hP1 hD1
  have hK := (hK.sub (tys' := [(cy_5, .byte), (cy_13, .int), (cy_14, .int), (cy_15, .int), (cy_16, .int), (cy_17, .int), (cy_18, .int), (cy_19, .int), (cy_39, .byte), (cy_40, .int), (cy_41, .int), (cy_42, .int), (cy_43, .int), (cy_44, .int), (cy_45, .byte)]) [0, 1, 2, 3, 4, 5, 6, 7, 8, 9, 10, 11, 12, 13, 14] rfl).app hK1
  generalize H1 = H at hP hS ⊢
  have hK : va_K (dC, dI) vwCl [(cy_5, .byte), (cy_13, .int), (cy_14, .int), (cy_15, .int), (cy_16, .int), (cy_17, .int), (cy_18, .int), (cy_19, .int), (cy_39, .byte), (cy_40, .int), (cy_41, .int), (cy_42, .int), (cy_43, .int), (cy_44, .int), (cy_45, .byte)] s := hK
  have hP : va_P (dC, dI) vwCl [(q_2, .inl (cy_5, 6000, .inl (fun _ => 0))), (q_3, .inr (9, [.ref q_6, .ref q_7, .ref q_8, .int 0, .null, .int 0, .int 0, .int 0, .ref q_9, .ref q_10, .ref q_11, .ref q_12, .int 0])), (q_6, .inl (cy_13, 6001, .inl (fun _ => 0))), (q_7, .inl (cy_14, 6001, .inl (fun _ => 0))), (q_8, .inl (cy_15, 6001, .inl (fun _ => 0))), (q_9, .inl (cy_16, 256, .inl (fun _ => 0))), (q_10, .inl (cy_17, 3001, .inl (fun _ => 0))), (q_11, .inl (cy_18, 3001, .inl (fun _ => 0))), (q_12, .inl (cy_19, 3001, .inl (fun _ => 0))), (q_29, .inr (15, fl 134 F_30)), (q_38, .inr (14, [.null, .null, .null, .null, .null, .int 0])), (q_31, .inl (cy_39, 6000, .inl (fun _ => 0))), (q_35, .inl (cy_40, 6002, .inl (fun _ => 0))), (q_36, .inl (cy_41, 6002, .inl (fun _ => 0))), (q_37, .inl (cy_42, 6002, .inl (fun _ => 0))), (q_33, .inl (cy_43, 6000, .inl (fun _ => 0))), (q_34, .inl (cy_44, 6000, .inl (fun _ => 0))), (q_32, .inl (cy_45, 6600, .inl (fun _ => 0)))] H := hP
  have hD : va_D A [(q_2, .inl (cy_5, 6000, .inl (fun _ => 0))), (q_3, .inr (9, [.ref q_6, .ref q_7, .ref q_8, .int 0, .null, .int 0, .int 0, .int 0, .ref q_9, .ref q_10, .ref q_11, .ref q_12, .int 0])), (q_6, .inl (cy_13, 6001, .inl (fun _ => 0))), (q_7, .inl (cy_14, 6001, .inl (fun _ => 0))), (q_8, .inl (cy_15, 6001, .inl (fun _ => 0))), (q_9, .inl (cy_16, 256, .inl (fun _ => 0))), (q_10, .inl (cy_17, 3001, .inl (fun _ => 0))), (q_11, .inl (cy_18, 3001, .inl (fun _ => 0))), (q_12, .inl (cy_19, 3001, .inl (fun _ => 0))), (q_29, .inr (15, fl 134 F_30)), (q_38, .inr (14, [.null, .null, .null, .null, .null, .int 0])), (q_31, .inl (cy_39, 6000, .inl (fun _ => 0))), (q_35, .inl (cy_40, 6002, .inl (fun _ => 0))), (q_36, .inl (cy_41, 6002, .inl (fun _ => 0))), (q_37, .inl (cy_42, 6002, .inl (fun _ => 0))), (q_33, .inl (cy_43, 6000, .inl (fun _ => 0))), (q_34, .inl (cy_44, 6000, .inl (fun _ => 0))), (q_32, .inl (cy_45, 6600, .inl (fun _ => 0)))] := hD
  refine W.widen (k := 101) (n := 719920) (Nat.le_of_ble_eq_true rfl) (Nat.le_of_ble_eq_true rfl) ?_
  obtain rfl : r9 = 2 := hw
  refine lv_istore (lv' := [(5, .int 2), (4, .int 0), (3, .ref q_58), (2, .ref q_29), (1, .ref q_1), (0, .ref b)]) hx hb dL_law_459 hl (by decide) rfl (fun ls hl => ?_)
  refine lv_aload_n hx hb dL_law_461 rfl (lv_at hl 3 rfl) ?_
  refine lv_aload_n hx hb dL_law_462 rfl (lv_at hl 5 rfl) ?_
  refine lv_iload hx hb dL_law_463 (lv_at hl 1 rfl) ?_
  refine lv_iconst (v := 1) hx hb dL_law_465 (by decide) ?_
  refine lv_iadd hx hb dL_law_466 ?_
  refine lv_topi (fun y9 e9 => ?_)
  have e9 : y9 = 1 := by rw [e9]; decide
  subst e9
  refine va_sld hx hb hX hbl hbA hS (i := 1) (by unfold vp_in; decide) dL_law_467 ?_
  refine lv_topi (fun x_1002 ex_1002 => ?_)
  have ex_1002 : x_1002 = xs 1 := ex_1002
  subst ex_1002
  have hPc := hP.sub (ws' := [(q_29, .inr (15, fl 134 F_30))]) [9] rfl
  have hDc := hD.sub (ws' := [(q_29, .inr (15, fl 134 F_30))]) [9] (by decide) rfl
  have hKc := hK.sub (tys' := []) [] rfl
  have hFc := va_free (wc := [(q_29, .inr (15, fl 134 F_30))]) hD hS hA [9] rfl
  refine va_calli (va_runV (As := [.int (xs 1)]) (rest := []) ⟨hx, hb, hml, hown, hts⟩ (cm_run_none l dC dI q_29 F_30 (xs 1) H.size hq100 hlo hhi) (cwV 1 hts gl_cm_run_none_73 rfl rfl rfl (by decide +kernel) ⟨(Nat.le_of_ble_eq_true rfl), (Nat.le_of_ble_eq_true rfl)⟩) ⟨fun a U g mk q => by obtain ⟨q0, q1, qP, qK, qD⟩ := q; exact ⟨q0, q1, qP, va_K.moved (u := U) (U := U.calling g mk a) (Vm.Alike.refl U.vm) qK, qD⟩, va_recv hKc hPc (ci := 15) (q0 := 0) rfl rfl, fun U hU hW => ⟨rfl, by rw [hU], by rw [hU]; exact hPc, va_K.moved hW.alike hKc, hDc.weaken (fun _ _ _ _ => trivial)⟩⟩ rfl rfl hl.1 rfl (lv_room (Nat.le_of_ble_eq_true rfl)) dL_law_468 ⟨(Nat.le_of_ble_eq_true rfl), (Nat.le_of_ble_eq_true rfl)⟩) hS (fun q _ h => hFc q h) hFc (fun r9 u t H1 locs ht hvm hw hB hz1 hk1 hS => ?_)
  obtain ⟨F_1003, hf_1004, hx_1005, hP1, hK1, hD1⟩ := hB
  rw [ht] at hP1
  have hK1 := va_K.moved hvm.symm hK1
  have hk_1006 : F_1003 0 = .int 2 := hf_1004
  have hk_1007 : F_1003 3 = .int 0 := ((hx_1005 3 (by omega)).trans hq3)
  have hk_1008 : F_1003 98 = .int 0 := ((hx_1005 98 (by omega)).trans hq98)
  have hk_1009 : F_1003 100 = .int 0 := ((hx_1005 100 (by omega)).trans hq100)
  have hk_1010 : F_1003 2 = .ref q_31 := ((hx_1005 2 (by omega)).trans hq2)
  have hk_1011 : F_1003 15 = .ref q_32 := ((hx_1005 15 (by omega)).trans hq15)
  have hk_1012 : F_1003 13 = .ref q_33 := ((hx_1005 13 (by omega)).trans hq13)
  have hk_1013 : F_1003 14 = .ref q_34 := ((hx_1005 14 (by omega)).trans hq14)
  have hk_1014 : F_1003 9 = .ref q_35 := ((hx_1005 9 (by omega)).trans hq9)
  have hk_1015 : F_1003 10 = .ref q_36 := ((hx_1005 10 (by omega)).trans hq10)
  have hk_1016 : F_1003 11 = .ref q_37 := ((hx_1005 11 (by omega)).trans hq11)
  have hk_1017 : F_1003 1 = .ref q_38 := ((hx_1005 1 (by omega)).trans hq1)
  obtain ⟨hP, hD⟩ := va_join (wr := [(q_2, .inl (cy_5, 6000, .inl (fun _ => 0))), (q_3, .inr (9, [.ref q_6, .ref q_7, .ref q_8, .int 0, .null, .int 0, .int 0, .int 0, .ref q_9, .ref q_10, .ref q_11, .ref q_12, .int 0])), (q_6, .inl (cy_13, 6001, .inl (fun _ => 0))), (q_7, .inl (cy_14, 6001, .inl (fun _ => 0))), (q_8, .inl (cy_15, 6001, .inl (fun _ => 0))), (q_9, .inl (cy_16, 256, .inl (fun _ => 0))), (q_10, .inl (cy_17, 3001, .inl (fun _ => 0))), (q_11, .inl (cy_18, 3001, .inl (fun _ => 0))), (q_12, .inl (cy_19, 3001, .inl (fun _ => 0))), (q_38, .inr (14, [.null, .null, .null, .null, .null, .int 0])), (q_31, .inl (cy_39, 6000, .inl (fun _ => 0))), (q_35, .inl (cy_40, 6002, .inl (fun _ => 0))), (q_36, .inl (cy_41, 6002, .inl (fun _ => 0))), (q_37, .inl (cy_42, 6002, .inl (fun _ => 0))), (q_33, .inl (cy_43, 6000, .inl (fun _ => 0))), (q_34, .inl (cy_44, 6000, .inl (fun _ => 0))), (q_32, .inl (cy_45, 6600, .inl (fun _ => 0)))]) (w1 := [(q_29, .inr (15, fl 134 F_1003))]) hP hD [9] [0, 1, 2, 3, 4, 5, 6, 7, 8, 10, 11, 12, 13, 14, 15, 16, 17] rfl rfl (by decide) (by decide) hk1 hFc hP1 hD1
  have hK := (hK.sub (tys' := [(cy_5, .byte), (cy_13, .int), (cy_14, .int), (cy_15, .int), (cy_16, .int), (cy_17, .int), (cy_18, .int), (cy_19, .int), (cy_39, .byte), (cy_40, .int), (cy_41, .int), (cy_42, .int), (cy_43, .int), (cy_44, .int), (cy_45, .byte)]) [0, 1, 2, 3, 4, 5, 6, 7, 8, 9, 10, 11, 12, 13, 14] rfl).app hK1
  generalize H1 = H at hP hS ⊢
  have hK : va_K (dC, dI) vwCl [(cy_5, .byte), (cy_13, .int), (cy_14, .int), (cy_15, .int), (cy_16, .int), (cy_17, .int), (cy_18, .int), (cy_19, .int), (cy_39, .byte), (cy_40, .int), (cy_41, .int), (cy_42, .int), (cy_43, .int), (cy_44, .int), (cy_45, .byte)] s := hK
  have hP : va_P (dC, dI) vwCl [(q_2, .inl (cy_5, 6000, .inl (fun _ => 0))), (q_3, .inr (9, [.ref q_6, .ref q_7, .ref q_8, .int 0, .null, .int 0, .int 0, .int 0, .ref q_9, .ref q_10, .ref q_11, .ref q_12, .int 0])), (q_6, .inl (cy_13, 6001, .inl (fun _ => 0))), (q_7, .inl (cy_14, 6001, .inl (fun _ => 0))), (q_8, .inl (cy_15, 6001, .inl (fun _ => 0))), (q_9, .inl (cy_16, 256, .inl (fun _ => 0))), (q_10, .inl (cy_17, 3001, .inl (fun _ => 0))), (q_11, .inl (cy_18, 3001, .inl (fun _ => 0))), (q_12, .inl (cy_19, 3001, .inl (fun _ => 0))), (q_38, .inr (14, [.null, .null, .null, .null, .null, .int 0])), (q_31, .inl (cy_39, 6000, .inl (fun _ => 0))), (q_35, .inl (cy_40, 6002, .inl (fun _ => 0))), (q_36, .inl (cy_41, 6002, .inl (fun _ => 0))), (q_37, .inl (cy_42, 6002, .inl (fun _ => 0))), (q_33, .inl (cy_43, 6000, .inl (fun _ => 0))), (q_34, .inl (cy_44, 6000, .inl (fun _ => 0))), (q_32, .inl (cy_45, 6600, .inl (fun _ => 0))), (q_29, .inr (15, fl 134 F_1003))] H := hP
  have hD : va_D A [(q_2, .inl (cy_5, 6000, .inl (fun _ => 0))), (q_3, .inr (9, [.ref q_6, .ref q_7, .ref q_8, .int 0, .null, .int 0, .int 0, .int 0, .ref q_9, .ref q_10, .ref q_11, .ref q_12, .int 0])), (q_6, .inl (cy_13, 6001, .inl (fun _ => 0))), (q_7, .inl (cy_14, 6001, .inl (fun _ => 0))), (q_8, .inl (cy_15, 6001, .inl (fun _ => 0))), (q_9, .inl (cy_16, 256, .inl (fun _ => 0))), (q_10, .inl (cy_17, 3001, .inl (fun _ => 0))), (q_11, .inl (cy_18, 3001, .inl (fun _ => 0))), (q_12, .inl (cy_19, 3001, .inl (fun _ => 0))), (q_38, .inr (14, [.null, .null, .null, .null, .null, .int 0])), (q_31, .inl (cy_39, 6000, .inl (fun _ => 0))), (q_35, .inl (cy_40, 6002, .inl (fun _ => 0))), (q_36, .inl (cy_41, 6002, .inl (fun _ => 0))), (q_37, .inl (cy_42, 6002, .inl (fun _ => 0))), (q_33, .inl (cy_43, 6000, .inl (fun _ => 0))), (q_34, .inl (cy_44, 6000, .inl (fun _ => 0))), (q_32, .inl (cy_45, 6600, .inl (fun _ => 0))), (q_29, .inr (15, fl 134 F_1003))] := hD
  refine W.widen (k := 101) (n := 719920) (Nat.le_of_ble_eq_true rfl) (Nat.le_of_ble_eq_true rfl) ?_
  obtain rfl : r9 = 0 := hw
  refine lv_istore (lv' := [(6, .int 0), (5, .int 2), (4, .int 0), (3, .ref q_58), (2, .ref q_29), (1, .ref q_1), (0, .ref b)]) hx hb dL_law_471 hl (by decide) rfl (fun ls hl => ?_)
  refine lv_aload_n hx hb dL_law_473 rfl (lv_at hl 4 rfl) ?_
  have hPc := hP.sub (ws' := [(q_29, .inr (15, fl 134 F_1003))]) [17] rfl
  have hDc := hD.sub (ws' := [(q_29, .inr (15, fl 134 F_1003))]) [17] (by decide) rfl
  have hKc := hK.sub (tys' := []) [] rfl
  have hFc := va_free (wc := [(q_29, .inr (15, fl 134 F_1003))]) hD hS hA [17] rfl
  refine va_calli (va_runV (As := []) (rest := []) ⟨hx, hb, hml, hown, hts⟩ (cm_thrown_2 l dC dI q_29 F_1003 H.size hk_1006) (cwV 0 hts gl_cm_thrown_2_67 rfl rfl rfl (by decide +kernel) ⟨(Nat.le_of_ble_eq_true rfl), (Nat.le_of_ble_eq_true rfl)⟩) ⟨fun a U g mk q => by obtain ⟨q0, q1, qP, qK, qD⟩ := q; exact ⟨q0, q1, qP, va_K.moved (u := U) (U := U.calling g mk a) (Vm.Alike.refl U.vm) qK, qD⟩, va_recv hKc hPc (ci := 15) (q0 := 0) rfl rfl, fun U hU hW => ⟨rfl, by rw [hU], by rw [hU]; exact hPc, va_K.moved hW.alike hKc, hDc.weaken (fun _ _ _ _ => trivial)⟩⟩ rfl rfl hl.1 rfl (lv_room (Nat.le_of_ble_eq_true rfl)) dL_law_474 ⟨(Nat.le_of_ble_eq_true rfl), (Nat.le_of_ble_eq_true rfl)⟩) hS (fun q _ h => hFc q h) hFc (fun r9 u t H1 locs ht hvm hw hB hz1 hk1 hS => ?_)
  obtain ⟨hf_1018, hP1, hK1, hD1⟩ := hB
  rw [ht] at hP1
  have hK1 := va_K.moved hvm.symm hK1
  obtain ⟨hP, hD⟩ := va_join (wr := [(q_2, .inl (cy_5, 6000, .inl (fun _ => 0))), (q_3, .inr (9, [.ref q_6, .ref q_7, .ref q_8, .int 0, .null, .int 0, .int 0, .int 0, .ref q_9, .ref q_10, .ref q_11, .ref q_12, .int 0])), (q_6, .inl (cy_13, 6001, .inl (fun _ => 0))), (q_7, .inl (cy_14, 6001, .inl (fun _ => 0))), (q_8, .inl (cy_15, 6001, .inl (fun _ => 0))), (q_9, .inl (cy_16, 256, .inl (fun _ => 0))), (q_10, .inl (cy_17, 3001, .inl (fun _ => 0))), (q_11, .inl (cy_18, 3001, .inl (fun _ => 0))), (q_12, .inl (cy_19, 3001, .inl (fun _ => 0))), (q_38, .inr (14, [.null, .null, .null, .null, .null, .int 0])), (q_31, .inl (cy_39, 6000, .inl (fun _ => 0))), (q_35, .inl (cy_40, 6002, .inl (fun _ => 0))), (q_36, .inl (cy_41, 6002, .inl (fun _ => 0))), (q_37, .inl (cy_42, 6002, .inl (fun _ => 0))), (q_33, .inl (cy_43, 6000, .inl (fun _ => 0))), (q_34, .inl (cy_44, 6000, .inl (fun _ => 0))), (q_32, .inl (cy_45, 6600, .inl (fun _ => 0)))]) (w1 := [(q_29, .inr (15, fl 134 F_1003))]) hP hD [17] [0, 1, 2, 3, 4, 5, 6, 7, 8, 9, 10, 11, 12, 13, 14, 15, 16] rfl rfl (by decide) (by decide) hk1 hFc hP1 hD1
  have hK := (hK.sub (tys' := [(cy_5, .byte), (cy_13, .int), (cy_14, .int), (cy_15, .int), (cy_16, .int), (cy_17, .int), (cy_18, .int), (cy_19, .int), (cy_39, .byte), (cy_40, .int), (cy_41, .int), (cy_42, .int), (cy_43, .int), (cy_44, .int), (cy_45, .byte)]) [0, 1, 2, 3, 4, 5, 6, 7, 8, 9, 10, 11, 12, 13, 14] rfl).app hK1
  generalize H1 = H at hP hS ⊢
  have hK : va_K (dC, dI) vwCl [(cy_5, .byte), (cy_13, .int), (cy_14, .int), (cy_15, .int), (cy_16, .int), (cy_17, .int), (cy_18, .int), (cy_19, .int), (cy_39, .byte), (cy_40, .int), (cy_41, .int), (cy_42, .int), (cy_43, .int), (cy_44, .int), (cy_45, .byte)] s := hK
  have hP : va_P (dC, dI) vwCl [(q_2, .inl (cy_5, 6000, .inl (fun _ => 0))), (q_3, .inr (9, [.ref q_6, .ref q_7, .ref q_8, .int 0, .null, .int 0, .int 0, .int 0, .ref q_9, .ref q_10, .ref q_11, .ref q_12, .int 0])), (q_6, .inl (cy_13, 6001, .inl (fun _ => 0))), (q_7, .inl (cy_14, 6001, .inl (fun _ => 0))), (q_8, .inl (cy_15, 6001, .inl (fun _ => 0))), (q_9, .inl (cy_16, 256, .inl (fun _ => 0))), (q_10, .inl (cy_17, 3001, .inl (fun _ => 0))), (q_11, .inl (cy_18, 3001, .inl (fun _ => 0))), (q_12, .inl (cy_19, 3001, .inl (fun _ => 0))), (q_38, .inr (14, [.null, .null, .null, .null, .null, .int 0])), (q_31, .inl (cy_39, 6000, .inl (fun _ => 0))), (q_35, .inl (cy_40, 6002, .inl (fun _ => 0))), (q_36, .inl (cy_41, 6002, .inl (fun _ => 0))), (q_37, .inl (cy_42, 6002, .inl (fun _ => 0))), (q_33, .inl (cy_43, 6000, .inl (fun _ => 0))), (q_34, .inl (cy_44, 6000, .inl (fun _ => 0))), (q_32, .inl (cy_45, 6600, .inl (fun _ => 0))), (q_29, .inr (15, fl 134 F_1003))] H := hP
  have hD : va_D A [(q_2, .inl (cy_5, 6000, .inl (fun _ => 0))), (q_3, .inr (9, [.ref q_6, .ref q_7, .ref q_8, .int 0, .null, .int 0, .int 0, .int 0, .ref q_9, .ref q_10, .ref q_11, .ref q_12, .int 0])), (q_6, .inl (cy_13, 6001, .inl (fun _ => 0))), (q_7, .inl (cy_14, 6001, .inl (fun _ => 0))), (q_8, .inl (cy_15, 6001, .inl (fun _ => 0))), (q_9, .inl (cy_16, 256, .inl (fun _ => 0))), (q_10, .inl (cy_17, 3001, .inl (fun _ => 0))), (q_11, .inl (cy_18, 3001, .inl (fun _ => 0))), (q_12, .inl (cy_19, 3001, .inl (fun _ => 0))), (q_38, .inr (14, [.null, .null, .null, .null, .null, .int 0])), (q_31, .inl (cy_39, 6000, .inl (fun _ => 0))), (q_35, .inl (cy_40, 6002, .inl (fun _ => 0))), (q_36, .inl (cy_41, 6002, .inl (fun _ => 0))), (q_37, .inl (cy_42, 6002, .inl (fun _ => 0))), (q_33, .inl (cy_43, 6000, .inl (fun _ => 0))), (q_34, .inl (cy_44, 6000, .inl (fun _ => 0))), (q_32, .inl (cy_45, 6600, .inl (fun _ => 0))), (q_29, .inr (15, fl 134 F_1003))] := hD
  refine W.widen (k := 101) (n := 719920) (Nat.le_of_ble_eq_true rfl) (Nat.le_of_ble_eq_true rfl) ?_
  obtain rfl : r9 = 2 := hw
  refine lv_iload hx hb dL_law_477 (lv_at hl 1 rfl) ?_
  refine lv_icmp_eq (tgt := 484) hx hb dL_law_479 (by decide) (fun c9 => ?_) (fun c9 => absurd (by decide) c9)
  clear c9
  refine lv_iload hx hb dL_law_484 (lv_at hl 1 rfl) ?_
  refine lv_if_ne (tgt := 501) hx hb dL_law_486 (by decide) (fun c9 => ?_) (fun c9 => absurd c9 (by decide))
  clear c9
  refine lv_goto (tgt := 665) hx hb dL_law_501 (by decide) ?_
  refine lv_iinc (v := 6) (lv' := [(4, .int 6), (6, .int 0), (5, .int 2), (3, .ref q_58), (2, .ref q_29), (1, .ref q_1), (0, .ref b)]) hx hb dL_law_665 hl (k := 2) rfl (by decide) (by decide) rfl (fun ls hl => ?_)
  refine lv_goto (tgt := 23) hx hb dL_law_668 (by decide) ?_
  refine lv_iload hx hb dL_law_23 (lv_at hl 0 rfl) ?_
  refine lv_aload_n hx hb dL_law_25 rfl (lv_at hl 6 rfl) ?_
  refine va_slen hx hb hX hbl hbA hS dL_law_26 ?_
  refine lv_topi (fun y9 e9 => ?_)
  have e9 : y9 = 6 := e9
  subst e9
  refine lv_bipush (v := 6) hx hb dL_law_27 (by decide) ?_
  refine lv_isub hx hb dL_law_29 ?_
  refine lv_topi (fun y9 e9 => ?_)
  have e9 : y9 = 0 := by rw [e9]; decide
  subst e9
  refine lv_icmp_gt (tgt := 671) hx hb dL_law_30 (by decide) (fun c9 => ?_) (fun c9 => absurd (by decide) c9)
  clear c9
  refine lv_iconst (v := 1) hx hb dL_law_671 (by decide) ?_
  refine va_forget (fun q hq => hAA q.base (hS.2.2 q hq)) ?_
  refine W.widen (k := 600002) (n := 7302232) (Nat.le_of_ble_eq_true rfl) (Nat.le_of_ble_eq_true rfl) ?_
  exact lw_ret hx hb hr hlocks dL_law_672
