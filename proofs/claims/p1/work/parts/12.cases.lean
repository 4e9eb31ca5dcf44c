set_option maxHeartbeats 4000000 in
set_option maxRecDepth 100000 in
theorem law_case_0 {p : Program} {e : Env} {s : State} {m : MethodId} {below : List Frame} {meth : Method} {c : Code} (l : Launch) (hfl : l.flags = flags0) {b : Nat} {xs : Nat → Int32} (C0 : lw_At p s m meth c b 6 xs) (dC : Nat → ClassId) (dI : Nat → Nat → Nat) (A : Nat → Prop) (hA : ∀ q : Nat, s.heap.size ≤ q → A q) (hAa : ∀ q : Nat, q < s.heap.size → ¬ A q) (hAA : ∀ q : Nat, A q → s.heap.size ≤ q) (q_1 : Nat) (q_2 : Nat) (q_3 : Nat) (q_4 : Nat) (cy_5 : ClassId) (q_6 : Nat) (q_7 : Nat) (q_8 : Nat) (q_9 : Nat) (q_10 : Nat) (q_11 : Nat) (q_12 : Nat) (cy_13 : ClassId) (cy_14 : ClassId) (cy_15 : ClassId) (cy_16 : ClassId) (cy_17 : ClassId) (cy_18 : ClassId) (cy_19 : ClassId) (q_20 : Nat) (q_21 : Nat) (q_22 : Nat) (q_23 : Nat) (q_24 : Nat) (q_25 : Nat) (q_26 : Nat) (q_27 : Nat) (q_28 : Nat) (q_29 : Nat) (F_30 : Nat → Value) (q_31 : Nat) (q_32 : Nat) (q_33 : Nat) (q_34 : Nat) (q_35 : Nat) (q_36 : Nat) (q_37 : Nat) (q_38 : Nat) (cy_39 : ClassId) (cy_40 : ClassId) (cy_41 : ClassId) (cy_42 : ClassId) (cy_43 : ClassId) (cy_44 : ClassId) (cy_45 : ClassId) (q_58 : Nat) (hq0 : F_30 0 = .int 0) (hq1 : F_30 1 = .ref q_38) (hq2 : F_30 2 = .ref q_31) (hq3 : F_30 3 = .int 0) (hq9 : F_30 9 = .ref q_35) (hq10 : F_30 10 = .ref q_36) (hq11 : F_30 11 = .ref q_37) (hq13 : F_30 13 = .ref q_33) (hq14 : F_30 14 = .ref q_34) (hq15 : F_30 15 = .ref q_32) (hq98 : F_30 98 = .int 0) (hq100 : F_30 100 = .int 0) (H : Heap) (locs : List Loc) (ls : Array Slot) (hK : va_K (dC, dI) vwCl [(cy_5, .byte), (cy_13, .int), (cy_14, .int), (cy_15, .int), (cy_16, .int), (cy_17, .int), (cy_18, .int), (cy_19, .int), (cy_39, .byte), (cy_40, .int), (cy_41, .int), (cy_42, .int), (cy_43, .int), (cy_44, .int), (cy_45, .byte)] s) (hP : va_P (dC, dI) vwCl [(q_1, .inr (13, [.ref q_2, .int 0, .ref q_3, .ref q_4, .null])), (q_2, .inl (cy_5, 6000, .inl (fun _ => 0))), (q_3, .inr (9, [.ref q_6, .ref q_7, .ref q_8, .int 0, .null, .int 0, .int 0, .int 0, .ref q_9, .ref q_10, .ref q_11, .ref q_12, .int 0])), (q_6, .inl (cy_13, 6001, .inl (fun _ => 0))), (q_7, .inl (cy_14, 6001, .inl (fun _ => 0))), (q_8, .inl (cy_15, 6001, .inl (fun _ => 0))), (q_9, .inl (cy_16, 256, .inl (fun _ => 0))), (q_10, .inl (cy_17, 3001, .inl (fun _ => 0))), (q_11, .inl (cy_18, 3001, .inl (fun _ => 0))), (q_12, .inl (cy_19, 3001, .inl (fun _ => 0))), (q_4, .inr (4, [.null, .ref q_20, .ref q_21, .ref q_22, .ref q_23, .ref q_24, .int 0, .ref q_25, .int 0, .int 0, .int 0, .ref q_26, .int 0, .ref q_27, .int 0, .ref q_28, .null, .int 0, .int 0])), (q_29, .inr (15, fl 134 F_30)), (q_38, .inr (14, [.null, .null, .null, .null, .null, .int 0])), (q_31, .inl (cy_39, 6000, .inl (fun _ => 0))), (q_35, .inl (cy_40, 6002, .inl (fun _ => 0))), (q_36, .inl (cy_41, 6002, .inl (fun _ => 0))), (q_37, .inl (cy_42, 6002, .inl (fun _ => 0))), (q_33, .inl (cy_43, 6000, .inl (fun _ => 0))), (q_34, .inl (cy_44, 6000, .inl (fun _ => 0))), (q_32, .inl (cy_45, 6600, .inl (fun _ => 0)))] H) (hD : va_D A [(q_1, .inr (13, [.ref q_2, .int 0, .ref q_3, .ref q_4, .null])), (q_2, .inl (cy_5, 6000, .inl (fun _ => 0))), (q_3, .inr (9, [.ref q_6, .ref q_7, .ref q_8, .int 0, .null, .int 0, .int 0, .int 0, .ref q_9, .ref q_10, .ref q_11, .ref q_12, .int 0])), (q_6, .inl (cy_13, 6001, .inl (fun _ => 0))), (q_7, .inl (cy_14, 6001, .inl (fun _ => 0))), (q_8, .inl (cy_15, 6001, .inl (fun _ => 0))), (q_9, .inl (cy_16, 256, .inl (fun _ => 0))), (q_10, .inl (cy_17, 3001, .inl (fun _ => 0))), (q_11, .inl (cy_18, 3001, .inl (fun _ => 0))), (q_12, .inl (cy_19, 3001, .inl (fun _ => 0))), (q_4, .inr (4, [.null, .ref q_20, .ref q_21, .ref q_22, .ref q_23, .ref q_24, .int 0, .ref q_25, .int 0, .int 0, .int 0, .ref q_26, .int 0, .ref q_27, .int 0, .ref q_28, .null, .int 0, .int 0])), (q_29, .inr (15, fl 134 F_30)), (q_38, .inr (14, [.null, .null, .null, .null, .null, .int 0])), (q_31, .inl (cy_39, 6000, .inl (fun _ => 0))), (q_35, .inl (cy_40, 6002, .inl (fun _ => 0))), (q_36, .inl (cy_41, 6002, .inl (fun _ => 0))), (q_37, .inl (cy_42, 6002, .inl (fun _ => 0))), (q_33, .inl (cy_43, 6000, .inl (fun _ => 0))), (q_34, .inl (cy_44, 6000, .inl (fun _ => 0))), (q_32, .inl (cy_45, 6600, .inl (fun _ => 0)))]) (hS : va_S A s.heap H locs) (hl : lv_has ls 7 [(4, .int 0), (3, .ref q_58), (2, .ref q_29), (1, .ref q_1), (0, .ref b)]) : W p l e room_1 s m #[Value.ref b] below meth c H locs 100 719914 (lw_Z below #[Value.ref b] s) (F0 m 116 ls []) := by
  obtain ⟨hx, hb, hr, hml, hown, htsT, hX, hbl, hlocks, hgv⟩ := id C0
  have hown : s.vm.findClass RL = some m.cls := hown
  have hts : ∀ w ∈ ws_law, w.before #[Value.ref b] s = true := fun w h => htsT w (in_law w h)
  have hg := flat_of_before _ hgv
  have hbA : ¬ A b := hAa b hbl
  have hflags : l.stackTraces = false := by unfold Launch.stackTraces; rw [hfl]; decide
  refine lv_aload_n hx hb dL_law_116 rfl (lv_at hl 3 rfl) ?_
  refine lv_aload_n hx hb dL_law_117 rfl (lv_at hl 4 rfl) ?_
  refine lv_iload hx hb dL_law_118 (lv_at hl 0 rfl) ?_
  refine lv_iconst (v := 1) hx hb dL_law_120 (by decide) ?_
  refine lv_iadd hx hb dL_law_121 ?_
  refine lv_topi (fun y9 e9 => ?_)
  have e9 : y9 = 1 := by rw [e9]; decide
  subst e9
  refine va_sld hx hb hX hbl hbA hS (i := 1) (by unfold vp_in; decide) dL_law_122 ?_
  refine lv_topi (fun x_1001 ex_1001 => ?_)
  have ex_1001 : x_1001 = xs 1 := ex_1001
  subst ex_1001
  refine lv_aload_n hx hb dL_law_123 rfl (lv_at hl 4 rfl) ?_
  refine lv_iload hx hb dL_law_124 (lv_at hl 0 rfl) ?_
  refine lv_iconst (v := 2) hx hb dL_law_126 (by decide) ?_
  refine lv_iadd hx hb dL_law_127 ?_
  refine lv_topi (fun y9 e9 => ?_)
  have e9 : y9 = 2 := by rw [e9]; decide
  subst e9
  refine va_sld hx hb hX hbl hbA hS (i := 2) (by unfold vp_in; decide) dL_law_128 ?_
  refine lv_topi (fun x_1002 ex_1002 => ?_)
  have ex_1002 : x_1002 = xs 2 := ex_1002
  subst ex_1002
  refine lv_aload_n hx hb dL_law_129 rfl (lv_at hl 4 rfl) ?_
  refine lv_iload hx hb dL_law_130 (lv_at hl 0 rfl) ?_
  refine lv_iconst (v := 3) hx hb dL_law_132 (by decide) ?_
  refine lv_iadd hx hb dL_law_133 ?_
  refine lv_topi (fun y9 e9 => ?_)
  have e9 : y9 = 3 := by rw [e9]; decide
  subst e9
  refine va_sld hx hb hX hbl hbA hS (i := 3) (by unfold vp_in; decide) dL_law_134 ?_
  refine lv_topi (fun x_1003 ex_1003 => ?_)
  have ex_1003 : x_1003 = xs 3 := ex_1003
  subst ex_1003
  refine lv_aload_n hx hb dL_law_135 rfl (lv_at hl 4 rfl) ?_
  refine lv_iload hx hb dL_law_136 (lv_at hl 0 rfl) ?_
  refine lv_iconst (v := 4) hx hb dL_law_138 (by decide) ?_
  refine lv_iadd hx hb dL_law_139 ?_
  refine lv_topi (fun y9 e9 => ?_)
  have e9 : y9 = 4 := by rw [e9]; decide
  subst e9
  refine va_sld hx hb hX hbl hbA hS (i := 4) (by unfold vp_in; decide) dL_law_140 ?_
  refine lv_topi (fun x_1004 ex_1004 => ?_)
  have ex_1004 : x_1004 = xs 4 := ex_1004
  subst ex_1004
  refine lv_aload_n hx hb dL_law_141 rfl (lv_at hl 4 rfl) ?_
  refine lv_iload hx hb dL_law_142 (lv_at hl 0 rfl) ?_
  refine lv_iconst (v := 5) hx hb dL_law_144 (by decide) ?_
  refine lv_iadd hx hb dL_law_145 ?_
  refine lv_topi (fun y9 e9 => ?_)
  have e9 : y9 = 5 := by rw [e9]; decide
  subst e9
  refine va_sld hx hb hX hbl hbA hS (i := 5) (by unfold vp_in; decide) dL_law_146 ?_
  refine lv_topi (fun x_1005 ex_1005 => ?_)
  have ex_1005 : x_1005 = xs 5 := ex_1005
  subst ex_1005
  have hPc := hP.sub (ws' := [(q_1, .inr (13, [.ref q_2, .int 0, .ref q_3, .ref q_4, .null])), (q_2, .inl (cy_5, 6000, .inl (fun _ => 0)))]) [0, 1] rfl
  have hDc := hD.sub (ws' := [(q_1, .inr (13, [.ref q_2, .int 0, .ref q_3, .ref q_4, .null])), (q_2, .inl (cy_5, 6000, .inl (fun _ => 0)))]) [0, 1] (by decide) rfl
  have hKc := hK.sub (tys' := [(cy_5, .byte)]) [0] rfl
  have hFc := va_free (wc := [(q_1, .inr (13, [.ref q_2, .int 0, .ref q_3, .ref q_4, .null])), (q_2, .inl (cy_5, 6000, .inl (fun _ => 0)))]) hD hS hA [0, 1] rfl
  refine va_calli (va_runV (As := [.int (xs 1), .int (xs 2), .int (xs 3), .int (xs 4), .int (xs 5)]) (rest := []) ⟨hx, hb, hml, hown, hts⟩ (cc_feed l dC dI q_1 q_2 q_3 q_4 cy_5 (fun _ => 0) (xs 1) (xs 2) (xs 3) (xs 4) (xs 5) H.size) (cwV 5 hts gl_cc_feed_25 rfl rfl rfl (by decide +kernel) ⟨(Nat.le_of_ble_eq_true rfl), (Nat.le_of_ble_eq_true rfl)⟩) ⟨fun a U g mk q => by obtain ⟨q0, q1, qP, qK, qD⟩ := q; exact ⟨q0, q1, qP, va_K.moved (u := U) (U := U.calling g mk a) (Vm.Alike.refl U.vm) qK, qD⟩, va_recv hKc hPc (ci := 13) (q0 := 0) rfl rfl, fun U hU hW => ⟨rfl, by rw [hU], by rw [hU]; exact hPc, va_K.moved hW.alike hKc, hDc.weaken (fun _ _ _ _ => trivial)⟩⟩ rfl rfl hl.1 rfl (lv_room (Nat.le_of_ble_eq_true rfl)) dL_law_147 ⟨(Nat.le_of_ble_eq_true rfl), (Nat.le_of_ble_eq_true rfl)⟩) hS (fun q _ h => hFc q h) hFc (fun r9 u t H1 locs ht hvm hw hB hz1 hk1 hS => ?_)
  obtain ⟨hP1, hK1, hD1⟩ := hB
  rw [ht] at hP1
  have hK1 := va_K.moved hvm.symm hK1
  obtain ⟨hP, hD⟩ := va_join (wr := [(q_3, .inr (9, [.ref q_6, .ref q_7, .ref q_8, .int 0, .null, .int 0, .int 0, .int 0, .ref q_9, .ref q_10, .ref q_11, .ref q_12, .int 0])), (q_6, .inl (cy_13, 6001, .inl (fun _ => 0))), (q_7, .inl (cy_14, 6001, .inl (fun _ => 0))), (q_8, .inl (cy_15, 6001, .inl (fun _ => 0))), (q_9, .inl (cy_16, 256, .inl (fun _ => 0))), (q_10, .inl (cy_17, 3001, .inl (fun _ => 0))), (q_11, .inl (cy_18, 3001, .inl (fun _ => 0))), (q_12, .inl (cy_19, 3001, .inl (fun _ => 0))), (q_4, .inr (4, [.null, .ref q_20, .ref q_21, .ref q_22, .ref q_23, .ref q_24, .int 0, .ref q_25, .int 0, .int 0, .int 0, .ref q_26, .int 0, .ref q_27, .int 0, .ref q_28, .null, .int 0, .int 0])), (q_29, .inr (15, fl 134 F_30)), (q_38, .inr (14, [.null, .null, .null, .null, .null, .int 0])), (q_31, .inl (cy_39, 6000, .inl (fun _ => 0))), (q_35, .inl (cy_40, 6002, .inl (fun _ => 0))), (q_36, .inl (cy_41, 6002, .inl (fun _ => 0))), (q_37, .inl (cy_42, 6002, .inl (fun _ => 0))), (q_33, .inl (cy_43, 6000, .inl (fun _ => 0))), (q_34, .inl (cy_44, 6000, .inl (fun _ => 0))), (q_32, .inl (cy_45, 6600, .inl (fun _ => 0)))]) (w1 := []) hP hD [0, 1] [2, 3, 4, 5, 6, 7, 8, 9, 10, 11, 12, 13, 14, 15, 16, 17, 18, 19] rfl rfl (by decide) (by decide) hk1 hFc hP1 hD1
  have hK := (hK.sub (tys' := [(cy_13, .int), (cy_14, .int), (cy_15, .int), (cy_16, .int), (cy_17, .int), (cy_18, .int), (cy_19, .int), (cy_39, .byte), (cy_40, .int), (cy_41, .int), (cy_42, .int), (cy_43, .int), (cy_44, .int), (cy_45, .byte)]) [1, 2, 3, 4, 5, 6, 7, 8, 9, 10, 11, 12, 13, 14] rfl).app hK1
  generalize H1 = H at hP hS ⊢
  have hK : va_K (dC, dI) vwCl [(cy_13, .int), (cy_14, .int), (cy_15, .int), (cy_16, .int), (cy_17, .int), (cy_18, .int), (cy_19, .int), (cy_39, .byte), (cy_40, .int), (cy_41, .int), (cy_42, .int), (cy_43, .int), (cy_44, .int), (cy_45, .byte)] s := hK
  have hP : va_P (dC, dI) vwCl [(q_3, .inr (9, [.ref q_6, .ref q_7, .ref q_8, .int 0, .null, .int 0, .int 0, .int 0, .ref q_9, .ref q_10, .ref q_11, .ref q_12, .int 0])), (q_6, .inl (cy_13, 6001, .inl (fun _ => 0))), (q_7, .inl (cy_14, 6001, .inl (fun _ => 0))), (q_8, .inl (cy_15, 6001, .inl (fun _ => 0))), (q_9, .inl (cy_16, 256, .inl (fun _ => 0))), (q_10, .inl (cy_17, 3001, .inl (fun _ => 0))), (q_11, .inl (cy_18, 3001, .inl (fun _ => 0))), (q_12, .inl (cy_19, 3001, .inl (fun _ => 0))), (q_4, .inr (4, [.null, .ref q_20, .ref q_21, .ref q_22, .ref q_23, .ref q_24, .int 0, .ref q_25, .int 0, .int 0, .int 0, .ref q_26, .int 0, .ref q_27, .int 0, .ref q_28, .null, .int 0, .int 0])), (q_29, .inr (15, fl 134 F_30)), (q_38, .inr (14, [.null, .null, .null, .null, .null, .int 0])), (q_31, .inl (cy_39, 6000, .inl (fun _ => 0))), (q_35, .inl (cy_40, 6002, .inl (fun _ => 0))), (q_36, .inl (cy_41, 6002, .inl (fun _ => 0))), (q_37, .inl (cy_42, 6002, .inl (fun _ => 0))), (q_33, .inl (cy_43, 6000, .inl (fun _ => 0))), (q_34, .inl (cy_44, 6000, .inl (fun _ => 0))), (q_32, .inl (cy_45, 6600, .inl (fun _ => 0)))] H := hP
  have hD : va_D A [(q_3, .inr (9, [.ref q_6, .ref q_7, .ref q_8, .int 0, .null, .int 0, .int 0, .int 0, .ref q_9, .ref q_10, .ref q_11, .ref q_12, .int 0])), (q_6, .inl (cy_13, 6001, .inl (fun _ => 0))), (q_7, .inl (cy_14, 6001, .inl (fun _ => 0))), (q_8, .inl (cy_15, 6001, .inl (fun _ => 0))), (q_9, .inl (cy_16, 256, .inl (fun _ => 0))), (q_10, .inl (cy_17, 3001, .inl (fun _ => 0))), (q_11, .inl (cy_18, 3001, .inl (fun _ => 0))), (q_12, .inl (cy_19, 3001, .inl (fun _ => 0))), (q_4, .inr (4, [.null, .ref q_20, .ref q_21, .ref q_22, .ref q_23, .ref q_24, .int 0, .ref q_25, .int 0, .int 0, .int 0, .ref q_26, .int 0, .ref q_27, .int 0, .ref q_28, .null, .int 0, .int 0])), (q_29, .inr (15, fl 134 F_30)), (q_38, .inr (14, [.null, .null, .null, .null, .null, .int 0])), (q_31, .inl (cy_39, 6000, .inl (fun _ => 0))), (q_35, .inl (cy_40, 6002, .inl (fun _ => 0))), (q_36, .inl (cy_41, 6002, .inl (fun _ => 0))), (q_37, .inl (cy_42, 6002, .inl (fun _ => 0))), (q_33, .inl (cy_43, 6000, .inl (fun _ => 0))), (q_34, .inl (cy_44, 6000, .inl (fun _ => 0))), (q_32, .inl (cy_45, 6600, .inl (fun _ => 0)))] := hD
  refine W.widen (k := 100) (n := 719914) (Nat.le_of_ble_eq_true rfl) (Nat.le_of_ble_eq_true rfl) ?_
  obtain rfl : r9 = 20 := hw
  refine lv_aload_n hx hb dL_law_150 rfl (lv_at hl 2 rfl) ?_
  refine lv_aload_n hx hb dL_law_151 rfl (lv_at hl 4 rfl) ?_
  refine lv_iload hx hb dL_law_152 (lv_at hl 0 rfl) ?_
  refine lv_iconst (v := 1) hx hb dL_law_154 (by decide) ?_
  refine lv_iadd hx hb dL_law_155 ?_
  refine lv_topi (fun y9 e9 => ?_)
  have e9 : y9 = 1 := by rw [e9]; decide
  subst e9
  refine va_sld hx hb hX hbl hbA hS (i := 1) (by unfold vp_in; decide) dL_law_156 ?_
  refine lv_topi (fun x_1006 ex_1006 => ?_)
  have ex_1006 : x_1006 = xs 1 := ex_1006
  subst ex_1006
  refine lv_aload_n hx hb dL_law_157 rfl (lv_at hl 4 rfl) ?_
  refine lv_iload hx hb dL_law_158 (lv_at hl 0 rfl) ?_
  refine lv_iconst (v := 2) hx hb dL_law_160 (by decide) ?_
  refine lv_iadd hx hb dL_law_161 ?_
  refine lv_topi (fun y9 e9 => ?_)
  have e9 : y9 = 2 := by rw [e9]; decide
  subst e9
  refine va_sld hx hb hX hbl hbA hS (i := 2) (by unfold vp_in; decide) dL_law_162 ?_
  refine lv_topi (fun x_1007 ex_1007 => ?_)
  have ex_1007 : x_1007 = xs 2 := ex_1007
  subst ex_1007
  refine lv_aload_n hx hb dL_law_163 rfl (lv_at hl 4 rfl) ?_
  refine lv_iload hx hb dL_law_164 (lv_at hl 0 rfl) ?_
  refine lv_iconst (v := 3) hx hb dL_law_166 (by decide) ?_
  refine lv_iadd hx hb dL_law_167 ?_
  refine lv_topi (fun y9 e9 => ?_)
  have e9 : y9 = 3 := by rw [e9]; decide
  subst e9
  refine va_sld hx hb hX hbl hbA hS (i := 3) (by unfold vp_in; decide) dL_law_168 ?_
  refine lv_topi (fun x_1008 ex_1008 => ?_)
  have ex_1008 : x_1008 = xs 3 := ex_1008
  subst ex_1008
  refine lv_aload_n hx hb dL_law_169 rfl (lv_at hl 4 rfl) ?_
  refine lv_iload hx hb dL_law_170 (lv_at hl 0 rfl) ?_
  refine lv_iconst (v := 4) hx hb dL_law_172 (by decide) ?_
  refine lv_iadd hx hb dL_law_173 ?_
  refine lv_topi (fun y9 e9 => ?_)
  have e9 : y9 = 4 := by rw [e9]; decide
  subst e9
  refine va_sld hx hb hX hbl hbA hS (i := 4) (by unfold vp_in; decide) dL_law_174 ?_
  refine lv_topi (fun x_1009 ex_1009 => ?_)
  have ex_1009 : x_1009 = xs 4 := ex_1009
  subst ex_1009
  refine lv_aload_n hx hb dL_law_175 rfl (lv_at hl 4 rfl) ?_
  refine lv_iload hx hb dL_law_176 (lv_at hl 0 rfl) ?_
  refine lv_iconst (v := 5) hx hb dL_law_178 (by decide) ?_
  refine lv_iadd hx hb dL_law_179 ?_
  refine lv_topi (fun y9 e9 => ?_)
  have e9 : y9 = 5 := by rw [e9]; decide
  subst e9
  refine va_sld hx hb hX hbl hbA hS (i := 5) (by unfold vp_in; decide) dL_law_180 ?_
  refine lv_topi (fun x_1010 ex_1010 => ?_)
  have ex_1010 : x_1010 = xs 5 := ex_1010
  subst ex_1010
  have hPc := hP.sub (ws' := [(q_29, .inr (15, fl 134 F_30)), (q_31, .inl (cy_39, 6000, .inl (fun _ => 0)))]) [9, 11] rfl
  have hDc := hD.sub (ws' := [(q_29, .inr (15, fl 134 F_30)), (q_31, .inl (cy_39, 6000, .inl (fun _ => 0)))]) [9, 11] (by decide) rfl
  have hKc := hK.sub (tys' := [(cy_39, .byte)]) [7] rfl
  have hFc := va_free (wc := [(q_29, .inr (15, fl 134 F_30)), (q_31, .inl (cy_39, 6000, .inl (fun _ => 0)))]) hD hS hA [9, 11] rfl
  refine va_calli (va_runV (As := [.int (xs 1), .int (xs 2), .int (xs 3), .int (xs 4), .int (xs 5)]) (rest := [.int 20]) ⟨hx, hb, hml, hown, hts⟩ (cm_feed l dC dI q_29 F_30 q_31 cy_39 (fun _ => 0) (xs 1) (xs 2) (xs 3) (xs 4) (xs 5) H.size hq2 hq3) (cwV 5 hts gl_cm_feed_29 rfl rfl rfl (by decide +kernel) ⟨(Nat.le_of_ble_eq_true rfl), (Nat.le_of_ble_eq_true rfl)⟩) ⟨fun a U g mk q => by obtain ⟨q0, q1, qP, qK, qD⟩ := q; exact ⟨q0, q1, qP, va_K.moved (u := U) (U := U.calling g mk a) (Vm.Alike.refl U.vm) qK, qD⟩, va_recv hKc hPc (ci := 15) (q0 := 0) rfl rfl, fun U hU hW => ⟨rfl, by rw [hU], by rw [hU]; exact hPc, va_K.moved hW.alike hKc, hDc.weaken (fun _ _ _ _ => trivial)⟩⟩ rfl rfl hl.1 rfl (lv_room (Nat.le_of_ble_eq_true rfl)) dL_law_181 ⟨(Nat.le_of_ble_eq_true rfl), (Nat.le_of_ble_eq_true rfl)⟩) hS (fun q _ h => hFc q h) hFc (fun r9 u t H1 locs ht hvm hw hB hz1 hk1 hS => ?_)
  obtain ⟨hP1, hK1, hD1⟩ := hB
  rw [ht] at hP1
  have hK1 := va_K.moved hvm.symm hK1
  obtain ⟨hP, hD⟩ := va_join (wr := [(q_3, .inr (9, [.ref q_6, .ref q_7, .ref q_8, .int 0, .null, .int 0, .int 0, .int 0, .ref q_9, .ref q_10, .ref q_11, .ref q_12, .int 0])), (q_6, .inl (cy_13, 6001, .inl (fun _ => 0))), (q_7, .inl (cy_14, 6001, .inl (fun _ => 0))), (q_8, .inl (cy_15, 6001, .inl (fun _ => 0))), (q_9, .inl (cy_16, 256, .inl (fun _ => 0))), (q_10, .inl (cy_17, 3001, .inl (fun _ => 0))), (q_11, .inl (cy_18, 3001, .inl (fun _ => 0))), (q_12, .inl (cy_19, 3001, .inl (fun _ => 0))), (q_4, .inr (4, [.null, .ref q_20, .ref q_21, .ref q_22, .ref q_23, .ref q_24, .int 0, .ref q_25, .int 0, .int 0, .int 0, .ref q_26, .int 0, .ref q_27, .int 0, .ref q_28, .null, .int 0, .int 0])), (q_38, .inr (14, [.null, .null, .null, .null, .null, .int 0])), (q_35, .inl (cy_40, 6002, .inl (fun _ => 0))), (q_36, .inl (cy_41, 6002, .inl (fun _ => 0))), (q_37, .inl (cy_42, 6002, .inl (fun _ => 0))), (q_33, .inl (cy_43, 6000, .inl (fun _ => 0))), (q_34, .inl (cy_44, 6000, .inl (fun _ => 0))), (q_32, .inl (cy_45, 6600, .inl (fun _ => 0)))]) (w1 := []) hP hD [9, 11] [0, 1, 2, 3, 4, 5, 6, 7, 8, 10, 12, 13, 14, 15, 16, 17] rfl rfl (by decide) (by decide) hk1 hFc hP1 hD1
  have hK := (hK.sub (tys' := [(cy_13, .int), (cy_14, .int), (cy_15, .int), (cy_16, .int), (cy_17, .int), (cy_18, .int), (cy_19, .int), (cy_40, .int), (cy_41, .int), (cy_42, .int), (cy_43, .int), (cy_44, .int), (cy_45, .byte)]) [0, 1, 2, 3, 4, 5, 6, 8, 9, 10, 11, 12, 13] rfl).app hK1
  generalize H1 = H at hP hS ⊢
  have hK : va_K (dC, dI) vwCl [(cy_13, .int), (cy_14, .int), (cy_15, .int), (cy_16, .int), (cy_17, .int), (cy_18, .int), (cy_19, .int), (cy_40, .int), (cy_41, .int), (cy_42, .int), (cy_43, .int), (cy_44, .int), (cy_45, .byte)] s := hK
  have hP : va_P (dC, dI) vwCl [(q_3, .inr (9, [.ref q_6, .ref q_7, .ref q_8, .int 0, .null, .int 0, .int 0, .int 0, .ref q_9, .ref q_10, .ref q_11, .ref q_12, .int 0])), (q_6, .inl (cy_13, 6001, .inl (fun _ => 0))), (q_7, .inl (cy_14, 6001, .inl (fun _ => 0))), (q_8, .inl (cy_15, 6001, .inl (fun _ => 0))), (q_9, .inl (cy_16, 256, .inl (fun _ => 0))), (q_10, .inl (cy_17, 3001, .inl (fun _ => 0))), (q_11, .inl (cy_18, 3001, .inl (fun _ => 0))), (q_12, .inl (cy_19, 3001, .inl (fun _ => 0))), (q_4, .inr (4, [.null, .ref q_20, .ref q_21, .ref q_22, .ref q_23, .ref q_24, .int 0, .ref q_25, .int 0, .int 0, .int 0, .ref q_26, .int 0, .ref q_27, .int 0, .ref q_28, .null, .int 0, .int 0])), (q_38, .inr (14, [.null, .null, .null, .null, .null, .int 0])), (q_35, .inl (cy_40, 6002, .inl (fun _ => 0))), (q_36, .inl (cy_41, 6002, .inl (fun _ => 0))), (q_37, .inl (cy_42, 6002, .inl (fun _ => 0))), (q_33, .inl (cy_43, 6000, .inl (fun _ => 0))), (q_34, .inl (cy_44, 6000, .inl (fun _ => 0))), (q_32, .inl (cy_45, 6600, .inl (fun _ => 0)))] H := hP
  have hD : va_D A [(q_3, .inr (9, [.ref q_6, .ref q_7, .ref q_8, .int 0, .null, .int 0, .int 0, .int 0, .ref q_9, .ref q_10, .ref q_11, .ref q_12, .int 0])), (q_6, .inl (cy_13, 6001, .inl (fun _ => 0))), (q_7, .inl (cy_14, 6001, .inl (fun _ => 0))), (q_8, .inl (cy_15, 6001, .inl (fun _ => 0))), (q_9, .inl (cy_16, 256, .inl (fun _ => 0))), (q_10, .inl (cy_17, 3001, .inl (fun _ => 0))), (q_11, .inl (cy_18, 3001, .inl (fun _ => 0))), (q_12, .inl (cy_19, 3001, .inl (fun _ => 0))), (q_4, .inr (4, [.null, .ref q_20, .ref q_21, .ref q_22, .ref q_23, .ref q_24, .int 0, .ref q_25, .int 0, .int 0, .int 0, .ref q_26, .int 0, .ref q_27, .int 0, .ref q_28, .null, .int 0, .int 0])), (q_38, .inr (14, [.null, .null, .null, .null, .null, .int 0])), (q_35, .inl (cy_40, 6002, .inl (fun _ => 0))), (q_36, .inl (cy_41, 6002, .inl (fun _ => 0))), (q_37, .inl (cy_42, 6002, .inl (fun _ => 0))), (q_33, .inl (cy_43, 6000, .inl (fun _ => 0))), (q_34, .inl (cy_44, 6000, .inl (fun _ => 0))), (q_32, .inl (cy_45, 6600, .inl (fun _ => 0)))] := hD
  refine W.widen (k := 100) (n := 719914) (Nat.le_of_ble_eq_true rfl) (Nat.le_of_ble_eq_true rfl) ?_
  obtain rfl : r9 = 20 := hw
  refine lv_icmp_eq (tgt := 665) hx hb dL_law_184 (by decide) (fun c9 => ?_) (fun c9 => absurd (by decide) c9)
  clear c9
  refine lv_iinc (v := 6) (lv' := [(4, .int 6), (3, .ref q_58), (2, .ref q_29), (1, .ref q_1), (0, .ref b)]) hx hb dL_law_665 hl (k := 0) rfl (by decide) (by decide) rfl (fun ls hl => ?_)
  refine lv_goto (tgt := 23) hx hb dL_law_668 (by decide) ?_
  refine lv_iload hx hb dL_law_23 (lv_at hl 0 rfl) ?_
  refine lv_aload_n hx hb dL_law_25 rfl (lv_at hl 4 rfl) ?_
  refine va_slen hx hb hX hbl hbA hS dL_law_26 ?_
  refine lv_topi (fun y9 e9 => ?_)
  have e9 : y9 = 6 := e9
  subst e9
  refine lv_bipush (v := 6) hx hb dL_law_27 (by decide) ?_
  refine lv_isub hx hb dL_law_29 ?_
  refine lv_topi (fun y9 e9 => ?_)
  have e9 : y9 = 0 := by rw [e9]; decide
  subst e9
  refine lv_icmp_gt (tgt := 671) hx hb dL_law_30 (by decide) (fun c9 => ?_) (fun c9 => absurd (by decide) c9)
  clear c9
  refine lv_iconst (v := 1) hx hb dL_law_671 (by decide) ?_
  refine va_forget (fun q hq => hAA q.base (hS.2.2 q hq)) ?_
  refine W.widen (k := 600002) (n := 7302232) (Nat.le_of_ble_eq_true rfl) (Nat.le_of_ble_eq_true rfl) ?_
  exact lw_ret hx hb hr hlocks dL_law_672
set_option maxHeartbeats 4000000 in
set_option maxRecDepth 100000 in
theorem law_case_1 {p : Program} {e : Env} {s : State} {m : MethodId} {below : List Frame} {meth : Method} {c : Code} (l : Launch) (hfl : l.flags = flags0) {b : Nat} {xs : Nat → Int32} (C0 : lw_At p s m meth c b 6 xs) (dC : Nat → ClassId) (dI : Nat → Nat → Nat) (A : Nat → Prop) (hA : ∀ q : Nat, s.heap.size ≤ q → A q) (hAa : ∀ q : Nat, q < s.heap.size → ¬ A q) (hAA : ∀ q : Nat, A q → s.heap.size ≤ q) (q_1 : Nat) (q_2 : Nat) (q_3 : Nat) (q_4 : Nat) (cy_5 : ClassId) (q_6 : Nat) (q_7 : Nat) (q_8 : Nat) (q_9 : Nat) (q_10 : Nat) (q_11 : Nat) (q_12 : Nat) (cy_13 : ClassId) (cy_14 : ClassId) (cy_15 : ClassId) (cy_16 : ClassId) (cy_17 : ClassId) (cy_18 : ClassId) (cy_19 : ClassId) (q_20 : Nat) (q_21 : Nat) (q_22 : Nat) (q_23 : Nat) (q_24 : Nat) (q_25 : Nat) (q_26 : Nat) (q_27 : Nat) (q_28 : Nat) (q_29 : Nat) (F_30 : Nat → Value) (q_31 : Nat) (q_32 : Nat) (q_33 : Nat) (q_34 : Nat) (q_35 : Nat) (q_36 : Nat) (q_37 : Nat) (q_38 : Nat) (cy_39 : ClassId) (cy_40 : ClassId) (cy_41 : ClassId) (cy_42 : ClassId) (cy_43 : ClassId) (cy_44 : ClassId) (cy_45 : ClassId) (q_58 : Nat) (hq0 : F_30 0 = .int 0) (hq1 : F_30 1 = .ref q_38) (hq2 : F_30 2 = .ref q_31) (hq3 : F_30 3 = .int 0) (hq9 : F_30 9 = .ref q_35) (hq10 : F_30 10 = .ref q_36) (hq11 : F_30 11 = .ref q_37) (hq13 : F_30 13 = .ref q_33) (hq14 : F_30 14 = .ref q_34) (hq15 : F_30 15 = .ref q_32) (hq98 : F_30 98 = .int 0) (hq100 : F_30 100 = .int 0) (H : Heap) (locs : List Loc) (ls : Array Slot) (hK : va_K (dC, dI) vwCl [(cy_5, .byte), (cy_13, .int), (cy_14, .int), (cy_15, .int), (cy_16, .int), (cy_17, .int), (cy_18, .int), (cy_19, .int), (cy_39, .byte), (cy_40, .int), (cy_41, .int), (cy_42, .int), (cy_43, .int), (cy_44, .int), (cy_45, .byte)] s) (hP : va_P (dC, dI) vwCl [(q_1, .inr (13, [.ref q_2, .int 0, .ref q_3, .ref q_4, .null])), (q_2, .inl (cy_5, 6000, .inl (fun _ => 0))), (q_3, .inr (9, [.ref q_6, .ref q_7, .ref q_8, .int 0, .null, .int 0, .int 0, .int 0, .ref q_9, .ref q_10, .ref q_11, .ref q_12, .int 0])), (q_6, .inl (cy_13, 6001, .inl (fun _ => 0))), (q_7, .inl (cy_14, 6001, .inl (fun _ => 0))), (q_8, .inl (cy_15, 6001, .inl (fun _ => 0))), (q_9, .inl (cy_16, 256, .inl (fun _ => 0))), (q_10, .inl (cy_17, 3001, .inl (fun _ => 0))), (q_11, .inl (cy_18, 3001, .inl (fun _ => 0))), (q_12, .inl (cy_19, 3001, .inl (fun _ => 0))), (q_4, .inr (4, [.null, .ref q_20, .ref q_21, .ref q_22, .ref q_23, .ref q_24, .int 0, .ref q_25, .int 0, .int 0, .int 0, .ref q_26, .int 0, .ref q_27, .int 0, .ref q_28, .null, .int 0, .int 0])), (q_29, .inr (15, fl 134 F_30)), (q_38, .inr (14, [.null, .null, .null, .null, .null, .int 0])), (q_31, .inl (cy_39, 6000, .inl (fun _ => 0))), (q_35, .inl (cy_40, 6002, .inl (fun _ => 0))), (q_36, .inl (cy_41, 6002, .inl (fun _ => 0))), (q_37, .inl (cy_42, 6002, .inl (fun _ => 0))), (q_33, .inl (cy_43, 6000, .inl (fun _ => 0))), (q_34, .inl (cy_44, 6000, .inl (fun _ => 0))), (q_32, .inl (cy_45, 6600, .inl (fun _ => 0)))] H) (hD : va_D A [(q_1, .inr (13, [.ref q_2, .int 0, .ref q_3, .ref q_4, .null])), (q_2, .inl (cy_5, 6000, .inl (fun _ => 0))), (q_3, .inr (9, [.ref q_6, .ref q_7, .ref q_8, .int 0, .null, .int 0, .int 0, .int 0, .ref q_9, .ref q_10, .ref q_11, .ref q_12, .int 0])), (q_6, .inl (cy_13, 6001, .inl (fun _ => 0))), (q_7, .inl (cy_14, 6001, .inl (fun _ => 0))), (q_8, .inl (cy_15, 6001, .inl (fun _ => 0))), (q_9, .inl (cy_16, 256, .inl (fun _ => 0))), (q_10, .inl (cy_17, 3001, .inl (fun _ => 0))), (q_11, .inl (cy_18, 3001, .inl (fun _ => 0))), (q_12, .inl (cy_19, 3001, .inl (fun _ => 0))), (q_4, .inr (4, [.null, .ref q_20, .ref q_21, .ref q_22, .ref q_23, .ref q_24, .int 0, .ref q_25, .int 0, .int 0, .int 0, .ref q_26, .int 0, .ref q_27, .int 0, .ref q_28, .null, .int 0, .int 0])), (q_29, .inr (15, fl 134 F_30)), (q_38, .inr (14, [.null, .null, .null, .null, .null, .int 0])), (q_31, .inl (cy_39, 6000, .inl (fun _ => 0))), (q_35, .inl (cy_40, 6002, .inl (fun _ => 0))), (q_36, .inl (cy_41, 6002, .inl (fun _ => 0))), (q_37, .inl (cy_42, 6002, .inl (fun _ => 0))), (q_33, .inl (cy_43, 6000, .inl (fun _ => 0))), (q_34, .inl (cy_44, 6000, .inl (fun _ => 0))), (q_32, .inl (cy_45, 6600, .inl (fun _ => 0)))]) (hS : va_S A s.heap H locs) (hl : lv_has ls 7 [(4, .int 0), (3, .ref q_58), (2, .ref q_29), (1, .ref q_1), (0, .ref b)]) : W p l e room_1 s m #[Value.ref b] below meth c H locs 100 719914 (lw_Z below #[Value.ref b] s) (F0 m 189 ls []) := by
  obtain ⟨hx, hb, hr, hml, hown, htsT, hX, hbl, hlocks, hgv⟩ := id C0
  have hown : s.vm.findClass RL = some m.cls := hown
  have hts : ∀ w ∈ ws_law, w.before #[Value.ref b] s = true := fun w h => htsT w (in_law w h)
  have hg := flat_of_before _ hgv
  have hbA : ¬ A b := hAa b hbl
  have hflags : l.stackTraces = false := by unfold Launch.stackTraces; rw [hfl]; decide
  refine lv_aload_n hx hb dL_law_189 rfl (lv_at hl 3 rfl) ?_
  refine lv_aload_n hx hb dL_law_190 rfl (lv_at hl 4 rfl) ?_
  refine lv_iload hx hb dL_law_191 (lv_at hl 0 rfl) ?_
  refine lv_iconst (v := 1) hx hb dL_law_193 (by decide) ?_
  refine lv_iadd hx hb dL_law_194 ?_
  refine lv_topi (fun y9 e9 => ?_)
  have e9 : y9 = 1 := by rw [e9]; decide
  subst e9
  refine va_sld hx hb hX hbl hbA hS (i := 1) (by unfold vp_in; decide) dL_law_195 ?_
  refine lv_topi (fun x_1001 ex_1001 => ?_)
  have ex_1001 : x_1001 = xs 1 := ex_1001
  subst ex_1001
  have hPc := hP.sub (ws' := [(q_1, .inr (13, [.ref q_2, .int 0, .ref q_3, .ref q_4, .null]))]) [0] rfl
  have hDc := hD.sub (ws' := [(q_1, .inr (13, [.ref q_2, .int 0, .ref q_3, .ref q_4, .null]))]) [0] (by decide) rfl
  have hKc := hK.sub (tys' := []) [] rfl
  have hFc := va_free (wc := [(q_1, .inr (13, [.ref q_2, .int 0, .ref q_3, .ref q_4, .null]))]) hD hS hA [0] rfl
  refine va_calli (va_runV (As := [.int (xs 1)]) (rest := []) ⟨hx, hb, hml, hown, hts⟩ (cc_back l dC dI q_1 q_2 q_3 q_4 (xs 1) H.size) (cwV 1 hts gl_cc_back_30 rfl rfl rfl (by decide +kernel) ⟨(Nat.le_of_ble_eq_true rfl), (Nat.le_of_ble_eq_true rfl)⟩) ⟨fun a U g mk q => by obtain ⟨q0, q1, qP, qK, qD⟩ := q; exact ⟨q0, q1, qP, va_K.moved (u := U) (U := U.calling g mk a) (Vm.Alike.refl U.vm) qK, qD⟩, va_recv hKc hPc (ci := 13) (q0 := 0) rfl rfl, fun U hU hW => ⟨rfl, by rw [hU], by rw [hU]; exact hPc, va_K.moved hW.alike hKc, hDc.weaken (fun _ _ _ _ => trivial)⟩⟩ rfl rfl hl.1 rfl (lv_room (Nat.le_of_ble_eq_true rfl)) dL_law_196 ⟨(Nat.le_of_ble_eq_true rfl), (Nat.le_of_ble_eq_true rfl)⟩) hS (fun q _ h => hFc q h) hFc (fun r9 u t H1 locs ht hvm hw hB hz1 hk1 hS => ?_)
  obtain ⟨hP1, hK1, hD1⟩ := hB
  rw [ht] at hP1
  have hK1 := va_K.moved hvm.symm hK1
  obtain ⟨hP, hD⟩ := va_join (wr := [(q_2, .inl (cy_5, 6000, .inl (fun _ => 0))), (q_3, .inr (9, [.ref q_6, .ref q_7, .ref q_8, .int 0, .null, .int 0, .int 0, .int 0, .ref q_9, .ref q_10, .ref q_11, .ref q_12, .int 0])), (q_6, .inl (cy_13, 6001, .inl (fun _ => 0))), (q_7, .inl (cy_14, 6001, .inl (fun _ => 0))), (q_8, .inl (cy_15, 6001, .inl (fun _ => 0))), (q_9, .inl (cy_16, 256, .inl (fun _ => 0))), (q_10, .inl (cy_17, 3001, .inl (fun _ => 0))), (q_11, .inl (cy_18, 3001, .inl (fun _ => 0))), (q_12, .inl (cy_19, 3001, .inl (fun _ => 0))), (q_4, .inr (4, [.null, .ref q_20, .ref q_21, .ref q_22, .ref q_23, .ref q_24, .int 0, .ref q_25, .int 0, .int 0, .int 0, .ref q_26, .int 0, .ref q_27, .int 0, .ref q_28, .null, .int 0, .int 0])), (q_29, .inr (15, fl 134 F_30)), (q_38, .inr (14, [.null, .null, .null, .null, .null, .int 0])), (q_31, .inl (cy_39, 6000, .inl (fun _ => 0))), (q_35, .inl (cy_40, 6002, .inl (fun _ => 0))), (q_36, .inl (cy_41, 6002, .inl (fun _ => 0))), (q_37, .inl (cy_42, 6002, .inl (fun _ => 0))), (q_33, .inl (cy_43, 6000, .inl (fun _ => 0))), (q_34, .inl (cy_44, 6000, .inl (fun _ => 0))), (q_32, .inl (cy_45, 6600, .inl (fun _ => 0)))]) (w1 := []) hP hD [0] [1, 2, 3, 4, 5, 6, 7, 8, 9, 10, 11, 12, 13, 14, 15, 16, 17, 18, 19] rfl rfl (by decide) (by decide) hk1 hFc hP1 hD1
  have hK := (hK.sub (tys' := [(cy_5, .byte), (cy_13, .int), (cy_14, .int), (cy_15, .int), (cy_16, .int), (cy_17, .int), (cy_18, .int), (cy_19, .int), (cy_39, .byte), (cy_40, .int), (cy_41, .int), (cy_42, .int), (cy_43, .int), (cy_44, .int), (cy_45, .byte)]) [0, 1, 2, 3, 4, 5, 6, 7, 8, 9, 10, 11, 12, 13, 14] rfl).app hK1
  generalize H1 = H at hP hS ⊢
  have hK : va_K (dC, dI) vwCl [(cy_5, .byte), (cy_13, .int), (cy_14, .int), (cy_15, .int), (cy_16, .int), (cy_17, .int), (cy_18, .int), (cy_19, .int), (cy_39, .byte), (cy_40, .int), (cy_41, .int), (cy_42, .int), (cy_43, .int), (cy_44, .int), (cy_45, .byte)] s := hK
  have hP : va_P (dC, dI) vwCl [(q_2, .inl (cy_5, 6000, .inl (fun _ => 0))), (q_3, .inr (9, [.ref q_6, .ref q_7, .ref q_8, .int 0, .null, .int 0, .int 0, .int 0, .ref q_9, .ref q_10, .ref q_11, .ref q_12, .int 0])), (q_6, .inl (cy_13, 6001, .inl (fun _ => 0))), (q_7, .inl (cy_14, 6001, .inl (fun _ => 0))), (q_8, .inl (cy_15, 6001, .inl (fun _ => 0))), (q_9, .inl (cy_16, 256, .inl (fun _ => 0))), (q_10, .inl (cy_17, 3001, .inl (fun _ => 0))), (q_11, .inl (cy_18, 3001, .inl (fun _ => 0))), (q_12, .inl (cy_19, 3001, .inl (fun _ => 0))), (q_4, .inr (4, [.null, .ref q_20, .ref q_21, .ref q_22, .ref q_23, .ref q_24, .int 0, .ref q_25, .int 0, .int 0, .int 0, .ref q_26, .int 0, .ref q_27, .int 0, .ref q_28, .null, .int 0, .int 0])), (q_29, .inr (15, fl 134 F_30)), (q_38, .inr (14, [.null, .null, .null, .null, .null, .int 0])), (q_31, .inl (cy_39, 6000, .inl (fun _ => 0))), (q_35, .inl (cy_40, 6002, .inl (fun _ => 0))), (q_36, .inl (cy_41, 6002, .inl (fun _ => 0))), (q_37, .inl (cy_42, 6002, .inl (fun _ => 0))), (q_33, .inl (cy_43, 6000, .inl (fun _ => 0))), (q_34, .inl (cy_44, 6000, .inl (fun _ => 0))), (q_32, .inl (cy_45, 6600, .inl (fun _ => 0)))] H := hP
  have hD : va_D A [(q_2, .inl (cy_5, 6000, .inl (fun _ => 0))), (q_3, .inr (9, [.ref q_6, .ref q_7, .ref q_8, .int 0, .null, .int 0, .int 0, .int 0, .ref q_9, .ref q_10, .ref q_11, .ref q_12, .int 0])), (q_6, .inl (cy_13, 6001, .inl (fun _ => 0))), (q_7, .inl (cy_14, 6001, .inl (fun _ => 0))), (q_8, .inl (cy_15, 6001, .inl (fun _ => 0))), (q_9, .inl (cy_16, 256, .inl (fun _ => 0))), (q_10, .inl (cy_17, 3001, .inl (fun _ => 0))), (q_11, .inl (cy_18, 3001, .inl (fun _ => 0))), (q_12, .inl (cy_19, 3001, .inl (fun _ => 0))), (q_4, .inr (4, [.null, .ref q_20, .ref q_21, .ref q_22, .ref q_23, .ref q_24, .int 0, .ref q_25, .int 0, .int 0, .int 0, .ref q_26, .int 0, .ref q_27, .int 0, .ref q_28, .null, .int 0, .int 0])), (q_29, .inr (15, fl 134 F_30)), (q_38, .inr (14, [.null, .null, .null, .null, .null, .int 0])), (q_31, .inl (cy_39, 6000, .inl (fun _ => 0))), (q_35, .inl (cy_40, 6002, .inl (fun _ => 0))), (q_36, .inl (cy_41, 6002, .inl (fun _ => 0))), (q_37, .inl (cy_42, 6002, .inl (fun _ => 0))), (q_33, .inl (cy_43, 6000, .inl (fun _ => 0))), (q_34, .inl (cy_44, 6000, .inl (fun _ => 0))), (q_32, .inl (cy_45, 6600, .inl (fun _ => 0)))] := hD
  refine W.widen (k := 100) (n := 719914) (Nat.le_of_ble_eq_true rfl) (Nat.le_of_ble_eq_true rfl) ?_
  obtain rfl : r9 = (bkS (xs 1)) := hw
  refine lv_aload_n hx hb dL_law_199 rfl (lv_at hl 2 rfl) ?_
  refine lv_aload_n hx hb dL_law_200 rfl (lv_at hl 4 rfl) ?_
  refine lv_iload hx hb dL_law_201 (lv_at hl 0 rfl) ?_
  refine lv_iconst (v := 1) hx hb dL_law_203 (by decide) ?_
  refine lv_iadd hx hb dL_law_204 ?_
  refine lv_topi (fun y9 e9 => ?_)
  have e9 : y9 = 1 := by rw [e9]; decide
  subst e9
  refine va_sld hx hb hX hbl hbA hS (i := 1) (by unfold vp_in; decide) dL_law_205 ?_
  refine lv_topi (fun x_1002 ex_1002 => ?_)
  have ex_1002 : x_1002 = xs 1 := ex_1002
  subst ex_1002
  have hPc := hP.sub (ws' := [(q_29, .inr (15, fl 134 F_30))]) [10] rfl
  have hDc := hD.sub (ws' := [(q_29, .inr (15, fl 134 F_30))]) [10] (by decide) rfl
  have hKc := hK.sub (tys' := []) [] rfl
  have hFc := va_free (wc := [(q_29, .inr (15, fl 134 F_30))]) hD hS hA [10] rfl
  refine va_calli (va_runV (As := [.int (xs 1)]) (rest := [.int (bkS (xs 1))]) ⟨hx, hb, hml, hown, hts⟩ (cm_back l dC dI q_29 F_30 (xs 1) H.size hq3) (cwV 1 hts gl_cm_back_33 rfl rfl rfl (by decide +kernel) ⟨(Nat.le_of_ble_eq_true rfl), (Nat.le_of_ble_eq_true rfl)⟩) ⟨fun a U g mk q => by obtain ⟨q0, q1, qP, qK, qD⟩ := q; exact ⟨q0, q1, qP, va_K.moved (u := U) (U := U.calling g mk a) (Vm.Alike.refl U.vm) qK, qD⟩, va_recv hKc hPc (ci := 15) (q0 := 0) rfl rfl, fun U hU hW => ⟨rfl, by rw [hU], by rw [hU]; exact hPc, va_K.moved hW.alike hKc, hDc.weaken (fun _ _ _ _ => trivial)⟩⟩ rfl rfl hl.1 rfl (lv_room (Nat.le_of_ble_eq_true rfl)) dL_law_206 ⟨(Nat.le_of_ble_eq_true rfl), (Nat.le_of_ble_eq_true rfl)⟩) hS (fun q _ h => hFc q h) hFc (fun r9 u t H1 locs ht hvm hw hB hz1 hk1 hS => ?_)
  obtain ⟨hP1, hK1, hD1⟩ := hB
  rw [ht] at hP1
  have hK1 := va_K.moved hvm.symm hK1
  obtain ⟨hP, hD⟩ := va_join (wr := [(q_2, .inl (cy_5, 6000, .inl (fun _ => 0))), (q_3, .inr (9, [.ref q_6, .ref q_7, .ref q_8, .int 0, .null, .int 0, .int 0, .int 0, .ref q_9, .ref q_10, .ref q_11, .ref q_12, .int 0])), (q_6, .inl (cy_13, 6001, .inl (fun _ => 0))), (q_7, .inl (cy_14, 6001, .inl (fun _ => 0))), (q_8, .inl (cy_15, 6001, .inl (fun _ => 0))), (q_9, .inl (cy_16, 256, .inl (fun _ => 0))), (q_10, .inl (cy_17, 3001, .inl (fun _ => 0))), (q_11, .inl (cy_18, 3001, .inl (fun _ => 0))), (q_12, .inl (cy_19, 3001, .inl (fun _ => 0))), (q_4, .inr (4, [.null, .ref q_20, .ref q_21, .ref q_22, .ref q_23, .ref q_24, .int 0, .ref q_25, .int 0, .int 0, .int 0, .ref q_26, .int 0, .ref q_27, .int 0, .ref q_28, .null, .int 0, .int 0])), (q_38, .inr (14, [.null, .null, .null, .null, .null, .int 0])), (q_31, .inl (cy_39, 6000, .inl (fun _ => 0))), (q_35, .inl (cy_40, 6002, .inl (fun _ => 0))), (q_36, .inl (cy_41, 6002, .inl (fun _ => 0))), (q_37, .inl (cy_42, 6002, .inl (fun _ => 0))), (q_33, .inl (cy_43, 6000, .inl (fun _ => 0))), (q_34, .inl (cy_44, 6000, .inl (fun _ => 0))), (q_32, .inl (cy_45, 6600, .inl (fun _ => 0)))]) (w1 := []) hP hD [10] [0, 1, 2, 3, 4, 5, 6, 7, 8, 9, 11, 12, 13, 14, 15, 16, 17, 18] rfl rfl (by decide) (by decide) hk1 hFc hP1 hD1
  have hK := (hK.sub (tys' := [(cy_5, .byte), (cy_13, .int), (cy_14, .int), (cy_15, .int), (cy_16, .int), (cy_17, .int), (cy_18, .int), (cy_19, .int), (cy_39, .byte), (cy_40, .int), (cy_41, .int), (cy_42, .int), (cy_43, .int), (cy_44, .int), (cy_45, .byte)]) [0, 1, 2, 3, 4, 5, 6, 7, 8, 9, 10, 11, 12, 13, 14] rfl).app hK1
  generalize H1 = H at hP hS ⊢
  have hK : va_K (dC, dI) vwCl [(cy_5, .byte), (cy_13, .int), (cy_14, .int), (cy_15, .int), (cy_16, .int), (cy_17, .int), (cy_18, .int), (cy_19, .int), (cy_39, .byte), (cy_40, .int), (cy_41, .int), (cy_42, .int), (cy_43, .int), (cy_44, .int), (cy_45, .byte)] s := hK
  have hP : va_P (dC, dI) vwCl [(q_2, .inl (cy_5, 6000, .inl (fun _ => 0))), (q_3, .inr (9, [.ref q_6, .ref q_7, .ref q_8, .int 0, .null, .int 0, .int 0, .int 0, .ref q_9, .ref q_10, .ref q_11, .ref q_12, .int 0])), (q_6, .inl (cy_13, 6001, .inl (fun _ => 0))), (q_7, .inl (cy_14, 6001, .inl (fun _ => 0))), (q_8, .inl (cy_15, 6001, .inl (fun _ => 0))), (q_9, .inl (cy_16, 256, .inl (fun _ => 0))), (q_10, .inl (cy_17, 3001, .inl (fun _ => 0))), (q_11, .inl (cy_18, 3001, .inl (fun _ => 0))), (q_12, .inl (cy_19, 3001, .inl (fun _ => 0))), (q_4, .inr (4, [.null, .ref q_20, .ref q_21, .ref q_22, .ref q_23, .ref q_24, .int 0, .ref q_25, .int 0, .int 0, .int 0, .ref q_26, .int 0, .ref q_27, .int 0, .ref q_28, .null, .int 0, .int 0])), (q_38, .inr (14, [.null, .null, .null, .null, .null, .int 0])), (q_31, .inl (cy_39, 6000, .inl (fun _ => 0))), (q_35, .inl (cy_40, 6002, .inl (fun _ => 0))), (q_36, .inl (cy_41, 6002, .inl (fun _ => 0))), (q_37, .inl (cy_42, 6002, .inl (fun _ => 0))), (q_33, .inl (cy_43, 6000, .inl (fun _ => 0))), (q_34, .inl (cy_44, 6000, .inl (fun _ => 0))), (q_32, .inl (cy_45, 6600, .inl (fun _ => 0)))] H := hP
  have hD : va_D A [(q_2, .inl (cy_5, 6000, .inl (fun _ => 0))), (q_3, .inr (9, [.ref q_6, .ref q_7, .ref q_8, .int 0, .null, .int 0, .int 0, .int 0, .ref q_9, .ref q_10, .ref q_11, .ref q_12, .int 0])), (q_6, .inl (cy_13, 6001, .inl (fun _ => 0))), (q_7, .inl (cy_14, 6001, .inl (fun _ => 0))), (q_8, .inl (cy_15, 6001, .inl (fun _ => 0))), (q_9, .inl (cy_16, 256, .inl (fun _ => 0))), (q_10, .inl (cy_17, 3001, .inl (fun _ => 0))), (q_11, .inl (cy_18, 3001, .inl (fun _ => 0))), (q_12, .inl (cy_19, 3001, .inl (fun _ => 0))), (q_4, .inr (4, [.null, .ref q_20, .ref q_21, .ref q_22, .ref q_23, .ref q_24, .int 0, .ref q_25, .int 0, .int 0, .int 0, .ref q_26, .int 0, .ref q_27, .int 0, .ref q_28, .null, .int 0, .int 0])), (q_38, .inr (14, [.null, .null, .null, .null, .null, .int 0])), (q_31, .inl (cy_39, 6000, .inl (fun _ => 0))), (q_35, .inl (cy_40, 6002, .inl (fun _ => 0))), (q_36, .inl (cy_41, 6002, .inl (fun _ => 0))), (q_37, .inl (cy_42, 6002, .inl (fun _ => 0))), (q_33, .inl (cy_43, 6000, .inl (fun _ => 0))), (q_34, .inl (cy_44, 6000, .inl (fun _ => 0))), (q_32, .inl (cy_45, 6600, .inl (fun _ => 0)))] := hD
  refine W.widen (k := 100) (n := 719914) (Nat.le_of_ble_eq_true rfl) (Nat.le_of_ble_eq_true rfl) ?_
  obtain rfl : r9 = (bkS (xs 1)) := hw
  refine lv_icmp_eq (tgt := 665) hx hb dL_law_209 (by decide) (fun c9 => ?_) (fun c9 => absurd rfl c9)
  refine lv_iinc (v := 6) (lv' := [(4, .int 6), (3, .ref q_58), (2, .ref q_29), (1, .ref q_1), (0, .ref b)]) hx hb dL_law_665 hl (k := 0) rfl (by decide) (by decide) rfl (fun ls hl => ?_)
  refine lv_goto (tgt := 23) hx hb dL_law_668 (by decide) ?_
  refine lv_iload hx hb dL_law_23 (lv_at hl 0 rfl) ?_
  refine lv_aload_n hx hb dL_law_25 rfl (lv_at hl 4 rfl) ?_
  refine va_slen hx hb hX hbl hbA hS dL_law_26 ?_
  refine lv_topi (fun y9 e9 => ?_)
  have e9 : y9 = 6 := e9
  subst e9
  refine lv_bipush (v := 6) hx hb dL_law_27 (by decide) ?_
  refine lv_isub hx hb dL_law_29 ?_
  refine lv_topi (fun y9 e9 => ?_)
  have e9 : y9 = 0 := by rw [e9]; decide
  subst e9
  refine lv_icmp_gt (tgt := 671) hx hb dL_law_30 (by decide) (fun c9 => ?_) (fun c9 => absurd (by decide) c9)
  clear c9
  refine lv_iconst (v := 1) hx hb dL_law_671 (by decide) ?_
  refine va_forget (fun q hq => hAA q.base (hS.2.2 q hq)) ?_
  refine W.widen (k := 600002) (n := 7302232) (Nat.le_of_ble_eq_true rfl) (Nat.le_of_ble_eq_true rfl) ?_
  exact lw_ret hx hb hr hlocks dL_law_672
set_option maxHeartbeats 4000000 in
set_option maxRecDepth 100000 in
theorem law_case_2 {p : Program} {e : Env} {s : State} {m : MethodId} {below : List Frame} {meth : Method} {c : Code} (l : Launch) (hfl : l.flags = flags0) {b : Nat} {xs : Nat → Int32} (C0 : lw_At p s m meth c b 6 xs) (dC : Nat → ClassId) (dI : Nat → Nat → Nat) (A : Nat → Prop) (hA : ∀ q : Nat, s.heap.size ≤ q → A q) (hAa : ∀ q : Nat, q < s.heap.size → ¬ A q) (hAA : ∀ q : Nat, A q → s.heap.size ≤ q) (q_1 : Nat) (q_2 : Nat) (q_3 : Nat) (q_4 : Nat) (cy_5 : ClassId) (q_6 : Nat) (q_7 : Nat) (q_8 : Nat) (q_9 : Nat) (q_10 : Nat) (q_11 : Nat) (q_12 : Nat) (cy_13 : ClassId) (cy_14 : ClassId) (cy_15 : ClassId) (cy_16 : ClassId) (cy_17 : ClassId) (cy_18 : ClassId) (cy_19 : ClassId) (q_20 : Nat) (q_21 : Nat) (q_22 : Nat) (q_23 : Nat) (q_24 : Nat) (q_25 : Nat) (q_26 : Nat) (q_27 : Nat) (q_28 : Nat) (q_29 : Nat) (F_30 : Nat → Value) (q_31 : Nat) (q_32 : Nat) (q_33 : Nat) (q_34 : Nat) (q_35 : Nat) (q_36 : Nat) (q_37 : Nat) (q_38 : Nat) (cy_39 : ClassId) (cy_40 : ClassId) (cy_41 : ClassId) (cy_42 : ClassId) (cy_43 : ClassId) (cy_44 : ClassId) (cy_45 : ClassId) (q_58 : Nat) (hq0 : F_30 0 = .int 0) (hq1 : F_30 1 = .ref q_38) (hq2 : F_30 2 = .ref q_31) (hq3 : F_30 3 = .int 0) (hq9 : F_30 9 = .ref q_35) (hq10 : F_30 10 = .ref q_36) (hq11 : F_30 11 = .ref q_37) (hq13 : F_30 13 = .ref q_33) (hq14 : F_30 14 = .ref q_34) (hq15 : F_30 15 = .ref q_32) (hq98 : F_30 98 = .int 0) (hq100 : F_30 100 = .int 0) (H : Heap) (locs : List Loc) (ls : Array Slot) (hK : va_K (dC, dI) vwCl [(cy_5, .byte), (cy_13, .int), (cy_14, .int), (cy_15, .int), (cy_16, .int), (cy_17, .int), (cy_18, .int), (cy_19, .int), (cy_39, .byte), (cy_40, .int), (cy_41, .int), (cy_42, .int), (cy_43, .int), (cy_44, .int), (cy_45, .byte)] s) (hP : va_P (dC, dI) vwCl [(q_1, .inr (13, [.ref q_2, .int 0, .ref q_3, .ref q_4, .null])), (q_2, .inl (cy_5, 6000, .inl (fun _ => 0))), (q_3, .inr (9, [.ref q_6, .ref q_7, .ref q_8, .int 0, .null, .int 0, .int 0, .int 0, .ref q_9, .ref q_10, .ref q_11, .ref q_12, .int 0])), (q_6, .inl (cy_13, 6001, .inl (fun _ => 0))), (q_7, .inl (cy_14, 6001, .inl (fun _ => 0))), (q_8, .inl (cy_15, 6001, .inl (fun _ => 0))), (q_9, .inl (cy_16, 256, .inl (fun _ => 0))), (q_10, .inl (cy_17, 3001, .inl (fun _ => 0))), (q_11, .inl (cy_18, 3001, .inl (fun _ => 0))), (q_12, .inl (cy_19, 3001, .inl (fun _ => 0))), (q_4, .inr (4, [.null, .ref q_20, .ref q_21, .ref q_22, .ref q_23, .ref q_24, .int 0, .ref q_25, .int 0, .int 0, .int 0, .ref q_26, .int 0, .ref q_27, .int 0, .ref q_28, .null, .int 0, .int 0])), (q_29, .inr (15, fl 134 F_30)), (q_38, .inr (14, [.null, .null, .null, .null, .null, .int 0])), (q_31, .inl (cy_39, 6000, .inl (fun _ => 0))), (q_35, .inl (cy_40, 6002, .inl (fun _ => 0))), (q_36, .inl (cy_41, 6002, .inl (fun _ => 0))), (q_37, .inl (cy_42, 6002, .inl (fun _ => 0))), (q_33, .inl (cy_43, 6000, .inl (fun _ => 0))), (q_34, .inl (cy_44, 6000, .inl (fun _ => 0))), (q_32, .inl (cy_45, 6600, .inl (fun _ => 0)))] H) (hD : va_D A [(q_1, .inr (13, [.ref q_2, .int 0, .ref q_3, .ref q_4, .null])), (q_2, .inl (cy_5, 6000, .inl (fun _ => 0))), (q_3, .inr (9, [.ref q_6, .ref q_7, .ref q_8, .int 0, .null, .int 0, .int 0, .int 0, .ref q_9, .ref q_10, .ref q_11, .ref q_12, .int 0])), (q_6, .inl (cy_13, 6001, .inl (fun _ => 0))), (q_7, .inl (cy_14, 6001, .inl (fun _ => 0))), (q_8, .inl (cy_15, 6001, .inl (fun _ => 0))), (q_9, .inl (cy_16, 256, .inl (fun _ => 0))), (q_10, .inl (cy_17, 3001, .inl (fun _ => 0))), (q_11, .inl (cy_18, 3001, .inl (fun _ => 0))), (q_12, .inl (cy_19, 3001, .inl (fun _ => 0))), (q_4, .inr (4, [.null, .ref q_20, .ref q_21, .ref q_22, .ref q_23, .ref q_24, .int 0, .ref q_25, .int 0, .int 0, .int 0, .ref q_26, .int 0, .ref q_27, .int 0, .ref q_28, .null, .int 0, .int 0])), (q_29, .inr (15, fl 134 F_30)), (q_38, .inr (14, [.null, .null, .null, .null, .null, .int 0])), (q_31, .inl (cy_39, 6000, .inl (fun _ => 0))), (q_35, .inl (cy_40, 6002, .inl (fun _ => 0))), (q_36, .inl (cy_41, 6002, .inl (fun _ => 0))), (q_37, .inl (cy_42, 6002, .inl (fun _ => 0))), (q_33, .inl (cy_43, 6000, .inl (fun _ => 0))), (q_34, .inl (cy_44, 6000, .inl (fun _ => 0))), (q_32, .inl (cy_45, 6600, .inl (fun _ => 0)))]) (hS : va_S A s.heap H locs) (hl : lv_has ls 7 [(4, .int 0), (3, .ref q_58), (2, .ref q_29), (1, .ref q_1), (0, .ref b)]) : W p l e room_1 s m #[Value.ref b] below meth c H locs 100 719914 (lw_Z below #[Value.ref b] s) (F0 m 214 ls []) := by
  obtain ⟨hx, hb, hr, hml, hown, htsT, hX, hbl, hlocks, hgv⟩ := id C0
  have hown : s.vm.findClass RL = some m.cls := hown
  have hts : ∀ w ∈ ws_law, w.before #[Value.ref b] s = true := fun w h => htsT w (in_law w h)
  have hg := flat_of_before _ hgv
  have hbA : ¬ A b := hAa b hbl
  have hflags : l.stackTraces = false := by unfold Launch.stackTraces; rw [hfl]; decide
  obtain ⟨q, v, hEq, hKS⟩ := law_ks hgv hAa
  have hN0 : vk_R RX13 282 kwT q s := vk_R.of (htsT (.stringRef RX13 282 kwT) (List.mem_of_getElem? (i := 3108) (by decide +kernel))) hEq
  have hN1 : ks q v 345 kwF A s s.heap := hKS
  have hN2 : va_Z "java/lang/String" "COMPACT_STRINGS" "Z" (.int 1) A s s.heap := va_Zof (htsT (.laysStatic "java/lang/String" "COMPACT_STRINGS" "Z") (List.mem_of_getElem? (i := 637) (by decide +kernel))) (htsT (.initialized "java/lang/String") (List.mem_of_getElem? (i := 397) (by decide +kernel))) (va_eqt (hg (.eq (.static "java/lang/String" "COMPACT_STRINGS" "Z") (.int 1)) (List.mem_of_getElem? (i := 4) (by decide +kernel)))) hAa
  have hN3 : va_Zq "jdk/internal/util/Preconditions" "SIOOBE_FORMATTER" "Ljava/util/function/BiFunction;" A s s.heap := va_Zqof (htsT (.laysStatic "jdk/internal/util/Preconditions" "SIOOBE_FORMATTER" "Ljava/util/function/BiFunction;") (List.mem_of_getElem? (i := 653) (by decide +kernel))) (htsT (.initialized "jdk/internal/util/Preconditions") (List.mem_of_getElem? (i := 399) (by decide +kernel))) (hg (.isRef (.static "jdk/internal/util/Preconditions" "SIOOBE_FORMATTER" "Ljava/util/function/BiFunction;")) (List.mem_of_getElem? (i := 5) (by decide +kernel))) hAa
  have hN4 : va_Nw (.castable RX12 RX12) s := va_Nw.of rfl (htsT (.castable RX12 RX12) (List.mem_of_getElem? (i := 2656) (by decide +kernel)))
  refine lv_aload_n hx hb dL_law_214 rfl (lv_at hl 3 rfl) ?_
  have hPc := hP.sub (ws' := [(q_1, .inr (13, [.ref q_2, .int 0, .ref q_3, .ref q_4, .null])), (q_2, .inl (cy_5, 6000, .inl (fun _ => 0))), (q_4, .inr (4, [.null, .ref q_20, .ref q_21, .ref q_22, .ref q_23, .ref q_24, .int 0, .ref q_25, .int 0, .int 0, .int 0, .ref q_26, .int 0, .ref q_27, .int 0, .ref q_28, .null, .int 0, .int 0])), (q_3, .inr (9, [.ref q_6, .ref q_7, .ref q_8, .int 0, .null, .int 0, .int 0, .int 0, .ref q_9, .ref q_10, .ref q_11, .ref q_12, .int 0])), (q_6, .inl (cy_13, 6001, .inl (fun _ => 0))), (q_7, .inl (cy_14, 6001, .inl (fun _ => 0))), (q_8, .inl (cy_15, 6001, .inl (fun _ => 0))), (q_9, .inl (cy_16, 256, .inl (fun _ => 0)))]) [0, 1, 10, 2, 3, 4, 5, 6] rfl
  have hDc := hD.sub (ws' := [(q_1, .inr (13, [.ref q_2, .int 0, .ref q_3, .ref q_4, .null])), (q_2, .inl (cy_5, 6000, .inl (fun _ => 0))), (q_4, .inr (4, [.null, .ref q_20, .ref q_21, .ref q_22, .ref q_23, .ref q_24, .int 0, .ref q_25, .int 0, .int 0, .int 0, .ref q_26, .int 0, .ref q_27, .int 0, .ref q_28, .null, .int 0, .int 0])), (q_3, .inr (9, [.ref q_6, .ref q_7, .ref q_8, .int 0, .null, .int 0, .int 0, .int 0, .ref q_9, .ref q_10, .ref q_11, .ref q_12, .int 0])), (q_6, .inl (cy_13, 6001, .inl (fun _ => 0))), (q_7, .inl (cy_14, 6001, .inl (fun _ => 0))), (q_8, .inl (cy_15, 6001, .inl (fun _ => 0))), (q_9, .inl (cy_16, 256, .inl (fun _ => 0)))]) [0, 1, 10, 2, 3, 4, 5, 6] (by decide) rfl
  have hKc := hK.sub (tys' := [(cy_5, .byte), (cy_13, .int), (cy_14, .int), (cy_15, .int), (cy_16, .int)]) [0, 1, 2, 3, 4] rfl
  have hFc := va_free (wc := [(q_1, .inr (13, [.ref q_2, .int 0, .ref q_3, .ref q_4, .null])), (q_2, .inl (cy_5, 6000, .inl (fun _ => 0))), (q_4, .inr (4, [.null, .ref q_20, .ref q_21, .ref q_22, .ref q_23, .ref q_24, .int 0, .ref q_25, .int 0, .int 0, .int 0, .ref q_26, .int 0, .ref q_27, .int 0, .ref q_28, .null, .int 0, .int 0])), (q_3, .inr (9, [.ref q_6, .ref q_7, .ref q_8, .int 0, .null, .int 0, .int 0, .int 0, .ref q_9, .ref q_10, .ref q_11, .ref q_12, .int 0])), (q_6, .inl (cy_13, 6001, .inl (fun _ => 0))), (q_7, .inl (cy_14, 6001, .inl (fun _ => 0))), (q_8, .inl (cy_15, 6001, .inl (fun _ => 0))), (q_9, .inl (cy_16, 256, .inl (fun _ => 0)))]) hD hS hA [0, 1, 10, 2, 3, 4, 5, 6] rfl
  refine va_calli (va_runV (As := []) (rest := []) ⟨hx, hb, hml, hown, hts⟩ (cc_read l dC dI q_1 q_2 q_3 q_4 q_20 q_21 q_22 q_23 q_24 q_25 q_26 q_27 q_28 cy_5 (fun _ => 0) q_6 q_7 q_8 q_9 q_10 q_11 q_12 cy_13 cy_14 cy_15 cy_16 (fun _ => 0) (fun _ => 0) (fun _ => 0) (fun _ => 0) H.size) (cwV 0 hts gl_cc_read_34 rfl rfl rfl (by decide +kernel) ⟨(Nat.le_of_ble_eq_true rfl), (Nat.le_of_ble_eq_true rfl)⟩) ⟨fun a U g mk q => by obtain ⟨q0, q1, qP, qK, qD⟩ := q; exact ⟨q0, q1, qP, va_K.moved (u := U) (U := U.calling g mk a) (Vm.Alike.refl U.vm) qK, qD⟩, va_recv hKc hPc (ci := 13) (q0 := 0) rfl rfl, fun U hU hW => ⟨rfl, by rw [hU], by rw [hU]; exact hPc, va_K.moved hW.alike hKc, hDc.weaken (fun _ _ _ _ => trivial)⟩⟩ rfl rfl hl.1 rfl (lv_room (Nat.le_of_ble_eq_true rfl)) dL_law_215 ⟨(Nat.le_of_ble_eq_true rfl), (Nat.le_of_ble_eq_true rfl)⟩) hS (fun q _ h => hFc q h) hFc (fun r9 u t H1 locs ht hvm hw hB hz1 hk1 hS => ?_)
  obtain ⟨hP1, hK1, hD1⟩ := hB
  rw [ht] at hP1
  have hK1 := va_K.moved hvm.symm hK1
  obtain ⟨hP, hD⟩ := va_join (wr := [(q_10, .inl (cy_17, 3001, .inl (fun _ => 0))), (q_11, .inl (cy_18, 3001, .inl (fun _ => 0))), (q_12, .inl (cy_19, 3001, .inl (fun _ => 0))), (q_29, .inr (15, fl 134 F_30)), (q_38, .inr (14, [.null, .null, .null, .null, .null, .int 0])), (q_31, .inl (cy_39, 6000, .inl (fun _ => 0))), (q_35, .inl (cy_40, 6002, .inl (fun _ => 0))), (q_36, .inl (cy_41, 6002, .inl (fun _ => 0))), (q_37, .inl (cy_42, 6002, .inl (fun _ => 0))), (q_33, .inl (cy_43, 6000, .inl (fun _ => 0))), (q_34, .inl (cy_44, 6000, .inl (fun _ => 0))), (q_32, .inl (cy_45, 6600, .inl (fun _ => 0)))]) (w1 := []) hP hD [0, 1, 10, 2, 3, 4, 5, 6] [7, 8, 9, 11, 12, 13, 14, 15, 16, 17, 18, 19] rfl rfl (by decide) (by decide) hk1 hFc hP1 hD1
  have hK := (hK.sub (tys' := [(cy_17, .int), (cy_18, .int), (cy_19, .int), (cy_39, .byte), (cy_40, .int), (cy_41, .int), (cy_42, .int), (cy_43, .int), (cy_44, .int), (cy_45, .byte)]) [5, 6, 7, 8, 9, 10, 11, 12, 13, 14] rfl).app hK1
  generalize H1 = H at hP hS ⊢
  have hK : va_K (dC, dI) vwCl [(cy_17, .int), (cy_18, .int), (cy_19, .int), (cy_39, .byte), (cy_40, .int), (cy_41, .int), (cy_42, .int), (cy_43, .int), (cy_44, .int), (cy_45, .byte)] s := hK
  have hP : va_P (dC, dI) vwCl [(q_10, .inl (cy_17, 3001, .inl (fun _ => 0))), (q_11, .inl (cy_18, 3001, .inl (fun _ => 0))), (q_12, .inl (cy_19, 3001, .inl (fun _ => 0))), (q_29, .inr (15, fl 134 F_30)), (q_38, .inr (14, [.null, .null, .null, .null, .null, .int 0])), (q_31, .inl (cy_39, 6000, .inl (fun _ => 0))), (q_35, .inl (cy_40, 6002, .inl (fun _ => 0))), (q_36, .inl (cy_41, 6002, .inl (fun _ => 0))), (q_37, .inl (cy_42, 6002, .inl (fun _ => 0))), (q_33, .inl (cy_43, 6000, .inl (fun _ => 0))), (q_34, .inl (cy_44, 6000, .inl (fun _ => 0))), (q_32, .inl (cy_45, 6600, .inl (fun _ => 0)))] H := hP
  have hD : va_D A [(q_10, .inl (cy_17, 3001, .inl (fun _ => 0))), (q_11, .inl (cy_18, 3001, .inl (fun _ => 0))), (q_12, .inl (cy_19, 3001, .inl (fun _ => 0))), (q_29, .inr (15, fl 134 F_30)), (q_38, .inr (14, [.null, .null, .null, .null, .null, .int 0])), (q_31, .inl (cy_39, 6000, .inl (fun _ => 0))), (q_35, .inl (cy_40, 6002, .inl (fun _ => 0))), (q_36, .inl (cy_41, 6002, .inl (fun _ => 0))), (q_37, .inl (cy_42, 6002, .inl (fun _ => 0))), (q_33, .inl (cy_43, 6000, .inl (fun _ => 0))), (q_34, .inl (cy_44, 6000, .inl (fun _ => 0))), (q_32, .inl (cy_45, 6600, .inl (fun _ => 0)))] := hD
  refine W.widen (k := 107) (n := 720217) (Nat.le_of_ble_eq_true rfl) (Nat.le_of_ble_eq_true rfl) ?_
  obtain rfl : r9 = 18 := hw
  refine lv_aload_n hx hb dL_law_218 rfl (lv_at hl 2 rfl) ?_
  have hPc := hP.sub (ws' := [(q_29, .inr (15, fl 134 F_30)), (q_33, .inl (cy_43, 6000, .inl (fun _ => 0))), (q_34, .inl (cy_44, 6000, .inl (fun _ => 0))), (q_32, .inl (cy_45, 6600, .inl (fun _ => 0))), (q_35, .inl (cy_40, 6002, .inl (fun _ => 0))), (q_36, .inl (cy_41, 6002, .inl (fun _ => 0))), (q_37, .inl (cy_42, 6002, .inl (fun _ => 0))), (q_38, .inr (14, [.null, .null, .null, .null, .null, .int 0]))]) [3, 9, 10, 11, 6, 7, 8, 4] rfl
  have hDc := hD.sub (ws' := [(q_29, .inr (15, fl 134 F_30)), (q_33, .inl (cy_43, 6000, .inl (fun _ => 0))), (q_34, .inl (cy_44, 6000, .inl (fun _ => 0))), (q_32, .inl (cy_45, 6600, .inl (fun _ => 0))), (q_35, .inl (cy_40, 6002, .inl (fun _ => 0))), (q_36, .inl (cy_41, 6002, .inl (fun _ => 0))), (q_37, .inl (cy_42, 6002, .inl (fun _ => 0))), (q_38, .inr (14, [.null, .null, .null, .null, .null, .int 0]))]) [3, 9, 10, 11, 6, 7, 8, 4] (by decide) rfl
  have hKc := hK.sub (tys' := [(cy_43, .int), (cy_44, .int), (cy_45, .byte), (cy_40, .int), (cy_41, .int), (cy_42, .int)]) [7, 8, 9, 4, 5, 6] rfl
  have hFc := va_free (wc := [(q_29, .inr (15, fl 134 F_30)), (q_33, .inl (cy_43, 6000, .inl (fun _ => 0))), (q_34, .inl (cy_44, 6000, .inl (fun _ => 0))), (q_32, .inl (cy_45, 6600, .inl (fun _ => 0))), (q_35, .inl (cy_40, 6002, .inl (fun _ => 0))), (q_36, .inl (cy_41, 6002, .inl (fun _ => 0))), (q_37, .inl (cy_42, 6002, .inl (fun _ => 0))), (q_38, .inr (14, [.null, .null, .null, .null, .null, .int 0]))]) hD hS hA [3, 9, 10, 11, 6, 7, 8, 4] rfl
  refine va_calli (vx_runVW (As := []) (rest := [.int 18]) ⟨hx, hb, hml, hown, hts⟩ (cm_read l dC dI q_29 F_30 q_33 q_34 q_32 cy_43 cy_44 cy_45 (fun _ => 0) (fun _ => 0) (fun _ => 0) q_35 q_36 q_37 cy_40 cy_41 cy_42 (fun _ => 0) (fun _ => 0) (fun _ => 0) q_38 q v kwF H.size hq3 hq1 hq13 hq14 hq15 hq9 hq10 hq11) (vx_cwVW 0 hts gl_cm_read_38 rfl rfl rfl (by decide +kernel) ⟨(Nat.le_of_ble_eq_true rfl), (Nat.le_of_ble_eq_true rfl)⟩) ⟨fun a U g mk q => by obtain ⟨q0, q1, qP, qK, qD, qN0, qN1, qN2, qN3, qN4⟩ := q; exact ⟨q0, q1, qP, va_K.moved (u := U) (U := U.calling g mk a) (Vm.Alike.refl U.vm) qK, qD, vk_R.same (u := U) (U := U.calling g mk a) rfl qN0, ks.moved (u := U) (U := U.calling g mk a) (Vm.Alike.refl U.vm) qN1, va_Z.moved (u := U) (U := U.calling g mk a) (Vm.Alike.refl U.vm) qN2, va_Zq.moved (u := U) (U := U.calling g mk a) (Vm.Alike.refl U.vm) qN3, va_Nw.same (u := U) rfl rfl qN4⟩, va_recv hKc hPc (ci := 15) (q0 := 0) rfl rfl, fun U hU hW => ⟨rfl, by rw [hU], by rw [hU]; exact hPc, va_K.moved hW.alike hKc, hDc.weaken (fun _ _ _ _ => trivial), vk_R.warm hW hN0, (by rw [hU]; exact ks.moved hW.alike ((hN1.kept (fun a h1 h2 => hS.2.1 a h1 h2)).narrow hFc)), (by rw [hU]; exact va_Z.moved hW.alike ((hN2.kept (fun a h1 h2 => hS.2.1 a h1 h2)).narrow hFc)), (by rw [hU]; exact va_Zq.moved hW.alike ((hN3.kept (fun a h1 h2 => hS.2.1 a h1 h2)).narrow hFc)), va_Nw.warmC hW hN4⟩⟩ rfl rfl hl.1 rfl (lv_room (Nat.le_of_ble_eq_true rfl)) dL_law_219 ⟨(Nat.le_of_ble_eq_true rfl), (Nat.le_of_ble_eq_true rfl)⟩) hS (fun q _ h => hFc q h) hFc (fun r9 u t H1 locs ht hvm hw hB hz1 hk1 hS => ?_)
  obtain ⟨hP1, hK1, hD1⟩ := hB
  rw [ht] at hP1
  have hK1 := va_K.moved hvm.symm hK1
  obtain ⟨hP, hD⟩ := va_join (wr := [(q_10, .inl (cy_17, 3001, .inl (fun _ => 0))), (q_11, .inl (cy_18, 3001, .inl (fun _ => 0))), (q_12, .inl (cy_19, 3001, .inl (fun _ => 0))), (q_31, .inl (cy_39, 6000, .inl (fun _ => 0)))]) (w1 := []) hP hD [3, 9, 10, 11, 6, 7, 8, 4] [0, 1, 2, 5] rfl rfl (by decide) (by decide) hk1 hFc hP1 hD1
  have hK := (hK.sub (tys' := [(cy_17, .int), (cy_18, .int), (cy_19, .int), (cy_39, .byte)]) [0, 1, 2, 3] rfl).app hK1
  generalize H1 = H at hP hS ⊢
  have hK : va_K (dC, dI) vwCl [(cy_17, .int), (cy_18, .int), (cy_19, .int), (cy_39, .byte)] s := hK
  have hP : va_P (dC, dI) vwCl [(q_10, .inl (cy_17, 3001, .inl (fun _ => 0))), (q_11, .inl (cy_18, 3001, .inl (fun _ => 0))), (q_12, .inl (cy_19, 3001, .inl (fun _ => 0))), (q_31, .inl (cy_39, 6000, .inl (fun _ => 0)))] H := hP
  have hD : va_D A [(q_10, .inl (cy_17, 3001, .inl (fun _ => 0))), (q_11, .inl (cy_18, 3001, .inl (fun _ => 0))), (q_12, .inl (cy_19, 3001, .inl (fun _ => 0))), (q_31, .inl (cy_39, 6000, .inl (fun _ => 0)))] := hD
  refine W.widen (k := 107) (n := 720217) (Nat.le_of_ble_eq_true rfl) (Nat.le_of_ble_eq_true rfl) ?_
  obtain rfl : r9 = 18 := hw
  refine lv_icmp_eq (tgt := 665) hx hb dL_law_222 (by decide) (fun c9 => ?_) (fun c9 => absurd (by decide) c9)
  clear c9
  refine lv_iinc (v := 6) (lv' := [(4, .int 6), (3, .ref q_58), (2, .ref q_29), (1, .ref q_1), (0, .ref b)]) hx hb dL_law_665 hl (k := 0) rfl (by decide) (by decide) rfl (fun ls hl => ?_)
  refine lv_goto (tgt := 23) hx hb dL_law_668 (by decide) ?_
  refine lv_iload hx hb dL_law_23 (lv_at hl 0 rfl) ?_
  refine lv_aload_n hx hb dL_law_25 rfl (lv_at hl 4 rfl) ?_
  refine va_slen hx hb hX hbl hbA hS dL_law_26 ?_
  refine lv_topi (fun y9 e9 => ?_)
  have e9 : y9 = 6 := e9
  subst e9
  refine lv_bipush (v := 6) hx hb dL_law_27 (by decide) ?_
  refine lv_isub hx hb dL_law_29 ?_
  refine lv_topi (fun y9 e9 => ?_)
  have e9 : y9 = 0 := by rw [e9]; decide
  subst e9
  refine lv_icmp_gt (tgt := 671) hx hb dL_law_30 (by decide) (fun c9 => ?_) (fun c9 => absurd (by decide) c9)
  clear c9
  refine lv_iconst (v := 1) hx hb dL_law_671 (by decide) ?_
  refine va_forget (fun q hq => hAA q.base (hS.2.2 q hq)) ?_
  refine W.widen (k := 600002) (n := 7302232) (Nat.le_of_ble_eq_true rfl) (Nat.le_of_ble_eq_true rfl) ?_
  exact lw_ret hx hb hr hlocks dL_law_672
set_option maxHeartbeats 4000000 in
set_option maxRecDepth 100000 in
theorem law_case_4 {p : Program} {e : Env} {s : State} {m : MethodId} {below : List Frame} {meth : Method} {c : Code} (l : Launch) (hfl : l.flags = flags0) {b : Nat} {xs : Nat → Int32} (C0 : lw_At p s m meth c b 6 xs) (dC : Nat → ClassId) (dI : Nat → Nat → Nat) (A : Nat → Prop) (hA : ∀ q : Nat, s.heap.size ≤ q → A q) (hAa : ∀ q : Nat, q < s.heap.size → ¬ A q) (hAA : ∀ q : Nat, A q → s.heap.size ≤ q) (q_1 : Nat) (q_2 : Nat) (q_3 : Nat) (q_4 : Nat) (cy_5 : ClassId) (q_6 : Nat) (q_7 : Nat) (q_8 : Nat) (q_9 : Nat) (q_10 : Nat) (q_11 : Nat) (q_12 : Nat) (cy_13 : ClassId) (cy_14 : ClassId) (cy_15 : ClassId) (cy_16 : ClassId) (cy_17 : ClassId) (cy_18 : ClassId) (cy_19 : ClassId) (q_20 : Nat) (q_21 : Nat) (q_22 : Nat) (q_23 : Nat) (q_24 : Nat) (q_25 : Nat) (q_26 : Nat) (q_27 : Nat) (q_28 : Nat) (q_29 : Nat) (F_30 : Nat → Value) (q_31 : Nat) (q_32 : Nat) (q_33 : Nat) (q_34 : Nat) (q_35 : Nat) (q_36 : Nat) (q_37 : Nat) (q_38 : Nat) (cy_39 : ClassId) (cy_40 : ClassId) (cy_41 : ClassId) (cy_42 : ClassId) (cy_43 : ClassId) (cy_44 : ClassId) (cy_45 : ClassId) (q_58 : Nat) (hq0 : F_30 0 = .int 0) (hq1 : F_30 1 = .ref q_38) (hq2 : F_30 2 = .ref q_31) (hq3 : F_30 3 = .int 0) (hq9 : F_30 9 = .ref q_35) (hq10 : F_30 10 = .ref q_36) (hq11 : F_30 11 = .ref q_37) (hq13 : F_30 13 = .ref q_33) (hq14 : F_30 14 = .ref q_34) (hq15 : F_30 15 = .ref q_32) (hq98 : F_30 98 = .int 0) (hq100 : F_30 100 = .int 0) (H : Heap) (locs : List Loc) (ls : Array Slot) (hK : va_K (dC, dI) vwCl [(cy_5, .byte), (cy_13, .int), (cy_14, .int), (cy_15, .int), (cy_16, .int), (cy_17, .int), (cy_18, .int), (cy_19, .int), (cy_39, .byte), (cy_40, .int), (cy_41, .int), (cy_42, .int), (cy_43, .int), (cy_44, .int), (cy_45, .byte)] s) (hP : va_P (dC, dI) vwCl [(q_1, .inr (13, [.ref q_2, .int 0, .ref q_3, .ref q_4, .null])), (q_2, .inl (cy_5, 6000, .inl (fun _ => 0))), (q_3, .inr (9, [.ref q_6, .ref q_7, .ref q_8, .int 0, .null, .int 0, .int 0, .int 0, .ref q_9, .ref q_10, .ref q_11, .ref q_12, .int 0])), (q_6, .inl (cy_13, 6001, .inl (fun _ => 0))), (q_7, .inl (cy_14, 6001, .inl (fun _ => 0))), (q_8, .inl (cy_15, 6001, .inl (fun _ => 0))), (q_9, .inl (cy_16, 256, .inl (fun _ => 0))), (q_10, .inl (cy_17, 3001, .inl (fun _ => 0))), (q_11, .inl (cy_18, 3001, .inl (fun _ => 0))), (q_12, .inl (cy_19, 3001, .inl (fun _ => 0))), (q_4, .inr (4, [.null, .ref q_20, .ref q_21, .ref q_22, .ref q_23, .ref q_24, .int 0, .ref q_25, .int 0, .int 0, .int 0, .ref q_26, .int 0, .ref q_27, .int 0, .ref q_28, .null, .int 0, .int 0])), (q_29, .inr (15, fl 134 F_30)), (q_38, .inr (14, [.null, .null, .null, .null, .null, .int 0])), (q_31, .inl (cy_39, 6000, .inl (fun _ => 0))), (q_35, .inl (cy_40, 6002, .inl (fun _ => 0))), (q_36, .inl (cy_41, 6002, .inl (fun _ => 0))), (q_37, .inl (cy_42, 6002, .inl (fun _ => 0))), (q_33, .inl (cy_43, 6000, .inl (fun _ => 0))), (q_34, .inl (cy_44, 6000, .inl (fun _ => 0))), (q_32, .inl (cy_45, 6600, .inl (fun _ => 0)))] H) (hD : va_D A [(q_1, .inr (13, [.ref q_2, .int 0, .ref q_3, .ref q_4, .null])), (q_2, .inl (cy_5, 6000, .inl (fun _ => 0))), (q_3, .inr (9, [.ref q_6, .ref q_7, .ref q_8, .int 0, .null, .int 0, .int 0, .int 0, .ref q_9, .ref q_10, .ref q_11, .ref q_12, .int 0])), (q_6, .inl (cy_13, 6001, .inl (fun _ => 0))), (q_7, .inl (cy_14, 6001, .inl (fun _ => 0))), (q_8, .inl (cy_15, 6001, .inl (fun _ => 0))), (q_9, .inl (cy_16, 256, .inl (fun _ => 0))), (q_10, .inl (cy_17, 3001, .inl (fun _ => 0))), (q_11, .inl (cy_18, 3001, .inl (fun _ => 0))), (q_12, .inl (cy_19, 3001, .inl (fun _ => 0))), (q_4, .inr (4, [.null, .ref q_20, .ref q_21, .ref q_22, .ref q_23, .ref q_24, .int 0, .ref q_25, .int 0, .int 0, .int 0, .ref q_26, .int 0, .ref q_27, .int 0, .ref q_28, .null, .int 0, .int 0])), (q_29, .inr (15, fl 134 F_30)), (q_38, .inr (14, [.null, .null, .null, .null, .null, .int 0])), (q_31, .inl (cy_39, 6000, .inl (fun _ => 0))), (q_35, .inl (cy_40, 6002, .inl (fun _ => 0))), (q_36, .inl (cy_41, 6002, .inl (fun _ => 0))), (q_37, .inl (cy_42, 6002, .inl (fun _ => 0))), (q_33, .inl (cy_43, 6000, .inl (fun _ => 0))), (q_34, .inl (cy_44, 6000, .inl (fun _ => 0))), (q_32, .inl (cy_45, 6600, .inl (fun _ => 0)))]) (hS : va_S A s.heap H locs) (hl : lv_has ls 7 [(4, .int 0), (3, .ref q_58), (2, .ref q_29), (1, .ref q_1), (0, .ref b)]) : W p l e room_1 s m #[Value.ref b] below meth c H locs 100 719914 (lw_Z below #[Value.ref b] s) (F0 m 252 ls []) := by
  obtain ⟨hx, hb, hr, hml, hown, htsT, hX, hbl, hlocks, hgv⟩ := id C0
  have hown : s.vm.findClass RL = some m.cls := hown
  have hts : ∀ w ∈ ws_law, w.before #[Value.ref b] s = true := fun w h => htsT w (in_law w h)
  have hg := flat_of_before _ hgv
  have hbA : ¬ A b := hAa b hbl
  have hflags : l.stackTraces = false := by unfold Launch.stackTraces; rw [hfl]; decide
  refine lv_aload_n hx hb dL_law_252 rfl (lv_at hl 3 rfl) ?_
  refine lv_aload_n hx hb dL_law_253 rfl (lv_at hl 4 rfl) ?_
  refine lv_iload hx hb dL_law_254 (lv_at hl 0 rfl) ?_
  refine lv_iconst (v := 1) hx hb dL_law_256 (by decide) ?_
  refine lv_iadd hx hb dL_law_257 ?_
  refine lv_topi (fun y9 e9 => ?_)
  have e9 : y9 = 1 := by rw [e9]; decide
  subst e9
  refine va_sld hx hb hX hbl hbA hS (i := 1) (by unfold vp_in; decide) dL_law_258 ?_
  refine lv_topi (fun x_1001 ex_1001 => ?_)
  have ex_1001 : x_1001 = xs 1 := ex_1001
  subst ex_1001
  refine lv_aload_n hx hb dL_law_259 rfl (lv_at hl 4 rfl) ?_
  refine lv_iload hx hb dL_law_260 (lv_at hl 0 rfl) ?_
  refine lv_iconst (v := 2) hx hb dL_law_262 (by decide) ?_
  refine lv_iadd hx hb dL_law_263 ?_
  refine lv_topi (fun y9 e9 => ?_)
  have e9 : y9 = 2 := by rw [e9]; decide
  subst e9
  refine va_sld hx hb hX hbl hbA hS (i := 2) (by unfold vp_in; decide) dL_law_264 ?_
  refine lv_topi (fun x_1002 ex_1002 => ?_)
  have ex_1002 : x_1002 = xs 2 := ex_1002
  subst ex_1002
  have hPc := hP.sub (ws' := [(q_1, .inr (13, [.ref q_2, .int 0, .ref q_3, .ref q_4, .null]))]) [0] rfl
  have hDc := hD.sub (ws' := [(q_1, .inr (13, [.ref q_2, .int 0, .ref q_3, .ref q_4, .null]))]) [0] (by decide) rfl
  have hKc := hK.sub (tys' := []) [] rfl
  have hFc := va_free (wc := [(q_1, .inr (13, [.ref q_2, .int 0, .ref q_3, .ref q_4, .null]))]) hD hS hA [0] rfl
  refine va_calli (va_runV (As := [.int (xs 1), .int (xs 2)]) (rest := []) ⟨hx, hb, hml, hown, hts⟩ (cc_alike l dC dI q_1 q_2 q_3 q_4 (xs 1) (xs 2) H.size) (cwV 2 hts gl_cc_alike_43 rfl rfl rfl (by decide +kernel) ⟨(Nat.le_of_ble_eq_true rfl), (Nat.le_of_ble_eq_true rfl)⟩) ⟨fun a U g mk q => by obtain ⟨q0, q1, qP, qK, qD⟩ := q; exact ⟨q0, q1, qP, va_K.moved (u := U) (U := U.calling g mk a) (Vm.Alike.refl U.vm) qK, qD⟩, va_recv hKc hPc (ci := 13) (q0 := 0) rfl rfl, fun U hU hW => ⟨rfl, by rw [hU], by rw [hU]; exact hPc, va_K.moved hW.alike hKc, hDc.weaken (fun _ _ _ _ => trivial)⟩⟩ rfl rfl hl.1 rfl (lv_room (Nat.le_of_ble_eq_true rfl)) dL_law_265 ⟨(Nat.le_of_ble_eq_true rfl), (Nat.le_of_ble_eq_true rfl)⟩) hS (fun q _ h => hFc q h) hFc (fun r9 u t H1 locs ht hvm hw hB hz1 hk1 hS => ?_)
  obtain ⟨hP1, hK1, hD1⟩ := hB
  rw [ht] at hP1
  have hK1 := va_K.moved hvm.symm hK1
  obtain ⟨hP, hD⟩ := va_join (wr := [(q_2, .inl (cy_5, 6000, .inl (fun _ => 0))), (q_3, .inr (9, [.ref q_6, .ref q_7, .ref q_8, .int 0, .null, .int 0, .int 0, .int 0, .ref q_9, .ref q_10, .ref q_11, .ref q_12, .int 0])), (q_6, .inl (cy_13, 6001, .inl (fun _ => 0))), (q_7, .inl (cy_14, 6001, .inl (fun _ => 0))), (q_8, .inl (cy_15, 6001, .inl (fun _ => 0))), (q_9, .inl (cy_16, 256, .inl (fun _ => 0))), (q_10, .inl (cy_17, 3001, .inl (fun _ => 0))), (q_11, .inl (cy_18, 3001, .inl (fun _ => 0))), (q_12, .inl (cy_19, 3001, .inl (fun _ => 0))), (q_4, .inr (4, [.null, .ref q_20, .ref q_21, .ref q_22, .ref q_23, .ref q_24, .int 0, .ref q_25, .int 0, .int 0, .int 0, .ref q_26, .int 0, .ref q_27, .int 0, .ref q_28, .null, .int 0, .int 0])), (q_29, .inr (15, fl 134 F_30)), (q_38, .inr (14, [.null, .null, .null, .null, .null, .int 0])), (q_31, .inl (cy_39, 6000, .inl (fun _ => 0))), (q_35, .inl (cy_40, 6002, .inl (fun _ => 0))), (q_36, .inl (cy_41, 6002, .inl (fun _ => 0))), (q_37, .inl (cy_42, 6002, .inl (fun _ => 0))), (q_33, .inl (cy_43, 6000, .inl (fun _ => 0))), (q_34, .inl (cy_44, 6000, .inl (fun _ => 0))), (q_32, .inl (cy_45, 6600, .inl (fun _ => 0)))]) (w1 := []) hP hD [0] [1, 2, 3, 4, 5, 6, 7, 8, 9, 10, 11, 12, 13, 14, 15, 16, 17, 18, 19] rfl rfl (by decide) (by decide) hk1 hFc hP1 hD1
  have hK := (hK.sub (tys' := [(cy_5, .byte), (cy_13, .int), (cy_14, .int), (cy_15, .int), (cy_16, .int), (cy_17, .int), (cy_18, .int), (cy_19, .int), (cy_39, .byte), (cy_40, .int), (cy_41, .int), (cy_42, .int), (cy_43, .int), (cy_44, .int), (cy_45, .byte)]) [0, 1, 2, 3, 4, 5, 6, 7, 8, 9, 10, 11, 12, 13, 14] rfl).app hK1
  generalize H1 = H at hP hS ⊢
  have hK : va_K (dC, dI) vwCl [(cy_5, .byte), (cy_13, .int), (cy_14, .int), (cy_15, .int), (cy_16, .int), (cy_17, .int), (cy_18, .int), (cy_19, .int), (cy_39, .byte), (cy_40, .int), (cy_41, .int), (cy_42, .int), (cy_43, .int), (cy_44, .int), (cy_45, .byte)] s := hK
  have hP : va_P (dC, dI) vwCl [(q_2, .inl (cy_5, 6000, .inl (fun _ => 0))), (q_3, .inr (9, [.ref q_6, .ref q_7, .ref q_8, .int 0, .null, .int 0, .int 0, .int 0, .ref q_9, .ref q_10, .ref q_11, .ref q_12, .int 0])), (q_6, .inl (cy_13, 6001, .inl (fun _ => 0))), (q_7, .inl (cy_14, 6001, .inl (fun _ => 0))), (q_8, .inl (cy_15, 6001, .inl (fun _ => 0))), (q_9, .inl (cy_16, 256, .inl (fun _ => 0))), (q_10, .inl (cy_17, 3001, .inl (fun _ => 0))), (q_11, .inl (cy_18, 3001, .inl (fun _ => 0))), (q_12, .inl (cy_19, 3001, .inl (fun _ => 0))), (q_4, .inr (4, [.null, .ref q_20, .ref q_21, .ref q_22, .ref q_23, .ref q_24, .int 0, .ref q_25, .int 0, .int 0, .int 0, .ref q_26, .int 0, .ref q_27, .int 0, .ref q_28, .null, .int 0, .int 0])), (q_29, .inr (15, fl 134 F_30)), (q_38, .inr (14, [.null, .null, .null, .null, .null, .int 0])), (q_31, .inl (cy_39, 6000, .inl (fun _ => 0))), (q_35, .inl (cy_40, 6002, .inl (fun _ => 0))), (q_36, .inl (cy_41, 6002, .inl (fun _ => 0))), (q_37, .inl (cy_42, 6002, .inl (fun _ => 0))), (q_33, .inl (cy_43, 6000, .inl (fun _ => 0))), (q_34, .inl (cy_44, 6000, .inl (fun _ => 0))), (q_32, .inl (cy_45, 6600, .inl (fun _ => 0)))] H := hP
  have hD : va_D A [(q_2, .inl (cy_5, 6000, .inl (fun _ => 0))), (q_3, .inr (9, [.ref q_6, .ref q_7, .ref q_8, .int 0, .null, .int 0, .int 0, .int 0, .ref q_9, .ref q_10, .ref q_11, .ref q_12, .int 0])), (q_6, .inl (cy_13, 6001, .inl (fun _ => 0))), (q_7, .inl (cy_14, 6001, .inl (fun _ => 0))), (q_8, .inl (cy_15, 6001, .inl (fun _ => 0))), (q_9, .inl (cy_16, 256, .inl (fun _ => 0))), (q_10, .inl (cy_17, 3001, .inl (fun _ => 0))), (q_11, .inl (cy_18, 3001, .inl (fun _ => 0))), (q_12, .inl (cy_19, 3001, .inl (fun _ => 0))), (q_4, .inr (4, [.null, .ref q_20, .ref q_21, .ref q_22, .ref q_23, .ref q_24, .int 0, .ref q_25, .int 0, .int 0, .int 0, .ref q_26, .int 0, .ref q_27, .int 0, .ref q_28, .null, .int 0, .int 0])), (q_29, .inr (15, fl 134 F_30)), (q_38, .inr (14, [.null, .null, .null, .null, .null, .int 0])), (q_31, .inl (cy_39, 6000, .inl (fun _ => 0))), (q_35, .inl (cy_40, 6002, .inl (fun _ => 0))), (q_36, .inl (cy_41, 6002, .inl (fun _ => 0))), (q_37, .inl (cy_42, 6002, .inl (fun _ => 0))), (q_33, .inl (cy_43, 6000, .inl (fun _ => 0))), (q_34, .inl (cy_44, 6000, .inl (fun _ => 0))), (q_32, .inl (cy_45, 6600, .inl (fun _ => 0)))] := hD
  refine W.widen (k := 100) (n := 719914) (Nat.le_of_ble_eq_true rfl) (Nat.le_of_ble_eq_true rfl) ?_
  obtain rfl : r9 = ((-1)) := hw
  refine lv_aload_n hx hb dL_law_268 rfl (lv_at hl 2 rfl) ?_
  refine lv_aload_n hx hb dL_law_269 rfl (lv_at hl 4 rfl) ?_
  refine lv_iload hx hb dL_law_270 (lv_at hl 0 rfl) ?_
  refine lv_iconst (v := 1) hx hb dL_law_272 (by decide) ?_
  refine lv_iadd hx hb dL_law_273 ?_
  refine lv_topi (fun y9 e9 => ?_)
  have e9 : y9 = 1 := by rw [e9]; decide
  subst e9
  refine va_sld hx hb hX hbl hbA hS (i := 1) (by unfold vp_in; decide) dL_law_274 ?_
  refine lv_topi (fun x_1003 ex_1003 => ?_)
  have ex_1003 : x_1003 = xs 1 := ex_1003
  subst ex_1003
  refine lv_aload_n hx hb dL_law_275 rfl (lv_at hl 4 rfl) ?_
  refine lv_iload hx hb dL_law_276 (lv_at hl 0 rfl) ?_
  refine lv_iconst (v := 2) hx hb dL_law_278 (by decide) ?_
  refine lv_iadd hx hb dL_law_279 ?_
  refine lv_topi (fun y9 e9 => ?_)
  have e9 : y9 = 2 := by rw [e9]; decide
  subst e9
  refine va_sld hx hb hX hbl hbA hS (i := 2) (by unfold vp_in; decide) dL_law_280 ?_
  refine lv_topi (fun x_1004 ex_1004 => ?_)
  have ex_1004 : x_1004 = xs 2 := ex_1004
  subst ex_1004
  have hPc := hP.sub (ws' := [(q_29, .inr (15, fl 134 F_30))]) [10] rfl
  have hDc := hD.sub (ws' := [(q_29, .inr (15, fl 134 F_30))]) [10] (by decide) rfl
  have hKc := hK.sub (tys' := []) [] rfl
  have hFc := va_free (wc := [(q_29, .inr (15, fl 134 F_30))]) hD hS hA [10] rfl
  refine va_calli (va_runV (As := [.int (xs 1), .int (xs 2)]) (rest := [.int ((-1))]) ⟨hx, hb, hml, hown, hts⟩ (cm_alike l dC dI q_29 F_30 (xs 1) (xs 2) H.size hq98) (cwV 2 hts gl_cm_alike_47 rfl rfl rfl (by decide +kernel) ⟨(Nat.le_of_ble_eq_true rfl), (Nat.le_of_ble_eq_true rfl)⟩) ⟨fun a U g mk q => by obtain ⟨q0, q1, qP, qK, qD⟩ := q; exact ⟨q0, q1, qP, va_K.moved (u := U) (U := U.calling g mk a) (Vm.Alike.refl U.vm) qK, qD⟩, va_recv hKc hPc (ci := 15) (q0 := 0) rfl rfl, fun U hU hW => ⟨rfl, by rw [hU], by rw [hU]; exact hPc, va_K.moved hW.alike hKc, hDc.weaken (fun _ _ _ _ => trivial)⟩⟩ rfl rfl hl.1 rfl (lv_room (Nat.le_of_ble_eq_true rfl)) dL_law_281 ⟨(Nat.le_of_ble_eq_true rfl), (Nat.le_of_ble_eq_true rfl)⟩) hS (fun q _ h => hFc q h) hFc (fun r9 u t H1 locs ht hvm hw hB hz1 hk1 hS => ?_)
  obtain ⟨hP1, hK1, hD1⟩ := hB
  rw [ht] at hP1
  have hK1 := va_K.moved hvm.symm hK1
  obtain ⟨hP, hD⟩ := va_join (wr := [(q_2, .inl (cy_5, 6000, .inl (fun _ => 0))), (q_3, .inr (9, [.ref q_6, .ref q_7, .ref q_8, .int 0, .null, .int 0, .int 0, .int 0, .ref q_9, .ref q_10, .ref q_11, .ref q_12, .int 0])), (q_6, .inl (cy_13, 6001, .inl (fun _ => 0))), (q_7, .inl (cy_14, 6001, .inl (fun _ => 0))), (q_8, .inl (cy_15, 6001, .inl (fun _ => 0))), (q_9, .inl (cy_16, 256, .inl (fun _ => 0))), (q_10, .inl (cy_17, 3001, .inl (fun _ => 0))), (q_11, .inl (cy_18, 3001, .inl (fun _ => 0))), (q_12, .inl (cy_19, 3001, .inl (fun _ => 0))), (q_4, .inr (4, [.null, .ref q_20, .ref q_21, .ref q_22, .ref q_23, .ref q_24, .int 0, .ref q_25, .int 0, .int 0, .int 0, .ref q_26, .int 0, .ref q_27, .int 0, .ref q_28, .null, .int 0, .int 0])), (q_38, .inr (14, [.null, .null, .null, .null, .null, .int 0])), (q_31, .inl (cy_39, 6000, .inl (fun _ => 0))), (q_35, .inl (cy_40, 6002, .inl (fun _ => 0))), (q_36, .inl (cy_41, 6002, .inl (fun _ => 0))), (q_37, .inl (cy_42, 6002, .inl (fun _ => 0))), (q_33, .inl (cy_43, 6000, .inl (fun _ => 0))), (q_34, .inl (cy_44, 6000, .inl (fun _ => 0))), (q_32, .inl (cy_45, 6600, .inl (fun _ => 0)))]) (w1 := []) hP hD [10] [0, 1, 2, 3, 4, 5, 6, 7, 8, 9, 11, 12, 13, 14, 15, 16, 17, 18] rfl rfl (by decide) (by decide) hk1 hFc hP1 hD1
  have hK := (hK.sub (tys' := [(cy_5, .byte), (cy_13, .int), (cy_14, .int), (cy_15, .int), (cy_16, .int), (cy_17, .int), (cy_18, .int), (cy_19, .int), (cy_39, .byte), (cy_40, .int), (cy_41, .int), (cy_42, .int), (cy_43, .int), (cy_44, .int), (cy_45, .byte)]) [0, 1, 2, 3, 4, 5, 6, 7, 8, 9, 10, 11, 12, 13, 14] rfl).app hK1
  generalize H1 = H at hP hS ⊢
  have hK : va_K (dC, dI) vwCl [(cy_5, .byte), (cy_13, .int), (cy_14, .int), (cy_15, .int), (cy_16, .int), (cy_17, .int), (cy_18, .int), (cy_19, .int), (cy_39, .byte), (cy_40, .int), (cy_41, .int), (cy_42, .int), (cy_43, .int), (cy_44, .int), (cy_45, .byte)] s := hK
  have hP : va_P (dC, dI) vwCl [(q_2, .inl (cy_5, 6000, .inl (fun _ => 0))), (q_3, .inr (9, [.ref q_6, .ref q_7, .ref q_8, .int 0, .null, .int 0, .int 0, .int 0, .ref q_9, .ref q_10, .ref q_11, .ref q_12, .int 0])), (q_6, .inl (cy_13, 6001, .inl (fun _ => 0))), (q_7, .inl (cy_14, 6001, .inl (fun _ => 0))), (q_8, .inl (cy_15, 6001, .inl (fun _ => 0))), (q_9, .inl (cy_16, 256, .inl (fun _ => 0))), (q_10, .inl (cy_17, 3001, .inl (fun _ => 0))), (q_11, .inl (cy_18, 3001, .inl (fun _ => 0))), (q_12, .inl (cy_19, 3001, .inl (fun _ => 0))), (q_4, .inr (4, [.null, .ref q_20, .ref q_21, .ref q_22, .ref q_23, .ref q_24, .int 0, .ref q_25, .int 0, .int 0, .int 0, .ref q_26, .int 0, .ref q_27, .int 0, .ref q_28, .null, .int 0, .int 0])), (q_38, .inr (14, [.null, .null, .null, .null, .null, .int 0])), (q_31, .inl (cy_39, 6000, .inl (fun _ => 0))), (q_35, .inl (cy_40, 6002, .inl (fun _ => 0))), (q_36, .inl (cy_41, 6002, .inl (fun _ => 0))), (q_37, .inl (cy_42, 6002, .inl (fun _ => 0))), (q_33, .inl (cy_43, 6000, .inl (fun _ => 0))), (q_34, .inl (cy_44, 6000, .inl (fun _ => 0))), (q_32, .inl (cy_45, 6600, .inl (fun _ => 0)))] H := hP
  have hD : va_D A [(q_2, .inl (cy_5, 6000, .inl (fun _ => 0))), (q_3, .inr (9, [.ref q_6, .ref q_7, .ref q_8, .int 0, .null, .int 0, .int 0, .int 0, .ref q_9, .ref q_10, .ref q_11, .ref q_12, .int 0])), (q_6, .inl (cy_13, 6001, .inl (fun _ => 0))), (q_7, .inl (cy_14, 6001, .inl (fun _ => 0))), (q_8, .inl (cy_15, 6001, .inl (fun _ => 0))), (q_9, .inl (cy_16, 256, .inl (fun _ => 0))), (q_10, .inl (cy_17, 3001, .inl (fun _ => 0))), (q_11, .inl (cy_18, 3001, .inl (fun _ => 0))), (q_12, .inl (cy_19, 3001, .inl (fun _ => 0))), (q_4, .inr (4, [.null, .ref q_20, .ref q_21, .ref q_22, .ref q_23, .ref q_24, .int 0, .ref q_25, .int 0, .int 0, .int 0, .ref q_26, .int 0, .ref q_27, .int 0, .ref q_28, .null, .int 0, .int 0])), (q_38, .inr (14, [.null, .null, .null, .null, .null, .int 0])), (q_31, .inl (cy_39, 6000, .inl (fun _ => 0))), (q_35, .inl (cy_40, 6002, .inl (fun _ => 0))), (q_36, .inl (cy_41, 6002, .inl (fun _ => 0))), (q_37, .inl (cy_42, 6002, .inl (fun _ => 0))), (q_33, .inl (cy_43, 6000, .inl (fun _ => 0))), (q_34, .inl (cy_44, 6000, .inl (fun _ => 0))), (q_32, .inl (cy_45, 6600, .inl (fun _ => 0)))] := hD
  refine W.widen (k := 100) (n := 719914) (Nat.le_of_ble_eq_true rfl) (Nat.le_of_ble_eq_true rfl) ?_
  obtain rfl : r9 = ((-1)) := hw
  refine lv_icmp_eq (tgt := 665) hx hb dL_law_284 (by decide) (fun c9 => ?_) (fun c9 => absurd (by decide) c9)
  clear c9
  refine lv_iinc (v := 6) (lv' := [(4, .int 6), (3, .ref q_58), (2, .ref q_29), (1, .ref q_1), (0, .ref b)]) hx hb dL_law_665 hl (k := 0) rfl (by decide) (by decide) rfl (fun ls hl => ?_)
  refine lv_goto (tgt := 23) hx hb dL_law_668 (by decide) ?_
  refine lv_iload hx hb dL_law_23 (lv_at hl 0 rfl) ?_
  refine lv_aload_n hx hb dL_law_25 rfl (lv_at hl 4 rfl) ?_
  refine va_slen hx hb hX hbl hbA hS dL_law_26 ?_
  refine lv_topi (fun y9 e9 => ?_)
  have e9 : y9 = 6 := e9
  subst e9
  refine lv_bipush (v := 6) hx hb dL_law_27 (by decide) ?_
  refine lv_isub hx hb dL_law_29 ?_
  refine lv_topi (fun y9 e9 => ?_)
  have e9 : y9 = 0 := by rw [e9]; decide
  subst e9
  refine lv_icmp_gt (tgt := 671) hx hb dL_law_30 (by decide) (fun c9 => ?_) (fun c9 => absurd (by decide) c9)
  clear c9
  refine lv_iconst (v := 1) hx hb dL_law_671 (by decide) ?_
  refine va_forget (fun q hq => hAA q.base (hS.2.2 q hq)) ?_
  refine W.widen (k := 600002) (n := 7302232) (Nat.le_of_ble_eq_true rfl) (Nat.le_of_ble_eq_true rfl) ?_
  exact lw_ret hx hb hr hlocks dL_law_672
set_option maxHeartbeats 4000000 in
set_option maxRecDepth 100000 in
theorem law_case_5 {p : Program} {e : Env} {s : State} {m : MethodId} {below : List Frame} {meth : Method} {c : Code} (l : Launch) (hfl : l.flags = flags0) {b : Nat} {xs : Nat → Int32} (C0 : lw_At p s m meth c b 6 xs) (dC : Nat → ClassId) (dI : Nat → Nat → Nat) (A : Nat → Prop) (hA : ∀ q : Nat, s.heap.size ≤ q → A q) (hAa : ∀ q : Nat, q < s.heap.size → ¬ A q) (hAA : ∀ q : Nat, A q → s.heap.size ≤ q) (q_1 : Nat) (q_2 : Nat) (q_3 : Nat) (q_4 : Nat) (cy_5 : ClassId) (q_6 : Nat) (q_7 : Nat) (q_8 : Nat) (q_9 : Nat) (q_10 : Nat) (q_11 : Nat) (q_12 : Nat) (cy_13 : ClassId) (cy_14 : ClassId) (cy_15 : ClassId) (cy_16 : ClassId) (cy_17 : ClassId) (cy_18 : ClassId) (cy_19 : ClassId) (q_20 : Nat) (q_21 : Nat) (q_22 : Nat) (q_23 : Nat) (q_24 : Nat) (q_25 : Nat) (q_26 : Nat) (q_27 : Nat) (q_28 : Nat) (q_29 : Nat) (F_30 : Nat → Value) (q_31 : Nat) (q_32 : Nat) (q_33 : Nat) (q_34 : Nat) (q_35 : Nat) (q_36 : Nat) (q_37 : Nat) (q_38 : Nat) (cy_39 : ClassId) (cy_40 : ClassId) (cy_41 : ClassId) (cy_42 : ClassId) (cy_43 : ClassId) (cy_44 : ClassId) (cy_45 : ClassId) (q_58 : Nat) (hq0 : F_30 0 = .int 0) (hq1 : F_30 1 = .ref q_38) (hq2 : F_30 2 = .ref q_31) (hq3 : F_30 3 = .int 0) (hq9 : F_30 9 = .ref q_35) (hq10 : F_30 10 = .ref q_36) (hq11 : F_30 11 = .ref q_37) (hq13 : F_30 13 = .ref q_33) (hq14 : F_30 14 = .ref q_34) (hq15 : F_30 15 = .ref q_32) (hq98 : F_30 98 = .int 0) (hq100 : F_30 100 = .int 0) (H : Heap) (locs : List Loc) (ls : Array Slot) (hK : va_K (dC, dI) vwCl [(cy_5, .byte), (cy_13, .int), (cy_14, .int), (cy_15, .int), (cy_16, .int), (cy_17, .int), (cy_18, .int), (cy_19, .int), (cy_39, .byte), (cy_40, .int), (cy_41, .int), (cy_42, .int), (cy_43, .int), (cy_44, .int), (cy_45, .byte)] s) (hP : va_P (dC, dI) vwCl [(q_1, .inr (13, [.ref q_2, .int 0, .ref q_3, .ref q_4, .null])), (q_2, .inl (cy_5, 6000, .inl (fun _ => 0))), (q_3, .inr (9, [.ref q_6, .ref q_7, .ref q_8, .int 0, .null, .int 0, .int 0, .int 0, .ref q_9, .ref q_10, .ref q_11, .ref q_12, .int 0])), (q_6, .inl (cy_13, 6001, .inl (fun _ => 0))), (q_7, .inl (cy_14, 6001, .inl (fun _ => 0))), (q_8, .inl (cy_15, 6001, .inl (fun _ => 0))), (q_9, .inl (cy_16, 256, .inl (fun _ => 0))), (q_10, .inl (cy_17, 3001, .inl (fun _ => 0))), (q_11, .inl (cy_18, 3001, .inl (fun _ => 0))), (q_12, .inl (cy_19, 3001, .inl (fun _ => 0))), (q_4, .inr (4, [.null, .ref q_20, .ref q_21, .ref q_22, .ref q_23, .ref q_24, .int 0, .ref q_25, .int 0, .int 0, .int 0, .ref q_26, .int 0, .ref q_27, .int 0, .ref q_28, .null, .int 0, .int 0])), (q_29, .inr (15, fl 134 F_30)), (q_38, .inr (14, [.null, .null, .null, .null, .null, .int 0])), (q_31, .inl (cy_39, 6000, .inl (fun _ => 0))), (q_35, .inl (cy_40, 6002, .inl (fun _ => 0))), (q_36, .inl (cy_41, 6002, .inl (fun _ => 0))), (q_37, .inl (cy_42, 6002, .inl (fun _ => 0))), (q_33, .inl (cy_43, 6000, .inl (fun _ => 0))), (q_34, .inl (cy_44, 6000, .inl (fun _ => 0))), (q_32, .inl (cy_45, 6600, .inl (fun _ => 0)))] H) (hD : va_D A [(q_1, .inr (13, [.ref q_2, .int 0, .ref q_3, .ref q_4, .null])), (q_2, .inl (cy_5, 6000, .inl (fun _ => 0))), (q_3, .inr (9, [.ref q_6, .ref q_7, .ref q_8, .int 0, .null, .int 0, .int 0, .int 0, .ref q_9, .ref q_10, .ref q_11, .ref q_12, .int 0])), (q_6, .inl (cy_13, 6001, .inl (fun _ => 0))), (q_7, .inl (cy_14, 6001, .inl (fun _ => 0))), (q_8, .inl (cy_15, 6001, .inl (fun _ => 0))), (q_9, .inl (cy_16, 256, .inl (fun _ => 0))), (q_10, .inl (cy_17, 3001, .inl (fun _ => 0))), (q_11, .inl (cy_18, 3001, .inl (fun _ => 0))), (q_12, .inl (cy_19, 3001, .inl (fun _ => 0))), (q_4, .inr (4, [.null, .ref q_20, .ref q_21, .ref q_22, .ref q_23, .ref q_24, .int 0, .ref q_25, .int 0, .int 0, .int 0, .ref q_26, .int 0, .ref q_27, .int 0, .ref q_28, .null, .int 0, .int 0])), (q_29, .inr (15, fl 134 F_30)), (q_38, .inr (14, [.null, .null, .null, .null, .null, .int 0])), (q_31, .inl (cy_39, 6000, .inl (fun _ => 0))), (q_35, .inl (cy_40, 6002, .inl (fun _ => 0))), (q_36, .inl (cy_41, 6002, .inl (fun _ => 0))), (q_37, .inl (cy_42, 6002, .inl (fun _ => 0))), (q_33, .inl (cy_43, 6000, .inl (fun _ => 0))), (q_34, .inl (cy_44, 6000, .inl (fun _ => 0))), (q_32, .inl (cy_45, 6600, .inl (fun _ => 0)))]) (hS : va_S A s.heap H locs) (hl : lv_has ls 7 [(4, .int 0), (3, .ref q_58), (2, .ref q_29), (1, .ref q_1), (0, .ref b)]) : W p l e room_1 s m #[Value.ref b] below meth c H locs 100 719914 (lw_Z below #[Value.ref b] s) (F0 m 289 ls []) := by
  obtain ⟨hx, hb, hr, hml, hown, htsT, hX, hbl, hlocks, hgv⟩ := id C0
  have hown : s.vm.findClass RL = some m.cls := hown
  have hts : ∀ w ∈ ws_law, w.before #[Value.ref b] s = true := fun w h => htsT w (in_law w h)
  have hg := flat_of_before _ hgv
  have hbA : ¬ A b := hAa b hbl
  have hflags : l.stackTraces = false := by unfold Launch.stackTraces; rw [hfl]; decide
  refine lv_aload_n hx hb dL_law_289 rfl (lv_at hl 3 rfl) ?_
  refine lv_aload_n hx hb dL_law_290 rfl (lv_at hl 4 rfl) ?_
  refine lv_iload hx hb dL_law_291 (lv_at hl 0 rfl) ?_
  refine lv_iconst (v := 1) hx hb dL_law_293 (by decide) ?_
  refine lv_iadd hx hb dL_law_294 ?_
  refine lv_topi (fun y9 e9 => ?_)
  have e9 : y9 = 1 := by rw [e9]; decide
  subst e9
  refine va_sld hx hb hX hbl hbA hS (i := 1) (by unfold vp_in; decide) dL_law_295 ?_
  refine lv_topi (fun x_1001 ex_1001 => ?_)
  have ex_1001 : x_1001 = xs 1 := ex_1001
  subst ex_1001
  refine lv_aload_n hx hb dL_law_296 rfl (lv_at hl 4 rfl) ?_
  refine lv_iload hx hb dL_law_297 (lv_at hl 0 rfl) ?_
  refine lv_iconst (v := 2) hx hb dL_law_299 (by decide) ?_
  refine lv_iadd hx hb dL_law_300 ?_
  refine lv_topi (fun y9 e9 => ?_)
  have e9 : y9 = 2 := by rw [e9]; decide
  subst e9
  refine va_sld hx hb hX hbl hbA hS (i := 2) (by unfold vp_in; decide) dL_law_301 ?_
  refine lv_topi (fun x_1002 ex_1002 => ?_)
  have ex_1002 : x_1002 = xs 2 := ex_1002
  subst ex_1002
  refine lv_aload_n hx hb dL_law_302 rfl (lv_at hl 4 rfl) ?_
  refine lv_iload hx hb dL_law_303 (lv_at hl 0 rfl) ?_
  refine lv_iconst (v := 3) hx hb dL_law_305 (by decide) ?_
  refine lv_iadd hx hb dL_law_306 ?_
  refine lv_topi (fun y9 e9 => ?_)
  have e9 : y9 = 3 := by rw [e9]; decide
  subst e9
  refine va_sld hx hb hX hbl hbA hS (i := 3) (by unfold vp_in; decide) dL_law_307 ?_
  refine lv_topi (fun x_1003 ex_1003 => ?_)
  have ex_1003 : x_1003 = xs 3 := ex_1003
  subst ex_1003
  have hPc := hP.sub (ws' := [(q_1, .inr (13, [.ref q_2, .int 0, .ref q_3, .ref q_4, .null]))]) [0] rfl
  have hDc := hD.sub (ws' := [(q_1, .inr (13, [.ref q_2, .int 0, .ref q_3, .ref q_4, .null]))]) [0] (by decide) rfl
  have hKc := hK.sub (tys' := []) [] rfl
  have hFc := va_free (wc := [(q_1, .inr (13, [.ref q_2, .int 0, .ref q_3, .ref q_4, .null]))]) hD hS hA [0] rfl
  refine va_calli (va_runV (As := [.int (xs 1), .int (xs 2), .int (xs 3)]) (rest := []) ⟨hx, hb, hml, hown, hts⟩ (cc_below l dC dI q_1 q_2 q_3 q_4 (xs 1) (xs 2) (xs 3) H.size) (cwV 3 hts gl_cc_below_48 rfl rfl rfl (by decide +kernel) ⟨(Nat.le_of_ble_eq_true rfl), (Nat.le_of_ble_eq_true rfl)⟩) ⟨fun a U g mk q => by obtain ⟨q0, q1, qP, qK, qD⟩ := q; exact ⟨q0, q1, qP, va_K.moved (u := U) (U := U.calling g mk a) (Vm.Alike.refl U.vm) qK, qD⟩, va_recv hKc hPc (ci := 13) (q0 := 0) rfl rfl, fun U hU hW => ⟨rfl, by rw [hU], by rw [hU]; exact hPc, va_K.moved hW.alike hKc, hDc.weaken (fun _ _ _ _ => trivial)⟩⟩ rfl rfl hl.1 rfl (lv_room (Nat.le_of_ble_eq_true rfl)) dL_law_308 ⟨(Nat.le_of_ble_eq_true rfl), (Nat.le_of_ble_eq_true rfl)⟩) hS (fun q _ h => hFc q h) hFc (fun r9 u t H1 locs ht hvm hw hB hz1 hk1 hS => ?_)
  obtain ⟨hP1, hK1, hD1⟩ := hB
  rw [ht] at hP1
  have hK1 := va_K.moved hvm.symm hK1
  obtain ⟨hP, hD⟩ := va_join (wr := [(q_2, .inl (cy_5, 6000, .inl (fun _ => 0))), (q_3, .inr (9, [.ref q_6, .ref q_7, .ref q_8, .int 0, .null, .int 0, .int 0, .int 0, .ref q_9, .ref q_10, .ref q_11, .ref q_12, .int 0])), (q_6, .inl (cy_13, 6001, .inl (fun _ => 0))), (q_7, .inl (cy_14, 6001, .inl (fun _ => 0))), (q_8, .inl (cy_15, 6001, .inl (fun _ => 0))), (q_9, .inl (cy_16, 256, .inl (fun _ => 0))), (q_10, .inl (cy_17, 3001, .inl (fun _ => 0))), (q_11, .inl (cy_18, 3001, .inl (fun _ => 0))), (q_12, .inl (cy_19, 3001, .inl (fun _ => 0))), (q_4, .inr (4, [.null, .ref q_20, .ref q_21, .ref q_22, .ref q_23, .ref q_24, .int 0, .ref q_25, .int 0, .int 0, .int 0, .ref q_26, .int 0, .ref q_27, .int 0, .ref q_28, .null, .int 0, .int 0])), (q_29, .inr (15, fl 134 F_30)), (q_38, .inr (14, [.null, .null, .null, .null, .null, .int 0])), (q_31, .inl (cy_39, 6000, .inl (fun _ => 0))), (q_35, .inl (cy_40, 6002, .inl (fun _ => 0))), (q_36, .inl (cy_41, 6002, .inl (fun _ => 0))), (q_37, .inl (cy_42, 6002, .inl (fun _ => 0))), (q_33, .inl (cy_43, 6000, .inl (fun _ => 0))), (q_34, .inl (cy_44, 6000, .inl (fun _ => 0))), (q_32, .inl (cy_45, 6600, .inl (fun _ => 0)))]) (w1 := []) hP hD [0] [1, 2, 3, 4, 5, 6, 7, 8, 9, 10, 11, 12, 13, 14, 15, 16, 17, 18, 19] rfl rfl (by decide) (by decide) hk1 hFc hP1 hD1
  have hK := (hK.sub (tys' := [(cy_5, .byte), (cy_13, .int), (cy_14, .int), (cy_15, .int), (cy_16, .int), (cy_17, .int), (cy_18, .int), (cy_19, .int), (cy_39, .byte), (cy_40, .int), (cy_41, .int), (cy_42, .int), (cy_43, .int), (cy_44, .int), (cy_45, .byte)]) [0, 1, 2, 3, 4, 5, 6, 7, 8, 9, 10, 11, 12, 13, 14] rfl).app hK1
  generalize H1 = H at hP hS ⊢
  have hK : va_K (dC, dI) vwCl [(cy_5, .byte), (cy_13, .int), (cy_14, .int), (cy_15, .int), (cy_16, .int), (cy_17, .int), (cy_18, .int), (cy_19, .int), (cy_39, .byte), (cy_40, .int), (cy_41, .int), (cy_42, .int), (cy_43, .int), (cy_44, .int), (cy_45, .byte)] s := hK
  have hP : va_P (dC, dI) vwCl [(q_2, .inl (cy_5, 6000, .inl (fun _ => 0))), (q_3, .inr (9, [.ref q_6, .ref q_7, .ref q_8, .int 0, .null, .int 0, .int 0, .int 0, .ref q_9, .ref q_10, .ref q_11, .ref q_12, .int 0])), (q_6, .inl (cy_13, 6001, .inl (fun _ => 0))), (q_7, .inl (cy_14, 6001, .inl (fun _ => 0))), (q_8, .inl (cy_15, 6001, .inl (fun _ => 0))), (q_9, .inl (cy_16, 256, .inl (fun _ => 0))), (q_10, .inl (cy_17, 3001, .inl (fun _ => 0))), (q_11, .inl (cy_18, 3001, .inl (fun _ => 0))), (q_12, .inl (cy_19, 3001, .inl (fun _ => 0))), (q_4, .inr (4, [.null, .ref q_20, .ref q_21, .ref q_22, .ref q_23, .ref q_24, .int 0, .ref q_25, .int 0, .int 0, .int 0, .ref q_26, .int 0, .ref q_27, .int 0, .ref q_28, .null, .int 0, .int 0])), (q_29, .inr (15, fl 134 F_30)), (q_38, .inr (14, [.null, .null, .null, .null, .null, .int 0])), (q_31, .inl (cy_39, 6000, .inl (fun _ => 0))), (q_35, .inl (cy_40, 6002, .inl (fun _ => 0))), (q_36, .inl (cy_41, 6002, .inl (fun _ => 0))), (q_37, .inl (cy_42, 6002, .inl (fun _ => 0))), (q_33, .inl (cy_43, 6000, .inl (fun _ => 0))), (q_34, .inl (cy_44, 6000, .inl (fun _ => 0))), (q_32, .inl (cy_45, 6600, .inl (fun _ => 0)))] H := hP
  have hD : va_D A [(q_2, .inl (cy_5, 6000, .inl (fun _ => 0))), (q_3, .inr (9, [.ref q_6, .ref q_7, .ref q_8, .int 0, .null, .int 0, .int 0, .int 0, .ref q_9, .ref q_10, .ref q_11, .ref q_12, .int 0])), (q_6, .inl (cy_13, 6001, .inl (fun _ => 0))), (q_7, .inl (cy_14, 6001, .inl (fun _ => 0))), (q_8, .inl (cy_15, 6001, .inl (fun _ => 0))), (q_9, .inl (cy_16, 256, .inl (fun _ => 0))), (q_10, .inl (cy_17, 3001, .inl (fun _ => 0))), (q_11, .inl (cy_18, 3001, .inl (fun _ => 0))), (q_12, .inl (cy_19, 3001, .inl (fun _ => 0))), (q_4, .inr (4, [.null, .ref q_20, .ref q_21, .ref q_22, .ref q_23, .ref q_24, .int 0, .ref q_25, .int 0, .int 0, .int 0, .ref q_26, .int 0, .ref q_27, .int 0, .ref q_28, .null, .int 0, .int 0])), (q_29, .inr (15, fl 134 F_30)), (q_38, .inr (14, [.null, .null, .null, .null, .null, .int 0])), (q_31, .inl (cy_39, 6000, .inl (fun _ => 0))), (q_35, .inl (cy_40, 6002, .inl (fun _ => 0))), (q_36, .inl (cy_41, 6002, .inl (fun _ => 0))), (q_37, .inl (cy_42, 6002, .inl (fun _ => 0))), (q_33, .inl (cy_43, 6000, .inl (fun _ => 0))), (q_34, .inl (cy_44, 6000, .inl (fun _ => 0))), (q_32, .inl (cy_45, 6600, .inl (fun _ => 0)))] := hD
  refine W.widen (k := 100) (n := 719914) (Nat.le_of_ble_eq_true rfl) (Nat.le_of_ble_eq_true rfl) ?_
  obtain rfl : r9 = ((-1)) := hw
  refine lv_aload_n hx hb dL_law_311 rfl (lv_at hl 2 rfl) ?_
  refine lv_aload_n hx hb dL_law_312 rfl (lv_at hl 4 rfl) ?_
  refine lv_iload hx hb dL_law_313 (lv_at hl 0 rfl) ?_
  refine lv_iconst (v := 1) hx hb dL_law_315 (by decide) ?_
  refine lv_iadd hx hb dL_law_316 ?_
  refine lv_topi (fun y9 e9 => ?_)
  have e9 : y9 = 1 := by rw [e9]; decide
  subst e9
  refine va_sld hx hb hX hbl hbA hS (i := 1) (by unfold vp_in; decide) dL_law_317 ?_
  refine lv_topi (fun x_1004 ex_1004 => ?_)
  have ex_1004 : x_1004 = xs 1 := ex_1004
  subst ex_1004
  refine lv_aload_n hx hb dL_law_318 rfl (lv_at hl 4 rfl) ?_
  refine lv_iload hx hb dL_law_319 (lv_at hl 0 rfl) ?_
  refine lv_iconst (v := 2) hx hb dL_law_321 (by decide) ?_
  refine lv_iadd hx hb dL_law_322 ?_
  refine lv_topi (fun y9 e9 => ?_)
  have e9 : y9 = 2 := by rw [e9]; decide
  subst e9
  refine va_sld hx hb hX hbl hbA hS (i := 2) (by unfold vp_in; decide) dL_law_323 ?_
  refine lv_topi (fun x_1005 ex_1005 => ?_)
  have ex_1005 : x_1005 = xs 2 := ex_1005
  subst ex_1005
  refine lv_aload_n hx hb dL_law_324 rfl (lv_at hl 4 rfl) ?_
  refine lv_iload hx hb dL_law_325 (lv_at hl 0 rfl) ?_
  refine lv_iconst (v := 3) hx hb dL_law_327 (by decide) ?_
  refine lv_iadd hx hb dL_law_328 ?_
  refine lv_topi (fun y9 e9 => ?_)
  have e9 : y9 = 3 := by rw [e9]; decide
  subst e9
  refine va_sld hx hb hX hbl hbA hS (i := 3) (by unfold vp_in; decide) dL_law_329 ?_
  refine lv_topi (fun x_1006 ex_1006 => ?_)
  have ex_1006 : x_1006 = xs 3 := ex_1006
  subst ex_1006
  have hPc := hP.sub (ws' := [(q_29, .inr (15, fl 134 F_30))]) [10] rfl
  have hDc := hD.sub (ws' := [(q_29, .inr (15, fl 134 F_30))]) [10] (by decide) rfl
  have hKc := hK.sub (tys' := []) [] rfl
  have hFc := va_free (wc := [(q_29, .inr (15, fl 134 F_30))]) hD hS hA [10] rfl
  refine va_calli (va_runV (As := [.int (xs 1), .int (xs 2), .int (xs 3)]) (rest := [.int ((-1))]) ⟨hx, hb, hml, hown, hts⟩ (cm_below l dC dI q_29 F_30 (xs 1) (xs 2) (xs 3) H.size hq98) (cwV 3 hts gl_cm_below_52 rfl rfl rfl (by decide +kernel) ⟨(Nat.le_of_ble_eq_true rfl), (Nat.le_of_ble_eq_true rfl)⟩) ⟨fun a U g mk q => by obtain ⟨q0, q1, qP, qK, qD⟩ := q; exact ⟨q0, q1, qP, va_K.moved (u := U) (U := U.calling g mk a) (Vm.Alike.refl U.vm) qK, qD⟩, va_recv hKc hPc (ci := 15) (q0 := 0) rfl rfl, fun U hU hW => ⟨rfl, by rw [hU], by rw [hU]; exact hPc, va_K.moved hW.alike hKc, hDc.weaken (fun _ _ _ _ => trivial)⟩⟩ rfl rfl hl.1 rfl (lv_room (Nat.le_of_ble_eq_true rfl)) dL_law_330 ⟨(Nat.le_of_ble_eq_true rfl), (Nat.le_of_ble_eq_true rfl)⟩) hS (fun q _ h => hFc q h) hFc (fun r9 u t H1 locs ht hvm hw hB hz1 hk1 hS => ?_)
  obtain ⟨hP1, hK1, hD1⟩ := hB
  rw [ht] at hP1
  have hK1 := va_K.moved hvm.symm hK1
  obtain ⟨hP, hD⟩ := va_join (wr := [(q_2, .inl (cy_5, 6000, .inl (fun _ => 0))), (q_3, .inr (9, [.ref q_6, .ref q_7, .ref q_8, .int 0, .null, .int 0, .int 0, .int 0, .ref q_9, .ref q_10, .ref q_11, .ref q_12, .int 0])), (q_6, .inl (cy_13, 6001, .inl (fun _ => 0))), (q_7, .inl (cy_14, 6001, .inl (fun _ => 0))), (q_8, .inl (cy_15, 6001, .inl (fun _ => 0))), (q_9, .inl (cy_16, 256, .inl (fun _ => 0))), (q_10, .inl (cy_17, 3001, .inl (fun _ => 0))), (q_11, .inl (cy_18, 3001, .inl (fun _ => 0))), (q_12, .inl (cy_19, 3001, .inl (fun _ => 0))), (q_4, .inr (4, [.null, .ref q_20, .ref q_21, .ref q_22, .ref q_23, .ref q_24, .int 0, .ref q_25, .int 0, .int 0, .int 0, .ref q_26, .int 0, .ref q_27, .int 0, .ref q_28, .null, .int 0, .int 0])), (q_38, .inr (14, [.null, .null, .null, .null, .null, .int 0])), (q_31, .inl (cy_39, 6000, .inl (fun _ => 0))), (q_35, .inl (cy_40, 6002, .inl (fun _ => 0))), (q_36, .inl (cy_41, 6002, .inl (fun _ => 0))), (q_37, .inl (cy_42, 6002, .inl (fun _ => 0))), (q_33, .inl (cy_43, 6000, .inl (fun _ => 0))), (q_34, .inl (cy_44, 6000, .inl (fun _ => 0))), (q_32, .inl (cy_45, 6600, .inl (fun _ => 0)))]) (w1 := []) hP hD [10] [0, 1, 2, 3, 4, 5, 6, 7, 8, 9, 11, 12, 13, 14, 15, 16, 17, 18] rfl rfl (by decide) (by decide) hk1 hFc hP1 hD1
  have hK := (hK.sub (tys' := [(cy_5, .byte), (cy_13, .int), (cy_14, .int), (cy_15, .int), (cy_16, .int), (cy_17, .int), (cy_18, .int), (cy_19, .int), (cy_39, .byte), (cy_40, .int), (cy_41, .int), (cy_42, .int), (cy_43, .int), (cy_44, .int), (cy_45, .byte)]) [0, 1, 2, 3, 4, 5, 6, 7, 8, 9, 10, 11, 12, 13, 14] rfl).app hK1
  generalize H1 = H at hP hS ⊢
  have hK : va_K (dC, dI) vwCl [(cy_5, .byte), (cy_13, .int), (cy_14, .int), (cy_15, .int), (cy_16, .int), (cy_17, .int), (cy_18, .int), (cy_19, .int), (cy_39, .byte), (cy_40, .int), (cy_41, .int), (cy_42, .int), (cy_43, .int), (cy_44, .int), (cy_45, .byte)] s := hK
  have hP : va_P (dC, dI) vwCl [(q_2, .inl (cy_5, 6000, .inl (fun _ => 0))), (q_3, .inr (9, [.ref q_6, .ref q_7, .ref q_8, .int 0, .null, .int 0, .int 0, .int 0, .ref q_9, .ref q_10, .ref q_11, .ref q_12, .int 0])), (q_6, .inl (cy_13, 6001, .inl (fun _ => 0))), (q_7, .inl (cy_14, 6001, .inl (fun _ => 0))), (q_8, .inl (cy_15, 6001, .inl (fun _ => 0))), (q_9, .inl (cy_16, 256, .inl (fun _ => 0))), (q_10, .inl (cy_17, 3001, .inl (fun _ => 0))), (q_11, .inl (cy_18, 3001, .inl (fun _ => 0))), (q_12, .inl (cy_19, 3001, .inl (fun _ => 0))), (q_4, .inr (4, [.null, .ref q_20, .ref q_21, .ref q_22, .ref q_23, .ref q_24, .int 0, .ref q_25, .int 0, .int 0, .int 0, .ref q_26, .int 0, .ref q_27, .int 0, .ref q_28, .null, .int 0, .int 0])), (q_38, .inr (14, [.null, .null, .null, .null, .null, .int 0])), (q_31, .inl (cy_39, 6000, .inl (fun _ => 0))), (q_35, .inl (cy_40, 6002, .inl (fun _ => 0))), (q_36, .inl (cy_41, 6002, .inl (fun _ => 0))), (q_37, .inl (cy_42, 6002, .inl (fun _ => 0))), (q_33, .inl (cy_43, 6000, .inl (fun _ => 0))), (q_34, .inl (cy_44, 6000, .inl (fun _ => 0))), (q_32, .inl (cy_45, 6600, .inl (fun _ => 0)))] H := hP
  have hD : va_D A [(q_2, .inl (cy_5, 6000, .inl (fun _ => 0))), (q_3, .inr (9, [.ref q_6, .ref q_7, .ref q_8, .int 0, .null, .int 0, .int 0, .int 0, .ref q_9, .ref q_10, .ref q_11, .ref q_12, .int 0])), (q_6, .inl (cy_13, 6001, .inl (fun _ => 0))), (q_7, .inl (cy_14, 6001, .inl (fun _ => 0))), (q_8, .inl (cy_15, 6001, .inl (fun _ => 0))), (q_9, .inl (cy_16, 256, .inl (fun _ => 0))), (q_10, .inl (cy_17, 3001, .inl (fun _ => 0))), (q_11, .inl (cy_18, 3001, .inl (fun _ => 0))), (q_12, .inl (cy_19, 3001, .inl (fun _ => 0))), (q_4, .inr (4, [.null, .ref q_20, .ref q_21, .ref q_22, .ref q_23, .ref q_24, .int 0, .ref q_25, .int 0, .int 0, .int 0, .ref q_26, .int 0, .ref q_27, .int 0, .ref q_28, .null, .int 0, .int 0])), (q_38, .inr (14, [.null, .null, .null, .null, .null, .int 0])), (q_31, .inl (cy_39, 6000, .inl (fun _ => 0))), (q_35, .inl (cy_40, 6002, .inl (fun _ => 0))), (q_36, .inl (cy_41, 6002, .inl (fun _ => 0))), (q_37, .inl (cy_42, 6002, .inl (fun _ => 0))), (q_33, .inl (cy_43, 6000, .inl (fun _ => 0))), (q_34, .inl (cy_44, 6000, .inl (fun _ => 0))), (q_32, .inl (cy_45, 6600, .inl (fun _ => 0)))] := hD
  refine W.widen (k := 100) (n := 719914) (Nat.le_of_ble_eq_true rfl) (Nat.le_of_ble_eq_true rfl) ?_
  obtain rfl : r9 = ((-1)) := hw
  refine lv_icmp_eq (tgt := 665) hx hb dL_law_333 (by decide) (fun c9 => ?_) (fun c9 => absurd (by decide) c9)
  clear c9
  refine lv_iinc (v := 6) (lv' := [(4, .int 6), (3, .ref q_58), (2, .ref q_29), (1, .ref q_1), (0, .ref b)]) hx hb dL_law_665 hl (k := 0) rfl (by decide) (by decide) rfl (fun ls hl => ?_)
  refine lv_goto (tgt := 23) hx hb dL_law_668 (by decide) ?_
  refine lv_iload hx hb dL_law_23 (lv_at hl 0 rfl) ?_
  refine lv_aload_n hx hb dL_law_25 rfl (lv_at hl 4 rfl) ?_
  refine va_slen hx hb hX hbl hbA hS dL_law_26 ?_
  refine lv_topi (fun y9 e9 => ?_)
  have e9 : y9 = 6 := e9
  subst e9
  refine lv_bipush (v := 6) hx hb dL_law_27 (by decide) ?_
  refine lv_isub hx hb dL_law_29 ?_
  refine lv_topi (fun y9 e9 => ?_)
  have e9 : y9 = 0 := by rw [e9]; decide
  subst e9
  refine lv_icmp_gt (tgt := 671) hx hb dL_law_30 (by decide) (fun c9 => ?_) (fun c9 => absurd (by decide) c9)
  clear c9
  refine lv_iconst (v := 1) hx hb dL_law_671 (by decide) ?_
  refine va_forget (fun q hq => hAA q.base (hS.2.2 q hq)) ?_
  refine W.widen (k := 600002) (n := 7302232) (Nat.le_of_ble_eq_true rfl) (Nat.le_of_ble_eq_true rfl) ?_
  exact lw_ret hx hb hr hlocks dL_law_672
set_option maxHeartbeats 4000000 in
set_option maxRecDepth 100000 in
theorem law_case_6 {p : Program} {e : Env} {s : State} {m : MethodId} {below : List Frame} {meth : Method} {c : Code} (l : Launch) (hfl : l.flags = flags0) {b : Nat} {xs : Nat → Int32} (C0 : lw_At p s m meth c b 6 xs) (dC : Nat → ClassId) (dI : Nat → Nat → Nat) (A : Nat → Prop) (hA : ∀ q : Nat, s.heap.size ≤ q → A q) (hAa : ∀ q : Nat, q < s.heap.size → ¬ A q) (hAA : ∀ q : Nat, A q → s.heap.size ≤ q) (q_1 : Nat) (q_2 : Nat) (q_3 : Nat) (q_4 : Nat) (cy_5 : ClassId) (q_6 : Nat) (q_7 : Nat) (q_8 : Nat) (q_9 : Nat) (q_10 : Nat) (q_11 : Nat) (q_12 : Nat) (cy_13 : ClassId) (cy_14 : ClassId) (cy_15 : ClassId) (cy_16 : ClassId) (cy_17 : ClassId) (cy_18 : ClassId) (cy_19 : ClassId) (q_20 : Nat) (q_21 : Nat) (q_22 : Nat) (q_23 : Nat) (q_24 : Nat) (q_25 : Nat) (q_26 : Nat) (q_27 : Nat) (q_28 : Nat) (q_29 : Nat) (F_30 : Nat → Value) (q_31 : Nat) (q_32 : Nat) (q_33 : Nat) (q_34 : Nat) (q_35 : Nat) (q_36 : Nat) (q_37 : Nat) (q_38 : Nat) (cy_39 : ClassId) (cy_40 : ClassId) (cy_41 : ClassId) (cy_42 : ClassId) (cy_43 : ClassId) (cy_44 : ClassId) (cy_45 : ClassId) (q_58 : Nat) (hq0 : F_30 0 = .int 0) (hq1 : F_30 1 = .ref q_38) (hq2 : F_30 2 = .ref q_31) (hq3 : F_30 3 = .int 0) (hq9 : F_30 9 = .ref q_35) (hq10 : F_30 10 = .ref q_36) (hq11 : F_30 11 = .ref q_37) (hq13 : F_30 13 = .ref q_33) (hq14 : F_30 14 = .ref q_34) (hq15 : F_30 15 = .ref q_32) (hq98 : F_30 98 = .int 0) (hq100 : F_30 100 = .int 0) (H : Heap) (locs : List Loc) (ls : Array Slot) (hK : va_K (dC, dI) vwCl [(cy_5, .byte), (cy_13, .int), (cy_14, .int), (cy_15, .int), (cy_16, .int), (cy_17, .int), (cy_18, .int), (cy_19, .int), (cy_39, .byte), (cy_40, .int), (cy_41, .int), (cy_42, .int), (cy_43, .int), (cy_44, .int), (cy_45, .byte)] s) (hP : va_P (dC, dI) vwCl [(q_1, .inr (13, [.ref q_2, .int 0, .ref q_3, .ref q_4, .null])), (q_2, .inl (cy_5, 6000, .inl (fun _ => 0))), (q_3, .inr (9, [.ref q_6, .ref q_7, .ref q_8, .int 0, .null, .int 0, .int 0, .int 0, .ref q_9, .ref q_10, .ref q_11, .ref q_12, .int 0])), (q_6, .inl (cy_13, 6001, .inl (fun _ => 0))), (q_7, .inl (cy_14, 6001, .inl (fun _ => 0))), (q_8, .inl (cy_15, 6001, .inl (fun _ => 0))), (q_9, .inl (cy_16, 256, .inl (fun _ => 0))), (q_10, .inl (cy_17, 3001, .inl (fun _ => 0))), (q_11, .inl (cy_18, 3001, .inl (fun _ => 0))), (q_12, .inl (cy_19, 3001, .inl (fun _ => 0))), (q_4, .inr (4, [.null, .ref q_20, .ref q_21, .ref q_22, .ref q_23, .ref q_24, .int 0, .ref q_25, .int 0, .int 0, .int 0, .ref q_26, .int 0, .ref q_27, .int 0, .ref q_28, .null, .int 0, .int 0])), (q_29, .inr (15, fl 134 F_30)), (q_38, .inr (14, [.null, .null, .null, .null, .null, .int 0])), (q_31, .inl (cy_39, 6000, .inl (fun _ => 0))), (q_35, .inl (cy_40, 6002, .inl (fun _ => 0))), (q_36, .inl (cy_41, 6002, .inl (fun _ => 0))), (q_37, .inl (cy_42, 6002, .inl (fun _ => 0))), (q_33, .inl (cy_43, 6000, .inl (fun _ => 0))), (q_34, .inl (cy_44, 6000, .inl (fun _ => 0))), (q_32, .inl (cy_45, 6600, .inl (fun _ => 0)))] H) (hD : va_D A [(q_1, .inr (13, [.ref q_2, .int 0, .ref q_3, .ref q_4, .null])), (q_2, .inl (cy_5, 6000, .inl (fun _ => 0))), (q_3, .inr (9, [.ref q_6, .ref q_7, .ref q_8, .int 0, .null, .int 0, .int 0, .int 0, .ref q_9, .ref q_10, .ref q_11, .ref q_12, .int 0])), (q_6, .inl (cy_13, 6001, .inl (fun _ => 0))), (q_7, .inl (cy_14, 6001, .inl (fun _ => 0))), (q_8, .inl (cy_15, 6001, .inl (fun _ => 0))), (q_9, .inl (cy_16, 256, .inl (fun _ => 0))), (q_10, .inl (cy_17, 3001, .inl (fun _ => 0))), (q_11, .inl (cy_18, 3001, .inl (fun _ => 0))), (q_12, .inl (cy_19, 3001, .inl (fun _ => 0))), (q_4, .inr (4, [.null, .ref q_20, .ref q_21, .ref q_22, .ref q_23, .ref q_24, .int 0, .ref q_25, .int 0, .int 0, .int 0, .ref q_26, .int 0, .ref q_27, .int 0, .ref q_28, .null, .int 0, .int 0])), (q_29, .inr (15, fl 134 F_30)), (q_38, .inr (14, [.null, .null, .null, .null, .null, .int 0])), (q_31, .inl (cy_39, 6000, .inl (fun _ => 0))), (q_35, .inl (cy_40, 6002, .inl (fun _ => 0))), (q_36, .inl (cy_41, 6002, .inl (fun _ => 0))), (q_37, .inl (cy_42, 6002, .inl (fun _ => 0))), (q_33, .inl (cy_43, 6000, .inl (fun _ => 0))), (q_34, .inl (cy_44, 6000, .inl (fun _ => 0))), (q_32, .inl (cy_45, 6600, .inl (fun _ => 0)))]) (hS : va_S A s.heap H locs) (hl : lv_has ls 7 [(4, .int 0), (3, .ref q_58), (2, .ref q_29), (1, .ref q_1), (0, .ref b)]) : W p l e room_1 s m #[Value.ref b] below meth c H locs 100 719914 (lw_Z below #[Value.ref b] s) (F0 m 338 ls []) := by
  obtain ⟨hx, hb, hr, hml, hown, htsT, hX, hbl, hlocks, hgv⟩ := id C0
  have hown : s.vm.findClass RL = some m.cls := hown
  have hts : ∀ w ∈ ws_law, w.before #[Value.ref b] s = true := fun w h => htsT w (in_law w h)
  have hg := flat_of_before _ hgv
  have hbA : ¬ A b := hAa b hbl
  have hflags : l.stackTraces = false := by unfold Launch.stackTraces; rw [hfl]; decide
  refine lv_aload_n hx hb dL_law_338 rfl (lv_at hl 3 rfl) ?_
  refine lv_aload_n hx hb dL_law_339 rfl (lv_at hl 4 rfl) ?_
  refine lv_iload hx hb dL_law_340 (lv_at hl 0 rfl) ?_
  refine lv_iconst (v := 1) hx hb dL_law_342 (by decide) ?_
  refine lv_iadd hx hb dL_law_343 ?_
  refine lv_topi (fun y9 e9 => ?_)
  have e9 : y9 = 1 := by rw [e9]; decide
  subst e9
  refine va_sld hx hb hX hbl hbA hS (i := 1) (by unfold vp_in; decide) dL_law_344 ?_
  refine lv_topi (fun x_1001 ex_1001 => ?_)
  have ex_1001 : x_1001 = xs 1 := ex_1001
  subst ex_1001
  refine lv_aload_n hx hb dL_law_345 rfl (lv_at hl 4 rfl) ?_
  refine lv_iload hx hb dL_law_346 (lv_at hl 0 rfl) ?_
  refine lv_iconst (v := 2) hx hb dL_law_348 (by decide) ?_
  refine lv_iadd hx hb dL_law_349 ?_
  refine lv_topi (fun y9 e9 => ?_)
  have e9 : y9 = 2 := by rw [e9]; decide
  subst e9
  refine va_sld hx hb hX hbl hbA hS (i := 2) (by unfold vp_in; decide) dL_law_350 ?_
  refine lv_topi (fun x_1002 ex_1002 => ?_)
  have ex_1002 : x_1002 = xs 2 := ex_1002
  subst ex_1002
  have hPc := hP.sub (ws' := [(q_1, .inr (13, [.ref q_2, .int 0, .ref q_3, .ref q_4, .null]))]) [0] rfl
  have hDc := hD.sub (ws' := [(q_1, .inr (13, [.ref q_2, .int 0, .ref q_3, .ref q_4, .null]))]) [0] (by decide) rfl
  have hKc := hK.sub (tys' := []) [] rfl
  have hFc := va_free (wc := [(q_1, .inr (13, [.ref q_2, .int 0, .ref q_3, .ref q_4, .null]))]) hD hS hA [0] rfl
  refine va_calli (va_runV (As := [.int (xs 1), .int (xs 2)]) (rest := []) ⟨hx, hb, hml, hown, hts⟩ (cc_type l dC dI q_1 q_2 q_3 q_4 (xs 1) (xs 2) H.size) (cwV 2 hts gl_cc_type_53 rfl rfl rfl (by decide +kernel) ⟨(Nat.le_of_ble_eq_true rfl), (Nat.le_of_ble_eq_true rfl)⟩) ⟨fun a U g mk q => by obtain ⟨q0, q1, qP, qK, qD⟩ := q; exact ⟨q0, q1, qP, va_K.moved (u := U) (U := U.calling g mk a) (Vm.Alike.refl U.vm) qK, qD⟩, va_recv hKc hPc (ci := 13) (q0 := 0) rfl rfl, fun U hU hW => ⟨rfl, by rw [hU], by rw [hU]; exact hPc, va_K.moved hW.alike hKc, hDc.weaken (fun _ _ _ _ => trivial)⟩⟩ rfl rfl hl.1 rfl (lv_room (Nat.le_of_ble_eq_true rfl)) dL_law_351 ⟨(Nat.le_of_ble_eq_true rfl), (Nat.le_of_ble_eq_true rfl)⟩) hS (fun q _ h => hFc q h) hFc (fun r9 u t H1 locs ht hvm hw hB hz1 hk1 hS => ?_)
  obtain ⟨hP1, hK1, hD1⟩ := hB
  rw [ht] at hP1
  have hK1 := va_K.moved hvm.symm hK1
  obtain ⟨hP, hD⟩ := va_join (wr := [(q_2, .inl (cy_5, 6000, .inl (fun _ => 0))), (q_3, .inr (9, [.ref q_6, .ref q_7, .ref q_8, .int 0, .null, .int 0, .int 0, .int 0, .ref q_9, .ref q_10, .ref q_11, .ref q_12, .int 0])), (q_6, .inl (cy_13, 6001, .inl (fun _ => 0))), (q_7, .inl (cy_14, 6001, .inl (fun _ => 0))), (q_8, .inl (cy_15, 6001, .inl (fun _ => 0))), (q_9, .inl (cy_16, 256, .inl (fun _ => 0))), (q_10, .inl (cy_17, 3001, .inl (fun _ => 0))), (q_11, .inl (cy_18, 3001, .inl (fun _ => 0))), (q_12, .inl (cy_19, 3001, .inl (fun _ => 0))), (q_4, .inr (4, [.null, .ref q_20, .ref q_21, .ref q_22, .ref q_23, .ref q_24, .int 0, .ref q_25, .int 0, .int 0, .int 0, .ref q_26, .int 0, .ref q_27, .int 0, .ref q_28, .null, .int 0, .int 0])), (q_29, .inr (15, fl 134 F_30)), (q_38, .inr (14, [.null, .null, .null, .null, .null, .int 0])), (q_31, .inl (cy_39, 6000, .inl (fun _ => 0))), (q_35, .inl (cy_40, 6002, .inl (fun _ => 0))), (q_36, .inl (cy_41, 6002, .inl (fun _ => 0))), (q_37, .inl (cy_42, 6002, .inl (fun _ => 0))), (q_33, .inl (cy_43, 6000, .inl (fun _ => 0))), (q_34, .inl (cy_44, 6000, .inl (fun _ => 0))), (q_32, .inl (cy_45, 6600, .inl (fun _ => 0)))]) (w1 := []) hP hD [0] [1, 2, 3, 4, 5, 6, 7, 8, 9, 10, 11, 12, 13, 14, 15, 16, 17, 18, 19] rfl rfl (by decide) (by decide) hk1 hFc hP1 hD1
  have hK := (hK.sub (tys' := [(cy_5, .byte), (cy_13, .int), (cy_14, .int), (cy_15, .int), (cy_16, .int), (cy_17, .int), (cy_18, .int), (cy_19, .int), (cy_39, .byte), (cy_40, .int), (cy_41, .int), (cy_42, .int), (cy_43, .int), (cy_44, .int), (cy_45, .byte)]) [0, 1, 2, 3, 4, 5, 6, 7, 8, 9, 10, 11, 12, 13, 14] rfl).app hK1
  generalize H1 = H at hP hS ⊢
  have hK : va_K (dC, dI) vwCl [(cy_5, .byte), (cy_13, .int), (cy_14, .int), (cy_15, .int), (cy_16, .int), (cy_17, .int), (cy_18, .int), (cy_19, .int), (cy_39, .byte), (cy_40, .int), (cy_41, .int), (cy_42, .int), (cy_43, .int), (cy_44, .int), (cy_45, .byte)] s := hK
  have hP : va_P (dC, dI) vwCl [(q_2, .inl (cy_5, 6000, .inl (fun _ => 0))), (q_3, .inr (9, [.ref q_6, .ref q_7, .ref q_8, .int 0, .null, .int 0, .int 0, .int 0, .ref q_9, .ref q_10, .ref q_11, .ref q_12, .int 0])), (q_6, .inl (cy_13, 6001, .inl (fun _ => 0))), (q_7, .inl (cy_14, 6001, .inl (fun _ => 0))), (q_8, .inl (cy_15, 6001, .inl (fun _ => 0))), (q_9, .inl (cy_16, 256, .inl (fun _ => 0))), (q_10, .inl (cy_17, 3001, .inl (fun _ => 0))), (q_11, .inl (cy_18, 3001, .inl (fun _ => 0))), (q_12, .inl (cy_19, 3001, .inl (fun _ => 0))), (q_4, .inr (4, [.null, .ref q_20, .ref q_21, .ref q_22, .ref q_23, .ref q_24, .int 0, .ref q_25, .int 0, .int 0, .int 0, .ref q_26, .int 0, .ref q_27, .int 0, .ref q_28, .null, .int 0, .int 0])), (q_29, .inr (15, fl 134 F_30)), (q_38, .inr (14, [.null, .null, .null, .null, .null, .int 0])), (q_31, .inl (cy_39, 6000, .inl (fun _ => 0))), (q_35, .inl (cy_40, 6002, .inl (fun _ => 0))), (q_36, .inl (cy_41, 6002, .inl (fun _ => 0))), (q_37, .inl (cy_42, 6002, .inl (fun _ => 0))), (q_33, .inl (cy_43, 6000, .inl (fun _ => 0))), (q_34, .inl (cy_44, 6000, .inl (fun _ => 0))), (q_32, .inl (cy_45, 6600, .inl (fun _ => 0)))] H := hP
  have hD : va_D A [(q_2, .inl (cy_5, 6000, .inl (fun _ => 0))), (q_3, .inr (9, [.ref q_6, .ref q_7, .ref q_8, .int 0, .null, .int 0, .int 0, .int 0, .ref q_9, .ref q_10, .ref q_11, .ref q_12, .int 0])), (q_6, .inl (cy_13, 6001, .inl (fun _ => 0))), (q_7, .inl (cy_14, 6001, .inl (fun _ => 0))), (q_8, .inl (cy_15, 6001, .inl (fun _ => 0))), (q_9, .inl (cy_16, 256, .inl (fun _ => 0))), (q_10, .inl (cy_17, 3001, .inl (fun _ => 0))), (q_11, .inl (cy_18, 3001, .inl (fun _ => 0))), (q_12, .inl (cy_19, 3001, .inl (fun _ => 0))), (q_4, .inr (4, [.null, .ref q_20, .ref q_21, .ref q_22, .ref q_23, .ref q_24, .int 0, .ref q_25, .int 0, .int 0, .int 0, .ref q_26, .int 0, .ref q_27, .int 0, .ref q_28, .null, .int 0, .int 0])), (q_29, .inr (15, fl 134 F_30)), (q_38, .inr (14, [.null, .null, .null, .null, .null, .int 0])), (q_31, .inl (cy_39, 6000, .inl (fun _ => 0))), (q_35, .inl (cy_40, 6002, .inl (fun _ => 0))), (q_36, .inl (cy_41, 6002, .inl (fun _ => 0))), (q_37, .inl (cy_42, 6002, .inl (fun _ => 0))), (q_33, .inl (cy_43, 6000, .inl (fun _ => 0))), (q_34, .inl (cy_44, 6000, .inl (fun _ => 0))), (q_32, .inl (cy_45, 6600, .inl (fun _ => 0)))] := hD
  refine W.widen (k := 100) (n := 719914) (Nat.le_of_ble_eq_true rfl) (Nat.le_of_ble_eq_true rfl) ?_
  obtain rfl : r9 = ((-1)) := hw
  refine lv_aload_n hx hb dL_law_354 rfl (lv_at hl 2 rfl) ?_
  refine lv_aload_n hx hb dL_law_355 rfl (lv_at hl 4 rfl) ?_
  refine lv_iload hx hb dL_law_356 (lv_at hl 0 rfl) ?_
  refine lv_iconst (v := 1) hx hb dL_law_358 (by decide) ?_
  refine lv_iadd hx hb dL_law_359 ?_
  refine lv_topi (fun y9 e9 => ?_)
  have e9 : y9 = 1 := by rw [e9]; decide
  subst e9
  refine va_sld hx hb hX hbl hbA hS (i := 1) (by unfold vp_in; decide) dL_law_360 ?_
  refine lv_topi (fun x_1003 ex_1003 => ?_)
  have ex_1003 : x_1003 = xs 1 := ex_1003
  subst ex_1003
  refine lv_aload_n hx hb dL_law_361 rfl (lv_at hl 4 rfl) ?_
  refine lv_iload hx hb dL_law_362 (lv_at hl 0 rfl) ?_
  refine lv_iconst (v := 2) hx hb dL_law_364 (by decide) ?_
  refine lv_iadd hx hb dL_law_365 ?_
  refine lv_topi (fun y9 e9 => ?_)
  have e9 : y9 = 2 := by rw [e9]; decide
  subst e9
  refine va_sld hx hb hX hbl hbA hS (i := 2) (by unfold vp_in; decide) dL_law_366 ?_
  refine lv_topi (fun x_1004 ex_1004 => ?_)
  have ex_1004 : x_1004 = xs 2 := ex_1004
  subst ex_1004
  have hPc := hP.sub (ws' := [(q_29, .inr (15, fl 134 F_30))]) [10] rfl
  have hDc := hD.sub (ws' := [(q_29, .inr (15, fl 134 F_30))]) [10] (by decide) rfl
  have hKc := hK.sub (tys' := []) [] rfl
  have hFc := va_free (wc := [(q_29, .inr (15, fl 134 F_30))]) hD hS hA [10] rfl
  refine va_calli (va_runV (As := [.int (xs 1), .int (xs 2)]) (rest := [.int ((-1))]) ⟨hx, hb, hml, hown, hts⟩ (cm_type l dC dI q_29 F_30 (xs 1) (xs 2) H.size hq98) (cwV 2 hts gl_cm_type_56 rfl rfl rfl (by decide +kernel) ⟨(Nat.le_of_ble_eq_true rfl), (Nat.le_of_ble_eq_true rfl)⟩) ⟨fun a U g mk q => by obtain ⟨q0, q1, qP, qK, qD⟩ := q; exact ⟨q0, q1, qP, va_K.moved (u := U) (U := U.calling g mk a) (Vm.Alike.refl U.vm) qK, qD⟩, va_recv hKc hPc (ci := 15) (q0 := 0) rfl rfl, fun U hU hW => ⟨rfl, by rw [hU], by rw [hU]; exact hPc, va_K.moved hW.alike hKc, hDc.weaken (fun _ _ _ _ => trivial)⟩⟩ rfl rfl hl.1 rfl (lv_room (Nat.le_of_ble_eq_true rfl)) dL_law_367 ⟨(Nat.le_of_ble_eq_true rfl), (Nat.le_of_ble_eq_true rfl)⟩) hS (fun q _ h => hFc q h) hFc (fun r9 u t H1 locs ht hvm hw hB hz1 hk1 hS => ?_)
  obtain ⟨hP1, hK1, hD1⟩ := hB
  rw [ht] at hP1
  have hK1 := va_K.moved hvm.symm hK1
  obtain ⟨hP, hD⟩ := va_join (wr := [(q_2, .inl (cy_5, 6000, .inl (fun _ => 0))), (q_3, .inr (9, [.ref q_6, .ref q_7, .ref q_8, .int 0, .null, .int 0, .int 0, .int 0, .ref q_9, .ref q_10, .ref q_11, .ref q_12, .int 0])), (q_6, .inl (cy_13, 6001, .inl (fun _ => 0))), (q_7, .inl (cy_14, 6001, .inl (fun _ => 0))), (q_8, .inl (cy_15, 6001, .inl (fun _ => 0))), (q_9, .inl (cy_16, 256, .inl (fun _ => 0))), (q_10, .inl (cy_17, 3001, .inl (fun _ => 0))), (q_11, .inl (cy_18, 3001, .inl (fun _ => 0))), (q_12, .inl (cy_19, 3001, .inl (fun _ => 0))), (q_4, .inr (4, [.null, .ref q_20, .ref q_21, .ref q_22, .ref q_23, .ref q_24, .int 0, .ref q_25, .int 0, .int 0, .int 0, .ref q_26, .int 0, .ref q_27, .int 0, .ref q_28, .null, .int 0, .int 0])), (q_38, .inr (14, [.null, .null, .null, .null, .null, .int 0])), (q_31, .inl (cy_39, 6000, .inl (fun _ => 0))), (q_35, .inl (cy_40, 6002, .inl (fun _ => 0))), (q_36, .inl (cy_41, 6002, .inl (fun _ => 0))), (q_37, .inl (cy_42, 6002, .inl (fun _ => 0))), (q_33, .inl (cy_43, 6000, .inl (fun _ => 0))), (q_34, .inl (cy_44, 6000, .inl (fun _ => 0))), (q_32, .inl (cy_45, 6600, .inl (fun _ => 0)))]) (w1 := []) hP hD [10] [0, 1, 2, 3, 4, 5, 6, 7, 8, 9, 11, 12, 13, 14, 15, 16, 17, 18] rfl rfl (by decide) (by decide) hk1 hFc hP1 hD1
  have hK := (hK.sub (tys' := [(cy_5, .byte), (cy_13, .int), (cy_14, .int), (cy_15, .int), (cy_16, .int), (cy_17, .int), (cy_18, .int), (cy_19, .int), (cy_39, .byte), (cy_40, .int), (cy_41, .int), (cy_42, .int), (cy_43, .int), (cy_44, .int), (cy_45, .byte)]) [0, 1, 2, 3, 4, 5, 6, 7, 8, 9, 10, 11, 12, 13, 14] rfl).app hK1
  generalize H1 = H at hP hS ⊢
  have hK : va_K (dC, dI) vwCl [(cy_5, .byte), (cy_13, .int), (cy_14, .int), (cy_15, .int), (cy_16, .int), (cy_17, .int), (cy_18, .int), (cy_19, .int), (cy_39, .byte), (cy_40, .int), (cy_41, .int), (cy_42, .int), (cy_43, .int), (cy_44, .int), (cy_45, .byte)] s := hK
  have hP : va_P (dC, dI) vwCl [(q_2, .inl (cy_5, 6000, .inl (fun _ => 0))), (q_3, .inr (9, [.ref q_6, .ref q_7, .ref q_8, .int 0, .null, .int 0, .int 0, .int 0, .ref q_9, .ref q_10, .ref q_11, .ref q_12, .int 0])), (q_6, .inl (cy_13, 6001, .inl (fun _ => 0))), (q_7, .inl (cy_14, 6001, .inl (fun _ => 0))), (q_8, .inl (cy_15, 6001, .inl (fun _ => 0))), (q_9, .inl (cy_16, 256, .inl (fun _ => 0))), (q_10, .inl (cy_17, 3001, .inl (fun _ => 0))), (q_11, .inl (cy_18, 3001, .inl (fun _ => 0))), (q_12, .inl (cy_19, 3001, .inl (fun _ => 0))), (q_4, .inr (4, [.null, .ref q_20, .ref q_21, .ref q_22, .ref q_23, .ref q_24, .int 0, .ref q_25, .int 0, .int 0, .int 0, .ref q_26, .int 0, .ref q_27, .int 0, .ref q_28, .null, .int 0, .int 0])), (q_38, .inr (14, [.null, .null, .null, .null, .null, .int 0])), (q_31, .inl (cy_39, 6000, .inl (fun _ => 0))), (q_35, .inl (cy_40, 6002, .inl (fun _ => 0))), (q_36, .inl (cy_41, 6002, .inl (fun _ => 0))), (q_37, .inl (cy_42, 6002, .inl (fun _ => 0))), (q_33, .inl (cy_43, 6000, .inl (fun _ => 0))), (q_34, .inl (cy_44, 6000, .inl (fun _ => 0))), (q_32, .inl (cy_45, 6600, .inl (fun _ => 0)))] H := hP
  have hD : va_D A [(q_2, .inl (cy_5, 6000, .inl (fun _ => 0))), (q_3, .inr (9, [.ref q_6, .ref q_7, .ref q_8, .int 0, .null, .int 0, .int 0, .int 0, .ref q_9, .ref q_10, .ref q_11, .ref q_12, .int 0])), (q_6, .inl (cy_13, 6001, .inl (fun _ => 0))), (q_7, .inl (cy_14, 6001, .inl (fun _ => 0))), (q_8, .inl (cy_15, 6001, .inl (fun _ => 0))), (q_9, .inl (cy_16, 256, .inl (fun _ => 0))), (q_10, .inl (cy_17, 3001, .inl (fun _ => 0))), (q_11, .inl (cy_18, 3001, .inl (fun _ => 0))), (q_12, .inl (cy_19, 3001, .inl (fun _ => 0))), (q_4, .inr (4, [.null, .ref q_20, .ref q_21, .ref q_22, .ref q_23, .ref q_24, .int 0, .ref q_25, .int 0, .int 0, .int 0, .ref q_26, .int 0, .ref q_27, .int 0, .ref q_28, .null, .int 0, .int 0])), (q_38, .inr (14, [.null, .null, .null, .null, .null, .int 0])), (q_31, .inl (cy_39, 6000, .inl (fun _ => 0))), (q_35, .inl (cy_40, 6002, .inl (fun _ => 0))), (q_36, .inl (cy_41, 6002, .inl (fun _ => 0))), (q_37, .inl (cy_42, 6002, .inl (fun _ => 0))), (q_33, .inl (cy_43, 6000, .inl (fun _ => 0))), (q_34, .inl (cy_44, 6000, .inl (fun _ => 0))), (q_32, .inl (cy_45, 6600, .inl (fun _ => 0)))] := hD
  refine W.widen (k := 100) (n := 719914) (Nat.le_of_ble_eq_true rfl) (Nat.le_of_ble_eq_true rfl) ?_
  obtain rfl : r9 = ((-1)) := hw
  refine lv_icmp_eq (tgt := 665) hx hb dL_law_370 (by decide) (fun c9 => ?_) (fun c9 => absurd (by decide) c9)
  clear c9
  refine lv_iinc (v := 6) (lv' := [(4, .int 6), (3, .ref q_58), (2, .ref q_29), (1, .ref q_1), (0, .ref b)]) hx hb dL_law_665 hl (k := 0) rfl (by decide) (by decide) rfl (fun ls hl => ?_)
  refine lv_goto (tgt := 23) hx hb dL_law_668 (by decide) ?_
  refine lv_iload hx hb dL_law_23 (lv_at hl 0 rfl) ?_
  refine lv_aload_n hx hb dL_law_25 rfl (lv_at hl 4 rfl) ?_
  refine va_slen hx hb hX hbl hbA hS dL_law_26 ?_
  refine lv_topi (fun y9 e9 => ?_)
  have e9 : y9 = 6 := e9
  subst e9
  refine lv_bipush (v := 6) hx hb dL_law_27 (by decide) ?_
  refine lv_isub hx hb dL_law_29 ?_
  refine lv_topi (fun y9 e9 => ?_)
  have e9 : y9 = 0 := by rw [e9]; decide
  subst e9
  refine lv_icmp_gt (tgt := 671) hx hb dL_law_30 (by decide) (fun c9 => ?_) (fun c9 => absurd (by decide) c9)
  clear c9
  refine lv_iconst (v := 1) hx hb dL_law_671 (by decide) ?_
  refine va_forget (fun q hq => hAA q.base (hS.2.2 q hq)) ?_
  refine W.widen (k := 600002) (n := 7302232) (Nat.le_of_ble_eq_true rfl) (Nat.le_of_ble_eq_true rfl) ?_
  exact lw_ret hx hb hr hlocks dL_law_672
set_option maxHeartbeats 4000000 in
set_option maxRecDepth 100000 in
theorem law_case_7 {p : Program} {e : Env} {s : State} {m : MethodId} {below : List Frame} {meth : Method} {c : Code} (l : Launch) (hfl : l.flags = flags0) {b : Nat} {xs : Nat → Int32} (C0 : lw_At p s m meth c b 6 xs) (dC : Nat → ClassId) (dI : Nat → Nat → Nat) (A : Nat → Prop) (hA : ∀ q : Nat, s.heap.size ≤ q → A q) (hAa : ∀ q : Nat, q < s.heap.size → ¬ A q) (hAA : ∀ q : Nat, A q → s.heap.size ≤ q) (q_1 : Nat) (q_2 : Nat) (q_3 : Nat) (q_4 : Nat) (cy_5 : ClassId) (q_6 : Nat) (q_7 : Nat) (q_8 : Nat) (q_9 : Nat) (q_10 : Nat) (q_11 : Nat) (q_12 : Nat) (cy_13 : ClassId) (cy_14 : ClassId) (cy_15 : ClassId) (cy_16 : ClassId) (cy_17 : ClassId) (cy_18 : ClassId) (cy_19 : ClassId) (q_20 : Nat) (q_21 : Nat) (q_22 : Nat) (q_23 : Nat) (q_24 : Nat) (q_25 : Nat) (q_26 : Nat) (q_27 : Nat) (q_28 : Nat) (q_29 : Nat) (F_30 : Nat → Value) (q_31 : Nat) (q_32 : Nat) (q_33 : Nat) (q_34 : Nat) (q_35 : Nat) (q_36 : Nat) (q_37 : Nat) (q_38 : Nat) (cy_39 : ClassId) (cy_40 : ClassId) (cy_41 : ClassId) (cy_42 : ClassId) (cy_43 : ClassId) (cy_44 : ClassId) (cy_45 : ClassId) (q_58 : Nat) (hq0 : F_30 0 = .int 0) (hq1 : F_30 1 = .ref q_38) (hq2 : F_30 2 = .ref q_31) (hq3 : F_30 3 = .int 0) (hq9 : F_30 9 = .ref q_35) (hq10 : F_30 10 = .ref q_36) (hq11 : F_30 11 = .ref q_37) (hq13 : F_30 13 = .ref q_33) (hq14 : F_30 14 = .ref q_34) (hq15 : F_30 15 = .ref q_32) (hq98 : F_30 98 = .int 0) (hq100 : F_30 100 = .int 0) (H : Heap) (locs : List Loc) (ls : Array Slot) (hK : va_K (dC, dI) vwCl [(cy_5, .byte), (cy_13, .int), (cy_14, .int), (cy_15, .int), (cy_16, .int), (cy_17, .int), (cy_18, .int), (cy_19, .int), (cy_39, .byte), (cy_40, .int), (cy_41, .int), (cy_42, .int), (cy_43, .int), (cy_44, .int), (cy_45, .byte)] s) (hP : va_P (dC, dI) vwCl [(q_1, .inr (13, [.ref q_2, .int 0, .ref q_3, .ref q_4, .null])), (q_2, .inl (cy_5, 6000, .inl (fun _ => 0))), (q_3, .inr (9, [.ref q_6, .ref q_7, .ref q_8, .int 0, .null, .int 0, .int 0, .int 0, .ref q_9, .ref q_10, .ref q_11, .ref q_12, .int 0])), (q_6, .inl (cy_13, 6001, .inl (fun _ => 0))), (q_7, .inl (cy_14, 6001, .inl (fun _ => 0))), (q_8, .inl (cy_15, 6001, .inl (fun _ => 0))), (q_9, .inl (cy_16, 256, .inl (fun _ => 0))), (q_10, .inl (cy_17, 3001, .inl (fun _ => 0))), (q_11, .inl (cy_18, 3001, .inl (fun _ => 0))), (q_12, .inl (cy_19, 3001, .inl (fun _ => 0))), (q_4, .inr (4, [.null, .ref q_20, .ref q_21, .ref q_22, .ref q_23, .ref q_24, .int 0, .ref q_25, .int 0, .int 0, .int 0, .ref q_26, .int 0, .ref q_27, .int 0, .ref q_28, .null, .int 0, .int 0])), (q_29, .inr (15, fl 134 F_30)), (q_38, .inr (14, [.null, .null, .null, .null, .null, .int 0])), (q_31, .inl (cy_39, 6000, .inl (fun _ => 0))), (q_35, .inl (cy_40, 6002, .inl (fun _ => 0))), (q_36, .inl (cy_41, 6002, .inl (fun _ => 0))), (q_37, .inl (cy_42, 6002, .inl (fun _ => 0))), (q_33, .inl (cy_43, 6000, .inl (fun _ => 0))), (q_34, .inl (cy_44, 6000, .inl (fun _ => 0))), (q_32, .inl (cy_45, 6600, .inl (fun _ => 0)))] H) (hD : va_D A [(q_1, .inr (13, [.ref q_2, .int 0, .ref q_3, .ref q_4, .null])), (q_2, .inl (cy_5, 6000, .inl (fun _ => 0))), (q_3, .inr (9, [.ref q_6, .ref q_7, .ref q_8, .int 0, .null, .int 0, .int 0, .int 0, .ref q_9, .ref q_10, .ref q_11, .ref q_12, .int 0])), (q_6, .inl (cy_13, 6001, .inl (fun _ => 0))), (q_7, .inl (cy_14, 6001, .inl (fun _ => 0))), (q_8, .inl (cy_15, 6001, .inl (fun _ => 0))), (q_9, .inl (cy_16, 256, .inl (fun _ => 0))), (q_10, .inl (cy_17, 3001, .inl (fun _ => 0))), (q_11, .inl (cy_18, 3001, .inl (fun _ => 0))), (q_12, .inl (cy_19, 3001, .inl (fun _ => 0))), (q_4, .inr (4, [.null, .ref q_20, .ref q_21, .ref q_22, .ref q_23, .ref q_24, .int 0, .ref q_25, .int 0, .int 0, .int 0, .ref q_26, .int 0, .ref q_27, .int 0, .ref q_28, .null, .int 0, .int 0])), (q_29, .inr (15, fl 134 F_30)), (q_38, .inr (14, [.null, .null, .null, .null, .null, .int 0])), (q_31, .inl (cy_39, 6000, .inl (fun _ => 0))), (q_35, .inl (cy_40, 6002, .inl (fun _ => 0))), (q_36, .inl (cy_41, 6002, .inl (fun _ => 0))), (q_37, .inl (cy_42, 6002, .inl (fun _ => 0))), (q_33, .inl (cy_43, 6000, .inl (fun _ => 0))), (q_34, .inl (cy_44, 6000, .inl (fun _ => 0))), (q_32, .inl (cy_45, 6600, .inl (fun _ => 0)))]) (hS : va_S A s.heap H locs) (hl : lv_has ls 7 [(4, .int 0), (3, .ref q_58), (2, .ref q_29), (1, .ref q_1), (0, .ref b)]) : W p l e room_1 s m #[Value.ref b] below meth c H locs 100 719914 (lw_Z below #[Value.ref b] s) (F0 m 375 ls []) := by
  obtain ⟨hx, hb, hr, hml, hown, htsT, hX, hbl, hlocks, hgv⟩ := id C0
  have hown : s.vm.findClass RL = some m.cls := hown
  have hts : ∀ w ∈ ws_law, w.before #[Value.ref b] s = true := fun w h => htsT w (in_law w h)
  have hg := flat_of_before _ hgv
  have hbA : ¬ A b := hAa b hbl
  have hflags : l.stackTraces = false := by unfold Launch.stackTraces; rw [hfl]; decide
  refine lv_aload_n hx hb dL_law_375 rfl (lv_at hl 3 rfl) ?_
  refine lv_aload_n hx hb dL_law_376 rfl (lv_at hl 4 rfl) ?_
  refine lv_iload hx hb dL_law_377 (lv_at hl 0 rfl) ?_
  refine lv_iconst (v := 1) hx hb dL_law_379 (by decide) ?_
  refine lv_iadd hx hb dL_law_380 ?_
  refine lv_topi (fun y9 e9 => ?_)
  have e9 : y9 = 1 := by rw [e9]; decide
  subst e9
  refine va_sld hx hb hX hbl hbA hS (i := 1) (by unfold vp_in; decide) dL_law_381 ?_
  refine lv_topi (fun x_1001 ex_1001 => ?_)
  have ex_1001 : x_1001 = xs 1 := ex_1001
  subst ex_1001
  refine lv_aload_n hx hb dL_law_382 rfl (lv_at hl 4 rfl) ?_
  refine lv_iload hx hb dL_law_383 (lv_at hl 0 rfl) ?_
  refine lv_iconst (v := 2) hx hb dL_law_385 (by decide) ?_
  refine lv_iadd hx hb dL_law_386 ?_
  refine lv_topi (fun y9 e9 => ?_)
  have e9 : y9 = 2 := by rw [e9]; decide
  subst e9
  refine va_sld hx hb hX hbl hbA hS (i := 2) (by unfold vp_in; decide) dL_law_387 ?_
  refine lv_topi (fun x_1002 ex_1002 => ?_)
  have ex_1002 : x_1002 = xs 2 := ex_1002
  subst ex_1002
  have hPc := hP.sub (ws' := [(q_1, .inr (13, [.ref q_2, .int 0, .ref q_3, .ref q_4, .null]))]) [0] rfl
  have hDc := hD.sub (ws' := [(q_1, .inr (13, [.ref q_2, .int 0, .ref q_3, .ref q_4, .null]))]) [0] (by decide) rfl
  have hKc := hK.sub (tys' := []) [] rfl
  have hFc := va_free (wc := [(q_1, .inr (13, [.ref q_2, .int 0, .ref q_3, .ref q_4, .null]))]) hD hS hA [0] rfl
  refine va_calli (va_runV (As := [.int (xs 1), .int (xs 2)]) (rest := []) ⟨hx, hb, hml, hown, hts⟩ (cc_sees l dC dI q_1 q_2 q_3 q_4 (xs 1) (xs 2) H.size) (cwV 2 hts gl_cc_sees_57 rfl rfl rfl (by decide +kernel) ⟨(Nat.le_of_ble_eq_true rfl), (Nat.le_of_ble_eq_true rfl)⟩) ⟨fun a U g mk q => by obtain ⟨q0, q1, qP, qK, qD⟩ := q; exact ⟨q0, q1, qP, va_K.moved (u := U) (U := U.calling g mk a) (Vm.Alike.refl U.vm) qK, qD⟩, va_recv hKc hPc (ci := 13) (q0 := 0) rfl rfl, fun U hU hW => ⟨rfl, by rw [hU], by rw [hU]; exact hPc, va_K.moved hW.alike hKc, hDc.weaken (fun _ _ _ _ => trivial)⟩⟩ rfl rfl hl.1 rfl (lv_room (Nat.le_of_ble_eq_true rfl)) dL_law_388 ⟨(Nat.le_of_ble_eq_true rfl), (Nat.le_of_ble_eq_true rfl)⟩) hS (fun q _ h => hFc q h) hFc (fun r9 u t H1 locs ht hvm hw hB hz1 hk1 hS => ?_)
  obtain ⟨hP1, hK1, hD1⟩ := hB
  rw [ht] at hP1
  have hK1 := va_K.moved hvm.symm hK1
  obtain ⟨hP, hD⟩ := va_join (wr := [(q_2, .inl (cy_5, 6000, .inl (fun _ => 0))), (q_3, .inr (9, [.ref q_6, .ref q_7, .ref q_8, .int 0, .null, .int 0, .int 0, .int 0, .ref q_9, .ref q_10, .ref q_11, .ref q_12, .int 0])), (q_6, .inl (cy_13, 6001, .inl (fun _ => 0))), (q_7, .inl (cy_14, 6001, .inl (fun _ => 0))), (q_8, .inl (cy_15, 6001, .inl (fun _ => 0))), (q_9, .inl (cy_16, 256, .inl (fun _ => 0))), (q_10, .inl (cy_17, 3001, .inl (fun _ => 0))), (q_11, .inl (cy_18, 3001, .inl (fun _ => 0))), (q_12, .inl (cy_19, 3001, .inl (fun _ => 0))), (q_4, .inr (4, [.null, .ref q_20, .ref q_21, .ref q_22, .ref q_23, .ref q_24, .int 0, .ref q_25, .int 0, .int 0, .int 0, .ref q_26, .int 0, .ref q_27, .int 0, .ref q_28, .null, .int 0, .int 0])), (q_29, .inr (15, fl 134 F_30)), (q_38, .inr (14, [.null, .null, .null, .null, .null, .int 0])), (q_31, .inl (cy_39, 6000, .inl (fun _ => 0))), (q_35, .inl (cy_40, 6002, .inl (fun _ => 0))), (q_36, .inl (cy_41, 6002, .inl (fun _ => 0))), (q_37, .inl (cy_42, 6002, .inl (fun _ => 0))), (q_33, .inl (cy_43, 6000, .inl (fun _ => 0))), (q_34, .inl (cy_44, 6000, .inl (fun _ => 0))), (q_32, .inl (cy_45, 6600, .inl (fun _ => 0)))]) (w1 := []) hP hD [0] [1, 2, 3, 4, 5, 6, 7, 8, 9, 10, 11, 12, 13, 14, 15, 16, 17, 18, 19] rfl rfl (by decide) (by decide) hk1 hFc hP1 hD1
  have hK := (hK.sub (tys' := [(cy_5, .byte), (cy_13, .int), (cy_14, .int), (cy_15, .int), (cy_16, .int), (cy_17, .int), (cy_18, .int), (cy_19, .int), (cy_39, .byte), (cy_40, .int), (cy_41, .int), (cy_42, .int), (cy_43, .int), (cy_44, .int), (cy_45, .byte)]) [0, 1, 2, 3, 4, 5, 6, 7, 8, 9, 10, 11, 12, 13, 14] rfl).app hK1
  generalize H1 = H at hP hS ⊢
  have hK : va_K (dC, dI) vwCl [(cy_5, .byte), (cy_13, .int), (cy_14, .int), (cy_15, .int), (cy_16, .int), (cy_17, .int), (cy_18, .int), (cy_19, .int), (cy_39, .byte), (cy_40, .int), (cy_41, .int), (cy_42, .int), (cy_43, .int), (cy_44, .int), (cy_45, .byte)] s := hK
  have hP : va_P (dC, dI) vwCl [(q_2, .inl (cy_5, 6000, .inl (fun _ => 0))), (q_3, .inr (9, [.ref q_6, .ref q_7, .ref q_8, .int 0, .null, .int 0, .int 0, .int 0, .ref q_9, .ref q_10, .ref q_11, .ref q_12, .int 0])), (q_6, .inl (cy_13, 6001, .inl (fun _ => 0))), (q_7, .inl (cy_14, 6001, .inl (fun _ => 0))), (q_8, .inl (cy_15, 6001, .inl (fun _ => 0))), (q_9, .inl (cy_16, 256, .inl (fun _ => 0))), (q_10, .inl (cy_17, 3001, .inl (fun _ => 0))), (q_11, .inl (cy_18, 3001, .inl (fun _ => 0))), (q_12, .inl (cy_19, 3001, .inl (fun _ => 0))), (q_4, .inr (4, [.null, .ref q_20, .ref q_21, .ref q_22, .ref q_23, .ref q_24, .int 0, .ref q_25, .int 0, .int 0, .int 0, .ref q_26, .int 0, .ref q_27, .int 0, .ref q_28, .null, .int 0, .int 0])), (q_29, .inr (15, fl 134 F_30)), (q_38, .inr (14, [.null, .null, .null, .null, .null, .int 0])), (q_31, .inl (cy_39, 6000, .inl (fun _ => 0))), (q_35, .inl (cy_40, 6002, .inl (fun _ => 0))), (q_36, .inl (cy_41, 6002, .inl (fun _ => 0))), (q_37, .inl (cy_42, 6002, .inl (fun _ => 0))), (q_33, .inl (cy_43, 6000, .inl (fun _ => 0))), (q_34, .inl (cy_44, 6000, .inl (fun _ => 0))), (q_32, .inl (cy_45, 6600, .inl (fun _ => 0)))] H := hP
  have hD : va_D A [(q_2, .inl (cy_5, 6000, .inl (fun _ => 0))), (q_3, .inr (9, [.ref q_6, .ref q_7, .ref q_8, .int 0, .null, .int 0, .int 0, .int 0, .ref q_9, .ref q_10, .ref q_11, .ref q_12, .int 0])), (q_6, .inl (cy_13, 6001, .inl (fun _ => 0))), (q_7, .inl (cy_14, 6001, .inl (fun _ => 0))), (q_8, .inl (cy_15, 6001, .inl (fun _ => 0))), (q_9, .inl (cy_16, 256, .inl (fun _ => 0))), (q_10, .inl (cy_17, 3001, .inl (fun _ => 0))), (q_11, .inl (cy_18, 3001, .inl (fun _ => 0))), (q_12, .inl (cy_19, 3001, .inl (fun _ => 0))), (q_4, .inr (4, [.null, .ref q_20, .ref q_21, .ref q_22, .ref q_23, .ref q_24, .int 0, .ref q_25, .int 0, .int 0, .int 0, .ref q_26, .int 0, .ref q_27, .int 0, .ref q_28, .null, .int 0, .int 0])), (q_29, .inr (15, fl 134 F_30)), (q_38, .inr (14, [.null, .null, .null, .null, .null, .int 0])), (q_31, .inl (cy_39, 6000, .inl (fun _ => 0))), (q_35, .inl (cy_40, 6002, .inl (fun _ => 0))), (q_36, .inl (cy_41, 6002, .inl (fun _ => 0))), (q_37, .inl (cy_42, 6002, .inl (fun _ => 0))), (q_33, .inl (cy_43, 6000, .inl (fun _ => 0))), (q_34, .inl (cy_44, 6000, .inl (fun _ => 0))), (q_32, .inl (cy_45, 6600, .inl (fun _ => 0)))] := hD
  refine W.widen (k := 100) (n := 719914) (Nat.le_of_ble_eq_true rfl) (Nat.le_of_ble_eq_true rfl) ?_
  obtain rfl : r9 = ((-1)) := hw
  refine lv_aload_n hx hb dL_law_391 rfl (lv_at hl 2 rfl) ?_
  refine lv_aload_n hx hb dL_law_392 rfl (lv_at hl 4 rfl) ?_
  refine lv_iload hx hb dL_law_393 (lv_at hl 0 rfl) ?_
  refine lv_iconst (v := 1) hx hb dL_law_395 (by decide) ?_
  refine lv_iadd hx hb dL_law_396 ?_
  refine lv_topi (fun y9 e9 => ?_)
  have e9 : y9 = 1 := by rw [e9]; decide
  subst e9
  refine va_sld hx hb hX hbl hbA hS (i := 1) (by unfold vp_in; decide) dL_law_397 ?_
  refine lv_topi (fun x_1003 ex_1003 => ?_)
  have ex_1003 : x_1003 = xs 1 := ex_1003
  subst ex_1003
  refine lv_aload_n hx hb dL_law_398 rfl (lv_at hl 4 rfl) ?_
  refine lv_iload hx hb dL_law_399 (lv_at hl 0 rfl) ?_
  refine lv_iconst (v := 2) hx hb dL_law_401 (by decide) ?_
  refine lv_iadd hx hb dL_law_402 ?_
  refine lv_topi (fun y9 e9 => ?_)
  have e9 : y9 = 2 := by rw [e9]; decide
  subst e9
  refine va_sld hx hb hX hbl hbA hS (i := 2) (by unfold vp_in; decide) dL_law_403 ?_
  refine lv_topi (fun x_1004 ex_1004 => ?_)
  have ex_1004 : x_1004 = xs 2 := ex_1004
  subst ex_1004
  have hPc := hP.sub (ws' := [(q_29, .inr (15, fl 134 F_30))]) [10] rfl
  have hDc := hD.sub (ws' := [(q_29, .inr (15, fl 134 F_30))]) [10] (by decide) rfl
  have hKc := hK.sub (tys' := []) [] rfl
  have hFc := va_free (wc := [(q_29, .inr (15, fl 134 F_30))]) hD hS hA [10] rfl
  refine va_calli (va_runV (As := [.int (xs 1), .int (xs 2)]) (rest := [.int ((-1))]) ⟨hx, hb, hml, hown, hts⟩ (cm_sees l dC dI q_29 F_30 (xs 1) (xs 2) H.size hq98) (cwV 2 hts gl_cm_sees_60 rfl rfl rfl (by decide +kernel) ⟨(Nat.le_of_ble_eq_true rfl), (Nat.le_of_ble_eq_true rfl)⟩) ⟨fun a U g mk q => by obtain ⟨q0, q1, qP, qK, qD⟩ := q; exact ⟨q0, q1, qP, va_K.moved (u := U) (U := U.calling g mk a) (Vm.Alike.refl U.vm) qK, qD⟩, va_recv hKc hPc (ci := 15) (q0 := 0) rfl rfl, fun U hU hW => ⟨rfl, by rw [hU], by rw [hU]; exact hPc, va_K.moved hW.alike hKc, hDc.weaken (fun _ _ _ _ => trivial)⟩⟩ rfl rfl hl.1 rfl (lv_room (Nat.le_of_ble_eq_true rfl)) dL_law_404 ⟨(Nat.le_of_ble_eq_true rfl), (Nat.le_of_ble_eq_true rfl)⟩) hS (fun q _ h => hFc q h) hFc (fun r9 u t H1 locs ht hvm hw hB hz1 hk1 hS => ?_)
  obtain ⟨hP1, hK1, hD1⟩ := hB
  rw [ht] at hP1
  have hK1 := va_K.moved hvm.symm hK1
  obtain ⟨hP, hD⟩ := va_join (wr := [(q_2, .inl (cy_5, 6000, .inl (fun _ => 0))), (q_3, .inr (9, [.ref q_6, .ref q_7, .ref q_8, .int 0, .null, .int 0, .int 0, .int 0, .ref q_9, .ref q_10, .ref q_11, .ref q_12, .int 0])), (q_6, .inl (cy_13, 6001, .inl (fun _ => 0))), (q_7, .inl (cy_14, 6001, .inl (fun _ => 0))), (q_8, .inl (cy_15, 6001, .inl (fun _ => 0))), (q_9, .inl (cy_16, 256, .inl (fun _ => 0))), (q_10, .inl (cy_17, 3001, .inl (fun _ => 0))), (q_11, .inl (cy_18, 3001, .inl (fun _ => 0))), (q_12, .inl (cy_19, 3001, .inl (fun _ => 0))), (q_4, .inr (4, [.null, .ref q_20, .ref q_21, .ref q_22, .ref q_23, .ref q_24, .int 0, .ref q_25, .int 0, .int 0, .int 0, .ref q_26, .int 0, .ref q_27, .int 0, .ref q_28, .null, .int 0, .int 0])), (q_38, .inr (14, [.null, .null, .null, .null, .null, .int 0])), (q_31, .inl (cy_39, 6000, .inl (fun _ => 0))), (q_35, .inl (cy_40, 6002, .inl (fun _ => 0))), (q_36, .inl (cy_41, 6002, .inl (fun _ => 0))), (q_37, .inl (cy_42, 6002, .inl (fun _ => 0))), (q_33, .inl (cy_43, 6000, .inl (fun _ => 0))), (q_34, .inl (cy_44, 6000, .inl (fun _ => 0))), (q_32, .inl (cy_45, 6600, .inl (fun _ => 0)))]) (w1 := []) hP hD [10] [0, 1, 2, 3, 4, 5, 6, 7, 8, 9, 11, 12, 13, 14, 15, 16, 17, 18] rfl rfl (by decide) (by decide) hk1 hFc hP1 hD1
  have hK := (hK.sub (tys' := [(cy_5, .byte), (cy_13, .int), (cy_14, .int), (cy_15, .int), (cy_16, .int), (cy_17, .int), (cy_18, .int), (cy_19, .int), (cy_39, .byte), (cy_40, .int), (cy_41, .int), (cy_42, .int), (cy_43, .int), (cy_44, .int), (cy_45, .byte)]) [0, 1, 2, 3, 4, 5, 6, 7, 8, 9, 10, 11, 12, 13, 14] rfl).app hK1
  generalize H1 = H at hP hS ⊢
  have hK : va_K (dC, dI) vwCl [(cy_5, .byte), (cy_13, .int), (cy_14, .int), (cy_15, .int), (cy_16, .int), (cy_17, .int), (cy_18, .int), (cy_19, .int), (cy_39, .byte), (cy_40, .int), (cy_41, .int), (cy_42, .int), (cy_43, .int), (cy_44, .int), (cy_45, .byte)] s := hK
  have hP : va_P (dC, dI) vwCl [(q_2, .inl (cy_5, 6000, .inl (fun _ => 0))), (q_3, .inr (9, [.ref q_6, .ref q_7, .ref q_8, .int 0, .null, .int 0, .int 0, .int 0, .ref q_9, .ref q_10, .ref q_11, .ref q_12, .int 0])), (q_6, .inl (cy_13, 6001, .inl (fun _ => 0))), (q_7, .inl (cy_14, 6001, .inl (fun _ => 0))), (q_8, .inl (cy_15, 6001, .inl (fun _ => 0))), (q_9, .inl (cy_16, 256, .inl (fun _ => 0))), (q_10, .inl (cy_17, 3001, .inl (fun _ => 0))), (q_11, .inl (cy_18, 3001, .inl (fun _ => 0))), (q_12, .inl (cy_19, 3001, .inl (fun _ => 0))), (q_4, .inr (4, [.null, .ref q_20, .ref q_21, .ref q_22, .ref q_23, .ref q_24, .int 0, .ref q_25, .int 0, .int 0, .int 0, .ref q_26, .int 0, .ref q_27, .int 0, .ref q_28, .null, .int 0, .int 0])), (q_38, .inr (14, [.null, .null, .null, .null, .null, .int 0])), (q_31, .inl (cy_39, 6000, .inl (fun _ => 0))), (q_35, .inl (cy_40, 6002, .inl (fun _ => 0))), (q_36, .inl (cy_41, 6002, .inl (fun _ => 0))), (q_37, .inl (cy_42, 6002, .inl (fun _ => 0))), (q_33, .inl (cy_43, 6000, .inl (fun _ => 0))), (q_34, .inl (cy_44, 6000, .inl (fun _ => 0))), (q_32, .inl (cy_45, 6600, .inl (fun _ => 0)))] H := hP
  have hD : va_D A [(q_2, .inl (cy_5, 6000, .inl (fun _ => 0))), (q_3, .inr (9, [.ref q_6, .ref q_7, .ref q_8, .int 0, .null, .int 0, .int 0, .int 0, .ref q_9, .ref q_10, .ref q_11, .ref q_12, .int 0])), (q_6, .inl (cy_13, 6001, .inl (fun _ => 0))), (q_7, .inl (cy_14, 6001, .inl (fun _ => 0))), (q_8, .inl (cy_15, 6001, .inl (fun _ => 0))), (q_9, .inl (cy_16, 256, .inl (fun _ => 0))), (q_10, .inl (cy_17, 3001, .inl (fun _ => 0))), (q_11, .inl (cy_18, 3001, .inl (fun _ => 0))), (q_12, .inl (cy_19, 3001, .inl (fun _ => 0))), (q_4, .inr (4, [.null, .ref q_20, .ref q_21, .ref q_22, .ref q_23, .ref q_24, .int 0, .ref q_25, .int 0, .int 0, .int 0, .ref q_26, .int 0, .ref q_27, .int 0, .ref q_28, .null, .int 0, .int 0])), (q_38, .inr (14, [.null, .null, .null, .null, .null, .int 0])), (q_31, .inl (cy_39, 6000, .inl (fun _ => 0))), (q_35, .inl (cy_40, 6002, .inl (fun _ => 0))), (q_36, .inl (cy_41, 6002, .inl (fun _ => 0))), (q_37, .inl (cy_42, 6002, .inl (fun _ => 0))), (q_33, .inl (cy_43, 6000, .inl (fun _ => 0))), (q_34, .inl (cy_44, 6000, .inl (fun _ => 0))), (q_32, .inl (cy_45, 6600, .inl (fun _ => 0)))] := hD
  refine W.widen (k := 100) (n := 719914) (Nat.le_of_ble_eq_true rfl) (Nat.le_of_ble_eq_true rfl) ?_
  obtain rfl : r9 = ((-1)) := hw
  refine lv_icmp_eq (tgt := 665) hx hb dL_law_407 (by decide) (fun c9 => ?_) (fun c9 => absurd (by decide) c9)
  clear c9
  refine lv_iinc (v := 6) (lv' := [(4, .int 6), (3, .ref q_58), (2, .ref q_29), (1, .ref q_1), (0, .ref b)]) hx hb dL_law_665 hl (k := 0) rfl (by decide) (by decide) rfl (fun ls hl => ?_)
  refine lv_goto (tgt := 23) hx hb dL_law_668 (by decide) ?_
  refine lv_iload hx hb dL_law_23 (lv_at hl 0 rfl) ?_
  refine lv_aload_n hx hb dL_law_25 rfl (lv_at hl 4 rfl) ?_
  refine va_slen hx hb hX hbl hbA hS dL_law_26 ?_
  refine lv_topi (fun y9 e9 => ?_)
  have e9 : y9 = 6 := e9
  subst e9
  refine lv_bipush (v := 6) hx hb dL_law_27 (by decide) ?_
  refine lv_isub hx hb dL_law_29 ?_
  refine lv_topi (fun y9 e9 => ?_)
  have e9 : y9 = 0 := by rw [e9]; decide
  subst e9
  refine lv_icmp_gt (tgt := 671) hx hb dL_law_30 (by decide) (fun c9 => ?_) (fun c9 => absurd (by decide) c9)
  clear c9
  refine lv_iconst (v := 1) hx hb dL_law_671 (by decide) ?_
  refine va_forget (fun q hq => hAA q.base (hS.2.2 q hq)) ?_
  refine W.widen (k := 600002) (n := 7302232) (Nat.le_of_ble_eq_true rfl) (Nat.le_of_ble_eq_true rfl) ?_
  exact lw_ret hx hb hr hlocks dL_law_672
set_option maxHeartbeats 4000000 in
set_option maxRecDepth 100000 in
theorem law_case_8 {p : Program} {e : Env} {s : State} {m : MethodId} {below : List Frame} {meth : Method} {c : Code} (l : Launch) (hfl : l.flags = flags0) {b : Nat} {xs : Nat → Int32} (C0 : lw_At p s m meth c b 6 xs) (dC : Nat → ClassId) (dI : Nat → Nat → Nat) (A : Nat → Prop) (hA : ∀ q : Nat, s.heap.size ≤ q → A q) (hAa : ∀ q : Nat, q < s.heap.size → ¬ A q) (hAA : ∀ q : Nat, A q → s.heap.size ≤ q) (q_1 : Nat) (q_2 : Nat) (q_3 : Nat) (q_4 : Nat) (cy_5 : ClassId) (q_6 : Nat) (q_7 : Nat) (q_8 : Nat) (q_9 : Nat) (q_10 : Nat) (q_11 : Nat) (q_12 : Nat) (cy_13 : ClassId) (cy_14 : ClassId) (cy_15 : ClassId) (cy_16 : ClassId) (cy_17 : ClassId) (cy_18 : ClassId) (cy_19 : ClassId) (q_20 : Nat) (q_21 : Nat) (q_22 : Nat) (q_23 : Nat) (q_24 : Nat) (q_25 : Nat) (q_26 : Nat) (q_27 : Nat) (q_28 : Nat) (q_29 : Nat) (F_30 : Nat → Value) (q_31 : Nat) (q_32 : Nat) (q_33 : Nat) (q_34 : Nat) (q_35 : Nat) (q_36 : Nat) (q_37 : Nat) (q_38 : Nat) (cy_39 : ClassId) (cy_40 : ClassId) (cy_41 : ClassId) (cy_42 : ClassId) (cy_43 : ClassId) (cy_44 : ClassId) (cy_45 : ClassId) (q_58 : Nat) (hq0 : F_30 0 = .int 0) (hq1 : F_30 1 = .ref q_38) (hq2 : F_30 2 = .ref q_31) (hq3 : F_30 3 = .int 0) (hq9 : F_30 9 = .ref q_35) (hq10 : F_30 10 = .ref q_36) (hq11 : F_30 11 = .ref q_37) (hq13 : F_30 13 = .ref q_33) (hq14 : F_30 14 = .ref q_34) (hq15 : F_30 15 = .ref q_32) (hq98 : F_30 98 = .int 0) (hq100 : F_30 100 = .int 0) (H : Heap) (locs : List Loc) (ls : Array Slot) (hK : va_K (dC, dI) vwCl [(cy_5, .byte), (cy_13, .int), (cy_14, .int), (cy_15, .int), (cy_16, .int), (cy_17, .int), (cy_18, .int), (cy_19, .int), (cy_39, .byte), (cy_40, .int), (cy_41, .int), (cy_42, .int), (cy_43, .int), (cy_44, .int), (cy_45, .byte)] s) (hP : va_P (dC, dI) vwCl [(q_1, .inr (13, [.ref q_2, .int 0, .ref q_3, .ref q_4, .null])), (q_2, .inl (cy_5, 6000, .inl (fun _ => 0))), (q_3, .inr (9, [.ref q_6, .ref q_7, .ref q_8, .int 0, .null, .int 0, .int 0, .int 0, .ref q_9, .ref q_10, .ref q_11, .ref q_12, .int 0])), (q_6, .inl (cy_13, 6001, .inl (fun _ => 0))), (q_7, .inl (cy_14, 6001, .inl (fun _ => 0))), (q_8, .inl (cy_15, 6001, .inl (fun _ => 0))), (q_9, .inl (cy_16, 256, .inl (fun _ => 0))), (q_10, .inl (cy_17, 3001, .inl (fun _ => 0))), (q_11, .inl (cy_18, 3001, .inl (fun _ => 0))), (q_12, .inl (cy_19, 3001, .inl (fun _ => 0))), (q_4, .inr (4, [.null, .ref q_20, .ref q_21, .ref q_22, .ref q_23, .ref q_24, .int 0, .ref q_25, .int 0, .int 0, .int 0, .ref q_26, .int 0, .ref q_27, .int 0, .ref q_28, .null, .int 0, .int 0])), (q_29, .inr (15, fl 134 F_30)), (q_38, .inr (14, [.null, .null, .null, .null, .null, .int 0])), (q_31, .inl (cy_39, 6000, .inl (fun _ => 0))), (q_35, .inl (cy_40, 6002, .inl (fun _ => 0))), (q_36, .inl (cy_41, 6002, .inl (fun _ => 0))), (q_37, .inl (cy_42, 6002, .inl (fun _ => 0))), (q_33, .inl (cy_43, 6000, .inl (fun _ => 0))), (q_34, .inl (cy_44, 6000, .inl (fun _ => 0))), (q_32, .inl (cy_45, 6600, .inl (fun _ => 0)))] H) (hD : va_D A [(q_1, .inr (13, [.ref q_2, .int 0, .ref q_3, .ref q_4, .null])), (q_2, .inl (cy_5, 6000, .inl (fun _ => 0))), (q_3, .inr (9, [.ref q_6, .ref q_7, .ref q_8, .int 0, .null, .int 0, .int 0, .int 0, .ref q_9, .ref q_10, .ref q_11, .ref q_12, .int 0])), (q_6, .inl (cy_13, 6001, .inl (fun _ => 0))), (q_7, .inl (cy_14, 6001, .inl (fun _ => 0))), (q_8, .inl (cy_15, 6001, .inl (fun _ => 0))), (q_9, .inl (cy_16, 256, .inl (fun _ => 0))), (q_10, .inl (cy_17, 3001, .inl (fun _ => 0))), (q_11, .inl (cy_18, 3001, .inl (fun _ => 0))), (q_12, .inl (cy_19, 3001, .inl (fun _ => 0))), (q_4, .inr (4, [.null, .ref q_20, .ref q_21, .ref q_22, .ref q_23, .ref q_24, .int 0, .ref q_25, .int 0, .int 0, .int 0, .ref q_26, .int 0, .ref q_27, .int 0, .ref q_28, .null, .int 0, .int 0])), (q_29, .inr (15, fl 134 F_30)), (q_38, .inr (14, [.null, .null, .null, .null, .null, .int 0])), (q_31, .inl (cy_39, 6000, .inl (fun _ => 0))), (q_35, .inl (cy_40, 6002, .inl (fun _ => 0))), (q_36, .inl (cy_41, 6002, .inl (fun _ => 0))), (q_37, .inl (cy_42, 6002, .inl (fun _ => 0))), (q_33, .inl (cy_43, 6000, .inl (fun _ => 0))), (q_34, .inl (cy_44, 6000, .inl (fun _ => 0))), (q_32, .inl (cy_45, 6600, .inl (fun _ => 0)))]) (hS : va_S A s.heap H locs) (hl : lv_has ls 7 [(4, .int 0), (3, .ref q_58), (2, .ref q_29), (1, .ref q_1), (0, .ref b)]) : W p l e room_1 s m #[Value.ref b] below meth c H locs 100 719914 (lw_Z below #[Value.ref b] s) (F0 m 412 ls []) := by
  obtain ⟨hx, hb, hr, hml, hown, htsT, hX, hbl, hlocks, hgv⟩ := id C0
  have hown : s.vm.findClass RL = some m.cls := hown
  have hts : ∀ w ∈ ws_law, w.before #[Value.ref b] s = true := fun w h => htsT w (in_law w h)
  have hg := flat_of_before _ hgv
  have hbA : ¬ A b := hAa b hbl
  have hflags : l.stackTraces = false := by unfold Launch.stackTraces; rw [hfl]; decide
  obtain ⟨sa169, hEsa169⟩ := law_str169 hgv
  have hN0 : vk_R RX11 169 kx169 sa169 s := vk_R.of (htsT (.stringRef RX11 169 kx169) (List.mem_of_getElem? (i := 2053) (by decide +kernel))) hEsa169
  have hN1 : va_Nw (.castable "java/lang/IllegalStateException" "java/lang/IllegalStateException") s := va_Nw.of rfl (htsT (.castable "java/lang/IllegalStateException" "java/lang/IllegalStateException") (List.mem_of_getElem? (i := 2014) (by decide +kernel)))
  have hN2 : va_Nw (.declares (Bundle.initS "java/lang/Throwable")) s := va_Nw.of rfl (htsT (.declares (Bundle.initS "java/lang/Throwable")) (List.mem_of_getElem? (i := 2020) (by decide +kernel)))
  have hN3 : va_Nw (.declares (Bundle.initS "java/lang/Exception")) s := va_Nw.of rfl (htsT (.declares (Bundle.initS "java/lang/Exception")) (List.mem_of_getElem? (i := 2018) (by decide +kernel)))
  have hN4 : va_Nw (.declares (Bundle.initS "java/lang/RuntimeException")) s := va_Nw.of rfl (htsT (.declares (Bundle.initS "java/lang/RuntimeException")) (List.mem_of_getElem? (i := 2016) (by decide +kernel)))
  have hN5 : vx_Zq "java/lang/Throwable" "UNASSIGNED_STACK" "[Ljava/lang/StackTraceElement;" A s s.heap := vx_Zqof (htsT (.laysStatic "java/lang/Throwable" "UNASSIGNED_STACK" "[Ljava/lang/StackTraceElement;") (List.mem_of_getElem? (i := 2039) (by decide +kernel))) (htsT (.initialized "java/lang/Throwable") (List.mem_of_getElem? (i := 391) (by decide +kernel))) (hg (.isRef (.static "java/lang/Throwable" "UNASSIGNED_STACK" "[Ljava/lang/StackTraceElement;")) (List.mem_of_getElem? (i := 9) (by decide +kernel))) hAa
  have hN6 : vx_Zq "java/lang/Throwable" "SUPPRESSED_SENTINEL" "Ljava/util/List;" A s s.heap := vx_Zqof (htsT (.laysStatic "java/lang/Throwable" "SUPPRESSED_SENTINEL" "Ljava/util/List;") (List.mem_of_getElem? (i := 2041) (by decide +kernel))) (htsT (.initialized "java/lang/Throwable") (List.mem_of_getElem? (i := 391) (by decide +kernel))) (hg (.isRef (.static "java/lang/Throwable" "SUPPRESSED_SENTINEL" "Ljava/util/List;")) (List.mem_of_getElem? (i := 10) (by decide +kernel))) hAa
  refine lv_aload_n hx hb dL_law_412 rfl (lv_at hl 3 rfl) ?_
  refine lv_aload_n hx hb dL_law_413 rfl (lv_at hl 4 rfl) ?_
  refine lv_iload hx hb dL_law_414 (lv_at hl 0 rfl) ?_
  refine lv_iconst (v := 1) hx hb dL_law_416 (by decide) ?_
  refine lv_iadd hx hb dL_law_417 ?_
  refine lv_topi (fun y9 e9 => ?_)
  have e9 : y9 = 1 := by rw [e9]; decide
  subst e9
  refine va_sld hx hb hX hbl hbA hS (i := 1) (by unfold vp_in; decide) dL_law_418 ?_
  refine lv_topi (fun x_1001 ex_1001 => ?_)
  have ex_1001 : x_1001 = xs 1 := ex_1001
  subst ex_1001
  have hPc := hP.sub (ws' := [(q_1, .inr (13, [.ref q_2, .int 0, .ref q_3, .ref q_4, .null]))]) [0] rfl
  have hDc := hD.sub (ws' := [(q_1, .inr (13, [.ref q_2, .int 0, .ref q_3, .ref q_4, .null]))]) [0] (by decide) rfl
  have hKc := hK.sub (tys' := []) [] rfl
  have hFc := va_free (wc := [(q_1, .inr (13, [.ref q_2, .int 0, .ref q_3, .ref q_4, .null]))]) hD hS hA [0] rfl
  refine va_calli (vx_runSW (As := [.ref q_1, .int (xs 1)]) (rest := []) ⟨hx, hb, hml, hown, hts⟩ (cl_begin l dC dI q_1 q_2 q_3 q_4 sa169 (xs 1) H.size hflags) (vx_cwSW 2 hts gl_cl_begin_61 rfl rfl rfl (by decide +kernel) ⟨(Nat.le_of_ble_eq_true rfl), (Nat.le_of_ble_eq_true rfl)⟩) ⟨fun a U g mk q => by obtain ⟨q0, q1, qP, qK, qD, qN0, qN1, qN2, qN3, qN4, qN5, qN6⟩ := q; exact ⟨q0, q1, qP, va_K.moved (u := U) (U := U.calling g mk a) (Vm.Alike.refl U.vm) qK, qD, vk_R.same (u := U) (U := U.calling g mk a) rfl qN0, va_Nw.same (u := U) rfl rfl qN1, va_Nw.same (u := U) rfl rfl qN2, va_Nw.same (u := U) rfl rfl qN3, va_Nw.same (u := U) rfl rfl qN4, vx_Zq.moved (u := U) (U := U.calling g mk a) (Vm.Alike.refl U.vm) qN5, vx_Zq.moved (u := U) (U := U.calling g mk a) (Vm.Alike.refl U.vm) qN6⟩, fun U hU hW => ⟨rfl, by rw [hU], by rw [hU]; exact hPc, va_K.moved hW.alike hKc, hDc.weaken (fun _ _ _ _ => trivial), vk_R.warm hW hN0, va_Nw.warmC hW hN1, va_Nw.warmD hW hN2, va_Nw.warmD hW hN3, va_Nw.warmD hW hN4, (by rw [hU]; exact vx_Zq.moved hW.alike ((hN5.kept (fun a h1 h2 => hS.2.1 a h1 h2)).narrow hFc)), (by rw [hU]; exact vx_Zq.moved hW.alike ((hN6.kept (fun a h1 h2 => hS.2.1 a h1 h2)).narrow hFc))⟩⟩ rfl rfl hl.1 rfl (lv_room (Nat.le_of_ble_eq_true rfl)) dL_law_419 ⟨(Nat.le_of_ble_eq_true rfl), (Nat.le_of_ble_eq_true rfl)⟩) hS (fun q _ h => hFc q h) hFc (fun r9 u t H1 locs ht hvm hw hB hz1 hk1 hS => ?_)
  obtain ⟨hP1, hK1, hD1⟩ := hB
  rw [ht] at hP1
  have hK1 := va_K.moved hvm.symm hK1
  obtain ⟨hP, hD⟩ := va_join (wr := [(q_2, .inl (cy_5, 6000, .inl (fun _ => 0))), (q_3, .inr (9, [.ref q_6, .ref q_7, .ref q_8, .int 0, .null, .int 0, .int 0, .int 0, .ref q_9, .ref q_10, .ref q_11, .ref q_12, .int 0])), (q_6, .inl (cy_13, 6001, .inl (fun _ => 0))), (q_7, .inl (cy_14, 6001, .inl (fun _ => 0))), (q_8, .inl (cy_15, 6001, .inl (fun _ => 0))), (q_9, .inl (cy_16, 256, .inl (fun _ => 0))), (q_10, .inl (cy_17, 3001, .inl (fun _ => 0))), (q_11, .inl (cy_18, 3001, .inl (fun _ => 0))), (q_12, .inl (cy_19, 3001, .inl (fun _ => 0))), (q_4, .inr (4, [.null, .ref q_20, .ref q_21, .ref q_22, .ref q_23, .ref q_24, .int 0, .ref q_25, .int 0, .int 0, .int 0, .ref q_26, .int 0, .ref q_27, .int 0, .ref q_28, .null, .int 0, .int 0])), (q_29, .inr (15, fl 134 F_30)), (q_38, .inr (14, [.null, .null, .null, .null, .null, .int 0])), (q_31, .inl (cy_39, 6000, .inl (fun _ => 0))), (q_35, .inl (cy_40, 6002, .inl (fun _ => 0))), (q_36, .inl (cy_41, 6002, .inl (fun _ => 0))), (q_37, .inl (cy_42, 6002, .inl (fun _ => 0))), (q_33, .inl (cy_43, 6000, .inl (fun _ => 0))), (q_34, .inl (cy_44, 6000, .inl (fun _ => 0))), (q_32, .inl (cy_45, 6600, .inl (fun _ => 0)))]) (w1 := []) hP hD [0] [1, 2, 3, 4, 5, 6, 7, 8, 9, 10, 11, 12, 13, 14, 15, 16, 17, 18, 19] rfl rfl (by decide) (by decide) hk1 hFc hP1 hD1
  have hK := (hK.sub (tys' := [(cy_5, .byte), (cy_13, .int), (cy_14, .int), (cy_15, .int), (cy_16, .int), (cy_17, .int), (cy_18, .int), (cy_19, .int), (cy_39, .byte), (cy_40, .int), (cy_41, .int), (cy_42, .int), (cy_43, .int), (cy_44, .int), (cy_45, .byte)]) [0, 1, 2, 3, 4, 5, 6, 7, 8, 9, 10, 11, 12, 13, 14] rfl).app hK1
  generalize H1 = H at hP hS ⊢
  have hK : va_K (dC, dI) vwCl [(cy_5, .byte), (cy_13, .int), (cy_14, .int), (cy_15, .int), (cy_16, .int), (cy_17, .int), (cy_18, .int), (cy_19, .int), (cy_39, .byte), (cy_40, .int), (cy_41, .int), (cy_42, .int), (cy_43, .int), (cy_44, .int), (cy_45, .byte)] s := hK
  have hP : va_P (dC, dI) vwCl [(q_2, .inl (cy_5, 6000, .inl (fun _ => 0))), (q_3, .inr (9, [.ref q_6, .ref q_7, .ref q_8, .int 0, .null, .int 0, .int 0, .int 0, .ref q_9, .ref q_10, .ref q_11, .ref q_12, .int 0])), (q_6, .inl (cy_13, 6001, .inl (fun _ => 0))), (q_7, .inl (cy_14, 6001, .inl (fun _ => 0))), (q_8, .inl (cy_15, 6001, .inl (fun _ => 0))), (q_9, .inl (cy_16, 256, .inl (fun _ => 0))), (q_10, .inl (cy_17, 3001, .inl (fun _ => 0))), (q_11, .inl (cy_18, 3001, .inl (fun _ => 0))), (q_12, .inl (cy_19, 3001, .inl (fun _ => 0))), (q_4, .inr (4, [.null, .ref q_20, .ref q_21, .ref q_22, .ref q_23, .ref q_24, .int 0, .ref q_25, .int 0, .int 0, .int 0, .ref q_26, .int 0, .ref q_27, .int 0, .ref q_28, .null, .int 0, .int 0])), (q_29, .inr (15, fl 134 F_30)), (q_38, .inr (14, [.null, .null, .null, .null, .null, .int 0])), (q_31, .inl (cy_39, 6000, .inl (fun _ => 0))), (q_35, .inl (cy_40, 6002, .inl (fun _ => 0))), (q_36, .inl (cy_41, 6002, .inl (fun _ => 0))), (q_37, .inl (cy_42, 6002, .inl (fun _ => 0))), (q_33, .inl (cy_43, 6000, .inl (fun _ => 0))), (q_34, .inl (cy_44, 6000, .inl (fun _ => 0))), (q_32, .inl (cy_45, 6600, .inl (fun _ => 0)))] H := hP
  have hD : va_D A [(q_2, .inl (cy_5, 6000, .inl (fun _ => 0))), (q_3, .inr (9, [.ref q_6, .ref q_7, .ref q_8, .int 0, .null, .int 0, .int 0, .int 0, .ref q_9, .ref q_10, .ref q_11, .ref q_12, .int 0])), (q_6, .inl (cy_13, 6001, .inl (fun _ => 0))), (q_7, .inl (cy_14, 6001, .inl (fun _ => 0))), (q_8, .inl (cy_15, 6001, .inl (fun _ => 0))), (q_9, .inl (cy_16, 256, .inl (fun _ => 0))), (q_10, .inl (cy_17, 3001, .inl (fun _ => 0))), (q_11, .inl (cy_18, 3001, .inl (fun _ => 0))), (q_12, .inl (cy_19, 3001, .inl (fun _ => 0))), (q_4, .inr (4, [.null, .ref q_20, .ref q_21, .ref q_22, .ref q_23, .ref q_24, .int 0, .ref q_25, .int 0, .int 0, .int 0, .ref q_26, .int 0, .ref q_27, .int 0, .ref q_28, .null, .int 0, .int 0])), (q_29, .inr (15, fl 134 F_30)), (q_38, .inr (14, [.null, .null, .null, .null, .null, .int 0])), (q_31, .inl (cy_39, 6000, .inl (fun _ => 0))), (q_35, .inl (cy_40, 6002, .inl (fun _ => 0))), (q_36, .inl (cy_41, 6002, .inl (fun _ => 0))), (q_37, .inl (cy_42, 6002, .inl (fun _ => 0))), (q_33, .inl (cy_43, 6000, .inl (fun _ => 0))), (q_34, .inl (cy_44, 6000, .inl (fun _ => 0))), (q_32, .inl (cy_45, 6600, .inl (fun _ => 0)))] := hD
  refine W.widen (k := 101) (n := 719920) (Nat.le_of_ble_eq_true rfl) (Nat.le_of_ble_eq_true rfl) ?_
  obtain rfl : r9 = 1 := hw
  refine lv_istore (lv' := [(5, .int 1), (4, .int 0), (3, .ref q_58), (2, .ref q_29), (1, .ref q_1), (0, .ref b)]) hx hb dL_law_422 hl (by decide) rfl (fun ls hl => ?_)
  refine lv_aload_n hx hb dL_law_424 rfl (lv_at hl 3 rfl) ?_
  refine lv_aload_n hx hb dL_law_425 rfl (lv_at hl 5 rfl) ?_
  refine lv_iload hx hb dL_law_426 (lv_at hl 1 rfl) ?_
  refine lv_iconst (v := 1) hx hb dL_law_428 (by decide) ?_
  refine lv_iadd hx hb dL_law_429 ?_
  refine lv_topi (fun y9 e9 => ?_)
  have e9 : y9 = 1 := by rw [e9]; decide
  subst e9
  refine va_sld hx hb hX hbl hbA hS (i := 1) (by unfold vp_in; decide) dL_law_430 ?_
  refine lv_topi (fun x_1002 ex_1002 => ?_)
  have ex_1002 : x_1002 = xs 1 := ex_1002
  subst ex_1002
  have hPc := hP.sub (ws' := [(q_29, .inr (15, fl 134 F_30))]) [10] rfl
  have hDc := hD.sub (ws' := [(q_29, .inr (15, fl 134 F_30))]) [10] (by decide) rfl
  have hKc := hK.sub (tys' := []) [] rfl
  have hFc := va_free (wc := [(q_29, .inr (15, fl 134 F_30))]) hD hS hA [10] rfl
  refine va_callv (va_runV (As := [.int (xs 1)]) (rest := []) ⟨hx, hb, hml, hown, hts⟩ (cm_begin l dC dI q_29 F_30 (xs 1) H.size hq98) (cwV 1 hts gl_cm_begin_66 rfl rfl rfl (by decide +kernel) ⟨(Nat.le_of_ble_eq_true rfl), (Nat.le_of_ble_eq_true rfl)⟩) ⟨fun a U g mk q => by obtain ⟨q0, q1, qP, qK, qD⟩ := q; exact ⟨q0, q1, qP, va_K.moved (u := U) (U := U.calling g mk a) (Vm.Alike.refl U.vm) qK, qD⟩, va_recv hKc hPc (ci := 15) (q0 := 0) rfl rfl, fun U hU hW => ⟨rfl, by rw [hU], by rw [hU]; exact hPc, va_K.moved hW.alike hKc, hDc.weaken (fun _ _ _ _ => trivial)⟩⟩ rfl rfl hl.1 rfl (lv_room (Nat.le_of_ble_eq_true rfl)) dL_law_431 ⟨(Nat.le_of_ble_eq_true rfl), (Nat.le_of_ble_eq_true rfl)⟩) hS (fun q _ h => hFc q h) hFc (fun u t H1 locs ht hvm hw hB hz1 hk1 hS => ?_)
  obtain ⟨F_1003, hf_1004, hx_1005, hP1, hK1, hD1⟩ := hB
  rw [ht] at hP1
  have hK1 := va_K.moved hvm.symm hK1
  have hk_1006 : F_1003 0 = .int 1 := hf_1004
  have hk_1007 : F_1003 3 = .int 0 := ((hx_1005 3 (by omega)).trans hq3)
  have hk_1008 : F_1003 98 = .int 0 := ((hx_1005 98 (by omega)).trans hq98)
  have hk_1009 : F_1003 100 = .int 0 := ((hx_1005 100 (by omega)).trans hq100)
  have hk_1010 : F_1003 2 = .ref q_31 := ((hx_1005 2 (by omega)).trans hq2)
  have hk_1011 : F_1003 15 = .ref q_32 := ((hx_1005 15 (by omega)).trans hq15)
  have hk_1012 : F_1003 13 = .ref q_33 := ((hx_1005 13 (by omega)).trans hq13)
  have hk_1013 : F_1003 14 = .ref q_34 := ((hx_1005 14 (by omega)).trans hq14)
  have hk_1014 : F_1003 9 = .ref q_35 := ((hx_1005 9 (by omega)).trans hq9)
  have hk_1015 : F_1003 10 = .ref q_36 := ((hx_1005 10 (by omega)).trans hq10)
  have hk_1016 : F_1003 11 = .ref q_37 := ((hx_1005 11 (by omega)).trans hq11)
  have hk_1017 : F_1003 1 = .ref q_38 := ((hx_1005 1 (by omega)).trans hq1)
  obtain ⟨hP, hD⟩ := va_join (wr := [(q_2, .inl (cy_5, 6000, .inl (fun _ => 0))), (q_3, .inr (9, [.ref q_6, .ref q_7, .ref q_8, .int 0, .null, .int 0, .int 0, .int 0, .ref q_9, .ref q_10, .ref q_11, .ref q_12, .int 0])), (q_6, .inl (cy_13, 6001, .inl (fun _ => 0))), (q_7, .inl (cy_14, 6001, .inl (fun _ => 0))), (q_8, .inl (cy_15, 6001, .inl (fun _ => 0))), (q_9, .inl (cy_16, 256, .inl (fun _ => 0))), (q_10, .inl (cy_17, 3001, .inl (fun _ => 0))), (q_11, .inl (cy_18, 3001, .inl (fun _ => 0))), (q_12, .inl (cy_19, 3001, .inl (fun _ => 0))), (q_4, .inr (4, [.null, .ref q_20, .ref q_21, .ref q_22, .ref q_23, .ref q_24, .int 0, .ref q_25, .int 0, .int 0, .int 0, .ref q_26, .int 0, .ref q_27, .int 0, .ref q_28, .null, .int 0, .int 0])), (q_38, .inr (14, [.null, .null, .null, .null, .null, .int 0])), (q_31, .inl (cy_39, 6000, .inl (fun _ => 0))), (q_35, .inl (cy_40, 6002, .inl (fun _ => 0))), (q_36, .inl (cy_41, 6002, .inl (fun _ => 0))), (q_37, .inl (cy_42, 6002, .inl (fun _ => 0))), (q_33, .inl (cy_43, 6000, .inl (fun _ => 0))), (q_34, .inl (cy_44, 6000, .inl (fun _ => 0))), (q_32, .inl (cy_45, 6600, .inl (fun _ => 0)))]) (w1 := [(q_29, .inr (15, fl 134 F_1003))]) hP hD [10] [0, 1, 2, 3, 4, 5, 6, 7, 8, 9, 11, 12, 13, 14, 15, 16, 17, 18] rfl rfl (by decide) (by decide) hk1 hFc hP1 hD1
  have hK := (hK.sub (tys' := [(cy_5, .byte), (cy_13, .int), (cy_14, .int), (cy_15, .int), (cy_16, .int), (cy_17, .int), (cy_18, .int), (cy_19, .int), (cy_39, .byte), (cy_40, .int), (cy_41, .int), (cy_42, .int), (cy_43, .int), (cy_44, .int), (cy_45, .byte)]) [0, 1, 2, 3, 4, 5, 6, 7, 8, 9, 10, 11, 12, 13, 14] rfl).app hK1
  generalize H1 = H at hP hS ⊢
  have hK : va_K (dC, dI) vwCl [(cy_5, .byte), (cy_13, .int), (cy_14, .int), (cy_15, .int), (cy_16, .int), (cy_17, .int), (cy_18, .int), (cy_19, .int), (cy_39, .byte), (cy_40, .int), (cy_41, .int), (cy_42, .int), (cy_43, .int), (cy_44, .int), (cy_45, .byte)] s := hK
  have hP : va_P (dC, dI) vwCl [(q_2, .inl (cy_5, 6000, .inl (fun _ => 0))), (q_3, .inr (9, [.ref q_6, .ref q_7, .ref q_8, .int 0, .null, .int 0, .int 0, .int 0, .ref q_9, .ref q_10, .ref q_11, .ref q_12, .int 0])), (q_6, .inl (cy_13, 6001, .inl (fun _ => 0))), (q_7, .inl (cy_14, 6001, .inl (fun _ => 0))), (q_8, .inl (cy_15, 6001, .inl (fun _ => 0))), (q_9, .inl (cy_16, 256, .inl (fun _ => 0))), (q_10, .inl (cy_17, 3001, .inl (fun _ => 0))), (q_11, .inl (cy_18, 3001, .inl (fun _ => 0))), (q_12, .inl (cy_19, 3001, .inl (fun _ => 0))), (q_4, .inr (4, [.null, .ref q_20, .ref q_21, .ref q_22, .ref q_23, .ref q_24, .int 0, .ref q_25, .int 0, .int 0, .int 0, .ref q_26, .int 0, .ref q_27, .int 0, .ref q_28, .null, .int 0, .int 0])), (q_38, .inr (14, [.null, .null, .null, .null, .null, .int 0])), (q_31, .inl (cy_39, 6000, .inl (fun _ => 0))), (q_35, .inl (cy_40, 6002, .inl (fun _ => 0))), (q_36, .inl (cy_41, 6002, .inl (fun _ => 0))), (q_37, .inl (cy_42, 6002, .inl (fun _ => 0))), (q_33, .inl (cy_43, 6000, .inl (fun _ => 0))), (q_34, .inl (cy_44, 6000, .inl (fun _ => 0))), (q_32, .inl (cy_45, 6600, .inl (fun _ => 0))), (q_29, .inr (15, fl 134 F_1003))] H := hP
  have hD : va_D A [(q_2, .inl (cy_5, 6000, .inl (fun _ => 0))), (q_3, .inr (9, [.ref q_6, .ref q_7, .ref q_8, .int 0, .null, .int 0, .int 0, .int 0, .ref q_9, .ref q_10, .ref q_11, .ref q_12, .int 0])), (q_6, .inl (cy_13, 6001, .inl (fun _ => 0))), (q_7, .inl (cy_14, 6001, .inl (fun _ => 0))), (q_8, .inl (cy_15, 6001, .inl (fun _ => 0))), (q_9, .inl (cy_16, 256, .inl (fun _ => 0))), (q_10, .inl (cy_17, 3001, .inl (fun _ => 0))), (q_11, .inl (cy_18, 3001, .inl (fun _ => 0))), (q_12, .inl (cy_19, 3001, .inl (fun _ => 0))), (q_4, .inr (4, [.null, .ref q_20, .ref q_21, .ref q_22, .ref q_23, .ref q_24, .int 0, .ref q_25, .int 0, .int 0, .int 0, .ref q_26, .int 0, .ref q_27, .int 0, .ref q_28, .null, .int 0, .int 0])), (q_38, .inr (14, [.null, .null, .null, .null, .null, .int 0])), (q_31, .inl (cy_39, 6000, .inl (fun _ => 0))), (q_35, .inl (cy_40, 6002, .inl (fun _ => 0))), (q_36, .inl (cy_41, 6002, .inl (fun _ => 0))), (q_37, .inl (cy_42, 6002, .inl (fun _ => 0))), (q_33, .inl (cy_43, 6000, .inl (fun _ => 0))), (q_34, .inl (cy_44, 6000, .inl (fun _ => 0))), (q_32, .inl (cy_45, 6600, .inl (fun _ => 0))), (q_29, .inr (15, fl 134 F_1003))] := hD
  refine W.widen (k := 101) (n := 719920) (Nat.le_of_ble_eq_true rfl) (Nat.le_of_ble_eq_true rfl) ?_
  refine lv_aload_n hx hb dL_law_434 rfl (lv_at hl 3 rfl) ?_
  have hPc := hP.sub (ws' := [(q_29, .inr (15, fl 134 F_1003))]) [18] rfl
  have hDc := hD.sub (ws' := [(q_29, .inr (15, fl 134 F_1003))]) [18] (by decide) rfl
  have hKc := hK.sub (tys' := []) [] rfl
  have hFc := va_free (wc := [(q_29, .inr (15, fl 134 F_1003))]) hD hS hA [18] rfl
  refine va_calli (va_runV (As := []) (rest := []) ⟨hx, hb, hml, hown, hts⟩ (cm_thrown_1 l dC dI q_29 F_1003 H.size hk_1006) (cwV 0 hts gl_cm_thrown_1_67 rfl rfl rfl (by decide +kernel) ⟨(Nat.le_of_ble_eq_true rfl), (Nat.le_of_ble_eq_true rfl)⟩) ⟨fun a U g mk q => by obtain ⟨q0, q1, qP, qK, qD⟩ := q; exact ⟨q0, q1, qP, va_K.moved (u := U) (U := U.calling g mk a) (Vm.Alike.refl U.vm) qK, qD⟩, va_recv hKc hPc (ci := 15) (q0 := 0) rfl rfl, fun U hU hW => ⟨rfl, by rw [hU], by rw [hU]; exact hPc, va_K.moved hW.alike hKc, hDc.weaken (fun _ _ _ _ => trivial)⟩⟩ rfl rfl hl.1 rfl (lv_room (Nat.le_of_ble_eq_true rfl)) dL_law_435 ⟨(Nat.le_of_ble_eq_true rfl), (Nat.le_of_ble_eq_true rfl)⟩) hS (fun q _ h => hFc q h) hFc (fun r9 u t H1 locs ht hvm hw hB hz1 hk1 hS => ?_)
  obtain ⟨hf_1018, hP1, hK1, hD1⟩ := hB
  rw [ht] at hP1
  have hK1 := va_K.moved hvm.symm hK1
  obtain ⟨hP, hD⟩ := va_join (wr := [(q_2, .inl (cy_5, 6000, .inl (fun _ => 0))), (q_3, .inr (9, [.ref q_6, .ref q_7, .ref q_8, .int 0, .null, .int 0, .int 0, .int 0, .ref q_9, .ref q_10, .ref q_11, .ref q_12, .int 0])), (q_6, .inl (cy_13, 6001, .inl (fun _ => 0))), (q_7, .inl (cy_14, 6001, .inl (fun _ => 0))), (q_8, .inl (cy_15, 6001, .inl (fun _ => 0))), (q_9, .inl (cy_16, 256, .inl (fun _ => 0))), (q_10, .inl (cy_17, 3001, .inl (fun _ => 0))), (q_11, .inl (cy_18, 3001, .inl (fun _ => 0))), (q_12, .inl (cy_19, 3001, .inl (fun _ => 0))), (q_4, .inr (4, [.null, .ref q_20, .ref q_21, .ref q_22, .ref q_23, .ref q_24, .int 0, .ref q_25, .int 0, .int 0, .int 0, .ref q_26, .int 0, .ref q_27, .int 0, .ref q_28, .null, .int 0, .int 0])), (q_38, .inr (14, [.null, .null, .null, .null, .null, .int 0])), (q_31, .inl (cy_39, 6000, .inl (fun _ => 0))), (q_35, .inl (cy_40, 6002, .inl (fun _ => 0))), (q_36, .inl (cy_41, 6002, .inl (fun _ => 0))), (q_37, .inl (cy_42, 6002, .inl (fun _ => 0))), (q_33, .inl (cy_43, 6000, .inl (fun _ => 0))), (q_34, .inl (cy_44, 6000, .inl (fun _ => 0))), (q_32, .inl (cy_45, 6600, .inl (fun _ => 0)))]) (w1 := [(q_29, .inr (15, fl 134 F_1003))]) hP hD [18] [0, 1, 2, 3, 4, 5, 6, 7, 8, 9, 10, 11, 12, 13, 14, 15, 16, 17] rfl rfl (by decide) (by decide) hk1 hFc hP1 hD1
  have hK := (hK.sub (tys' := [(cy_5, .byte), (cy_13, .int), (cy_14, .int), (cy_15, .int), (cy_16, .int), (cy_17, .int), (cy_18, .int), (cy_19, .int), (cy_39, .byte), (cy_40, .int), (cy_41, .int), (cy_42, .int), (cy_43, .int), (cy_44, .int), (cy_45, .byte)]) [0, 1, 2, 3, 4, 5, 6, 7, 8, 9, 10, 11, 12, 13, 14] rfl).app hK1
  generalize H1 = H at hP hS ⊢
  have hK : va_K (dC, dI) vwCl [(cy_5, .byte), (cy_13, .int), (cy_14, .int), (cy_15, .int), (cy_16, .int), (cy_17, .int), (cy_18, .int), (cy_19, .int), (cy_39, .byte), (cy_40, .int), (cy_41, .int), (cy_42, .int), (cy_43, .int), (cy_44, .int), (cy_45, .byte)] s := hK
  have hP : va_P (dC, dI) vwCl [(q_2, .inl (cy_5, 6000, .inl (fun _ => 0))), (q_3, .inr (9, [.ref q_6, .ref q_7, .ref q_8, .int 0, .null, .int 0, .int 0, .int 0, .ref q_9, .ref q_10, .ref q_11, .ref q_12, .int 0])), (q_6, .inl (cy_13, 6001, .inl (fun _ => 0))), (q_7, .inl (cy_14, 6001, .inl (fun _ => 0))), (q_8, .inl (cy_15, 6001, .inl (fun _ => 0))), (q_9, .inl (cy_16, 256, .inl (fun _ => 0))), (q_10, .inl (cy_17, 3001, .inl (fun _ => 0))), (q_11, .inl (cy_18, 3001, .inl (fun _ => 0))), (q_12, .inl (cy_19, 3001, .inl (fun _ => 0))), (q_4, .inr (4, [.null, .ref q_20, .ref q_21, .ref q_22, .ref q_23, .ref q_24, .int 0, .ref q_25, .int 0, .int 0, .int 0, .ref q_26, .int 0, .ref q_27, .int 0, .ref q_28, .null, .int 0, .int 0])), (q_38, .inr (14, [.null, .null, .null, .null, .null, .int 0])), (q_31, .inl (cy_39, 6000, .inl (fun _ => 0))), (q_35, .inl (cy_40, 6002, .inl (fun _ => 0))), (q_36, .inl (cy_41, 6002, .inl (fun _ => 0))), (q_37, .inl (cy_42, 6002, .inl (fun _ => 0))), (q_33, .inl (cy_43, 6000, .inl (fun _ => 0))), (q_34, .inl (cy_44, 6000, .inl (fun _ => 0))), (q_32, .inl (cy_45, 6600, .inl (fun _ => 0))), (q_29, .inr (15, fl 134 F_1003))] H := hP
  have hD : va_D A [(q_2, .inl (cy_5, 6000, .inl (fun _ => 0))), (q_3, .inr (9, [.ref q_6, .ref q_7, .ref q_8, .int 0, .null, .int 0, .int 0, .int 0, .ref q_9, .ref q_10, .ref q_11, .ref q_12, .int 0])), (q_6, .inl (cy_13, 6001, .inl (fun _ => 0))), (q_7, .inl (cy_14, 6001, .inl (fun _ => 0))), (q_8, .inl (cy_15, 6001, .inl (fun _ => 0))), (q_9, .inl (cy_16, 256, .inl (fun _ => 0))), (q_10, .inl (cy_17, 3001, .inl (fun _ => 0))), (q_11, .inl (cy_18, 3001, .inl (fun _ => 0))), (q_12, .inl (cy_19, 3001, .inl (fun _ => 0))), (q_4, .inr (4, [.null, .ref q_20, .ref q_21, .ref q_22, .ref q_23, .ref q_24, .int 0, .ref q_25, .int 0, .int 0, .int 0, .ref q_26, .int 0, .ref q_27, .int 0, .ref q_28, .null, .int 0, .int 0])), (q_38, .inr (14, [.null, .null, .null, .null, .null, .int 0])), (q_31, .inl (cy_39, 6000, .inl (fun _ => 0))), (q_35, .inl (cy_40, 6002, .inl (fun _ => 0))), (q_36, .inl (cy_41, 6002, .inl (fun _ => 0))), (q_37, .inl (cy_42, 6002, .inl (fun _ => 0))), (q_33, .inl (cy_43, 6000, .inl (fun _ => 0))), (q_34, .inl (cy_44, 6000, .inl (fun _ => 0))), (q_32, .inl (cy_45, 6600, .inl (fun _ => 0))), (q_29, .inr (15, fl 134 F_1003))] := hD
  refine W.widen (k := 101) (n := 719920) (Nat.le_of_ble_eq_true rfl) (Nat.le_of_ble_eq_true rfl) ?_
  obtain rfl : r9 = 1 := hw
  refine lv_iload hx hb dL_law_438 (lv_at hl 0 rfl) ?_
  refine lv_icmp_eq (tgt := 445) hx hb dL_law_440 (by decide) (fun c9 => ?_) (fun c9 => absurd (by decide) c9)
  clear c9
  refine lv_goto (tgt := 665) hx hb dL_law_445 (by decide) ?_
  refine lv_iinc (v := 6) (lv' := [(4, .int 6), (5, .int 1), (3, .ref q_58), (2, .ref q_29), (1, .ref q_1), (0, .ref b)]) hx hb dL_law_665 hl (k := 1) rfl (by decide) (by decide) rfl (fun ls hl => ?_)
  refine lv_goto (tgt := 23) hx hb dL_law_668 (by decide) ?_
  refine lv_iload hx hb dL_law_23 (lv_at hl 0 rfl) ?_
  refine lv_aload_n hx hb dL_law_25 rfl (lv_at hl 5 rfl) ?_
  refine va_slen hx hb hX hbl hbA hS dL_law_26 ?_
  refine lv_topi (fun y9 e9 => ?_)
  have e9 : y9 = 6 := e9
  subst e9
  refine lv_bipush (v := 6) hx hb dL_law_27 (by decide) ?_
  refine lv_isub hx hb dL_law_29 ?_
  refine lv_topi (fun y9 e9 => ?_)
  have e9 : y9 = 0 := by rw [e9]; decide
  subst e9
  refine lv_icmp_gt (tgt := 671) hx hb dL_law_30 (by decide) (fun c9 => ?_) (fun c9 => absurd (by decide) c9)
  clear c9
  refine lv_iconst (v := 1) hx hb dL_law_671 (by decide) ?_
  refine va_forget (fun q hq => hAA q.base (hS.2.2 q hq)) ?_
  refine W.widen (k := 600002) (n := 7302232) (Nat.le_of_ble_eq_true rfl) (Nat.le_of_ble_eq_true rfl) ?_
  exact lw_ret hx hb hr hlocks dL_law_672
set_option maxHeartbeats 4000000 in
set_option maxRecDepth 100000 in
theorem law_case_10 {p : Program} {e : Env} {s : State} {m : MethodId} {below : List Frame} {meth : Method} {c : Code} (l : Launch) (hfl : l.flags = flags0) {b : Nat} {xs : Nat → Int32} (C0 : lw_At p s m meth c b 6 xs) (dC : Nat → ClassId) (dI : Nat → Nat → Nat) (A : Nat → Prop) (hA : ∀ q : Nat, s.heap.size ≤ q → A q) (hAa : ∀ q : Nat, q < s.heap.size → ¬ A q) (hAA : ∀ q : Nat, A q → s.heap.size ≤ q) (q_1 : Nat) (q_2 : Nat) (q_3 : Nat) (q_4 : Nat) (cy_5 : ClassId) (q_6 : Nat) (q_7 : Nat) (q_8 : Nat) (q_9 : Nat) (q_10 : Nat) (q_11 : Nat) (q_12 : Nat) (cy_13 : ClassId) (cy_14 : ClassId) (cy_15 : ClassId) (cy_16 : ClassId) (cy_17 : ClassId) (cy_18 : ClassId) (cy_19 : ClassId) (q_20 : Nat) (q_21 : Nat) (q_22 : Nat) (q_23 : Nat) (q_24 : Nat) (q_25 : Nat) (q_26 : Nat) (q_27 : Nat) (q_28 : Nat) (q_29 : Nat) (F_30 : Nat → Value) (q_31 : Nat) (q_32 : Nat) (q_33 : Nat) (q_34 : Nat) (q_35 : Nat) (q_36 : Nat) (q_37 : Nat) (q_38 : Nat) (cy_39 : ClassId) (cy_40 : ClassId) (cy_41 : ClassId) (cy_42 : ClassId) (cy_43 : ClassId) (cy_44 : ClassId) (cy_45 : ClassId) (q_58 : Nat) (hq0 : F_30 0 = .int 0) (hq1 : F_30 1 = .ref q_38) (hq2 : F_30 2 = .ref q_31) (hq3 : F_30 3 = .int 0) (hq9 : F_30 9 = .ref q_35) (hq10 : F_30 10 = .ref q_36) (hq11 : F_30 11 = .ref q_37) (hq13 : F_30 13 = .ref q_33) (hq14 : F_30 14 = .ref q_34) (hq15 : F_30 15 = .ref q_32) (hq98 : F_30 98 = .int 0) (hq100 : F_30 100 = .int 0) (H : Heap) (locs : List Loc) (ls : Array Slot) (hK : va_K (dC, dI) vwCl [(cy_5, .byte), (cy_13, .int), (cy_14, .int), (cy_15, .int), (cy_16, .int), (cy_17, .int), (cy_18, .int), (cy_19, .int), (cy_39, .byte), (cy_40, .int), (cy_41, .int), (cy_42, .int), (cy_43, .int), (cy_44, .int), (cy_45, .byte)] s) (hP : va_P (dC, dI) vwCl [(q_1, .inr (13, [.ref q_2, .int 0, .ref q_3, .ref q_4, .null])), (q_2, .inl (cy_5, 6000, .inl (fun _ => 0))), (q_3, .inr (9, [.ref q_6, .ref q_7, .ref q_8, .int 0, .null, .int 0, .int 0, .int 0, .ref q_9, .ref q_10, .ref q_11, .ref q_12, .int 0])), (q_6, .inl (cy_13, 6001, .inl (fun _ => 0))), (q_7, .inl (cy_14, 6001, .inl (fun _ => 0))), (q_8, .inl (cy_15, 6001, .inl (fun _ => 0))), (q_9, .inl (cy_16, 256, .inl (fun _ => 0))), (q_10, .inl (cy_17, 3001, .inl (fun _ => 0))), (q_11, .inl (cy_18, 3001, .inl (fun _ => 0))), (q_12, .inl (cy_19, 3001, .inl (fun _ => 0))), (q_4, .inr (4, [.null, .ref q_20, .ref q_21, .ref q_22, .ref q_23, .ref q_24, .int 0, .ref q_25, .int 0, .int 0, .int 0, .ref q_26, .int 0, .ref q_27, .int 0, .ref q_28, .null, .int 0, .int 0])), (q_29, .inr (15, fl 134 F_30)), (q_38, .inr (14, [.null, .null, .null, .null, .null, .int 0])), (q_31, .inl (cy_39, 6000, .inl (fun _ => 0))), (q_35, .inl (cy_40, 6002, .inl (fun _ => 0))), (q_36, .inl (cy_41, 6002, .inl (fun _ => 0))), (q_37, .inl (cy_42, 6002, .inl (fun _ => 0))), (q_33, .inl (cy_43, 6000, .inl (fun _ => 0))), (q_34, .inl (cy_44, 6000, .inl (fun _ => 0))), (q_32, .inl (cy_45, 6600, .inl (fun _ => 0)))] H) (hD : va_D A [(q_1, .inr (13, [.ref q_2, .int 0, .ref q_3, .ref q_4, .null])), (q_2, .inl (cy_5, 6000, .inl (fun _ => 0))), (q_3, .inr (9, [.ref q_6, .ref q_7, .ref q_8, .int 0, .null, .int 0, .int 0, .int 0, .ref q_9, .ref q_10, .ref q_11, .ref q_12, .int 0])), (q_6, .inl (cy_13, 6001, .inl (fun _ => 0))), (q_7, .inl (cy_14, 6001, .inl (fun _ => 0))), (q_8, .inl (cy_15, 6001, .inl (fun _ => 0))), (q_9, .inl (cy_16, 256, .inl (fun _ => 0))), (q_10, .inl (cy_17, 3001, .inl (fun _ => 0))), (q_11, .inl (cy_18, 3001, .inl (fun _ => 0))), (q_12, .inl (cy_19, 3001, .inl (fun _ => 0))), (q_4, .inr (4, [.null, .ref q_20, .ref q_21, .ref q_22, .ref q_23, .ref q_24, .int 0, .ref q_25, .int 0, .int 0, .int 0, .ref q_26, .int 0, .ref q_27, .int 0, .ref q_28, .null, .int 0, .int 0])), (q_29, .inr (15, fl 134 F_30)), (q_38, .inr (14, [.null, .null, .null, .null, .null, .int 0])), (q_31, .inl (cy_39, 6000, .inl (fun _ => 0))), (q_35, .inl (cy_40, 6002, .inl (fun _ => 0))), (q_36, .inl (cy_41, 6002, .inl (fun _ => 0))), (q_37, .inl (cy_42, 6002, .inl (fun _ => 0))), (q_33, .inl (cy_43, 6000, .inl (fun _ => 0))), (q_34, .inl (cy_44, 6000, .inl (fun _ => 0))), (q_32, .inl (cy_45, 6600, .inl (fun _ => 0)))]) (hS : va_S A s.heap H locs) (hl : lv_has ls 7 [(4, .int 0), (3, .ref q_58), (2, .ref q_29), (1, .ref q_1), (0, .ref b)]) : W p l e room_1 s m #[Value.ref b] below meth c H locs 100 719914 (lw_Z below #[Value.ref b] s) (F0 m 504 ls []) := by
  obtain ⟨hx, hb, hr, hml, hown, htsT, hX, hbl, hlocks, hgv⟩ := id C0
  have hown : s.vm.findClass RL = some m.cls := hown
  have hts : ∀ w ∈ ws_law, w.before #[Value.ref b] s = true := fun w h => htsT w (in_law w h)
  have hg := flat_of_before _ hgv
  have hbA : ¬ A b := hAa b hbl
  have hflags : l.stackTraces = false := by unfold Launch.stackTraces; rw [hfl]; decide
  refine lv_aload_n hx hb dL_law_504 rfl (lv_at hl 3 rfl) ?_
  refine lv_aload_n hx hb dL_law_505 rfl (lv_at hl 4 rfl) ?_
  refine lv_iload hx hb dL_law_506 (lv_at hl 0 rfl) ?_
  refine lv_iconst (v := 1) hx hb dL_law_508 (by decide) ?_
  refine lv_iadd hx hb dL_law_509 ?_
  refine lv_topi (fun y9 e9 => ?_)
  have e9 : y9 = 1 := by rw [e9]; decide
  subst e9
  refine va_sld hx hb hX hbl hbA hS (i := 1) (by unfold vp_in; decide) dL_law_510 ?_
  refine lv_topi (fun x_1001 ex_1001 => ?_)
  have ex_1001 : x_1001 = xs 1 := ex_1001
  subst ex_1001
  have hPc := hP.sub (ws' := [(q_1, .inr (13, [.ref q_2, .int 0, .ref q_3, .ref q_4, .null])), (q_4, .inr (4, [.null, .ref q_20, .ref q_21, .ref q_22, .ref q_23, .ref q_24, .int 0, .ref q_25, .int 0, .int 0, .int 0, .ref q_26, .int 0, .ref q_27, .int 0, .ref q_28, .null, .int 0, .int 0]))]) [0, 10] rfl
  have hDc := hD.sub (ws' := [(q_1, .inr (13, [.ref q_2, .int 0, .ref q_3, .ref q_4, .null])), (q_4, .inr (4, [.null, .ref q_20, .ref q_21, .ref q_22, .ref q_23, .ref q_24, .int 0, .ref q_25, .int 0, .int 0, .int 0, .ref q_26, .int 0, .ref q_27, .int 0, .ref q_28, .null, .int 0, .int 0]))]) [0, 10] (by decide) rfl
  have hKc := hK.sub (tys' := []) [] rfl
  have hFc := va_free (wc := [(q_1, .inr (13, [.ref q_2, .int 0, .ref q_3, .ref q_4, .null])), (q_4, .inr (4, [.null, .ref q_20, .ref q_21, .ref q_22, .ref q_23, .ref q_24, .int 0, .ref q_25, .int 0, .int 0, .int 0, .ref q_26, .int 0, .ref q_27, .int 0, .ref q_28, .null, .int 0, .int 0]))]) hD hS hA [0, 10] rfl
  refine va_calli (va_runV (As := [.int (xs 1)]) (rest := []) ⟨hx, hb, hml, hown, hts⟩ (cc_output l dC dI q_1 q_2 q_3 q_4 q_20 q_21 q_22 q_23 q_24 q_25 q_26 q_27 q_28 (xs 1) H.size) (cwV 1 hts gl_cc_output_74 rfl rfl rfl (by decide +kernel) ⟨(Nat.le_of_ble_eq_true rfl), (Nat.le_of_ble_eq_true rfl)⟩) ⟨fun a U g mk q => by obtain ⟨q0, q1, qP, qK, qD⟩ := q; exact ⟨q0, q1, qP, va_K.moved (u := U) (U := U.calling g mk a) (Vm.Alike.refl U.vm) qK, qD⟩, va_recv hKc hPc (ci := 13) (q0 := 0) rfl rfl, fun U hU hW => ⟨rfl, by rw [hU], by rw [hU]; exact hPc, va_K.moved hW.alike hKc, hDc.weaken (fun _ _ _ _ => trivial)⟩⟩ rfl rfl hl.1 rfl (lv_room (Nat.le_of_ble_eq_true rfl)) dL_law_511 ⟨(Nat.le_of_ble_eq_true rfl), (Nat.le_of_ble_eq_true rfl)⟩) hS (fun q _ h => hFc q h) hFc (fun r9 u t H1 locs ht hvm hw hB hz1 hk1 hS => ?_)
  obtain ⟨hP1, hK1, hD1⟩ := hB
  rw [ht] at hP1
  have hK1 := va_K.moved hvm.symm hK1
  obtain ⟨hP, hD⟩ := va_join (wr := [(q_2, .inl (cy_5, 6000, .inl (fun _ => 0))), (q_3, .inr (9, [.ref q_6, .ref q_7, .ref q_8, .int 0, .null, .int 0, .int 0, .int 0, .ref q_9, .ref q_10, .ref q_11, .ref q_12, .int 0])), (q_6, .inl (cy_13, 6001, .inl (fun _ => 0))), (q_7, .inl (cy_14, 6001, .inl (fun _ => 0))), (q_8, .inl (cy_15, 6001, .inl (fun _ => 0))), (q_9, .inl (cy_16, 256, .inl (fun _ => 0))), (q_10, .inl (cy_17, 3001, .inl (fun _ => 0))), (q_11, .inl (cy_18, 3001, .inl (fun _ => 0))), (q_12, .inl (cy_19, 3001, .inl (fun _ => 0))), (q_29, .inr (15, fl 134 F_30)), (q_38, .inr (14, [.null, .null, .null, .null, .null, .int 0])), (q_31, .inl (cy_39, 6000, .inl (fun _ => 0))), (q_35, .inl (cy_40, 6002, .inl (fun _ => 0))), (q_36, .inl (cy_41, 6002, .inl (fun _ => 0))), (q_37, .inl (cy_42, 6002, .inl (fun _ => 0))), (q_33, .inl (cy_43, 6000, .inl (fun _ => 0))), (q_34, .inl (cy_44, 6000, .inl (fun _ => 0))), (q_32, .inl (cy_45, 6600, .inl (fun _ => 0)))]) (w1 := []) hP hD [0, 10] [1, 2, 3, 4, 5, 6, 7, 8, 9, 11, 12, 13, 14, 15, 16, 17, 18, 19] rfl rfl (by decide) (by decide) hk1 hFc hP1 hD1
  have hK := (hK.sub (tys' := [(cy_5, .byte), (cy_13, .int), (cy_14, .int), (cy_15, .int), (cy_16, .int), (cy_17, .int), (cy_18, .int), (cy_19, .int), (cy_39, .byte), (cy_40, .int), (cy_41, .int), (cy_42, .int), (cy_43, .int), (cy_44, .int), (cy_45, .byte)]) [0, 1, 2, 3, 4, 5, 6, 7, 8, 9, 10, 11, 12, 13, 14] rfl).app hK1
  generalize H1 = H at hP hS ⊢
  have hK : va_K (dC, dI) vwCl [(cy_5, .byte), (cy_13, .int), (cy_14, .int), (cy_15, .int), (cy_16, .int), (cy_17, .int), (cy_18, .int), (cy_19, .int), (cy_39, .byte), (cy_40, .int), (cy_41, .int), (cy_42, .int), (cy_43, .int), (cy_44, .int), (cy_45, .byte)] s := hK
  have hP : va_P (dC, dI) vwCl [(q_2, .inl (cy_5, 6000, .inl (fun _ => 0))), (q_3, .inr (9, [.ref q_6, .ref q_7, .ref q_8, .int 0, .null, .int 0, .int 0, .int 0, .ref q_9, .ref q_10, .ref q_11, .ref q_12, .int 0])), (q_6, .inl (cy_13, 6001, .inl (fun _ => 0))), (q_7, .inl (cy_14, 6001, .inl (fun _ => 0))), (q_8, .inl (cy_15, 6001, .inl (fun _ => 0))), (q_9, .inl (cy_16, 256, .inl (fun _ => 0))), (q_10, .inl (cy_17, 3001, .inl (fun _ => 0))), (q_11, .inl (cy_18, 3001, .inl (fun _ => 0))), (q_12, .inl (cy_19, 3001, .inl (fun _ => 0))), (q_29, .inr (15, fl 134 F_30)), (q_38, .inr (14, [.null, .null, .null, .null, .null, .int 0])), (q_31, .inl (cy_39, 6000, .inl (fun _ => 0))), (q_35, .inl (cy_40, 6002, .inl (fun _ => 0))), (q_36, .inl (cy_41, 6002, .inl (fun _ => 0))), (q_37, .inl (cy_42, 6002, .inl (fun _ => 0))), (q_33, .inl (cy_43, 6000, .inl (fun _ => 0))), (q_34, .inl (cy_44, 6000, .inl (fun _ => 0))), (q_32, .inl (cy_45, 6600, .inl (fun _ => 0)))] H := hP
  have hD : va_D A [(q_2, .inl (cy_5, 6000, .inl (fun _ => 0))), (q_3, .inr (9, [.ref q_6, .ref q_7, .ref q_8, .int 0, .null, .int 0, .int 0, .int 0, .ref q_9, .ref q_10, .ref q_11, .ref q_12, .int 0])), (q_6, .inl (cy_13, 6001, .inl (fun _ => 0))), (q_7, .inl (cy_14, 6001, .inl (fun _ => 0))), (q_8, .inl (cy_15, 6001, .inl (fun _ => 0))), (q_9, .inl (cy_16, 256, .inl (fun _ => 0))), (q_10, .inl (cy_17, 3001, .inl (fun _ => 0))), (q_11, .inl (cy_18, 3001, .inl (fun _ => 0))), (q_12, .inl (cy_19, 3001, .inl (fun _ => 0))), (q_29, .inr (15, fl 134 F_30)), (q_38, .inr (14, [.null, .null, .null, .null, .null, .int 0])), (q_31, .inl (cy_39, 6000, .inl (fun _ => 0))), (q_35, .inl (cy_40, 6002, .inl (fun _ => 0))), (q_36, .inl (cy_41, 6002, .inl (fun _ => 0))), (q_37, .inl (cy_42, 6002, .inl (fun _ => 0))), (q_33, .inl (cy_43, 6000, .inl (fun _ => 0))), (q_34, .inl (cy_44, 6000, .inl (fun _ => 0))), (q_32, .inl (cy_45, 6600, .inl (fun _ => 0)))] := hD
  refine W.widen (k := 100) (n := 719914) (Nat.le_of_ble_eq_true rfl) (Nat.le_of_ble_eq_true rfl) ?_
  obtain rfl : r9 = 0 := hw
  refine lv_aload_n hx hb dL_law_514 rfl (lv_at hl 2 rfl) ?_
  refine lv_aload_n hx hb dL_law_515 rfl (lv_at hl 4 rfl) ?_
  refine lv_iload hx hb dL_law_516 (lv_at hl 0 rfl) ?_
  refine lv_iconst (v := 1) hx hb dL_law_518 (by decide) ?_
  refine lv_iadd hx hb dL_law_519 ?_
  refine lv_topi (fun y9 e9 => ?_)
  have e9 : y9 = 1 := by rw [e9]; decide
  subst e9
  refine va_sld hx hb hX hbl hbA hS (i := 1) (by unfold vp_in; decide) dL_law_520 ?_
  refine lv_topi (fun x_1002 ex_1002 => ?_)
  have ex_1002 : x_1002 = xs 1 := ex_1002
  subst ex_1002
  have hPc := hP.sub (ws' := [(q_29, .inr (15, fl 134 F_30))]) [9] rfl
  have hDc := hD.sub (ws' := [(q_29, .inr (15, fl 134 F_30))]) [9] (by decide) rfl
  have hKc := hK.sub (tys' := []) [] rfl
  have hFc := va_free (wc := [(q_29, .inr (15, fl 134 F_30))]) hD hS hA [9] rfl
  refine va_calli (va_runV (As := [.int (xs 1)]) (rest := [.int 0]) ⟨hx, hb, hml, hown, hts⟩ (cm_output l dC dI q_29 F_30 (xs 1) H.size hq100) (cwV 1 hts gl_cm_output_77 rfl rfl rfl (by decide +kernel) ⟨(Nat.le_of_ble_eq_true rfl), (Nat.le_of_ble_eq_true rfl)⟩) ⟨fun a U g mk q => by obtain ⟨q0, q1, qP, qK, qD⟩ := q; exact ⟨q0, q1, qP, va_K.moved (u := U) (U := U.calling g mk a) (Vm.Alike.refl U.vm) qK, qD⟩, va_recv hKc hPc (ci := 15) (q0 := 0) rfl rfl, fun U hU hW => ⟨rfl, by rw [hU], by rw [hU]; exact hPc, va_K.moved hW.alike hKc, hDc.weaken (fun _ _ _ _ => trivial)⟩⟩ rfl rfl hl.1 rfl (lv_room (Nat.le_of_ble_eq_true rfl)) dL_law_521 ⟨(Nat.le_of_ble_eq_true rfl), (Nat.le_of_ble_eq_true rfl)⟩) hS (fun q _ h => hFc q h) hFc (fun r9 u t H1 locs ht hvm hw hB hz1 hk1 hS => ?_)
  obtain ⟨hP1, hK1, hD1⟩ := hB
  rw [ht] at hP1
  have hK1 := va_K.moved hvm.symm hK1
  obtain ⟨hP, hD⟩ := va_join (wr := [(q_2, .inl (cy_5, 6000, .inl (fun _ => 0))), (q_3, .inr (9, [.ref q_6, .ref q_7, .ref q_8, .int 0, .null, .int 0, .int 0, .int 0, .ref q_9, .ref q_10, .ref q_11, .ref q_12, .int 0])), (q_6, .inl (cy_13, 6001, .inl (fun _ => 0))), (q_7, .inl (cy_14, 6001, .inl (fun _ => 0))), (q_8, .inl (cy_15, 6001, .inl (fun _ => 0))), (q_9, .inl (cy_16, 256, .inl (fun _ => 0))), (q_10, .inl (cy_17, 3001, .inl (fun _ => 0))), (q_11, .inl (cy_18, 3001, .inl (fun _ => 0))), (q_12, .inl (cy_19, 3001, .inl (fun _ => 0))), (q_38, .inr (14, [.null, .null, .null, .null, .null, .int 0])), (q_31, .inl (cy_39, 6000, .inl (fun _ => 0))), (q_35, .inl (cy_40, 6002, .inl (fun _ => 0))), (q_36, .inl (cy_41, 6002, .inl (fun _ => 0))), (q_37, .inl (cy_42, 6002, .inl (fun _ => 0))), (q_33, .inl (cy_43, 6000, .inl (fun _ => 0))), (q_34, .inl (cy_44, 6000, .inl (fun _ => 0))), (q_32, .inl (cy_45, 6600, .inl (fun _ => 0)))]) (w1 := []) hP hD [9] [0, 1, 2, 3, 4, 5, 6, 7, 8, 10, 11, 12, 13, 14, 15, 16, 17] rfl rfl (by decide) (by decide) hk1 hFc hP1 hD1
  have hK := (hK.sub (tys' := [(cy_5, .byte), (cy_13, .int), (cy_14, .int), (cy_15, .int), (cy_16, .int), (cy_17, .int), (cy_18, .int), (cy_19, .int), (cy_39, .byte), (cy_40, .int), (cy_41, .int), (cy_42, .int), (cy_43, .int), (cy_44, .int), (cy_45, .byte)]) [0, 1, 2, 3, 4, 5, 6, 7, 8, 9, 10, 11, 12, 13, 14] rfl).app hK1
  generalize H1 = H at hP hS ⊢
  have hK : va_K (dC, dI) vwCl [(cy_5, .byte), (cy_13, .int), (cy_14, .int), (cy_15, .int), (cy_16, .int), (cy_17, .int), (cy_18, .int), (cy_19, .int), (cy_39, .byte), (cy_40, .int), (cy_41, .int), (cy_42, .int), (cy_43, .int), (cy_44, .int), (cy_45, .byte)] s := hK
  have hP : va_P (dC, dI) vwCl [(q_2, .inl (cy_5, 6000, .inl (fun _ => 0))), (q_3, .inr (9, [.ref q_6, .ref q_7, .ref q_8, .int 0, .null, .int 0, .int 0, .int 0, .ref q_9, .ref q_10, .ref q_11, .ref q_12, .int 0])), (q_6, .inl (cy_13, 6001, .inl (fun _ => 0))), (q_7, .inl (cy_14, 6001, .inl (fun _ => 0))), (q_8, .inl (cy_15, 6001, .inl (fun _ => 0))), (q_9, .inl (cy_16, 256, .inl (fun _ => 0))), (q_10, .inl (cy_17, 3001, .inl (fun _ => 0))), (q_11, .inl (cy_18, 3001, .inl (fun _ => 0))), (q_12, .inl (cy_19, 3001, .inl (fun _ => 0))), (q_38, .inr (14, [.null, .null, .null, .null, .null, .int 0])), (q_31, .inl (cy_39, 6000, .inl (fun _ => 0))), (q_35, .inl (cy_40, 6002, .inl (fun _ => 0))), (q_36, .inl (cy_41, 6002, .inl (fun _ => 0))), (q_37, .inl (cy_42, 6002, .inl (fun _ => 0))), (q_33, .inl (cy_43, 6000, .inl (fun _ => 0))), (q_34, .inl (cy_44, 6000, .inl (fun _ => 0))), (q_32, .inl (cy_45, 6600, .inl (fun _ => 0)))] H := hP
  have hD : va_D A [(q_2, .inl (cy_5, 6000, .inl (fun _ => 0))), (q_3, .inr (9, [.ref q_6, .ref q_7, .ref q_8, .int 0, .null, .int 0, .int 0, .int 0, .ref q_9, .ref q_10, .ref q_11, .ref q_12, .int 0])), (q_6, .inl (cy_13, 6001, .inl (fun _ => 0))), (q_7, .inl (cy_14, 6001, .inl (fun _ => 0))), (q_8, .inl (cy_15, 6001, .inl (fun _ => 0))), (q_9, .inl (cy_16, 256, .inl (fun _ => 0))), (q_10, .inl (cy_17, 3001, .inl (fun _ => 0))), (q_11, .inl (cy_18, 3001, .inl (fun _ => 0))), (q_12, .inl (cy_19, 3001, .inl (fun _ => 0))), (q_38, .inr (14, [.null, .null, .null, .null, .null, .int 0])), (q_31, .inl (cy_39, 6000, .inl (fun _ => 0))), (q_35, .inl (cy_40, 6002, .inl (fun _ => 0))), (q_36, .inl (cy_41, 6002, .inl (fun _ => 0))), (q_37, .inl (cy_42, 6002, .inl (fun _ => 0))), (q_33, .inl (cy_43, 6000, .inl (fun _ => 0))), (q_34, .inl (cy_44, 6000, .inl (fun _ => 0))), (q_32, .inl (cy_45, 6600, .inl (fun _ => 0)))] := hD
  refine W.widen (k := 100) (n := 719914) (Nat.le_of_ble_eq_true rfl) (Nat.le_of_ble_eq_true rfl) ?_
  obtain rfl : r9 = 0 := hw
  refine lv_icmp_eq (tgt := 665) hx hb dL_law_524 (by decide) (fun c9 => ?_) (fun c9 => absurd (by decide) c9)
  clear c9
  refine lv_iinc (v := 6) (lv' := [(4, .int 6), (3, .ref q_58), (2, .ref q_29), (1, .ref q_1), (0, .ref b)]) hx hb dL_law_665 hl (k := 0) rfl (by decide) (by decide) rfl (fun ls hl => ?_)
  refine lv_goto (tgt := 23) hx hb dL_law_668 (by decide) ?_
  refine lv_iload hx hb dL_law_23 (lv_at hl 0 rfl) ?_
  refine lv_aload_n hx hb dL_law_25 rfl (lv_at hl 4 rfl) ?_
  refine va_slen hx hb hX hbl hbA hS dL_law_26 ?_
  refine lv_topi (fun y9 e9 => ?_)
  have e9 : y9 = 6 := e9
  subst e9
  refine lv_bipush (v := 6) hx hb dL_law_27 (by decide) ?_
  refine lv_isub hx hb dL_law_29 ?_
  refine lv_topi (fun y9 e9 => ?_)
  have e9 : y9 = 0 := by rw [e9]; decide
  subst e9
  refine lv_icmp_gt (tgt := 671) hx hb dL_law_30 (by decide) (fun c9 => ?_) (fun c9 => absurd (by decide) c9)
  clear c9
  refine lv_iconst (v := 1) hx hb dL_law_671 (by decide) ?_
  refine va_forget (fun q hq => hAA q.base (hS.2.2 q hq)) ?_
  refine W.widen (k := 600002) (n := 7302232) (Nat.le_of_ble_eq_true rfl) (Nat.le_of_ble_eq_true rfl) ?_
  exact lw_ret hx hb hr hlocks dL_law_672
set_option maxHeartbeats 4000000 in
set_option maxRecDepth 100000 in
theorem law_case_11 {p : Program} {e : Env} {s : State} {m : MethodId} {below : List Frame} {meth : Method} {c : Code} (l : Launch) (hfl : l.flags = flags0) {b : Nat} {xs : Nat → Int32} (C0 : lw_At p s m meth c b 6 xs) (dC : Nat → ClassId) (dI : Nat → Nat → Nat) (A : Nat → Prop) (hA : ∀ q : Nat, s.heap.size ≤ q → A q) (hAa : ∀ q : Nat, q < s.heap.size → ¬ A q) (hAA : ∀ q : Nat, A q → s.heap.size ≤ q) (q_1 : Nat) (q_2 : Nat) (q_3 : Nat) (q_4 : Nat) (cy_5 : ClassId) (q_6 : Nat) (q_7 : Nat) (q_8 : Nat) (q_9 : Nat) (q_10 : Nat) (q_11 : Nat) (q_12 : Nat) (cy_13 : ClassId) (cy_14 : ClassId) (cy_15 : ClassId) (cy_16 : ClassId) (cy_17 : ClassId) (cy_18 : ClassId) (cy_19 : ClassId) (q_20 : Nat) (q_21 : Nat) (q_22 : Nat) (q_23 : Nat) (q_24 : Nat) (q_25 : Nat) (q_26 : Nat) (q_27 : Nat) (q_28 : Nat) (q_29 : Nat) (F_30 : Nat → Value) (q_31 : Nat) (q_32 : Nat) (q_33 : Nat) (q_34 : Nat) (q_35 : Nat) (q_36 : Nat) (q_37 : Nat) (q_38 : Nat) (cy_39 : ClassId) (cy_40 : ClassId) (cy_41 : ClassId) (cy_42 : ClassId) (cy_43 : ClassId) (cy_44 : ClassId) (cy_45 : ClassId) (q_58 : Nat) (hq0 : F_30 0 = .int 0) (hq1 : F_30 1 = .ref q_38) (hq2 : F_30 2 = .ref q_31) (hq3 : F_30 3 = .int 0) (hq9 : F_30 9 = .ref q_35) (hq10 : F_30 10 = .ref q_36) (hq11 : F_30 11 = .ref q_37) (hq13 : F_30 13 = .ref q_33) (hq14 : F_30 14 = .ref q_34) (hq15 : F_30 15 = .ref q_32) (hq98 : F_30 98 = .int 0) (hq100 : F_30 100 = .int 0) (H : Heap) (locs : List Loc) (ls : Array Slot) (hK : va_K (dC, dI) vwCl [(cy_5, .byte), (cy_13, .int), (cy_14, .int), (cy_15, .int), (cy_16, .int), (cy_17, .int), (cy_18, .int), (cy_19, .int), (cy_39, .byte), (cy_40, .int), (cy_41, .int), (cy_42, .int), (cy_43, .int), (cy_44, .int), (cy_45, .byte)] s) (hP : va_P (dC, dI) vwCl [(q_1, .inr (13, [.ref q_2, .int 0, .ref q_3, .ref q_4, .null])), (q_2, .inl (cy_5, 6000, .inl (fun _ => 0))), (q_3, .inr (9, [.ref q_6, .ref q_7, .ref q_8, .int 0, .null, .int 0, .int 0, .int 0, .ref q_9, .ref q_10, .ref q_11, .ref q_12, .int 0])), (q_6, .inl (cy_13, 6001, .inl (fun _ => 0))), (q_7, .inl (cy_14, 6001, .inl (fun _ => 0))), (q_8, .inl (cy_15, 6001, .inl (fun _ => 0))), (q_9, .inl (cy_16, 256, .inl (fun _ => 0))), (q_10, .inl (cy_17, 3001, .inl (fun _ => 0))), (q_11, .inl (cy_18, 3001, .inl (fun _ => 0))), (q_12, .inl (cy_19, 3001, .inl (fun _ => 0))), (q_4, .inr (4, [.null, .ref q_20, .ref q_21, .ref q_22, .ref q_23, .ref q_24, .int 0, .ref q_25, .int 0, .int 0, .int 0, .ref q_26, .int 0, .ref q_27, .int 0, .ref q_28, .null, .int 0, .int 0])), (q_29, .inr (15, fl 134 F_30)), (q_38, .inr (14, [.null, .null, .null, .null, .null, .int 0])), (q_31, .inl (cy_39, 6000, .inl (fun _ => 0))), (q_35, .inl (cy_40, 6002, .inl (fun _ => 0))), (q_36, .inl (cy_41, 6002, .inl (fun _ => 0))), (q_37, .inl (cy_42, 6002, .inl (fun _ => 0))), (q_33, .inl (cy_43, 6000, .inl (fun _ => 0))), (q_34, .inl (cy_44, 6000, .inl (fun _ => 0))), (q_32, .inl (cy_45, 6600, .inl (fun _ => 0)))] H) (hD : va_D A [(q_1, .inr (13, [.ref q_2, .int 0, .ref q_3, .ref q_4, .null])), (q_2, .inl (cy_5, 6000, .inl (fun _ => 0))), (q_3, .inr (9, [.ref q_6, .ref q_7, .ref q_8, .int 0, .null, .int 0, .int 0, .int 0, .ref q_9, .ref q_10, .ref q_11, .ref q_12, .int 0])), (q_6, .inl (cy_13, 6001, .inl (fun _ => 0))), (q_7, .inl (cy_14, 6001, .inl (fun _ => 0))), (q_8, .inl (cy_15, 6001, .inl (fun _ => 0))), (q_9, .inl (cy_16, 256, .inl (fun _ => 0))), (q_10, .inl (cy_17, 3001, .inl (fun _ => 0))), (q_11, .inl (cy_18, 3001, .inl (fun _ => 0))), (q_12, .inl (cy_19, 3001, .inl (fun _ => 0))), (q_4, .inr (4, [.null, .ref q_20, .ref q_21, .ref q_22, .ref q_23, .ref q_24, .int 0, .ref q_25, .int 0, .int 0, .int 0, .ref q_26, .int 0, .ref q_27, .int 0, .ref q_28, .null, .int 0, .int 0])), (q_29, .inr (15, fl 134 F_30)), (q_38, .inr (14, [.null, .null, .null, .null, .null, .int 0])), (q_31, .inl (cy_39, 6000, .inl (fun _ => 0))), (q_35, .inl (cy_40, 6002, .inl (fun _ => 0))), (q_36, .inl (cy_41, 6002, .inl (fun _ => 0))), (q_37, .inl (cy_42, 6002, .inl (fun _ => 0))), (q_33, .inl (cy_43, 6000, .inl (fun _ => 0))), (q_34, .inl (cy_44, 6000, .inl (fun _ => 0))), (q_32, .inl (cy_45, 6600, .inl (fun _ => 0)))]) (hS : va_S A s.heap H locs) (hl : lv_has ls 7 [(4, .int 0), (3, .ref q_58), (2, .ref q_29), (1, .ref q_1), (0, .ref b)]) : W p l e room_1 s m #[Value.ref b] below meth c H locs 100 719914 (lw_Z below #[Value.ref b] s) (F0 m 529 ls []) := by
  obtain ⟨hx, hb, hr, hml, hown, htsT, hX, hbl, hlocks, hgv⟩ := id C0
  have hown : s.vm.findClass RL = some m.cls := hown
  have hts : ∀ w ∈ ws_law, w.before #[Value.ref b] s = true := fun w h => htsT w (in_law w h)
  have hg := flat_of_before _ hgv
  have hbA : ¬ A b := hAa b hbl
  have hflags : l.stackTraces = false := by unfold Launch.stackTraces; rw [hfl]; decide
  refine lv_aload_n hx hb dL_law_529 rfl (lv_at hl 3 rfl) ?_
  refine lv_aload_n hx hb dL_law_530 rfl (lv_at hl 4 rfl) ?_
  refine lv_iload hx hb dL_law_531 (lv_at hl 0 rfl) ?_
  refine lv_iconst (v := 1) hx hb dL_law_533 (by decide) ?_
  refine lv_iadd hx hb dL_law_534 ?_
  refine lv_topi (fun y9 e9 => ?_)
  have e9 : y9 = 1 := by rw [e9]; decide
  subst e9
  refine va_sld hx hb hX hbl hbA hS (i := 1) (by unfold vp_in; decide) dL_law_535 ?_
  refine lv_topi (fun x_1001 ex_1001 => ?_)
  have ex_1001 : x_1001 = xs 1 := ex_1001
  subst ex_1001
  have hPc := hP.sub (ws' := [(q_1, .inr (13, [.ref q_2, .int 0, .ref q_3, .ref q_4, .null])), (q_4, .inr (4, [.null, .ref q_20, .ref q_21, .ref q_22, .ref q_23, .ref q_24, .int 0, .ref q_25, .int 0, .int 0, .int 0, .ref q_26, .int 0, .ref q_27, .int 0, .ref q_28, .null, .int 0, .int 0]))]) [0, 10] rfl
  have hDc := hD.sub (ws' := [(q_1, .inr (13, [.ref q_2, .int 0, .ref q_3, .ref q_4, .null])), (q_4, .inr (4, [.null, .ref q_20, .ref q_21, .ref q_22, .ref q_23, .ref q_24, .int 0, .ref q_25, .int 0, .int 0, .int 0, .ref q_26, .int 0, .ref q_27, .int 0, .ref q_28, .null, .int 0, .int 0]))]) [0, 10] (by decide) rfl
  have hKc := hK.sub (tys' := []) [] rfl
  have hFc := va_free (wc := [(q_1, .inr (13, [.ref q_2, .int 0, .ref q_3, .ref q_4, .null])), (q_4, .inr (4, [.null, .ref q_20, .ref q_21, .ref q_22, .ref q_23, .ref q_24, .int 0, .ref q_25, .int 0, .int 0, .int 0, .ref q_26, .int 0, .ref q_27, .int 0, .ref q_28, .null, .int 0, .int 0]))]) hD hS hA [0, 10] rfl
  refine va_calli (va_runV (As := [.int (xs 1)]) (rest := []) ⟨hx, hb, hml, hown, hts⟩ (cc_cell l dC dI q_1 q_2 q_3 q_4 q_20 q_21 q_22 q_23 q_24 q_25 q_26 q_27 q_28 (xs 1) H.size) (cwV 1 hts gl_cc_cell_78 rfl rfl rfl (by decide +kernel) ⟨(Nat.le_of_ble_eq_true rfl), (Nat.le_of_ble_eq_true rfl)⟩) ⟨fun a U g mk q => by obtain ⟨q0, q1, qP, qK, qD⟩ := q; exact ⟨q0, q1, qP, va_K.moved (u := U) (U := U.calling g mk a) (Vm.Alike.refl U.vm) qK, qD⟩, va_recv hKc hPc (ci := 13) (q0 := 0) rfl rfl, fun U hU hW => ⟨rfl, by rw [hU], by rw [hU]; exact hPc, va_K.moved hW.alike hKc, hDc.weaken (fun _ _ _ _ => trivial)⟩⟩ rfl rfl hl.1 rfl (lv_room (Nat.le_of_ble_eq_true rfl)) dL_law_536 ⟨(Nat.le_of_ble_eq_true rfl), (Nat.le_of_ble_eq_true rfl)⟩) hS (fun q _ h => hFc q h) hFc (fun r9 u t H1 locs ht hvm hw hB hz1 hk1 hS => ?_)
  obtain ⟨hP1, hK1, hD1⟩ := hB
  rw [ht] at hP1
  have hK1 := va_K.moved hvm.symm hK1
  obtain ⟨hP, hD⟩ := va_join (wr := [(q_2, .inl (cy_5, 6000, .inl (fun _ => 0))), (q_3, .inr (9, [.ref q_6, .ref q_7, .ref q_8, .int 0, .null, .int 0, .int 0, .int 0, .ref q_9, .ref q_10, .ref q_11, .ref q_12, .int 0])), (q_6, .inl (cy_13, 6001, .inl (fun _ => 0))), (q_7, .inl (cy_14, 6001, .inl (fun _ => 0))), (q_8, .inl (cy_15, 6001, .inl (fun _ => 0))), (q_9, .inl (cy_16, 256, .inl (fun _ => 0))), (q_10, .inl (cy_17, 3001, .inl (fun _ => 0))), (q_11, .inl (cy_18, 3001, .inl (fun _ => 0))), (q_12, .inl (cy_19, 3001, .inl (fun _ => 0))), (q_29, .inr (15, fl 134 F_30)), (q_38, .inr (14, [.null, .null, .null, .null, .null, .int 0])), (q_31, .inl (cy_39, 6000, .inl (fun _ => 0))), (q_35, .inl (cy_40, 6002, .inl (fun _ => 0))), (q_36, .inl (cy_41, 6002, .inl (fun _ => 0))), (q_37, .inl (cy_42, 6002, .inl (fun _ => 0))), (q_33, .inl (cy_43, 6000, .inl (fun _ => 0))), (q_34, .inl (cy_44, 6000, .inl (fun _ => 0))), (q_32, .inl (cy_45, 6600, .inl (fun _ => 0)))]) (w1 := []) hP hD [0, 10] [1, 2, 3, 4, 5, 6, 7, 8, 9, 11, 12, 13, 14, 15, 16, 17, 18, 19] rfl rfl (by decide) (by decide) hk1 hFc hP1 hD1
  have hK := (hK.sub (tys' := [(cy_5, .byte), (cy_13, .int), (cy_14, .int), (cy_15, .int), (cy_16, .int), (cy_17, .int), (cy_18, .int), (cy_19, .int), (cy_39, .byte), (cy_40, .int), (cy_41, .int), (cy_42, .int), (cy_43, .int), (cy_44, .int), (cy_45, .byte)]) [0, 1, 2, 3, 4, 5, 6, 7, 8, 9, 10, 11, 12, 13, 14] rfl).app hK1
  generalize H1 = H at hP hS ⊢
  have hK : va_K (dC, dI) vwCl [(cy_5, .byte), (cy_13, .int), (cy_14, .int), (cy_15, .int), (cy_16, .int), (cy_17, .int), (cy_18, .int), (cy_19, .int), (cy_39, .byte), (cy_40, .int), (cy_41, .int), (cy_42, .int), (cy_43, .int), (cy_44, .int), (cy_45, .byte)] s := hK
  have hP : va_P (dC, dI) vwCl [(q_2, .inl (cy_5, 6000, .inl (fun _ => 0))), (q_3, .inr (9, [.ref q_6, .ref q_7, .ref q_8, .int 0, .null, .int 0, .int 0, .int 0, .ref q_9, .ref q_10, .ref q_11, .ref q_12, .int 0])), (q_6, .inl (cy_13, 6001, .inl (fun _ => 0))), (q_7, .inl (cy_14, 6001, .inl (fun _ => 0))), (q_8, .inl (cy_15, 6001, .inl (fun _ => 0))), (q_9, .inl (cy_16, 256, .inl (fun _ => 0))), (q_10, .inl (cy_17, 3001, .inl (fun _ => 0))), (q_11, .inl (cy_18, 3001, .inl (fun _ => 0))), (q_12, .inl (cy_19, 3001, .inl (fun _ => 0))), (q_29, .inr (15, fl 134 F_30)), (q_38, .inr (14, [.null, .null, .null, .null, .null, .int 0])), (q_31, .inl (cy_39, 6000, .inl (fun _ => 0))), (q_35, .inl (cy_40, 6002, .inl (fun _ => 0))), (q_36, .inl (cy_41, 6002, .inl (fun _ => 0))), (q_37, .inl (cy_42, 6002, .inl (fun _ => 0))), (q_33, .inl (cy_43, 6000, .inl (fun _ => 0))), (q_34, .inl (cy_44, 6000, .inl (fun _ => 0))), (q_32, .inl (cy_45, 6600, .inl (fun _ => 0)))] H := hP
  have hD : va_D A [(q_2, .inl (cy_5, 6000, .inl (fun _ => 0))), (q_3, .inr (9, [.ref q_6, .ref q_7, .ref q_8, .int 0, .null, .int 0, .int 0, .int 0, .ref q_9, .ref q_10, .ref q_11, .ref q_12, .int 0])), (q_6, .inl (cy_13, 6001, .inl (fun _ => 0))), (q_7, .inl (cy_14, 6001, .inl (fun _ => 0))), (q_8, .inl (cy_15, 6001, .inl (fun _ => 0))), (q_9, .inl (cy_16, 256, .inl (fun _ => 0))), (q_10, .inl (cy_17, 3001, .inl (fun _ => 0))), (q_11, .inl (cy_18, 3001, .inl (fun _ => 0))), (q_12, .inl (cy_19, 3001, .inl (fun _ => 0))), (q_29, .inr (15, fl 134 F_30)), (q_38, .inr (14, [.null, .null, .null, .null, .null, .int 0])), (q_31, .inl (cy_39, 6000, .inl (fun _ => 0))), (q_35, .inl (cy_40, 6002, .inl (fun _ => 0))), (q_36, .inl (cy_41, 6002, .inl (fun _ => 0))), (q_37, .inl (cy_42, 6002, .inl (fun _ => 0))), (q_33, .inl (cy_43, 6000, .inl (fun _ => 0))), (q_34, .inl (cy_44, 6000, .inl (fun _ => 0))), (q_32, .inl (cy_45, 6600, .inl (fun _ => 0)))] := hD
  refine W.widen (k := 100) (n := 719914) (Nat.le_of_ble_eq_true rfl) (Nat.le_of_ble_eq_true rfl) ?_
  obtain rfl : r9 = 0 := hw
  refine lv_aload_n hx hb dL_law_539 rfl (lv_at hl 2 rfl) ?_
  refine lv_aload_n hx hb dL_law_540 rfl (lv_at hl 4 rfl) ?_
  refine lv_iload hx hb dL_law_541 (lv_at hl 0 rfl) ?_
  refine lv_iconst (v := 1) hx hb dL_law_543 (by decide) ?_
  refine lv_iadd hx hb dL_law_544 ?_
  refine lv_topi (fun y9 e9 => ?_)
  have e9 : y9 = 1 := by rw [e9]; decide
  subst e9
  refine va_sld hx hb hX hbl hbA hS (i := 1) (by unfold vp_in; decide) dL_law_545 ?_
  refine lv_topi (fun x_1002 ex_1002 => ?_)
  have ex_1002 : x_1002 = xs 1 := ex_1002
  subst ex_1002
  have hPc := hP.sub (ws' := [(q_29, .inr (15, fl 134 F_30))]) [9] rfl
  have hDc := hD.sub (ws' := [(q_29, .inr (15, fl 134 F_30))]) [9] (by decide) rfl
  have hKc := hK.sub (tys' := []) [] rfl
  have hFc := va_free (wc := [(q_29, .inr (15, fl 134 F_30))]) hD hS hA [9] rfl
  refine va_calli (va_runV (As := [.int (xs 1)]) (rest := [.int 0]) ⟨hx, hb, hml, hown, hts⟩ (cm_cell l dC dI q_29 F_30 (xs 1) H.size hq100) (cwV 1 hts gl_cm_cell_81 rfl rfl rfl (by decide +kernel) ⟨(Nat.le_of_ble_eq_true rfl), (Nat.le_of_ble_eq_true rfl)⟩) ⟨fun a U g mk q => by obtain ⟨q0, q1, qP, qK, qD⟩ := q; exact ⟨q0, q1, qP, va_K.moved (u := U) (U := U.calling g mk a) (Vm.Alike.refl U.vm) qK, qD⟩, va_recv hKc hPc (ci := 15) (q0 := 0) rfl rfl, fun U hU hW => ⟨rfl, by rw [hU], by rw [hU]; exact hPc, va_K.moved hW.alike hKc, hDc.weaken (fun _ _ _ _ => trivial)⟩⟩ rfl rfl hl.1 rfl (lv_room (Nat.le_of_ble_eq_true rfl)) dL_law_546 ⟨(Nat.le_of_ble_eq_true rfl), (Nat.le_of_ble_eq_true rfl)⟩) hS (fun q _ h => hFc q h) hFc (fun r9 u t H1 locs ht hvm hw hB hz1 hk1 hS => ?_)
  obtain ⟨hP1, hK1, hD1⟩ := hB
  rw [ht] at hP1
  have hK1 := va_K.moved hvm.symm hK1
  obtain ⟨hP, hD⟩ := va_join (wr := [(q_2, .inl (cy_5, 6000, .inl (fun _ => 0))), (q_3, .inr (9, [.ref q_6, .ref q_7, .ref q_8, .int 0, .null, .int 0, .int 0, .int 0, .ref q_9, .ref q_10, .ref q_11, .ref q_12, .int 0])), (q_6, .inl (cy_13, 6001, .inl (fun _ => 0))), (q_7, .inl (cy_14, 6001, .inl (fun _ => 0))), (q_8, .inl (cy_15, 6001, .inl (fun _ => 0))), (q_9, .inl (cy_16, 256, .inl (fun _ => 0))), (q_10, .inl (cy_17, 3001, .inl (fun _ => 0))), (q_11, .inl (cy_18, 3001, .inl (fun _ => 0))), (q_12, .inl (cy_19, 3001, .inl (fun _ => 0))), (q_38, .inr (14, [.null, .null, .null, .null, .null, .int 0])), (q_31, .inl (cy_39, 6000, .inl (fun _ => 0))), (q_35, .inl (cy_40, 6002, .inl (fun _ => 0))), (q_36, .inl (cy_41, 6002, .inl (fun _ => 0))), (q_37, .inl (cy_42, 6002, .inl (fun _ => 0))), (q_33, .inl (cy_43, 6000, .inl (fun _ => 0))), (q_34, .inl (cy_44, 6000, .inl (fun _ => 0))), (q_32, .inl (cy_45, 6600, .inl (fun _ => 0)))]) (w1 := []) hP hD [9] [0, 1, 2, 3, 4, 5, 6, 7, 8, 10, 11, 12, 13, 14, 15, 16, 17] rfl rfl (by decide) (by decide) hk1 hFc hP1 hD1
  have hK := (hK.sub (tys' := [(cy_5, .byte), (cy_13, .int), (cy_14, .int), (cy_15, .int), (cy_16, .int), (cy_17, .int), (cy_18, .int), (cy_19, .int), (cy_39, .byte), (cy_40, .int), (cy_41, .int), (cy_42, .int), (cy_43, .int), (cy_44, .int), (cy_45, .byte)]) [0, 1, 2, 3, 4, 5, 6, 7, 8, 9, 10, 11, 12, 13, 14] rfl).app hK1
  generalize H1 = H at hP hS ⊢
  have hK : va_K (dC, dI) vwCl [(cy_5, .byte), (cy_13, .int), (cy_14, .int), (cy_15, .int), (cy_16, .int), (cy_17, .int), (cy_18, .int), (cy_19, .int), (cy_39, .byte), (cy_40, .int), (cy_41, .int), (cy_42, .int), (cy_43, .int), (cy_44, .int), (cy_45, .byte)] s := hK
  have hP : va_P (dC, dI) vwCl [(q_2, .inl (cy_5, 6000, .inl (fun _ => 0))), (q_3, .inr (9, [.ref q_6, .ref q_7, .ref q_8, .int 0, .null, .int 0, .int 0, .int 0, .ref q_9, .ref q_10, .ref q_11, .ref q_12, .int 0])), (q_6, .inl (cy_13, 6001, .inl (fun _ => 0))), (q_7, .inl (cy_14, 6001, .inl (fun _ => 0))), (q_8, .inl (cy_15, 6001, .inl (fun _ => 0))), (q_9, .inl (cy_16, 256, .inl (fun _ => 0))), (q_10, .inl (cy_17, 3001, .inl (fun _ => 0))), (q_11, .inl (cy_18, 3001, .inl (fun _ => 0))), (q_12, .inl (cy_19, 3001, .inl (fun _ => 0))), (q_38, .inr (14, [.null, .null, .null, .null, .null, .int 0])), (q_31, .inl (cy_39, 6000, .inl (fun _ => 0))), (q_35, .inl (cy_40, 6002, .inl (fun _ => 0))), (q_36, .inl (cy_41, 6002, .inl (fun _ => 0))), (q_37, .inl (cy_42, 6002, .inl (fun _ => 0))), (q_33, .inl (cy_43, 6000, .inl (fun _ => 0))), (q_34, .inl (cy_44, 6000, .inl (fun _ => 0))), (q_32, .inl (cy_45, 6600, .inl (fun _ => 0)))] H := hP
  have hD : va_D A [(q_2, .inl (cy_5, 6000, .inl (fun _ => 0))), (q_3, .inr (9, [.ref q_6, .ref q_7, .ref q_8, .int 0, .null, .int 0, .int 0, .int 0, .ref q_9, .ref q_10, .ref q_11, .ref q_12, .int 0])), (q_6, .inl (cy_13, 6001, .inl (fun _ => 0))), (q_7, .inl (cy_14, 6001, .inl (fun _ => 0))), (q_8, .inl (cy_15, 6001, .inl (fun _ => 0))), (q_9, .inl (cy_16, 256, .inl (fun _ => 0))), (q_10, .inl (cy_17, 3001, .inl (fun _ => 0))), (q_11, .inl (cy_18, 3001, .inl (fun _ => 0))), (q_12, .inl (cy_19, 3001, .inl (fun _ => 0))), (q_38, .inr (14, [.null, .null, .null, .null, .null, .int 0])), (q_31, .inl (cy_39, 6000, .inl (fun _ => 0))), (q_35, .inl (cy_40, 6002, .inl (fun _ => 0))), (q_36, .inl (cy_41, 6002, .inl (fun _ => 0))), (q_37, .inl (cy_42, 6002, .inl (fun _ => 0))), (q_33, .inl (cy_43, 6000, .inl (fun _ => 0))), (q_34, .inl (cy_44, 6000, .inl (fun _ => 0))), (q_32, .inl (cy_45, 6600, .inl (fun _ => 0)))] := hD
  refine W.widen (k := 100) (n := 719914) (Nat.le_of_ble_eq_true rfl) (Nat.le_of_ble_eq_true rfl) ?_
  obtain rfl : r9 = 0 := hw
  refine lv_icmp_eq (tgt := 665) hx hb dL_law_549 (by decide) (fun c9 => ?_) (fun c9 => absurd (by decide) c9)
  clear c9
  refine lv_iinc (v := 6) (lv' := [(4, .int 6), (3, .ref q_58), (2, .ref q_29), (1, .ref q_1), (0, .ref b)]) hx hb dL_law_665 hl (k := 0) rfl (by decide) (by decide) rfl (fun ls hl => ?_)
  refine lv_goto (tgt := 23) hx hb dL_law_668 (by decide) ?_
  refine lv_iload hx hb dL_law_23 (lv_at hl 0 rfl) ?_
  refine lv_aload_n hx hb dL_law_25 rfl (lv_at hl 4 rfl) ?_
  refine va_slen hx hb hX hbl hbA hS dL_law_26 ?_
  refine lv_topi (fun y9 e9 => ?_)
  have e9 : y9 = 6 := e9
  subst e9
  refine lv_bipush (v := 6) hx hb dL_law_27 (by decide) ?_
  refine lv_isub hx hb dL_law_29 ?_
  refine lv_topi (fun y9 e9 => ?_)
  have e9 : y9 = 0 := by rw [e9]; decide
  subst e9
  refine lv_icmp_gt (tgt := 671) hx hb dL_law_30 (by decide) (fun c9 => ?_) (fun c9 => absurd (by decide) c9)
  clear c9
  refine lv_iconst (v := 1) hx hb dL_law_671 (by decide) ?_
  refine va_forget (fun q hq => hAA q.base (hS.2.2 q hq)) ?_
  refine W.widen (k := 600002) (n := 7302232) (Nat.le_of_ble_eq_true rfl) (Nat.le_of_ble_eq_true rfl) ?_
  exact lw_ret hx hb hr hlocks dL_law_672
set_option maxHeartbeats 4000000 in
set_option maxRecDepth 100000 in
theorem law_case_12 {p : Program} {e : Env} {s : State} {m : MethodId} {below : List Frame} {meth : Method} {c : Code} (l : Launch) (hfl : l.flags = flags0) {b : Nat} {xs : Nat → Int32} (C0 : lw_At p s m meth c b 6 xs) (dC : Nat → ClassId) (dI : Nat → Nat → Nat) (A : Nat → Prop) (hA : ∀ q : Nat, s.heap.size ≤ q → A q) (hAa : ∀ q : Nat, q < s.heap.size → ¬ A q) (hAA : ∀ q : Nat, A q → s.heap.size ≤ q) (q_1 : Nat) (q_2 : Nat) (q_3 : Nat) (q_4 : Nat) (cy_5 : ClassId) (q_6 : Nat) (q_7 : Nat) (q_8 : Nat) (q_9 : Nat) (q_10 : Nat) (q_11 : Nat) (q_12 : Nat) (cy_13 : ClassId) (cy_14 : ClassId) (cy_15 : ClassId) (cy_16 : ClassId) (cy_17 : ClassId) (cy_18 : ClassId) (cy_19 : ClassId) (q_20 : Nat) (q_21 : Nat) (q_22 : Nat) (q_23 : Nat) (q_24 : Nat) (q_25 : Nat) (q_26 : Nat) (q_27 : Nat) (q_28 : Nat) (q_29 : Nat) (F_30 : Nat → Value) (q_31 : Nat) (q_32 : Nat) (q_33 : Nat) (q_34 : Nat) (q_35 : Nat) (q_36 : Nat) (q_37 : Nat) (q_38 : Nat) (cy_39 : ClassId) (cy_40 : ClassId) (cy_41 : ClassId) (cy_42 : ClassId) (cy_43 : ClassId) (cy_44 : ClassId) (cy_45 : ClassId) (q_58 : Nat) (hq0 : F_30 0 = .int 0) (hq1 : F_30 1 = .ref q_38) (hq2 : F_30 2 = .ref q_31) (hq3 : F_30 3 = .int 0) (hq9 : F_30 9 = .ref q_35) (hq10 : F_30 10 = .ref q_36) (hq11 : F_30 11 = .ref q_37) (hq13 : F_30 13 = .ref q_33) (hq14 : F_30 14 = .ref q_34) (hq15 : F_30 15 = .ref q_32) (hq98 : F_30 98 = .int 0) (hq100 : F_30 100 = .int 0) (H : Heap) (locs : List Loc) (ls : Array Slot) (hK : va_K (dC, dI) vwCl [(cy_5, .byte), (cy_13, .int), (cy_14, .int), (cy_15, .int), (cy_16, .int), (cy_17, .int), (cy_18, .int), (cy_19, .int), (cy_39, .byte), (cy_40, .int), (cy_41, .int), (cy_42, .int), (cy_43, .int), (cy_44, .int), (cy_45, .byte)] s) (hP : va_P (dC, dI) vwCl [(q_1, .inr (13, [.ref q_2, .int 0, .ref q_3, .ref q_4, .null])), (q_2, .inl (cy_5, 6000, .inl (fun _ => 0))), (q_3, .inr (9, [.ref q_6, .ref q_7, .ref q_8, .int 0, .null, .int 0, .int 0, .int 0, .ref q_9, .ref q_10, .ref q_11, .ref q_12, .int 0])), (q_6, .inl (cy_13, 6001, .inl (fun _ => 0))), (q_7, .inl (cy_14, 6001, .inl (fun _ => 0))), (q_8, .inl (cy_15, 6001, .inl (fun _ => 0))), (q_9, .inl (cy_16, 256, .inl (fun _ => 0))), (q_10, .inl (cy_17, 3001, .inl (fun _ => 0))), (q_11, .inl (cy_18, 3001, .inl (fun _ => 0))), (q_12, .inl (cy_19, 3001, .inl (fun _ => 0))), (q_4, .inr (4, [.null, .ref q_20, .ref q_21, .ref q_22, .ref q_23, .ref q_24, .int 0, .ref q_25, .int 0, .int 0, .int 0, .ref q_26, .int 0, .ref q_27, .int 0, .ref q_28, .null, .int 0, .int 0])), (q_29, .inr (15, fl 134 F_30)), (q_38, .inr (14, [.null, .null, .null, .null, .null, .int 0])), (q_31, .inl (cy_39, 6000, .inl (fun _ => 0))), (q_35, .inl (cy_40, 6002, .inl (fun _ => 0))), (q_36, .inl (cy_41, 6002, .inl (fun _ => 0))), (q_37, .inl (cy_42, 6002, .inl (fun _ => 0))), (q_33, .inl (cy_43, 6000, .inl (fun _ => 0))), (q_34, .inl (cy_44, 6000, .inl (fun _ => 0))), (q_32, .inl (cy_45, 6600, .inl (fun _ => 0)))] H) (hD : va_D A [(q_1, .inr (13, [.ref q_2, .int 0, .ref q_3, .ref q_4, .null])), (q_2, .inl (cy_5, 6000, .inl (fun _ => 0))), (q_3, .inr (9, [.ref q_6, .ref q_7, .ref q_8, .int 0, .null, .int 0, .int 0, .int 0, .ref q_9, .ref q_10, .ref q_11, .ref q_12, .int 0])), (q_6, .inl (cy_13, 6001, .inl (fun _ => 0))), (q_7, .inl (cy_14, 6001, .inl (fun _ => 0))), (q_8, .inl (cy_15, 6001, .inl (fun _ => 0))), (q_9, .inl (cy_16, 256, .inl (fun _ => 0))), (q_10, .inl (cy_17, 3001, .inl (fun _ => 0))), (q_11, .inl (cy_18, 3001, .inl (fun _ => 0))), (q_12, .inl (cy_19, 3001, .inl (fun _ => 0))), (q_4, .inr (4, [.null, .ref q_20, .ref q_21, .ref q_22, .ref q_23, .ref q_24, .int 0, .ref q_25, .int 0, .int 0, .int 0, .ref q_26, .int 0, .ref q_27, .int 0, .ref q_28, .null, .int 0, .int 0])), (q_29, .inr (15, fl 134 F_30)), (q_38, .inr (14, [.null, .null, .null, .null, .null, .int 0])), (q_31, .inl (cy_39, 6000, .inl (fun _ => 0))), (q_35, .inl (cy_40, 6002, .inl (fun _ => 0))), (q_36, .inl (cy_41, 6002, .inl (fun _ => 0))), (q_37, .inl (cy_42, 6002, .inl (fun _ => 0))), (q_33, .inl (cy_43, 6000, .inl (fun _ => 0))), (q_34, .inl (cy_44, 6000, .inl (fun _ => 0))), (q_32, .inl (cy_45, 6600, .inl (fun _ => 0)))]) (hS : va_S A s.heap H locs) (hl : lv_has ls 7 [(4, .int 0), (3, .ref q_58), (2, .ref q_29), (1, .ref q_1), (0, .ref b)]) : W p l e room_1 s m #[Value.ref b] below meth c H locs 100 719914 (lw_Z below #[Value.ref b] s) (F0 m 554 ls []) := by
  obtain ⟨hx, hb, hr, hml, hown, htsT, hX, hbl, hlocks, hgv⟩ := id C0
  have hown : s.vm.findClass RL = some m.cls := hown
  have hts : ∀ w ∈ ws_law, w.before #[Value.ref b] s = true := fun w h => htsT w (in_law w h)
  have hg := flat_of_before _ hgv
  have hbA : ¬ A b := hAa b hbl
  have hflags : l.stackTraces = false := by unfold Launch.stackTraces; rw [hfl]; decide
  refine lv_aload_n hx hb dL_law_554 rfl (lv_at hl 3 rfl) ?_
  refine lv_aload_n hx hb dL_law_555 rfl (lv_at hl 4 rfl) ?_
  refine lv_iload hx hb dL_law_556 (lv_at hl 0 rfl) ?_
  refine lv_iconst (v := 1) hx hb dL_law_558 (by decide) ?_
  refine lv_iadd hx hb dL_law_559 ?_
  refine lv_topi (fun y9 e9 => ?_)
  have e9 : y9 = 1 := by rw [e9]; decide
  subst e9
  refine va_sld hx hb hX hbl hbA hS (i := 1) (by unfold vp_in; decide) dL_law_560 ?_
  refine lv_topi (fun x_1001 ex_1001 => ?_)
  have ex_1001 : x_1001 = xs 1 := ex_1001
  subst ex_1001
  refine lv_aload_n hx hb dL_law_561 rfl (lv_at hl 4 rfl) ?_
  refine lv_iload hx hb dL_law_562 (lv_at hl 0 rfl) ?_
  refine lv_iconst (v := 2) hx hb dL_law_564 (by decide) ?_
  refine lv_iadd hx hb dL_law_565 ?_
  refine lv_topi (fun y9 e9 => ?_)
  have e9 : y9 = 2 := by rw [e9]; decide
  subst e9
  refine va_sld hx hb hX hbl hbA hS (i := 2) (by unfold vp_in; decide) dL_law_566 ?_
  refine lv_topi (fun x_1002 ex_1002 => ?_)
  have ex_1002 : x_1002 = xs 2 := ex_1002
  subst ex_1002
  have hPc := hP.sub (ws' := [(q_1, .inr (13, [.ref q_2, .int 0, .ref q_3, .ref q_4, .null])), (q_4, .inr (4, [.null, .ref q_20, .ref q_21, .ref q_22, .ref q_23, .ref q_24, .int 0, .ref q_25, .int 0, .int 0, .int 0, .ref q_26, .int 0, .ref q_27, .int 0, .ref q_28, .null, .int 0, .int 0]))]) [0, 10] rfl
  have hDc := hD.sub (ws' := [(q_1, .inr (13, [.ref q_2, .int 0, .ref q_3, .ref q_4, .null])), (q_4, .inr (4, [.null, .ref q_20, .ref q_21, .ref q_22, .ref q_23, .ref q_24, .int 0, .ref q_25, .int 0, .int 0, .int 0, .ref q_26, .int 0, .ref q_27, .int 0, .ref q_28, .null, .int 0, .int 0]))]) [0, 10] (by decide) rfl
  have hKc := hK.sub (tys' := []) [] rfl
  have hFc := va_free (wc := [(q_1, .inr (13, [.ref q_2, .int 0, .ref q_3, .ref q_4, .null])), (q_4, .inr (4, [.null, .ref q_20, .ref q_21, .ref q_22, .ref q_23, .ref q_24, .int 0, .ref q_25, .int 0, .int 0, .int 0, .ref q_26, .int 0, .ref q_27, .int 0, .ref q_28, .null, .int 0, .int 0]))]) hD hS hA [0, 10] rfl
  refine va_calli (va_runV (As := [.int (xs 1), .int (xs 2)]) (rest := []) ⟨hx, hb, hml, hown, hts⟩ (cc_thread l dC dI q_1 q_2 q_3 q_4 q_20 q_21 q_22 q_23 q_24 q_25 q_26 q_27 q_28 (xs 1) (xs 2) H.size) (cwV 2 hts gl_cc_thread_82 rfl rfl rfl (by decide +kernel) ⟨(Nat.le_of_ble_eq_true rfl), (Nat.le_of_ble_eq_true rfl)⟩) ⟨fun a U g mk q => by obtain ⟨q0, q1, qP, qK, qD⟩ := q; exact ⟨q0, q1, qP, va_K.moved (u := U) (U := U.calling g mk a) (Vm.Alike.refl U.vm) qK, qD⟩, va_recv hKc hPc (ci := 13) (q0 := 0) rfl rfl, fun U hU hW => ⟨rfl, by rw [hU], by rw [hU]; exact hPc, va_K.moved hW.alike hKc, hDc.weaken (fun _ _ _ _ => trivial)⟩⟩ rfl rfl hl.1 rfl (lv_room (Nat.le_of_ble_eq_true rfl)) dL_law_567 ⟨(Nat.le_of_ble_eq_true rfl), (Nat.le_of_ble_eq_true rfl)⟩) hS (fun q _ h => hFc q h) hFc (fun r9 u t H1 locs ht hvm hw hB hz1 hk1 hS => ?_)
  obtain ⟨hP1, hK1, hD1⟩ := hB
  rw [ht] at hP1
  have hK1 := va_K.moved hvm.symm hK1
  obtain ⟨hP, hD⟩ := va_join (wr := [(q_2, .inl (cy_5, 6000, .inl (fun _ => 0))), (q_3, .inr (9, [.ref q_6, .ref q_7, .ref q_8, .int 0, .null, .int 0, .int 0, .int 0, .ref q_9, .ref q_10, .ref q_11, .ref q_12, .int 0])), (q_6, .inl (cy_13, 6001, .inl (fun _ => 0))), (q_7, .inl (cy_14, 6001, .inl (fun _ => 0))), (q_8, .inl (cy_15, 6001, .inl (fun _ => 0))), (q_9, .inl (cy_16, 256, .inl (fun _ => 0))), (q_10, .inl (cy_17, 3001, .inl (fun _ => 0))), (q_11, .inl (cy_18, 3001, .inl (fun _ => 0))), (q_12, .inl (cy_19, 3001, .inl (fun _ => 0))), (q_29, .inr (15, fl 134 F_30)), (q_38, .inr (14, [.null, .null, .null, .null, .null, .int 0])), (q_31, .inl (cy_39, 6000, .inl (fun _ => 0))), (q_35, .inl (cy_40, 6002, .inl (fun _ => 0))), (q_36, .inl (cy_41, 6002, .inl (fun _ => 0))), (q_37, .inl (cy_42, 6002, .inl (fun _ => 0))), (q_33, .inl (cy_43, 6000, .inl (fun _ => 0))), (q_34, .inl (cy_44, 6000, .inl (fun _ => 0))), (q_32, .inl (cy_45, 6600, .inl (fun _ => 0)))]) (w1 := []) hP hD [0, 10] [1, 2, 3, 4, 5, 6, 7, 8, 9, 11, 12, 13, 14, 15, 16, 17, 18, 19] rfl rfl (by decide) (by decide) hk1 hFc hP1 hD1
  have hK := (hK.sub (tys' := [(cy_5, .byte), (cy_13, .int), (cy_14, .int), (cy_15, .int), (cy_16, .int), (cy_17, .int), (cy_18, .int), (cy_19, .int), (cy_39, .byte), (cy_40, .int), (cy_41, .int), (cy_42, .int), (cy_43, .int), (cy_44, .int), (cy_45, .byte)]) [0, 1, 2, 3, 4, 5, 6, 7, 8, 9, 10, 11, 12, 13, 14] rfl).app hK1
  generalize H1 = H at hP hS ⊢
  have hK : va_K (dC, dI) vwCl [(cy_5, .byte), (cy_13, .int), (cy_14, .int), (cy_15, .int), (cy_16, .int), (cy_17, .int), (cy_18, .int), (cy_19, .int), (cy_39, .byte), (cy_40, .int), (cy_41, .int), (cy_42, .int), (cy_43, .int), (cy_44, .int), (cy_45, .byte)] s := hK
  have hP : va_P (dC, dI) vwCl [(q_2, .inl (cy_5, 6000, .inl (fun _ => 0))), (q_3, .inr (9, [.ref q_6, .ref q_7, .ref q_8, .int 0, .null, .int 0, .int 0, .int 0, .ref q_9, .ref q_10, .ref q_11, .ref q_12, .int 0])), (q_6, .inl (cy_13, 6001, .inl (fun _ => 0))), (q_7, .inl (cy_14, 6001, .inl (fun _ => 0))), (q_8, .inl (cy_15, 6001, .inl (fun _ => 0))), (q_9, .inl (cy_16, 256, .inl (fun _ => 0))), (q_10, .inl (cy_17, 3001, .inl (fun _ => 0))), (q_11, .inl (cy_18, 3001, .inl (fun _ => 0))), (q_12, .inl (cy_19, 3001, .inl (fun _ => 0))), (q_29, .inr (15, fl 134 F_30)), (q_38, .inr (14, [.null, .null, .null, .null, .null, .int 0])), (q_31, .inl (cy_39, 6000, .inl (fun _ => 0))), (q_35, .inl (cy_40, 6002, .inl (fun _ => 0))), (q_36, .inl (cy_41, 6002, .inl (fun _ => 0))), (q_37, .inl (cy_42, 6002, .inl (fun _ => 0))), (q_33, .inl (cy_43, 6000, .inl (fun _ => 0))), (q_34, .inl (cy_44, 6000, .inl (fun _ => 0))), (q_32, .inl (cy_45, 6600, .inl (fun _ => 0)))] H := hP
  have hD : va_D A [(q_2, .inl (cy_5, 6000, .inl (fun _ => 0))), (q_3, .inr (9, [.ref q_6, .ref q_7, .ref q_8, .int 0, .null, .int 0, .int 0, .int 0, .ref q_9, .ref q_10, .ref q_11, .ref q_12, .int 0])), (q_6, .inl (cy_13, 6001, .inl (fun _ => 0))), (q_7, .inl (cy_14, 6001, .inl (fun _ => 0))), (q_8, .inl (cy_15, 6001, .inl (fun _ => 0))), (q_9, .inl (cy_16, 256, .inl (fun _ => 0))), (q_10, .inl (cy_17, 3001, .inl (fun _ => 0))), (q_11, .inl (cy_18, 3001, .inl (fun _ => 0))), (q_12, .inl (cy_19, 3001, .inl (fun _ => 0))), (q_29, .inr (15, fl 134 F_30)), (q_38, .inr (14, [.null, .null, .null, .null, .null, .int 0])), (q_31, .inl (cy_39, 6000, .inl (fun _ => 0))), (q_35, .inl (cy_40, 6002, .inl (fun _ => 0))), (q_36, .inl (cy_41, 6002, .inl (fun _ => 0))), (q_37, .inl (cy_42, 6002, .inl (fun _ => 0))), (q_33, .inl (cy_43, 6000, .inl (fun _ => 0))), (q_34, .inl (cy_44, 6000, .inl (fun _ => 0))), (q_32, .inl (cy_45, 6600, .inl (fun _ => 0)))] := hD
  refine W.widen (k := 100) (n := 719914) (Nat.le_of_ble_eq_true rfl) (Nat.le_of_ble_eq_true rfl) ?_
  obtain rfl : r9 = ((-1)) := hw
  refine lv_aload_n hx hb dL_law_570 rfl (lv_at hl 2 rfl) ?_
  refine lv_aload_n hx hb dL_law_571 rfl (lv_at hl 4 rfl) ?_
  refine lv_iload hx hb dL_law_572 (lv_at hl 0 rfl) ?_
  refine lv_iconst (v := 1) hx hb dL_law_574 (by decide) ?_
  refine lv_iadd hx hb dL_law_575 ?_
  refine lv_topi (fun y9 e9 => ?_)
  have e9 : y9 = 1 := by rw [e9]; decide
  subst e9
  refine va_sld hx hb hX hbl hbA hS (i := 1) (by unfold vp_in; decide) dL_law_576 ?_
  refine lv_topi (fun x_1003 ex_1003 => ?_)
  have ex_1003 : x_1003 = xs 1 := ex_1003
  subst ex_1003
  refine lv_aload_n hx hb dL_law_577 rfl (lv_at hl 4 rfl) ?_
  refine lv_iload hx hb dL_law_578 (lv_at hl 0 rfl) ?_
  refine lv_iconst (v := 2) hx hb dL_law_580 (by decide) ?_
  refine lv_iadd hx hb dL_law_581 ?_
  refine lv_topi (fun y9 e9 => ?_)
  have e9 : y9 = 2 := by rw [e9]; decide
  subst e9
  refine va_sld hx hb hX hbl hbA hS (i := 2) (by unfold vp_in; decide) dL_law_582 ?_
  refine lv_topi (fun x_1004 ex_1004 => ?_)
  have ex_1004 : x_1004 = xs 2 := ex_1004
  subst ex_1004
  have hPc := hP.sub (ws' := [(q_29, .inr (15, fl 134 F_30))]) [9] rfl
  have hDc := hD.sub (ws' := [(q_29, .inr (15, fl 134 F_30))]) [9] (by decide) rfl
  have hKc := hK.sub (tys' := []) [] rfl
  have hFc := va_free (wc := [(q_29, .inr (15, fl 134 F_30))]) hD hS hA [9] rfl
  refine va_calli (va_runV (As := [.int (xs 1), .int (xs 2)]) (rest := [.int ((-1))]) ⟨hx, hb, hml, hown, hts⟩ (cm_thread l dC dI q_29 F_30 (xs 1) (xs 2) H.size hq100) (cwV 2 hts gl_cm_thread_85 rfl rfl rfl (by decide +kernel) ⟨(Nat.le_of_ble_eq_true rfl), (Nat.le_of_ble_eq_true rfl)⟩) ⟨fun a U g mk q => by obtain ⟨q0, q1, qP, qK, qD⟩ := q; exact ⟨q0, q1, qP, va_K.moved (u := U) (U := U.calling g mk a) (Vm.Alike.refl U.vm) qK, qD⟩, va_recv hKc hPc (ci := 15) (q0 := 0) rfl rfl, fun U hU hW => ⟨rfl, by rw [hU], by rw [hU]; exact hPc, va_K.moved hW.alike hKc, hDc.weaken (fun _ _ _ _ => trivial)⟩⟩ rfl rfl hl.1 rfl (lv_room (Nat.le_of_ble_eq_true rfl)) dL_law_583 ⟨(Nat.le_of_ble_eq_true rfl), (Nat.le_of_ble_eq_true rfl)⟩) hS (fun q _ h => hFc q h) hFc (fun r9 u t H1 locs ht hvm hw hB hz1 hk1 hS => ?_)
  obtain ⟨hP1, hK1, hD1⟩ := hB
  rw [ht] at hP1
  have hK1 := va_K.moved hvm.symm hK1
  obtain ⟨hP, hD⟩ := va_join (wr := [(q_2, .inl (cy_5, 6000, .inl (fun _ => 0))), (q_3, .inr (9, [.ref q_6, .ref q_7, .ref q_8, .int 0, .null, .int 0, .int 0, .int 0, .ref q_9, .ref q_10, .ref q_11, .ref q_12, .int 0])), (q_6, .inl (cy_13, 6001, .inl (fun _ => 0))), (q_7, .inl (cy_14, 6001, .inl (fun _ => 0))), (q_8, .inl (cy_15, 6001, .inl (fun _ => 0))), (q_9, .inl (cy_16, 256, .inl (fun _ => 0))), (q_10, .inl (cy_17, 3001, .inl (fun _ => 0))), (q_11, .inl (cy_18, 3001, .inl (fun _ => 0))), (q_12, .inl (cy_19, 3001, .inl (fun _ => 0))), (q_38, .inr (14, [.null, .null, .null, .null, .null, .int 0])), (q_31, .inl (cy_39, 6000, .inl (fun _ => 0))), (q_35, .inl (cy_40, 6002, .inl (fun _ => 0))), (q_36, .inl (cy_41, 6002, .inl (fun _ => 0))), (q_37, .inl (cy_42, 6002, .inl (fun _ => 0))), (q_33, .inl (cy_43, 6000, .inl (fun _ => 0))), (q_34, .inl (cy_44, 6000, .inl (fun _ => 0))), (q_32, .inl (cy_45, 6600, .inl (fun _ => 0)))]) (w1 := []) hP hD [9] [0, 1, 2, 3, 4, 5, 6, 7, 8, 10, 11, 12, 13, 14, 15, 16, 17] rfl rfl (by decide) (by decide) hk1 hFc hP1 hD1
  have hK := (hK.sub (tys' := [(cy_5, .byte), (cy_13, .int), (cy_14, .int), (cy_15, .int), (cy_16, .int), (cy_17, .int), (cy_18, .int), (cy_19, .int), (cy_39, .byte), (cy_40, .int), (cy_41, .int), (cy_42, .int), (cy_43, .int), (cy_44, .int), (cy_45, .byte)]) [0, 1, 2, 3, 4, 5, 6, 7, 8, 9, 10, 11, 12, 13, 14] rfl).app hK1
  generalize H1 = H at hP hS ⊢
  have hK : va_K (dC, dI) vwCl [(cy_5, .byte), (cy_13, .int), (cy_14, .int), (cy_15, .int), (cy_16, .int), (cy_17, .int), (cy_18, .int), (cy_19, .int), (cy_39, .byte), (cy_40, .int), (cy_41, .int), (cy_42, .int), (cy_43, .int), (cy_44, .int), (cy_45, .byte)] s := hK
  have hP : va_P (dC, dI) vwCl [(q_2, .inl (cy_5, 6000, .inl (fun _ => 0))), (q_3, .inr (9, [.ref q_6, .ref q_7, .ref q_8, .int 0, .null, .int 0, .int 0, .int 0, .ref q_9, .ref q_10, .ref q_11, .ref q_12, .int 0])), (q_6, .inl (cy_13, 6001, .inl (fun _ => 0))), (q_7, .inl (cy_14, 6001, .inl (fun _ => 0))), (q_8, .inl (cy_15, 6001, .inl (fun _ => 0))), (q_9, .inl (cy_16, 256, .inl (fun _ => 0))), (q_10, .inl (cy_17, 3001, .inl (fun _ => 0))), (q_11, .inl (cy_18, 3001, .inl (fun _ => 0))), (q_12, .inl (cy_19, 3001, .inl (fun _ => 0))), (q_38, .inr (14, [.null, .null, .null, .null, .null, .int 0])), (q_31, .inl (cy_39, 6000, .inl (fun _ => 0))), (q_35, .inl (cy_40, 6002, .inl (fun _ => 0))), (q_36, .inl (cy_41, 6002, .inl (fun _ => 0))), (q_37, .inl (cy_42, 6002, .inl (fun _ => 0))), (q_33, .inl (cy_43, 6000, .inl (fun _ => 0))), (q_34, .inl (cy_44, 6000, .inl (fun _ => 0))), (q_32, .inl (cy_45, 6600, .inl (fun _ => 0)))] H := hP
  have hD : va_D A [(q_2, .inl (cy_5, 6000, .inl (fun _ => 0))), (q_3, .inr (9, [.ref q_6, .ref q_7, .ref q_8, .int 0, .null, .int 0, .int 0, .int 0, .ref q_9, .ref q_10, .ref q_11, .ref q_12, .int 0])), (q_6, .inl (cy_13, 6001, .inl (fun _ => 0))), (q_7, .inl (cy_14, 6001, .inl (fun _ => 0))), (q_8, .inl (cy_15, 6001, .inl (fun _ => 0))), (q_9, .inl (cy_16, 256, .inl (fun _ => 0))), (q_10, .inl (cy_17, 3001, .inl (fun _ => 0))), (q_11, .inl (cy_18, 3001, .inl (fun _ => 0))), (q_12, .inl (cy_19, 3001, .inl (fun _ => 0))), (q_38, .inr (14, [.null, .null, .null, .null, .null, .int 0])), (q_31, .inl (cy_39, 6000, .inl (fun _ => 0))), (q_35, .inl (cy_40, 6002, .inl (fun _ => 0))), (q_36, .inl (cy_41, 6002, .inl (fun _ => 0))), (q_37, .inl (cy_42, 6002, .inl (fun _ => 0))), (q_33, .inl (cy_43, 6000, .inl (fun _ => 0))), (q_34, .inl (cy_44, 6000, .inl (fun _ => 0))), (q_32, .inl (cy_45, 6600, .inl (fun _ => 0)))] := hD
  refine W.widen (k := 100) (n := 719914) (Nat.le_of_ble_eq_true rfl) (Nat.le_of_ble_eq_true rfl) ?_
  obtain rfl : r9 = ((-1)) := hw
  refine lv_icmp_eq (tgt := 665) hx hb dL_law_586 (by decide) (fun c9 => ?_) (fun c9 => absurd (by decide) c9)
  clear c9
  refine lv_iinc (v := 6) (lv' := [(4, .int 6), (3, .ref q_58), (2, .ref q_29), (1, .ref q_1), (0, .ref b)]) hx hb dL_law_665 hl (k := 0) rfl (by decide) (by decide) rfl (fun ls hl => ?_)
  refine lv_goto (tgt := 23) hx hb dL_law_668 (by decide) ?_
  refine lv_iload hx hb dL_law_23 (lv_at hl 0 rfl) ?_
  refine lv_aload_n hx hb dL_law_25 rfl (lv_at hl 4 rfl) ?_
  refine va_slen hx hb hX hbl hbA hS dL_law_26 ?_
  refine lv_topi (fun y9 e9 => ?_)
  have e9 : y9 = 6 := e9
  subst e9
  refine lv_bipush (v := 6) hx hb dL_law_27 (by decide) ?_
  refine lv_isub hx hb dL_law_29 ?_
  refine lv_topi (fun y9 e9 => ?_)
  have e9 : y9 = 0 := by rw [e9]; decide
  subst e9
  refine lv_icmp_gt (tgt := 671) hx hb dL_law_30 (by decide) (fun c9 => ?_) (fun c9 => absurd (by decide) c9)
  clear c9
  refine lv_iconst (v := 1) hx hb dL_law_671 (by decide) ?_
  refine va_forget (fun q hq => hAA q.base (hS.2.2 q hq)) ?_
  refine W.widen (k := 600002) (n := 7302232) (Nat.le_of_ble_eq_true rfl) (Nat.le_of_ble_eq_true rfl) ?_
  exact lw_ret hx hb hr hlocks dL_law_672
