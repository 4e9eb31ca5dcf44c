def ws_cc_Th_init : List Cond := .code yTh_init cTh_init 5 none :: ([.methodLink RTh 1 objectInit, .instanceMethod objectInit, .code objectInit ⟨#[0xb1]⟩ 1 none, .fieldLink RTh 7 "java/lang/Throwable" "cause" "Ljava/lang/Throwable;", .fieldLink RTh 13 "java/lang/Throwable" "UNASSIGNED_STACK" "[Ljava/lang/StackTraceElement;", .fieldLink RTh 17 "java/lang/Throwable" "stackTrace" "[Ljava/lang/StackTraceElement;", .fieldLink RTh 20 "java/lang/Throwable" "SUPPRESSED_SENTINEL" "Ljava/util/List;", .fieldLink RTh 24 "java/lang/Throwable" "suppressedExceptions" "Ljava/util/List;", .fieldLink RTh 31 "java/lang/Throwable" "detailMessage" "Ljava/lang/String;"] ++ wsX120)
theorem in_cc_Th_init_RX12 : ∀ w ∈ wsX120, w ∈ ws_cc_Th_init := fun _ h => List.mem_cons_of_mem _ (List.mem_append_right _ h)
set_option maxHeartbeats 4000000 in
set_option maxRecDepth 100000 in
/-- Throwable(null, null, false, false): nothing is left in it -/
theorem cc_Th_init (l : Launch) (dC : Nat → ClassId) (dI : Nat → Nat → Nat) (h0 : Nat) (sz : Nat) : Met l yTh_init ws_cc_Th_init ({ frames := 1, cells := 0, slots := 0, locals := 12 }) (va_Pc [.ref h0, .null, .null, .int 0, .int 0] (fun U => U.heap.size = sz ∧ va_P (dC, dI) vwCl [(h0, .inr (14, [.null, .null, .null, .null, .null, .int 0]))] U.heap ∧ va_K (dC, dI) vwCl [] U ∧ va_D (fun _ => True) [(h0, .inr (14, [.null, .null, .null, .null, .null, .int 0]))] ∧ vx_Zq "java/lang/Throwable" "UNASSIGNED_STACK" "[Ljava/lang/StackTraceElement;" (va_A [(h0, .inr (14, [.null, .null, .null, .null, .null, .int 0]))] sz) U U.heap ∧ vx_Zq "java/lang/Throwable" "SUPPRESSED_SENTINEL" "Ljava/util/List;" (va_A [(h0, .inr (14, [.null, .null, .null, .null, .null, .int 0]))] sz) U U.heap)) (va_Qv (fun _ : Unit => True) (fun _ t => va_P (dC, dI) vwCl [(h0, .inr (14, [.null, .null, .null, .null, .null, .int 0]))] t.heap ∧ va_K (dC, dI) vwCl [] t ∧ va_D (va_A [(h0, .inr (14, [.null, .null, .null, .null, .null, .int 0]))] sz) [(h0, .inr (14, [.null, .null, .null, .null, .null, .int 0]))]) (va_A [(h0, .inr (14, [.null, .null, .null, .null, .null, .int 0]))] sz)) 0 0 (va_A [(h0, .inr (14, [.null, .null, .null, .null, .null, .int 0]))] sz) := by
  refine Met.ofW (cc := cTh_init) (maxL := 5) (ret := none) (by decide) rfl ?_
  intro p e s m args below meth c s₁ B hml hv
  obtain ⟨rfl, hsz, hP, hK, hD0, hN0, hN1⟩ := hv
  have hx := B.exec
  have hb := B.bytes
  have hr := B.returns
  have hts := atoms_spec (ws := ws_cc_Th_init) B.pre
  have hown : s.vm.findClass RTh = some m.cls := findClass_of_methodNamed B.named
  have hlocks := B.notSynchronized
  have hin : meth.name = "<init>" := (name_of_methodNamed B.named B.method).1
  subst hsz
  have hD := hD0.self (sz := s.heap.size)
  generalize hAe : va_A [(h0, .inr (14, [.null, .null, .null, .null, .null, .int 0]))] s.heap.size = A at hD hN0 hN1 ⊢
  have hA : ∀ q : Nat, s.heap.size ≤ q → A q := fun q h => by rw [← hAe]; exact Or.inr h
  have hS : va_S A s.heap s.heap [] := va_S.rf
  have hP : va_P (dC, dI) vwCl [(h0, .inr (14, [.null, .null, .null, .null, .null, .int 0]))] s.heap := hP
  have hl := lv_entry ([.ref h0, .null, .null, .int 0, .int 0]) (n := 5) (Nat.le_of_ble_eq_true rfl)
  rw [lg_entry_eq]
  generalize (lg_sl ([.ref h0, .null, .null, .int 0, .int 0]) ++ List.replicate (5 - (lg_sl ([.ref h0, .null, .null, .int 0, .int 0])).length) Slot.unset).toArray = ls at hl ⊢
  have hl : lv_has ls 5 [(0, .ref h0), (1, .null), (2, .null), (3, .int 0), (4, .int 0)] := hl
  refine lv_aload_n hx hb dTh_init_0 rfl (lv_at hl 0 rfl) ?_
  refine W.objInit hx hb hown (hts (.methodLink RTh 1 objectInit) (List.mem_of_getElem? (i := 1) rfl)) (hts (.instanceMethod objectInit) (List.mem_of_getElem? (i := 2) rfl)) (hts (.code objectInit ⟨#[0xb1]⟩ 1 none) (List.mem_of_getElem? (i := 3) rfl)) rfl (by rw [hml]; exact hl.1) rfl dTh_init_1 (Nat.le_of_ble_eq_true rfl) (Nat.le_of_ble_eq_true rfl) ?_
  refine W.eq (g2 := F0 m 4 ls []) rfl ?_
  refine lv_aload_n hx hb dTh_init_4 rfl (lv_at hl 0 rfl) ?_
  refine lv_aload_n hx hb dTh_init_5 rfl (lv_at hl 0 rfl) ?_
  refine va_put (D := (dC, dI)) (ci := 14) (v := .ref h0) (ty := .object "java/lang/Throwable") (C := RX12) (T := TX12) (N := 6) hx hb hts in_cc_Th_init_RX12 tyX12 tyX12_ok nmX12 hown hK hP hD hS 0 rfl rfl 0 (by decide) (hts (.fieldLink RTh 7 "java/lang/Throwable" "cause" "Ljava/lang/Throwable;") (List.mem_of_getElem? (i := 4) rfl)) (fun _ h9 => h9) rfl (by decide +kernel) rfl rfl (Nat.le_of_ble_eq_true rfl) dTh_init_6 (fun H locs hP hD hS => ?_)
  have hP : va_P (dC, dI) vwCl [(h0, .inr (14, [.ref h0, .null, .null, .null, .null, .int 0]))] H := hP
  have hD : va_D A [(h0, .inr (14, [.ref h0, .null, .null, .null, .null, .int 0]))] := hD
  refine lv_aload_n hx hb dTh_init_9 rfl (lv_at hl 0 rfl) ?_
  obtain ⟨v_1, hv_1, hzv_1⟩ := zq_val hN0.1
  refine va_gets hx hb hzv_1 hS hown (hts (.fieldLink RTh 13 "java/lang/Throwable" "UNASSIGNED_STACK" "[Ljava/lang/StackTraceElement;") (List.mem_of_getElem? (i := 5) rfl)) (fun _ h9 => h9) dTh_init_10 ?_
  refine va_put (D := (dC, dI)) (ci := 14) (v := v_1) (ty := .array (.object "java/lang/StackTraceElement")) (C := RX12) (T := TX12) (N := 6) hx hb hts in_cc_Th_init_RX12 tyX12 tyX12_ok nmX12 hown hK hP hD hS 0 rfl rfl 1 (by decide) (hts (.fieldLink RTh 17 "java/lang/Throwable" "stackTrace" "[Ljava/lang/StackTraceElement;") (List.mem_of_getElem? (i := 6) rfl)) (fun _ h9 => h9) rfl (by decide +kernel) (by rcases hv_1 with rfl | ⟨t9, rfl⟩ <;> rfl) (by rcases hv_1 with rfl | ⟨t9, rfl⟩ <;> rfl) (Nat.le_of_ble_eq_true rfl) dTh_init_13 (fun H locs hP hD hS => ?_)
  have hP : va_P (dC, dI) vwCl [(h0, .inr (14, [.ref h0, v_1, .null, .null, .null, .int 0]))] H := hP
  have hD : va_D A [(h0, .inr (14, [.ref h0, v_1, .null, .null, .null, .int 0]))] := hD
  refine lv_aload_n hx hb dTh_init_16 rfl (lv_at hl 0 rfl) ?_
  obtain ⟨v_2, hv_2, hzv_2⟩ := zq_val hN1.1
  refine va_gets hx hb hzv_2 hS hown (hts (.fieldLink RTh 20 "java/lang/Throwable" "SUPPRESSED_SENTINEL" "Ljava/util/List;") (List.mem_of_getElem? (i := 7) rfl)) (fun _ h9 => h9) dTh_init_17 ?_
  refine va_put (D := (dC, dI)) (ci := 14) (v := v_2) (ty := .object "java/util/List") (C := RX12) (T := TX12) (N := 6) hx hb hts in_cc_Th_init_RX12 tyX12 tyX12_ok nmX12 hown hK hP hD hS 0 rfl rfl 2 (by decide) (hts (.fieldLink RTh 24 "java/lang/Throwable" "suppressedExceptions" "Ljava/util/List;") (List.mem_of_getElem? (i := 8) rfl)) (fun _ h9 => h9) rfl (by decide +kernel) (by rcases hv_2 with rfl | ⟨t9, rfl⟩ <;> rfl) (by rcases hv_2 with rfl | ⟨t9, rfl⟩ <;> rfl) (Nat.le_of_ble_eq_true rfl) dTh_init_20 (fun H locs hP hD hS => ?_)
  have hP : va_P (dC, dI) vwCl [(h0, .inr (14, [.ref h0, v_1, v_2, .null, .null, .int 0]))] H := hP
  have hD : va_D A [(h0, .inr (14, [.ref h0, v_1, v_2, .null, .null, .int 0]))] := hD
  refine lv_iload hx hb dTh_init_23 (lv_at hl 4 rfl) ?_
  refine lv_if_eq (tgt := 36) hx hb dTh_init_25 (by decide) (fun c9 => ?_) (fun c9 => absurd (by decide) c9)
  clear c9
  refine lv_aload_n hx hb dTh_init_36 rfl (lv_at hl 0 rfl) ?_
  refine lv_null hx hb dTh_init_37 ?_
  refine va_put (D := (dC, dI)) (ci := 14) (v := .null) (ty := .array (.object "java/lang/StackTraceElement")) (C := RX12) (T := TX12) (N := 6) hx hb hts in_cc_Th_init_RX12 tyX12 tyX12_ok nmX12 hown hK hP hD hS 0 rfl rfl 1 (by decide) (hts (.fieldLink RTh 17 "java/lang/Throwable" "stackTrace" "[Ljava/lang/StackTraceElement;") (List.mem_of_getElem? (i := 6) rfl)) (fun _ h9 => h9) rfl (by decide +kernel) rfl rfl (Nat.le_of_ble_eq_true rfl) dTh_init_38 (fun H locs hP hD hS => ?_)
  have hP : va_P (dC, dI) vwCl [(h0, .inr (14, [.ref h0, .null, v_2, .null, .null, .int 0]))] H := hP
  have hD : va_D A [(h0, .inr (14, [.ref h0, .null, v_2, .null, .null, .int 0]))] := hD
  refine lv_aload_n hx hb dTh_init_41 rfl (lv_at hl 0 rfl) ?_
  refine lv_aload_nN hx hb dTh_init_42 rfl (lv_at hl 1 rfl) ?_
  refine va_put (D := (dC, dI)) (ci := 14) (v := .null) (ty := .object "java/lang/String") (C := RX12) (T := TX12) (N := 6) hx hb hts in_cc_Th_init_RX12 tyX12 tyX12_ok nmX12 hown hK hP hD hS 0 rfl rfl 3 (by decide) (hts (.fieldLink RTh 31 "java/lang/Throwable" "detailMessage" "Ljava/lang/String;") (List.mem_of_getElem? (i := 9) rfl)) (fun _ h9 => h9) rfl (by decide +kernel) rfl rfl (Nat.le_of_ble_eq_true rfl) dTh_init_43 (fun H locs hP hD hS => ?_)
  have hP : va_P (dC, dI) vwCl [(h0, .inr (14, [.ref h0, .null, v_2, .null, .null, .int 0]))] H := hP
  have hD : va_D A [(h0, .inr (14, [.ref h0, .null, v_2, .null, .null, .int 0]))] := hD
  refine lv_aload_n hx hb dTh_init_46 rfl (lv_at hl 0 rfl) ?_
  refine lv_aload_nN hx hb dTh_init_47 rfl (lv_at hl 2 rfl) ?_
  refine va_put (D := (dC, dI)) (ci := 14) (v := .null) (ty := .object "java/lang/Throwable") (C := RX12) (T := TX12) (N := 6) hx hb hts in_cc_Th_init_RX12 tyX12 tyX12_ok nmX12 hown hK hP hD hS 0 rfl rfl 0 (by decide) (hts (.fieldLink RTh 7 "java/lang/Throwable" "cause" "Ljava/lang/Throwable;") (List.mem_of_getElem? (i := 4) rfl)) (fun _ h9 => h9) rfl (by decide +kernel) rfl rfl (Nat.le_of_ble_eq_true rfl) dTh_init_48 (fun H locs hP hD hS => ?_)
  have hP : va_P (dC, dI) vwCl [(h0, .inr (14, [.null, .null, v_2, .null, .null, .int 0]))] H := hP
  have hD : va_D A [(h0, .inr (14, [.null, .null, v_2, .null, .null, .int 0]))] := hD
  refine lv_iload_n hx hb dTh_init_51 rfl (lv_at hl 3 rfl) ?_
  refine lv_if_ne (tgt := 60) hx hb dTh_init_52 (by decide) (fun c9 => absurd c9 (by decide)) (fun c9 => ?_)
  clear c9
  refine lv_aload_n hx hb dTh_init_55 rfl (lv_at hl 0 rfl) ?_
  refine lv_null hx hb dTh_init_56 ?_
  refine va_put (D := (dC, dI)) (ci := 14) (v := .null) (ty := .object "java/util/List") (C := RX12) (T := TX12) (N := 6) hx hb hts in_cc_Th_init_RX12 tyX12 tyX12_ok nmX12 hown hK hP hD hS 0 rfl rfl 2 (by decide) (hts (.fieldLink RTh 24 "java/lang/Throwable" "suppressedExceptions" "Ljava/util/List;") (List.mem_of_getElem? (i := 8) rfl)) (fun _ h9 => h9) rfl (by decide +kernel) rfl rfl (Nat.le_of_ble_eq_true rfl) dTh_init_57 (fun H locs hP hD hS => ?_)
  have hP : va_P (dC, dI) vwCl [(h0, .inr (14, [.null, .null, .null, .null, .null, .int 0]))] H := hP
  have hD : va_D A [(h0, .inr (14, [.null, .null, .null, .null, .null, .int 0]))] := hD
  have hP9 := hP.sub (ws' := [(h0, .inr (14, [.null, .null, .null, .null, .null, .int 0]))]) [0] rfl
  have hD9 := hD.sub (ws' := [(h0, .inr (14, [.null, .null, .null, .null, .null, .int 0]))]) [0] (by decide) rfl
  have hK9 := hK.sub (tys' := []) [] rfl
  refine W.widen (k := 0) (n := 0) (Nat.le_of_ble_eq_true rfl) (Nat.le_of_ble_eq_true rfl) ?_
  exact W.vret hx hb hr (fun t ht hW => ⟨⟨(), rfl, trivial, by rw [ht]; exact hP9, va_K.moved hW.alike hK9, hD9⟩, hS.F ht⟩) hS.2.2 dTh_init_60
def ws_cc_Ex_init : List Cond := .code yEx_init cEx_init 5 none :: ([.methodLink RTh 1 objectInit, .instanceMethod objectInit, .code objectInit ⟨#[0xb1]⟩ 1 none, .fieldLink RTh 7 "java/lang/Throwable" "cause" "Ljava/lang/Throwable;", .fieldLink RTh 13 "java/lang/Throwable" "UNASSIGNED_STACK" "[Ljava/lang/StackTraceElement;", .fieldLink RTh 17 "java/lang/Throwable" "stackTrace" "[Ljava/lang/StackTraceElement;", .fieldLink RTh 20 "java/lang/Throwable" "SUPPRESSED_SENTINEL" "Ljava/util/List;", .fieldLink RTh 24 "java/lang/Throwable" "suppressedExceptions" "Ljava/util/List;", .fieldLink RTh 31 "java/lang/Throwable" "detailMessage" "Ljava/lang/String;", .code yTh_init cTh_init 5 none, .initialized RTh, .methodLink REx 16 yTh_init, .instanceMethod yTh_init] ++ wsX120)
theorem in_cc_Ex_init_RX12 : ∀ w ∈ wsX120, w ∈ ws_cc_Ex_init := fun _ h => List.mem_cons_of_mem _ (List.mem_append_right _ h)
theorem g0_cc_Ex_init_cc_Th_init_16 : GoodIn ws_cc_Ex_init ws_cc_Th_init := goodIn_r _ [10, 1, 2, 3, 4, 5, 6, 7, 8, 9, 14, 15, 16, 17, 18, 19] (by decide +kernel) (by decide +kernel)
theorem gg_cc_Ex_init_cc_Th_init_16 : GoodIn ws_cc_Ex_init ws_cc_Th_init := g0_cc_Ex_init_cc_Th_init_16
set_option maxHeartbeats 4000000 in
set_option maxRecDepth 100000 in
theorem cc_Ex_init (l : Launch) (dC : Nat → ClassId) (dI : Nat → Nat → Nat) (h0 : Nat) (sz : Nat) : Met l yEx_init ws_cc_Ex_init ({ frames := 2, cells := 0, slots := 0, locals := 36 }) (va_Pc [.ref h0, .null, .null, .int 0, .int 0] (fun U => U.heap.size = sz ∧ va_P (dC, dI) vwCl [(h0, .inr (14, [.null, .null, .null, .null, .null, .int 0]))] U.heap ∧ va_K (dC, dI) vwCl [] U ∧ va_D (fun _ => True) [(h0, .inr (14, [.null, .null, .null, .null, .null, .int 0]))] ∧ vx_Zq "java/lang/Throwable" "UNASSIGNED_STACK" "[Ljava/lang/StackTraceElement;" (va_A [(h0, .inr (14, [.null, .null, .null, .null, .null, .int 0]))] sz) U U.heap ∧ vx_Zq "java/lang/Throwable" "SUPPRESSED_SENTINEL" "Ljava/util/List;" (va_A [(h0, .inr (14, [.null, .null, .null, .null, .null, .int 0]))] sz) U U.heap)) (va_Qv (fun _ : Unit => True) (fun _ t => va_P (dC, dI) vwCl [(h0, .inr (14, [.null, .null, .null, .null, .null, .int 0]))] t.heap ∧ va_K (dC, dI) vwCl [] t ∧ va_D (va_A [(h0, .inr (14, [.null, .null, .null, .null, .null, .int 0]))] sz) [(h0, .inr (14, [.null, .null, .null, .null, .null, .int 0]))]) (va_A [(h0, .inr (14, [.null, .null, .null, .null, .null, .int 0]))] sz)) 0 0 (va_A [(h0, .inr (14, [.null, .null, .null, .null, .null, .int 0]))] sz) := by
  refine Met.ofW (cc := cEx_init) (maxL := 5) (ret := none) (by decide) rfl ?_
  intro p e s m args below meth c s₁ B hml hv
  obtain ⟨rfl, hsz, hP, hK, hD0, hN0, hN1⟩ := hv
  have hx := B.exec
  have hb := B.bytes
  have hr := B.returns
  have hts := atoms_spec (ws := ws_cc_Ex_init) B.pre
  have hown : s.vm.findClass REx = some m.cls := findClass_of_methodNamed B.named
  have hlocks := B.notSynchronized
  have hin : meth.name = "<init>" := (name_of_methodNamed B.named B.method).1
  subst hsz
  have hD := hD0.self (sz := s.heap.size)
  generalize hAe : va_A [(h0, .inr (14, [.null, .null, .null, .null, .null, .int 0]))] s.heap.size = A at hD hN0 hN1 ⊢
  have hA : ∀ q : Nat, s.heap.size ≤ q → A q := fun q h => by rw [← hAe]; exact Or.inr h
  have hS : va_S A s.heap s.heap [] := va_S.rf
  have hP : va_P (dC, dI) vwCl [(h0, .inr (14, [.null, .null, .null, .null, .null, .int 0]))] s.heap := hP
  have hl := lv_entry ([.ref h0, .null, .null, .int 0, .int 0]) (n := 5) (Nat.le_of_ble_eq_true rfl)
  rw [lg_entry_eq]
  generalize (lg_sl ([.ref h0, .null, .null, .int 0, .int 0]) ++ List.replicate (5 - (lg_sl ([.ref h0, .null, .null, .int 0, .int 0])).length) Slot.unset).toArray = ls at hl ⊢
  have hl : lv_has ls 5 [(0, .ref h0), (1, .null), (2, .null), (3, .int 0), (4, .int 0)] := hl
  refine lv_aload_n hx hb dEx_init_0 rfl (lv_at hl 0 rfl) ?_
  refine lv_aload_nN hx hb dEx_init_1 rfl (lv_at hl 1 rfl) ?_
  refine lv_aload_nN hx hb dEx_init_2 rfl (lv_at hl 2 rfl) ?_
  refine lv_iload_n hx hb dEx_init_3 rfl (lv_at hl 3 rfl) ?_
  refine lv_iload hx hb dEx_init_4 (lv_at hl 4 rfl) ?_
  have hPc := hP.sub (ws' := [(h0, .inr (14, [.null, .null, .null, .null, .null, .int 0]))]) [0] rfl
  have hDc := hD.sub (ws' := [(h0, .inr (14, [.null, .null, .null, .null, .null, .int 0]))]) [0] (by decide) rfl
  have hKc := hK.sub (tys' := []) [] rfl
  have hFc := va_free (wc := [(h0, .inr (14, [.null, .null, .null, .null, .null, .int 0]))]) hD hS hA [0] rfl
  refine va_callv (va_runI (As := [.null, .null, .int 0, .int 0]) (rest := []) ⟨hx, hb, hml, hown, hts⟩ (cc_Th_init l dC dI h0 s.heap.size) (cwI 4 hts gg_cc_Ex_init_cc_Th_init_16 rfl rfl rfl (hts (.initialized RTh) (List.mem_of_getElem? (i := 11) rfl)) (hts (.methodLink REx 16 yTh_init) (List.mem_of_getElem? (i := 12) rfl)) (hts (.instanceMethod yTh_init) (List.mem_of_getElem? (i := 13) rfl)) rfl (by decide +kernel) ⟨(Nat.le_of_ble_eq_true rfl), (Nat.le_of_ble_eq_true rfl)⟩) ⟨fun a U g mk q => by obtain ⟨q0, q1, qP, qK, qD, qN0, qN1⟩ := q; exact ⟨q0, q1, qP, va_K.moved (u := U) (U := U.calling g mk a) (Vm.Alike.refl U.vm) qK, qD, vx_Zq.moved (u := U) (U := U.calling g mk a) (Vm.Alike.refl U.vm) qN0, vx_Zq.moved (u := U) (U := U.calling g mk a) (Vm.Alike.refl U.vm) qN1⟩, fun U hU hW => ⟨rfl, by rw [hU], by rw [hU]; exact hPc, va_K.moved hW.alike hKc, hDc.weaken (fun _ _ _ _ => trivial), (by rw [hU]; exact vx_Zq.moved hW.alike ((hN0.kept (fun a h1 h2 => hS.2.1 a h1 h2)).narrow hFc)), (by rw [hU]; exact vx_Zq.moved hW.alike ((hN1.kept (fun a h1 h2 => hS.2.1 a h1 h2)).narrow hFc))⟩⟩ rfl rfl hl.1 rfl (lv_room (Nat.le_of_ble_eq_true rfl)) dEx_init_6 ⟨(Nat.le_of_ble_eq_true rfl), (Nat.le_of_ble_eq_true rfl)⟩) hS (fun q _ h => hFc q h) hFc (fun u t H1 locs ht hvm hw hB hz1 hk1 hS => ?_)
  obtain ⟨hP1, hK1, hD1⟩ := hB
  rw [ht] at hP1
  have hK1 := va_K.moved hvm.symm hK1
  obtain ⟨hP, hD⟩ := va_join (wr := []) (w1 := [(h0, .inr (14, [.null, .null, .null, .null, .null, .int 0]))]) hP hD [0] [] rfl rfl (by decide) (by decide) hk1 hFc hP1 hD1
  have hK := (hK.sub (tys' := []) [] rfl).app hK1
  generalize H1 = H at hP hS ⊢
  have hK : va_K (dC, dI) vwCl [] s := hK
  have hP : va_P (dC, dI) vwCl [(h0, .inr (14, [.null, .null, .null, .null, .null, .int 0]))] H := hP
  have hD : va_D A [(h0, .inr (14, [.null, .null, .null, .null, .null, .int 0]))] := hD
  refine W.widen (k := 0) (n := 0) (Nat.le_of_ble_eq_true rfl) (Nat.le_of_ble_eq_true rfl) ?_
  have hP9 := hP.sub (ws' := [(h0, .inr (14, [.null, .null, .null, .null, .null, .int 0]))]) [0] rfl
  have hD9 := hD.sub (ws' := [(h0, .inr (14, [.null, .null, .null, .null, .null, .int 0]))]) [0] (by decide) rfl
  have hK9 := hK.sub (tys' := []) [] rfl
  refine W.widen (k := 0) (n := 0) (Nat.le_of_ble_eq_true rfl) (Nat.le_of_ble_eq_true rfl) ?_
  exact W.vret hx hb hr (fun t ht hW => ⟨⟨(), rfl, trivial, by rw [ht]; exact hP9, va_K.moved hW.alike hK9, hD9⟩, hS.F ht⟩) hS.2.2 dEx_init_9
def ws_cc_Rt_init : List Cond := .code yRt_init cRt_init 5 none :: ([.methodLink RTh 1 objectInit, .instanceMethod objectInit, .code objectInit ⟨#[0xb1]⟩ 1 none, .fieldLink RTh 7 "java/lang/Throwable" "cause" "Ljava/lang/Throwable;", .fieldLink RTh 13 "java/lang/Throwable" "UNASSIGNED_STACK" "[Ljava/lang/StackTraceElement;", .fieldLink RTh 17 "java/lang/Throwable" "stackTrace" "[Ljava/lang/StackTraceElement;", .fieldLink RTh 20 "java/lang/Throwable" "SUPPRESSED_SENTINEL" "Ljava/util/List;", .fieldLink RTh 24 "java/lang/Throwable" "suppressedExceptions" "Ljava/util/List;", .fieldLink RTh 31 "java/lang/Throwable" "detailMessage" "Ljava/lang/String;", .code yTh_init cTh_init 5 none, .initialized RTh, .methodLink REx 16 yTh_init, .instanceMethod yTh_init, .code yEx_init cEx_init 5 none, .initialized REx, .methodLink RRt 16 yEx_init, .instanceMethod yEx_init] ++ wsX120)
theorem in_cc_Rt_init_RX12 : ∀ w ∈ wsX120, w ∈ ws_cc_Rt_init := fun _ h => List.mem_cons_of_mem _ (List.mem_append_right _ h)
theorem g0_cc_Rt_init_cc_Ex_init_16 : GoodIn ws_cc_Rt_init ws_cc_Ex_init := goodIn_r _ [14, 1, 2, 3, 4, 5, 6, 7, 8, 9, 10, 11, 12, 13, 18, 19, 20, 21, 22, 23] (by decide +kernel) (by decide +kernel)
theorem gg_cc_Rt_init_cc_Ex_init_16 : GoodIn ws_cc_Rt_init ws_cc_Ex_init := g0_cc_Rt_init_cc_Ex_init_16
set_option maxHeartbeats 4000000 in
set_option maxRecDepth 100000 in
theorem cc_Rt_init (l : Launch) (dC : Nat → ClassId) (dI : Nat → Nat → Nat) (h0 : Nat) (sz : Nat) : Met l yRt_init ws_cc_Rt_init ({ frames := 3, cells := 0, slots := 0, locals := 60 }) (va_Pc [.ref h0, .null, .null, .int 0, .int 0] (fun U => U.heap.size = sz ∧ va_P (dC, dI) vwCl [(h0, .inr (14, [.null, .null, .null, .null, .null, .int 0]))] U.heap ∧ va_K (dC, dI) vwCl [] U ∧ va_D (fun _ => True) [(h0, .inr (14, [.null, .null, .null, .null, .null, .int 0]))] ∧ vx_Zq "java/lang/Throwable" "UNASSIGNED_STACK" "[Ljava/lang/StackTraceElement;" (va_A [(h0, .inr (14, [.null, .null, .null, .null, .null, .int 0]))] sz) U U.heap ∧ vx_Zq "java/lang/Throwable" "SUPPRESSED_SENTINEL" "Ljava/util/List;" (va_A [(h0, .inr (14, [.null, .null, .null, .null, .null, .int 0]))] sz) U U.heap)) (va_Qv (fun _ : Unit => True) (fun _ t => va_P (dC, dI) vwCl [(h0, .inr (14, [.null, .null, .null, .null, .null, .int 0]))] t.heap ∧ va_K (dC, dI) vwCl [] t ∧ va_D (va_A [(h0, .inr (14, [.null, .null, .null, .null, .null, .int 0]))] sz) [(h0, .inr (14, [.null, .null, .null, .null, .null, .int 0]))]) (va_A [(h0, .inr (14, [.null, .null, .null, .null, .null, .int 0]))] sz)) 0 0 (va_A [(h0, .inr (14, [.null, .null, .null, .null, .null, .int 0]))] sz) := by
  refine Met.ofW (cc := cRt_init) (maxL := 5) (ret := none) (by decide) rfl ?_
  intro p e s m args below meth c s₁ B hml hv
  obtain ⟨rfl, hsz, hP, hK, hD0, hN0, hN1⟩ := hv
  have hx := B.exec
  have hb := B.bytes
  have hr := B.returns
  have hts := atoms_spec (ws := ws_cc_Rt_init) B.pre
  have hown : s.vm.findClass RRt = some m.cls := findClass_of_methodNamed B.named
  have hlocks := B.notSynchronized
  have hin : meth.name = "<init>" := (name_of_methodNamed B.named B.method).1
  subst hsz
  have hD := hD0.self (sz := s.heap.size)
  generalize hAe : va_A [(h0, .inr (14, [.null, .null, .null, .null, .null, .int 0]))] s.heap.size = A at hD hN0 hN1 ⊢
  have hA : ∀ q : Nat, s.heap.size ≤ q → A q := fun q h => by rw [← hAe]; exact Or.inr h
  have hS : va_S A s.heap s.heap [] := va_S.rf
  have hP : va_P (dC, dI) vwCl [(h0, .inr (14, [.null, .null, .null, .null, .null, .int 0]))] s.heap := hP
  have hl := lv_entry ([.ref h0, .null, .null, .int 0, .int 0]) (n := 5) (Nat.le_of_ble_eq_true rfl)
  rw [lg_entry_eq]
  generalize (lg_sl ([.ref h0, .null, .null, .int 0, .int 0]) ++ List.replicate (5 - (lg_sl ([.ref h0, .null, .null, .int 0, .int 0])).length) Slot.unset).toArray = ls at hl ⊢
  have hl : lv_has ls 5 [(0, .ref h0), (1, .null), (2, .null), (3, .int 0), (4, .int 0)] := hl
  refine lv_aload_n hx hb dRt_init_0 rfl (lv_at hl 0 rfl) ?_
  refine lv_aload_nN hx hb dRt_init_1 rfl (lv_at hl 1 rfl) ?_
  refine lv_aload_nN hx hb dRt_init_2 rfl (lv_at hl 2 rfl) ?_
  refine lv_iload_n hx hb dRt_init_3 rfl (lv_at hl 3 rfl) ?_
  refine lv_iload hx hb dRt_init_4 (lv_at hl 4 rfl) ?_
  have hPc := hP.sub (ws' := [(h0, .inr (14, [.null, .null, .null, .null, .null, .int 0]))]) [0] rfl
  have hDc := hD.sub (ws' := [(h0, .inr (14, [.null, .null, .null, .null, .null, .int 0]))]) [0] (by decide) rfl
  have hKc := hK.sub (tys' := []) [] rfl
  have hFc := va_free (wc := [(h0, .inr (14, [.null, .null, .null, .null, .null, .int 0]))]) hD hS hA [0] rfl
  refine va_callv (va_runI (As := [.null, .null, .int 0, .int 0]) (rest := []) ⟨hx, hb, hml, hown, hts⟩ (cc_Ex_init l dC dI h0 s.heap.size) (cwI 4 hts gg_cc_Rt_init_cc_Ex_init_16 rfl rfl rfl (hts (.initialized REx) (List.mem_of_getElem? (i := 15) rfl)) (hts (.methodLink RRt 16 yEx_init) (List.mem_of_getElem? (i := 16) rfl)) (hts (.instanceMethod yEx_init) (List.mem_of_getElem? (i := 17) rfl)) rfl (by decide +kernel) ⟨(Nat.le_of_ble_eq_true rfl), (Nat.le_of_ble_eq_true rfl)⟩) ⟨fun a U g mk q => by obtain ⟨q0, q1, qP, qK, qD, qN0, qN1⟩ := q; exact ⟨q0, q1, qP, va_K.moved (u := U) (U := U.calling g mk a) (Vm.Alike.refl U.vm) qK, qD, vx_Zq.moved (u := U) (U := U.calling g mk a) (Vm.Alike.refl U.vm) qN0, vx_Zq.moved (u := U) (U := U.calling g mk a) (Vm.Alike.refl U.vm) qN1⟩, fun U hU hW => ⟨rfl, by rw [hU], by rw [hU]; exact hPc, va_K.moved hW.alike hKc, hDc.weaken (fun _ _ _ _ => trivial), (by rw [hU]; exact vx_Zq.moved hW.alike ((hN0.kept (fun a h1 h2 => hS.2.1 a h1 h2)).narrow hFc)), (by rw [hU]; exact vx_Zq.moved hW.alike ((hN1.kept (fun a h1 h2 => hS.2.1 a h1 h2)).narrow hFc))⟩⟩ rfl rfl hl.1 rfl (lv_room (Nat.le_of_ble_eq_true rfl)) dRt_init_6 ⟨(Nat.le_of_ble_eq_true rfl), (Nat.le_of_ble_eq_true rfl)⟩) hS (fun q _ h => hFc q h) hFc (fun u t H1 locs ht hvm hw hB hz1 hk1 hS => ?_)
  obtain ⟨hP1, hK1, hD1⟩ := hB
  rw [ht] at hP1
  have hK1 := va_K.moved hvm.symm hK1
  obtain ⟨hP, hD⟩ := va_join (wr := []) (w1 := [(h0, .inr (14, [.null, .null, .null, .null, .null, .int 0]))]) hP hD [0] [] rfl rfl (by decide) (by decide) hk1 hFc hP1 hD1
  have hK := (hK.sub (tys' := []) [] rfl).app hK1
  generalize H1 = H at hP hS ⊢
  have hK : va_K (dC, dI) vwCl [] s := hK
  have hP : va_P (dC, dI) vwCl [(h0, .inr (14, [.null, .null, .null, .null, .null, .int 0]))] H := hP
  have hD : va_D A [(h0, .inr (14, [.null, .null, .null, .null, .null, .int 0]))] := hD
  refine W.widen (k := 0) (n := 0) (Nat.le_of_ble_eq_true rfl) (Nat.le_of_ble_eq_true rfl) ?_
  have hP9 := hP.sub (ws' := [(h0, .inr (14, [.null, .null, .null, .null, .null, .int 0]))]) [0] rfl
  have hD9 := hD.sub (ws' := [(h0, .inr (14, [.null, .null, .null, .null, .null, .int 0]))]) [0] (by decide) rfl
  have hK9 := hK.sub (tys' := []) [] rfl
  refine W.widen (k := 0) (n := 0) (Nat.le_of_ble_eq_true rfl) (Nat.le_of_ble_eq_true rfl) ?_
  exact W.vret hx hb hr (fun t ht hW => ⟨⟨(), rfl, trivial, by rw [ht]; exact hP9, va_K.moved hW.alike hK9, hD9⟩, hS.F ht⟩) hS.2.2 dRt_init_9
def ws_cc_Stop_init : List Cond := .code yX12_init cX12_init 1 none :: ([.methodLink RTh 1 objectInit, .instanceMethod objectInit, .code objectInit ⟨#[0xb1]⟩ 1 none, .fieldLink RTh 7 "java/lang/Throwable" "cause" "Ljava/lang/Throwable;", .fieldLink RTh 13 "java/lang/Throwable" "UNASSIGNED_STACK" "[Ljava/lang/StackTraceElement;", .fieldLink RTh 17 "java/lang/Throwable" "stackTrace" "[Ljava/lang/StackTraceElement;", .fieldLink RTh 20 "java/lang/Throwable" "SUPPRESSED_SENTINEL" "Ljava/util/List;", .fieldLink RTh 24 "java/lang/Throwable" "suppressedExceptions" "Ljava/util/List;", .fieldLink RTh 31 "java/lang/Throwable" "detailMessage" "Ljava/lang/String;", .code yTh_init cTh_init 5 none, .initialized RTh, .methodLink REx 16 yTh_init, .instanceMethod yTh_init, .code yEx_init cEx_init 5 none, .initialized REx, .methodLink RRt 16 yEx_init, .instanceMethod yEx_init, .code yRt_init cRt_init 5 none, .initialized RRt, .methodLink RX12 1 yRt_init, .instanceMethod yRt_init] ++ wsX120)
theorem in_cc_Stop_init_RX12 : ∀ w ∈ wsX120, w ∈ ws_cc_Stop_init := fun _ h => List.mem_cons_of_mem _ (List.mem_append_right _ h)
theorem g0_cc_Stop_init_cc_Rt_init_1 : GoodIn ws_cc_Stop_init ws_cc_Rt_init := goodIn_r _ [18, 1, 2, 3, 4, 5, 6, 7, 8, 9, 10, 11, 12, 13, 14, 15, 16, 17, 22, 23, 24, 25, 26, 27] (by decide +kernel) (by decide +kernel)
theorem gg_cc_Stop_init_cc_Rt_init_1 : GoodIn ws_cc_Stop_init ws_cc_Rt_init := g0_cc_Stop_init_cc_Rt_init_1
set_option maxHeartbeats 4000000 in
set_option maxRecDepth 100000 in
theorem cc_Stop_init (l : Launch) (dC : Nat → ClassId) (dI : Nat → Nat → Nat) (h0 : Nat) (sz : Nat) : Met l yX12_init ws_cc_Stop_init ({ frames := 4, cells := 0, slots := 0, locals := 84 }) (va_Pc [.ref h0] (fun U => U.heap.size = sz ∧ va_P (dC, dI) vwCl [(h0, .inr (14, [.null, .null, .null, .null, .null, .int 0]))] U.heap ∧ va_K (dC, dI) vwCl [] U ∧ va_D (fun _ => True) [(h0, .inr (14, [.null, .null, .null, .null, .null, .int 0]))] ∧ vx_Zq "java/lang/Throwable" "UNASSIGNED_STACK" "[Ljava/lang/StackTraceElement;" (va_A [(h0, .inr (14, [.null, .null, .null, .null, .null, .int 0]))] sz) U U.heap ∧ vx_Zq "java/lang/Throwable" "SUPPRESSED_SENTINEL" "Ljava/util/List;" (va_A [(h0, .inr (14, [.null, .null, .null, .null, .null, .int 0]))] sz) U U.heap)) (va_Qv (fun _ : Unit => True) (fun _ t => va_P (dC, dI) vwCl [(h0, .inr (14, [.null, .null, .null, .null, .null, .int 0]))] t.heap ∧ va_K (dC, dI) vwCl [] t ∧ va_D (va_A [(h0, .inr (14, [.null, .null, .null, .null, .null, .int 0]))] sz) [(h0, .inr (14, [.null, .null, .null, .null, .null, .int 0]))]) (va_A [(h0, .inr (14, [.null, .null, .null, .null, .null, .int 0]))] sz)) 0 0 (va_A [(h0, .inr (14, [.null, .null, .null, .null, .null, .int 0]))] sz) := by
  refine Met.ofW (cc := cX12_init) (maxL := 1) (ret := none) (by decide) rfl ?_
  intro p e s m args below meth c s₁ B hml hv
  obtain ⟨rfl, hsz, hP, hK, hD0, hN0, hN1⟩ := hv
  have hx := B.exec
  have hb := B.bytes
  have hr := B.returns
  have hts := atoms_spec (ws := ws_cc_Stop_init) B.pre
  have hown : s.vm.findClass RX12 = some m.cls := findClass_of_methodNamed B.named
  have hlocks := B.notSynchronized
  have hin : meth.name = "<init>" := (name_of_methodNamed B.named B.method).1
  subst hsz
  have hD := hD0.self (sz := s.heap.size)
  generalize hAe : va_A [(h0, .inr (14, [.null, .null, .null, .null, .null, .int 0]))] s.heap.size = A at hD hN0 hN1 ⊢
  have hA : ∀ q : Nat, s.heap.size ≤ q → A q := fun q h => by rw [← hAe]; exact Or.inr h
  have hS : va_S A s.heap s.heap [] := va_S.rf
  have hP : va_P (dC, dI) vwCl [(h0, .inr (14, [.null, .null, .null, .null, .null, .int 0]))] s.heap := hP
  have hl := lv_entry ([.ref h0]) (n := 1) (Nat.le_of_ble_eq_true rfl)
  rw [lg_entry_eq]
  generalize (lg_sl ([.ref h0]) ++ List.replicate (1 - (lg_sl ([.ref h0])).length) Slot.unset).toArray = ls at hl ⊢
  have hl : lv_has ls 1 [(0, .ref h0)] := hl
  refine lv_aload_n hx hb dX12_init_0 rfl (lv_at hl 0 rfl) ?_
  refine lv_null hx hb dX12_init_1 ?_
  refine lv_null hx hb dX12_init_2 ?_
  refine lv_iconst (v := 0) hx hb dX12_init_3 (by decide) ?_
  refine lv_iconst (v := 0) hx hb dX12_init_4 (by decide) ?_
  have hPc := hP.sub (ws' := [(h0, .inr (14, [.null, .null, .null, .null, .null, .int 0]))]) [0] rfl
  have hDc := hD.sub (ws' := [(h0, .inr (14, [.null, .null, .null, .null, .null, .int 0]))]) [0] (by decide) rfl
  have hKc := hK.sub (tys' := []) [] rfl
  have hFc := va_free (wc := [(h0, .inr (14, [.null, .null, .null, .null, .null, .int 0]))]) hD hS hA [0] rfl
  refine va_callv (va_runI (As := [.null, .null, .int 0, .int 0]) (rest := []) ⟨hx, hb, hml, hown, hts⟩ (cc_Rt_init l dC dI h0 s.heap.size) (cwI 4 hts gg_cc_Stop_init_cc_Rt_init_1 rfl rfl rfl (hts (.initialized RRt) (List.mem_of_getElem? (i := 19) rfl)) (hts (.methodLink RX12 1 yRt_init) (List.mem_of_getElem? (i := 20) rfl)) (hts (.instanceMethod yRt_init) (List.mem_of_getElem? (i := 21) rfl)) rfl (by decide +kernel) ⟨(Nat.le_of_ble_eq_true rfl), (Nat.le_of_ble_eq_true rfl)⟩) ⟨fun a U g mk q => by obtain ⟨q0, q1, qP, qK, qD, qN0, qN1⟩ := q; exact ⟨q0, q1, qP, va_K.moved (u := U) (U := U.calling g mk a) (Vm.Alike.refl U.vm) qK, qD, vx_Zq.moved (u := U) (U := U.calling g mk a) (Vm.Alike.refl U.vm) qN0, vx_Zq.moved (u := U) (U := U.calling g mk a) (Vm.Alike.refl U.vm) qN1⟩, fun U hU hW => ⟨rfl, by rw [hU], by rw [hU]; exact hPc, va_K.moved hW.alike hKc, hDc.weaken (fun _ _ _ _ => trivial), (by rw [hU]; exact vx_Zq.moved hW.alike ((hN0.kept (fun a h1 h2 => hS.2.1 a h1 h2)).narrow hFc)), (by rw [hU]; exact vx_Zq.moved hW.alike ((hN1.kept (fun a h1 h2 => hS.2.1 a h1 h2)).narrow hFc))⟩⟩ rfl rfl hl.1 rfl (lv_room (Nat.le_of_ble_eq_true rfl)) dX12_init_5 ⟨(Nat.le_of_ble_eq_true rfl), (Nat.le_of_ble_eq_true rfl)⟩) hS (fun q _ h => hFc q h) hFc (fun u t H1 locs ht hvm hw hB hz1 hk1 hS => ?_)
  obtain ⟨hP1, hK1, hD1⟩ := hB
  rw [ht] at hP1
  have hK1 := va_K.moved hvm.symm hK1
  obtain ⟨hP, hD⟩ := va_join (wr := []) (w1 := [(h0, .inr (14, [.null, .null, .null, .null, .null, .int 0]))]) hP hD [0] [] rfl rfl (by decide) (by decide) hk1 hFc hP1 hD1
  have hK := (hK.sub (tys' := []) [] rfl).app hK1
  generalize H1 = H at hP hS ⊢
  have hK : va_K (dC, dI) vwCl [] s := hK
  have hP : va_P (dC, dI) vwCl [(h0, .inr (14, [.null, .null, .null, .null, .null, .int 0]))] H := hP
  have hD : va_D A [(h0, .inr (14, [.null, .null, .null, .null, .null, .int 0]))] := hD
  refine W.widen (k := 0) (n := 0) (Nat.le_of_ble_eq_true rfl) (Nat.le_of_ble_eq_true rfl) ?_
  have hP9 := hP.sub (ws' := [(h0, .inr (14, [.null, .null, .null, .null, .null, .int 0]))]) [0] rfl
  have hD9 := hD.sub (ws' := [(h0, .inr (14, [.null, .null, .null, .null, .null, .int 0]))]) [0] (by decide) rfl
  have hK9 := hK.sub (tys' := []) [] rfl
  refine W.widen (k := 0) (n := 0) (Nat.le_of_ble_eq_true rfl) (Nat.le_of_ble_eq_true rfl) ?_
  exact W.vret hx hb hr (fun t ht hW => ⟨⟨(), rfl, trivial, by rw [ht]; exact hP9, va_K.moved hW.alike hK9, hD9⟩, hS.F ht⟩) hS.2.2 dX12_init_8
