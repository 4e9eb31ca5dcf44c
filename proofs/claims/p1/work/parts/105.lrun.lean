def ws_cl_begin : List Cond := .codeWith yL_begin cL_begin 3 (some .int) [(0, 5, 8, 13)] :: ([.fieldLink RX11 35 "LevelUnits" "program" "LLevelUnits$Types;", .classLink RX11 167 "java/lang/IllegalStateException", .initialized "java/lang/IllegalStateException", .code yX11_begin cX11_begin 2 none, .methodLink RL 7 yX11_begin, .instanceMethod yX11_begin, .selects RX11 yX11_begin yX11_begin, .initialized RX11, .classLink RL 13 "java/lang/IllegalStateException"] ++ wsX110 ++ (vx_atS RX11 171 "java/lang/IllegalStateException" ["java/lang/RuntimeException", "java/lang/Exception"]).filter goodWord)
theorem in_cl_begin_RX11 : ∀ w ∈ wsX110, w ∈ ws_cl_begin := fun _ h => List.mem_cons_of_mem _ (List.mem_append_left _ (List.mem_append_right _ h))
theorem in_cl_begin_T171 : ∀ w ∈ (vx_atS RX11 171 "java/lang/IllegalStateException" ["java/lang/RuntimeException", "java/lang/Exception"]).filter goodWord, w ∈ ws_cl_begin := fun _ h => List.mem_cons_of_mem _ (List.mem_append_right _ h)
theorem g0_cl_begin_cc_begin_7 : GoodIn ws_cl_begin ws_cc_begin := goodIn_r _ [4, 1, 2, 3, 10, 11, 12, 13, 14, 15, 16, 17, 18, 19, 20, 21, 22, 23, 24, 25, 26, 27, 28, 29, 30, 31, 32, 33, 34, 35, 36, 37, 38, 39, 40, 41, 42, 43, 44, 45, 46, 47, 48, 49, 50, 51, 52, 53, 54, 55, 56, 57, 58, 59, 60, 61, 62, 63] (by decide +kernel) (by decide +kernel)
theorem gg_cl_begin_cc_begin_7 : GoodIn ws_cl_begin (wsV RL 7 RX11 yX11_begin ws_cc_begin) := goodIn_app (goodIn_of _ (by decide +kernel)) g0_cl_begin_cc_begin_7
set_option maxHeartbeats 4000000 in
set_option maxRecDepth 100000 in
theorem cl_begin (l : Launch) (dC : Nat → ClassId) (dI : Nat → Nat → Nat) (h0 : Nat) (qt : Nat) (qs : Nat) (qm : Nat) (sa169 : Nat) (i : Int32) (sz : Nat) (hflags : l.stackTraces = false) : Met l yL_begin ws_cl_begin ({ frames := 7, cells := 1, slots := 6, locals := 111 }) (va_Pc [.ref h0, .int i] (fun U => U.heap.size = sz ∧ va_P (dC, dI) vwCl [(h0, .inr (13, [.ref qt, .int 0, .ref qs, .ref qm, .null]))] U.heap ∧ va_K (dC, dI) vwCl [] U ∧ va_D (fun _ => True) [(h0, .inr (13, [.ref qt, .int 0, .ref qs, .ref qm, .null]))] ∧ vk_R RX11 169 kx169 sa169 U ∧ va_Nw (.castable "java/lang/IllegalStateException" "java/lang/IllegalStateException") U ∧ va_Nw (.declares (Bundle.initS "java/lang/Throwable")) U ∧ va_Nw (.declares (Bundle.initS "java/lang/Exception")) U ∧ va_Nw (.declares (Bundle.initS "java/lang/RuntimeException")) U ∧ vx_Zq "java/lang/Throwable" "UNASSIGNED_STACK" "[Ljava/lang/StackTraceElement;" (va_A [(h0, .inr (13, [.ref qt, .int 0, .ref qs, .ref qm, .null]))] sz) U U.heap ∧ vx_Zq "java/lang/Throwable" "SUPPRESSED_SENTINEL" "Ljava/util/List;" (va_A [(h0, .inr (13, [.ref qt, .int 0, .ref qs, .ref qm, .null]))] sz) U U.heap)) (va_Qi (fun (r : Int32) (_ : Unit) => r = 1) (fun _ t => va_P (dC, dI) vwCl [] t.heap ∧ va_K (dC, dI) vwCl [] t ∧ va_D (va_A [(h0, .inr (13, [.ref qt, .int 0, .ref qs, .ref qm, .null]))] sz) []) (va_A [(h0, .inr (13, [.ref qt, .int 0, .ref qs, .ref qm, .null]))] sz)) 1 6 (va_A [(h0, .inr (13, [.ref qt, .int 0, .ref qs, .ref qm, .null]))] sz) := by
  refine va_MetW (cc := cL_begin) (maxL := 3) (ret := (some .int)) (by decide) rfl ?_
  intro p e s m args below meth c s₁ B hml hv
  obtain ⟨rfl, hsz, hP, hK, hD0, hN0, hN1, hN2, hN3, hN4, hN5, hN6⟩ := hv
  have hx := B.exec
  have hb := B.bytes
  have hr := B.returns
  have hts := atoms_spec (ws := ws_cl_begin) B.pre
  have hown : s.vm.findClass RL = some m.cls := findClass_of_methodNamed B.named
  have hlocks := B.notSynchronized
  subst hsz
  have hD := hD0.self (sz := s.heap.size)
  generalize hAe : va_A [(h0, .inr (13, [.ref qt, .int 0, .ref qs, .ref qm, .null]))] s.heap.size = A at hD hN5 hN6 ⊢
  have hA : ∀ q : Nat, s.heap.size ≤ q → A q := fun q h => by rw [← hAe]; exact Or.inr h
  have hS : va_S A s.heap s.heap [] := va_S.rf
  have hP : va_P (dC, dI) vwCl [(h0, .inr (13, [.ref qt, .int 0, .ref qs, .ref qm, .null]))] s.heap := hP
  have hl := lv_entry ([.ref h0, .int i]) (n := 3) (Nat.le_of_ble_eq_true rfl)
  rw [lg_entry_eq]
  generalize (lg_sl ([.ref h0, .int i]) ++ List.replicate (3 - (lg_sl ([.ref h0, .int i])).length) Slot.unset).toArray = ls at hl ⊢
  have hl : lv_has ls 3 [(0, .ref h0), (1, .int i)] := hl
  refine lv_aload_n hx hb dL_begin_0 rfl (lv_at hl 0 rfl) ?_
  refine lv_iload_n hx hb dL_begin_1 rfl (lv_at hl 1 rfl) ?_
  have hPc := hP.sub (ws' := [(h0, .inr (13, [.ref qt, .int 0, .ref qs, .ref qm, .null]))]) [0] rfl
  have hDc := hD.sub (ws' := [(h0, .inr (13, [.ref qt, .int 0, .ref qs, .ref qm, .null]))]) [0] (by decide) rfl
  have hKc := hK.sub (tys' := []) [] rfl
  have hFc := va_free (wc := [(h0, .inr (13, [.ref qt, .int 0, .ref qs, .ref qm, .null]))]) hD hS hA [0] rfl
  refine vx_callv (vx_runV (As := [.int i]) (rest := []) ⟨hx, hb, hml, hown, hts⟩ (cc_begin l dC dI h0 qt qs qm sa169 i s.heap.size hflags) (cwV 1 hts gg_cl_begin_cc_begin_7 rfl rfl rfl (by decide +kernel) ⟨(Nat.le_of_ble_eq_true rfl), (Nat.le_of_ble_eq_true rfl)⟩) ⟨fun a U g mk q => by obtain ⟨q0, q1, qP, qK, qD, qN0, qN1, qN2, qN3, qN4, qN5, qN6⟩ := q; exact ⟨q0, q1, qP, va_K.moved (u := U) (U := U.calling g mk a) (Vm.Alike.refl U.vm) qK, qD, vk_R.same (u := U) (U := U.calling g mk a) rfl qN0, va_Nw.same (u := U) rfl rfl qN1, va_Nw.same (u := U) rfl rfl qN2, va_Nw.same (u := U) rfl rfl qN3, va_Nw.same (u := U) rfl rfl qN4, vx_Zq.moved (u := U) (U := U.calling g mk a) (Vm.Alike.refl U.vm) qN5, vx_Zq.moved (u := U) (U := U.calling g mk a) (Vm.Alike.refl U.vm) qN6⟩, va_recv hKc hPc (ci := 13) (q0 := 0) rfl rfl, fun U hU hW => ⟨rfl, by rw [hU], by rw [hU]; exact hPc, va_K.moved hW.alike hKc, hDc.weaken (fun _ _ _ _ => trivial), vk_R.warm hW hN0, va_Nw.warmC hW hN1, va_Nw.warmD hW hN2, va_Nw.warmD hW hN3, va_Nw.warmD hW hN4, (by rw [hU]; exact vx_Zq.moved hW.alike ((hN5.kept (fun a h1 h2 => hS.2.1 a h1 h2)).narrow hFc)), (by rw [hU]; exact vx_Zq.moved hW.alike ((hN6.kept (fun a h1 h2 => hS.2.1 a h1 h2)).narrow hFc))⟩⟩ rfl rfl hl.1 rfl (lv_room (Nat.le_of_ble_eq_true rfl)) dL_begin_2 ⟨(Nat.le_of_ble_eq_true rfl), (Nat.le_of_ble_eq_true rfl)⟩) hS (fun q _ h => hFc q h) hFc (fun q _ h => hFc q h) (fun E9 ce9 q9 u t H1 locs ht hvm hw hB hz1 hk1 hS hce9 hvm9 hcl9 => ?_) (fun u t H1 locs ht hvm hw hB hz1 hk1 hS => hw.elim)
  obtain ⟨rfl, hP1, hK1, hD1⟩ := hB
  rw [ht] at hP1
  have hK1 := va_K.moved hvm.symm hK1
  obtain ⟨hP, hD⟩ := va_join (wr := []) (w1 := []) hP hD [0] [] rfl rfl (by decide) (by decide) hk1 hFc hP1 hD1
  have hK := (hK.sub (tys' := []) [] rfl).app hK1
  generalize H1 = H at hP hS hce9 ⊢
  have hK : va_K (dC, dI) vwCl [] s := hK
  have hP : va_P (dC, dI) vwCl [] H := hP
  have hD : va_D A [] := hD
  refine vx_widen (k := 1) (n := 6) (Nat.le_of_ble_eq_true rfl) (Nat.le_of_ble_eq_true rfl) ?_
  have htb9 := vx_table (x := yL_begin) B (hts (.codeWith yL_begin cL_begin 3 (some .int) [(0, 5, 8, 13)]) (List.mem_of_getElem? (i := 0) rfl))
  refine vx_catch (own := RL) (name := "java/lang/IllegalStateException") (E := "java/lang/IllegalStateException") hown [] (⟨0, 5, 8, 13⟩ : ExceptionTableEntry) [] (by rw [htb9]; rfl) (fun z9 h9 => nomatch h9) (by decide) (by decide) (hts (.classLink RL 13 "java/lang/IllegalStateException") (List.mem_of_getElem? (i := 9) rfl)) (va_Nw.use rfl hN1) hce9 hvm9 hcl9 ?_
  refine lv_astore_n (lv' := [(2, .ref q9), (0, .ref h0), (1, .int i)]) hx hb dL_begin_8 rfl hl (by decide) rfl (fun ls hl => ?_)
  refine lv_iconst (v := 1) hx hb dL_begin_9 (by decide) ?_
  have hP9 := hP.sub (ws' := []) [] rfl
  have hD9 := hD.sub (ws' := []) [] (by decide) rfl
  have hK9 := hK.sub (tys' := []) [] rfl
  refine W.widen (k := 1) (n := 6) (Nat.le_of_ble_eq_true rfl) (Nat.le_of_ble_eq_true rfl) ?_
  exact W.iret (v := 1) hx hb hr (fun t ht hW => ⟨⟨1, (), rfl, rfl, by rw [ht]; exact hP9, va_K.moved hW.alike hK9, hD9⟩, hS.F ht⟩) hS.2.2 dL_begin_10
def ws_cl_run_bad : List Cond := .codeWith yL_run cL_run 4 (some .int) [(0, 9, 12, 19), (0, 9, 15, 13)] :: ([.classLink RX11 178 "java/lang/IllegalArgumentException", .initialized "java/lang/IllegalArgumentException", .code yX11_run cX11_run 3 (some .int), .methodLink RL 15 yX11_run, .instanceMethod yX11_run, .selects RX11 yX11_run yX11_run, .initialized RX11, .classLink RL 19 "java/lang/IllegalArgumentException"] ++ (vx_atS RX11 182 "java/lang/IllegalArgumentException" ["java/lang/RuntimeException", "java/lang/Exception"]).filter goodWord)
theorem in_cl_run_bad_T182 : ∀ w ∈ (vx_atS RX11 182 "java/lang/IllegalArgumentException" ["java/lang/RuntimeException", "java/lang/Exception"]).filter goodWord, w ∈ ws_cl_run_bad := fun _ h => List.mem_cons_of_mem _ (List.mem_append_right _ h)
theorem g0_cl_run_bad_cc_run_bad_15 : GoodIn ws_cl_run_bad ws_cc_run_bad := goodIn_r _ [3, 1, 2, 9, 10, 11, 12, 13, 14, 15, 16, 17, 18, 19, 20, 21, 22, 23, 24, 25, 26, 27, 28, 29, 30, 31, 32, 33, 34, 35, 36, 37, 38, 39, 40, 41, 42, 43, 44, 45, 46, 47, 48, 49, 50, 51, 52, 53, 54, 55, 56, 57] (by decide +kernel) (by decide +kernel)
theorem gg_cl_run_bad_cc_run_bad_15 : GoodIn ws_cl_run_bad (wsV RL 15 RX11 yX11_run ws_cc_run_bad) := goodIn_app (goodIn_of _ (by decide +kernel)) g0_cl_run_bad_cc_run_bad_15
set_option maxHeartbeats 4000000 in
set_option maxRecDepth 100000 in
theorem cl_run_bad (l : Launch) (dC : Nat → ClassId) (dI : Nat → Nat → Nat) (h0 : Nat) (qt : Nat) (qs : Nat) (qm : Nat) (sa180 : Nat) (i : Int32) (qo : Nat) (sz : Nat) (hbad : i < 0 ∨ ¬ i ≤ 2000) (hflags : l.stackTraces = false) : Met l yL_run ws_cl_run_bad ({ frames := 7, cells := 1, slots := 6, locals := 112 }) (va_Pc [.ref h0, .int i, .ref qo] (fun U => U.heap.size = sz ∧ va_P (dC, dI) vwCl [(h0, .inr (13, [.ref qt, .int 0, .ref qs, .ref qm, .null]))] U.heap ∧ va_K (dC, dI) vwCl [] U ∧ va_D (fun _ => True) [(h0, .inr (13, [.ref qt, .int 0, .ref qs, .ref qm, .null]))] ∧ vk_R RX11 180 kx180 sa180 U ∧ va_Nw (.castable "java/lang/IllegalArgumentException" "java/lang/IllegalArgumentException") U ∧ va_Nw (.declares (Bundle.initS "java/lang/Throwable")) U ∧ va_Nw (.declares (Bundle.initS "java/lang/Exception")) U ∧ va_Nw (.declares (Bundle.initS "java/lang/RuntimeException")) U ∧ vx_Zq "java/lang/Throwable" "UNASSIGNED_STACK" "[Ljava/lang/StackTraceElement;" (va_A [(h0, .inr (13, [.ref qt, .int 0, .ref qs, .ref qm, .null]))] sz) U U.heap ∧ vx_Zq "java/lang/Throwable" "SUPPRESSED_SENTINEL" "Ljava/util/List;" (va_A [(h0, .inr (13, [.ref qt, .int 0, .ref qs, .ref qm, .null]))] sz) U U.heap)) (va_Qi (fun (r : Int32) (_ : Unit) => r = 1) (fun _ t => va_P (dC, dI) vwCl [] t.heap ∧ va_K (dC, dI) vwCl [] t ∧ va_D (va_A [(h0, .inr (13, [.ref qt, .int 0, .ref qs, .ref qm, .null]))] sz) []) (va_A [(h0, .inr (13, [.ref qt, .int 0, .ref qs, .ref qm, .null]))] sz)) 1 6 (va_A [(h0, .inr (13, [.ref qt, .int 0, .ref qs, .ref qm, .null]))] sz) := by
  refine va_MetW (cc := cL_run) (maxL := 4) (ret := (some .int)) (by decide) rfl ?_
  intro p e s m args below meth c s₁ B hml hv
  obtain ⟨rfl, hsz, hP, hK, hD0, hN0, hN1, hN2, hN3, hN4, hN5, hN6⟩ := hv
  have hx := B.exec
  have hb := B.bytes
  have hr := B.returns
  have hts := atoms_spec (ws := ws_cl_run_bad) B.pre
  have hown : s.vm.findClass RL = some m.cls := findClass_of_methodNamed B.named
  have hlocks := B.notSynchronized
  subst hsz
  have hD := hD0.self (sz := s.heap.size)
  generalize hAe : va_A [(h0, .inr (13, [.ref qt, .int 0, .ref qs, .ref qm, .null]))] s.heap.size = A at hD hN5 hN6 ⊢
  have hA : ∀ q : Nat, s.heap.size ≤ q → A q := fun q h => by rw [← hAe]; exact Or.inr h
  have hS : va_S A s.heap s.heap [] := va_S.rf
  have hP : va_P (dC, dI) vwCl [(h0, .inr (13, [.ref qt, .int 0, .ref qs, .ref qm, .null]))] s.heap := hP
  have hl := lv_entry ([.ref h0, .int i, .ref qo]) (n := 4) (Nat.le_of_ble_eq_true rfl)
  rw [lg_entry_eq]
  generalize (lg_sl ([.ref h0, .int i, .ref qo]) ++ List.replicate (4 - (lg_sl ([.ref h0, .int i, .ref qo])).length) Slot.unset).toArray = ls at hl ⊢
  have hl : lv_has ls 4 [(0, .ref h0), (1, .int i), (2, .ref qo)] := hl
  refine lv_aload_n hx hb dL_run_0 rfl (lv_at hl 2 rfl) ?_
  refine lv_iconst (v := 0) hx hb dL_run_1 (by decide) ?_
  refine lv_aload_n hx hb dL_run_2 rfl (lv_at hl 0 rfl) ?_
  refine lv_iload_n hx hb dL_run_3 rfl (lv_at hl 1 rfl) ?_
  have hPc := hP.sub (ws' := [(h0, .inr (13, [.ref qt, .int 0, .ref qs, .ref qm, .null]))]) [0] rfl
  have hDc := hD.sub (ws' := [(h0, .inr (13, [.ref qt, .int 0, .ref qs, .ref qm, .null]))]) [0] (by decide) rfl
  have hKc := hK.sub (tys' := []) [] rfl
  have hFc := va_free (wc := [(h0, .inr (13, [.ref qt, .int 0, .ref qs, .ref qm, .null]))]) hD hS hA [0] rfl
  refine vx_calli (vx_runV (As := [.int i]) (rest := [.int 0, .ref qo]) ⟨hx, hb, hml, hown, hts⟩ (cc_run_bad l dC dI h0 qt qs qm sa180 i s.heap.size hbad hflags) (cwV 1 hts gg_cl_run_bad_cc_run_bad_15 rfl rfl rfl (by decide +kernel) ⟨(Nat.le_of_ble_eq_true rfl), (Nat.le_of_ble_eq_true rfl)⟩) ⟨fun a U g mk q => by obtain ⟨q0, q1, qP, qK, qD, qN0, qN1, qN2, qN3, qN4, qN5, qN6⟩ := q; exact ⟨q0, q1, qP, va_K.moved (u := U) (U := U.calling g mk a) (Vm.Alike.refl U.vm) qK, qD, vk_R.same (u := U) (U := U.calling g mk a) rfl qN0, va_Nw.same (u := U) rfl rfl qN1, va_Nw.same (u := U) rfl rfl qN2, va_Nw.same (u := U) rfl rfl qN3, va_Nw.same (u := U) rfl rfl qN4, vx_Zq.moved (u := U) (U := U.calling g mk a) (Vm.Alike.refl U.vm) qN5, vx_Zq.moved (u := U) (U := U.calling g mk a) (Vm.Alike.refl U.vm) qN6⟩, va_recv hKc hPc (ci := 13) (q0 := 0) rfl rfl, fun U hU hW => ⟨rfl, by rw [hU], by rw [hU]; exact hPc, va_K.moved hW.alike hKc, hDc.weaken (fun _ _ _ _ => trivial), vk_R.warm hW hN0, va_Nw.warmC hW hN1, va_Nw.warmD hW hN2, va_Nw.warmD hW hN3, va_Nw.warmD hW hN4, (by rw [hU]; exact vx_Zq.moved hW.alike ((hN5.kept (fun a h1 h2 => hS.2.1 a h1 h2)).narrow hFc)), (by rw [hU]; exact vx_Zq.moved hW.alike ((hN6.kept (fun a h1 h2 => hS.2.1 a h1 h2)).narrow hFc))⟩⟩ rfl rfl hl.1 rfl (lv_room (Nat.le_of_ble_eq_true rfl)) dL_run_4 ⟨(Nat.le_of_ble_eq_true rfl), (Nat.le_of_ble_eq_true rfl)⟩) hS (fun q _ h => hFc q h) hFc (fun q _ h => hFc q h) (fun E9 ce9 q9 u t H1 locs ht hvm hw hB hz1 hk1 hS hce9 hvm9 hcl9 => ?_) (fun r9 u t H1 locs ht hvm hw hB hz1 hk1 hS => hw.elim)
  obtain ⟨rfl, hP1, hK1, hD1⟩ := hB
  rw [ht] at hP1
  have hK1 := va_K.moved hvm.symm hK1
  obtain ⟨hP, hD⟩ := va_join (wr := []) (w1 := []) hP hD [0] [] rfl rfl (by decide) (by decide) hk1 hFc hP1 hD1
  have hK := (hK.sub (tys' := []) [] rfl).app hK1
  generalize H1 = H at hP hS hce9 ⊢
  have hK : va_K (dC, dI) vwCl [] s := hK
  have hP : va_P (dC, dI) vwCl [] H := hP
  have hD : va_D A [] := hD
  refine vx_widen (k := 1) (n := 6) (Nat.le_of_ble_eq_true rfl) (Nat.le_of_ble_eq_true rfl) ?_
  have htb9 := vx_table (x := yL_run) B (hts (.codeWith yL_run cL_run 4 (some .int) [(0, 9, 12, 19), (0, 9, 15, 13)]) (List.mem_of_getElem? (i := 0) rfl))
  refine vx_catch (own := RL) (name := "java/lang/IllegalArgumentException") (E := "java/lang/IllegalArgumentException") hown [] (⟨0, 9, 12, 19⟩ : ExceptionTableEntry) [(⟨0, 9, 15, 13⟩ : ExceptionTableEntry)] (by rw [htb9]; rfl) (fun z9 h9 => nomatch h9) (by decide) (by decide) (hts (.classLink RL 19 "java/lang/IllegalArgumentException") (List.mem_of_getElem? (i := 8) rfl)) (va_Nw.use rfl hN1) hce9 hvm9 hcl9 ?_
  refine lv_astore_n (lv' := [(3, .ref q9), (0, .ref h0), (1, .int i), (2, .ref qo)]) hx hb dL_run_12 rfl hl (by decide) rfl (fun ls hl => ?_)
  refine lv_iconst (v := 1) hx hb dL_run_13 (by decide) ?_
  have hP9 := hP.sub (ws' := []) [] rfl
  have hD9 := hD.sub (ws' := []) [] (by decide) rfl
  have hK9 := hK.sub (tys' := []) [] rfl
  refine W.widen (k := 1) (n := 6) (Nat.le_of_ble_eq_true rfl) (Nat.le_of_ble_eq_true rfl) ?_
  exact W.iret (v := 1) hx hb hr (fun t ht hW => ⟨⟨1, (), rfl, rfl, by rw [ht]; exact hP9, va_K.moved hW.alike hK9, hD9⟩, hS.F ht⟩) hS.2.2 dL_run_14
def ws_cl_run_none : List Cond := .codeWith yL_run cL_run 4 (some .int) [(0, 9, 12, 19), (0, 9, 15, 13)] :: ([.fieldLink RX11 23 "LevelUnits" "machine" "LLevelUnits$Machine;", .fieldLink RX2 49 "LevelUnits$Machine" "made" "I", .code yX2_begun cX2_begun 1 (some .boolean), .methodLink RX11 183 yX2_begun, .instanceMethod yX2_begun, .selects RX2 yX2_begun yX2_begun, .initialized RX2, .classLink RX11 167 "java/lang/IllegalStateException", .initialized "java/lang/IllegalStateException", .code yX11_run cX11_run 3 (some .int), .methodLink RL 15 yX11_run, .instanceMethod yX11_run, .selects RX11 yX11_run yX11_run, .initialized RX11, .classLink RL 19 "java/lang/IllegalArgumentException", .classLink RL 13 "java/lang/IllegalStateException"] ++ wsX110 ++ wsX20 ++ (vx_atS RX11 171 "java/lang/IllegalStateException" ["java/lang/RuntimeException", "java/lang/Exception"]).filter goodWord)
theorem in_cl_run_none_RX11 : ∀ w ∈ wsX110, w ∈ ws_cl_run_none := fun _ h => List.mem_cons_of_mem _ (List.mem_append_left _ (List.mem_append_left _ (List.mem_append_right _ h)))
theorem in_cl_run_none_RX2 : ∀ w ∈ wsX20, w ∈ ws_cl_run_none := fun _ h => List.mem_cons_of_mem _ (List.mem_append_left _ (List.mem_append_right _ h))
theorem in_cl_run_none_T171 : ∀ w ∈ (vx_atS RX11 171 "java/lang/IllegalStateException" ["java/lang/RuntimeException", "java/lang/Exception"]).filter goodWord, w ∈ ws_cl_run_none := fun _ h => List.mem_cons_of_mem _ (List.mem_append_right _ h)
theorem g0_cl_run_none_cc_run_none_15 : GoodIn ws_cl_run_none ws_cc_run_none := goodIn_r _ [10, 1, 2, 3, 4, 5, 6, 7, 8, 9, 17, 18, 19, 20, 21, 22, 23, 24, 25, 26, 27, 28, 29, 30, 31, 32, 33, 34, 35, 36, 37, 38, 39, 40, 41, 42, 43, 44, 45, 46, 47, 48, 49, 50, 51, 52, 53, 54, 55, 56, 57, 58, 59, 60, 61, 62, 63, 64, 65, 66, 67, 68, 69, 70, 71, 72, 73, 74, 75, 76, 77, 78, 79, 80, 81, 82, 83, 84, 85, 86, 87, 88, 89] (by decide +kernel) (by decide +kernel)
theorem gg_cl_run_none_cc_run_none_15 : GoodIn ws_cl_run_none (wsV RL 15 RX11 yX11_run ws_cc_run_none) := goodIn_app (goodIn_of _ (by decide +kernel)) g0_cl_run_none_cc_run_none_15
set_option maxHeartbeats 4000000 in
set_option maxRecDepth 100000 in
theorem cl_run_none (l : Launch) (dC : Nat → ClassId) (dI : Nat → Nat → Nat) (h0 : Nat) (qt : Nat) (qs : Nat) (qm : Nat) (m1 : Nat) (m2 : Nat) (m3 : Nat) (m4 : Nat) (m5 : Nat) (m7 : Nat) (m11 : Nat) (m13 : Nat) (m15 : Nat) (sa187 : Nat) (i : Int32) (qo : Nat) (sz : Nat) (hlo : ¬ i < 0) (hhi : i ≤ 2000) (hflags : l.stackTraces = false) : Met l yL_run ws_cl_run_none ({ frames := 7, cells := 1, slots := 6, locals := 112 }) (va_Pc [.ref h0, .int i, .ref qo] (fun U => U.heap.size = sz ∧ va_P (dC, dI) vwCl [(h0, .inr (13, [.ref qt, .int 0, .ref qs, .ref qm, .null])), (qm, .inr (4, [.null, .ref m1, .ref m2, .ref m3, .ref m4, .ref m5, .int 0, .ref m7, .int 0, .int 0, .int 0, .ref m11, .int 0, .ref m13, .int 0, .ref m15, .null, .int 0, .int 0]))] U.heap ∧ va_K (dC, dI) vwCl [] U ∧ va_D (fun _ => True) [(h0, .inr (13, [.ref qt, .int 0, .ref qs, .ref qm, .null])), (qm, .inr (4, [.null, .ref m1, .ref m2, .ref m3, .ref m4, .ref m5, .int 0, .ref m7, .int 0, .int 0, .int 0, .ref m11, .int 0, .ref m13, .int 0, .ref m15, .null, .int 0, .int 0]))] ∧ vk_R RX11 187 kx187 sa187 U ∧ va_Nw (.castable "java/lang/IllegalStateException" "java/lang/IllegalStateException") U ∧ va_Nw (.declares (Bundle.initS "java/lang/Throwable")) U ∧ va_Nw (.declares (Bundle.initS "java/lang/Exception")) U ∧ va_Nw (.declares (Bundle.initS "java/lang/RuntimeException")) U ∧ vx_Zq "java/lang/Throwable" "UNASSIGNED_STACK" "[Ljava/lang/StackTraceElement;" (va_A [(h0, .inr (13, [.ref qt, .int 0, .ref qs, .ref qm, .null])), (qm, .inr (4, [.null, .ref m1, .ref m2, .ref m3, .ref m4, .ref m5, .int 0, .ref m7, .int 0, .int 0, .int 0, .ref m11, .int 0, .ref m13, .int 0, .ref m15, .null, .int 0, .int 0]))] sz) U U.heap ∧ vx_Zq "java/lang/Throwable" "SUPPRESSED_SENTINEL" "Ljava/util/List;" (va_A [(h0, .inr (13, [.ref qt, .int 0, .ref qs, .ref qm, .null])), (qm, .inr (4, [.null, .ref m1, .ref m2, .ref m3, .ref m4, .ref m5, .int 0, .ref m7, .int 0, .int 0, .int 0, .ref m11, .int 0, .ref m13, .int 0, .ref m15, .null, .int 0, .int 0]))] sz) U U.heap ∧ va_Nc "java/lang/IllegalStateException" "java/lang/IllegalArgumentException" U)) (va_Qi (fun (r : Int32) (_ : Unit) => r = 2) (fun _ t => va_P (dC, dI) vwCl [] t.heap ∧ va_K (dC, dI) vwCl [] t ∧ va_D (va_A [(h0, .inr (13, [.ref qt, .int 0, .ref qs, .ref qm, .null])), (qm, .inr (4, [.null, .ref m1, .ref m2, .ref m3, .ref m4, .ref m5, .int 0, .ref m7, .int 0, .int 0, .int 0, .ref m11, .int 0, .ref m13, .int 0, .ref m15, .null, .int 0, .int 0]))] sz) []) (va_A [(h0, .inr (13, [.ref qt, .int 0, .ref qs, .ref qm, .null])), (qm, .inr (4, [.null, .ref m1, .ref m2, .ref m3, .ref m4, .ref m5, .int 0, .ref m7, .int 0, .int 0, .int 0, .ref m11, .int 0, .ref m13, .int 0, .ref m15, .null, .int 0, .int 0]))] sz)) 1 6 (va_A [(h0, .inr (13, [.ref qt, .int 0, .ref qs, .ref qm, .null])), (qm, .inr (4, [.null, .ref m1, .ref m2, .ref m3, .ref m4, .ref m5, .int 0, .ref m7, .int 0, .int 0, .int 0, .ref m11, .int 0, .ref m13, .int 0, .ref m15, .null, .int 0, .int 0]))] sz) := by
  refine va_MetW (cc := cL_run) (maxL := 4) (ret := (some .int)) (by decide) rfl ?_
  intro p e s m args below meth c s₁ B hml hv
  obtain ⟨rfl, hsz, hP, hK, hD0, hN0, hN1, hN2, hN3, hN4, hN5, hN6, hN7⟩ := hv
  have hx := B.exec
  have hb := B.bytes
  have hr := B.returns
  have hts := atoms_spec (ws := ws_cl_run_none) B.pre
  have hown : s.vm.findClass RL = some m.cls := findClass_of_methodNamed B.named
  have hlocks := B.notSynchronized
  subst hsz
  have hD := hD0.self (sz := s.heap.size)
  generalize hAe : va_A [(h0, .inr (13, [.ref qt, .int 0, .ref qs, .ref qm, .null])), (qm, .inr (4, [.null, .ref m1, .ref m2, .ref m3, .ref m4, .ref m5, .int 0, .ref m7, .int 0, .int 0, .int 0, .ref m11, .int 0, .ref m13, .int 0, .ref m15, .null, .int 0, .int 0]))] s.heap.size = A at hD hN5 hN6 ⊢
  have hA : ∀ q : Nat, s.heap.size ≤ q → A q := fun q h => by rw [← hAe]; exact Or.inr h
  have hS : va_S A s.heap s.heap [] := va_S.rf
  have hP : va_P (dC, dI) vwCl [(h0, .inr (13, [.ref qt, .int 0, .ref qs, .ref qm, .null])), (qm, .inr (4, [.null, .ref m1, .ref m2, .ref m3, .ref m4, .ref m5, .int 0, .ref m7, .int 0, .int 0, .int 0, .ref m11, .int 0, .ref m13, .int 0, .ref m15, .null, .int 0, .int 0]))] s.heap := hP
  have hl := lv_entry ([.ref h0, .int i, .ref qo]) (n := 4) (Nat.le_of_ble_eq_true rfl)
  rw [lg_entry_eq]
  generalize (lg_sl ([.ref h0, .int i, .ref qo]) ++ List.replicate (4 - (lg_sl ([.ref h0, .int i, .ref qo])).length) Slot.unset).toArray = ls at hl ⊢
  have hl : lv_has ls 4 [(0, .ref h0), (1, .int i), (2, .ref qo)] := hl
  refine lv_aload_n hx hb dL_run_0 rfl (lv_at hl 2 rfl) ?_
  refine lv_iconst (v := 0) hx hb dL_run_1 (by decide) ?_
  refine lv_aload_n hx hb dL_run_2 rfl (lv_at hl 0 rfl) ?_
  refine lv_iload_n hx hb dL_run_3 rfl (lv_at hl 1 rfl) ?_
  have hPc := hP.sub (ws' := [(h0, .inr (13, [.ref qt, .int 0, .ref qs, .ref qm, .null])), (qm, .inr (4, [.null, .ref m1, .ref m2, .ref m3, .ref m4, .ref m5, .int 0, .ref m7, .int 0, .int 0, .int 0, .ref m11, .int 0, .ref m13, .int 0, .ref m15, .null, .int 0, .int 0]))]) [0, 1] rfl
  have hDc := hD.sub (ws' := [(h0, .inr (13, [.ref qt, .int 0, .ref qs, .ref qm, .null])), (qm, .inr (4, [.null, .ref m1, .ref m2, .ref m3, .ref m4, .ref m5, .int 0, .ref m7, .int 0, .int 0, .int 0, .ref m11, .int 0, .ref m13, .int 0, .ref m15, .null, .int 0, .int 0]))]) [0, 1] (by decide) rfl
  have hKc := hK.sub (tys' := []) [] rfl
  have hFc := va_free (wc := [(h0, .inr (13, [.ref qt, .int 0, .ref qs, .ref qm, .null])), (qm, .inr (4, [.null, .ref m1, .ref m2, .ref m3, .ref m4, .ref m5, .int 0, .ref m7, .int 0, .int 0, .int 0, .ref m11, .int 0, .ref m13, .int 0, .ref m15, .null, .int 0, .int 0]))]) hD hS hA [0, 1] rfl
  refine vx_calli (vx_runV (As := [.int i]) (rest := [.int 0, .ref qo]) ⟨hx, hb, hml, hown, hts⟩ (cc_run_none l dC dI h0 qt qs qm m1 m2 m3 m4 m5 m7 m11 m13 m15 sa187 i s.heap.size hlo hhi hflags) (cwV 1 hts gg_cl_run_none_cc_run_none_15 rfl rfl rfl (by decide +kernel) ⟨(Nat.le_of_ble_eq_true rfl), (Nat.le_of_ble_eq_true rfl)⟩) ⟨fun a U g mk q => by obtain ⟨q0, q1, qP, qK, qD, qN0, qN1, qN2, qN3, qN4, qN5, qN6⟩ := q; exact ⟨q0, q1, qP, va_K.moved (u := U) (U := U.calling g mk a) (Vm.Alike.refl U.vm) qK, qD, vk_R.same (u := U) (U := U.calling g mk a) rfl qN0, va_Nw.same (u := U) rfl rfl qN1, va_Nw.same (u := U) rfl rfl qN2, va_Nw.same (u := U) rfl rfl qN3, va_Nw.same (u := U) rfl rfl qN4, vx_Zq.moved (u := U) (U := U.calling g mk a) (Vm.Alike.refl U.vm) qN5, vx_Zq.moved (u := U) (U := U.calling g mk a) (Vm.Alike.refl U.vm) qN6⟩, va_recv hKc hPc (ci := 13) (q0 := 0) rfl rfl, fun U hU hW => ⟨rfl, by rw [hU], by rw [hU]; exact hPc, va_K.moved hW.alike hKc, hDc.weaken (fun _ _ _ _ => trivial), vk_R.warm hW hN0, va_Nw.warmC hW hN1, va_Nw.warmD hW hN2, va_Nw.warmD hW hN3, va_Nw.warmD hW hN4, (by rw [hU]; exact vx_Zq.moved hW.alike ((hN5.kept (fun a h1 h2 => hS.2.1 a h1 h2)).narrow hFc)), (by rw [hU]; exact vx_Zq.moved hW.alike ((hN6.kept (fun a h1 h2 => hS.2.1 a h1 h2)).narrow hFc))⟩⟩ rfl rfl hl.1 rfl (lv_room (Nat.le_of_ble_eq_true rfl)) dL_run_4 ⟨(Nat.le_of_ble_eq_true rfl), (Nat.le_of_ble_eq_true rfl)⟩) hS (fun q _ h => hFc q h) hFc (fun q _ h => hFc q h) (fun E9 ce9 q9 u t H1 locs ht hvm hw hB hz1 hk1 hS hce9 hvm9 hcl9 => ?_) (fun r9 u t H1 locs ht hvm hw hB hz1 hk1 hS => hw.elim)
  obtain ⟨rfl, hP1, hK1, hD1⟩ := hB
  rw [ht] at hP1
  have hK1 := va_K.moved hvm.symm hK1
  obtain ⟨hP, hD⟩ := va_join (wr := []) (w1 := []) hP hD [0, 1] [] rfl rfl (by decide) (by decide) hk1 hFc hP1 hD1
  have hK := (hK.sub (tys' := []) [] rfl).app hK1
  generalize H1 = H at hP hS hce9 ⊢
  have hK : va_K (dC, dI) vwCl [] s := hK
  have hP : va_P (dC, dI) vwCl [] H := hP
  have hD : va_D A [] := hD
  refine vx_widen (k := 1) (n := 6) (Nat.le_of_ble_eq_true rfl) (Nat.le_of_ble_eq_true rfl) ?_
  have htb9 := vx_table (x := yL_run) B (hts (.codeWith yL_run cL_run 4 (some .int) [(0, 9, 12, 19), (0, 9, 15, 13)]) (List.mem_of_getElem? (i := 0) rfl))
  refine vx_catch (own := RL) (name := "java/lang/IllegalStateException") (E := "java/lang/IllegalStateException") hown [(⟨0, 9, 12, 19⟩ : ExceptionTableEntry)] (⟨0, 9, 15, 13⟩ : ExceptionTableEntry) [] (by rw [htb9]; rfl) (fun z9 h9 => by rcases List.mem_singleton.mp h9 with rfl; exact Or.inr ⟨by decide, "java/lang/IllegalArgumentException", (hts (.classLink RL 19 "java/lang/IllegalArgumentException") (List.mem_of_getElem? (i := 15) rfl)), hN7⟩) (by decide) (by decide) (hts (.classLink RL 13 "java/lang/IllegalStateException") (List.mem_of_getElem? (i := 16) rfl)) (va_Nw.use rfl hN1) hce9 hvm9 hcl9 ?_
  refine lv_astore_n (lv' := [(3, .ref q9), (0, .ref h0), (1, .int i), (2, .ref qo)]) hx hb dL_run_15 rfl hl (by decide) rfl (fun ls hl => ?_)
  refine lv_iconst (v := 2) hx hb dL_run_16 (by decide) ?_
  have hP9 := hP.sub (ws' := []) [] rfl
  have hD9 := hD.sub (ws' := []) [] (by decide) rfl
  have hK9 := hK.sub (tys' := []) [] rfl
  refine W.widen (k := 1) (n := 6) (Nat.le_of_ble_eq_true rfl) (Nat.le_of_ble_eq_true rfl) ?_
  exact W.iret (v := 2) hx hb hr (fun t ht hW => ⟨⟨2, (), rfl, rfl, by rw [ht]; exact hP9, va_K.moved hW.alike hK9, hD9⟩, hS.F ht⟩) hS.2.2 dL_run_17
