def ws_cc_begin : List Cond := .code yX11_begin cX11_begin 2 none :: ([.fieldLink RX11 35 "LevelUnits" "program" "LLevelUnits$Types;", .classLink RX11 167 "java/lang/IllegalStateException", .initialized "java/lang/IllegalStateException"] ++ wsX110 ++ (vx_atS RX11 171 "java/lang/IllegalStateException" ["java/lang/RuntimeException", "java/lang/Exception"]).filter goodWord)
theorem in_cc_begin_RX11 : ∀ w ∈ wsX110, w ∈ ws_cc_begin := fun _ h => List.mem_cons_of_mem _ (List.mem_append_left _ (List.mem_append_right _ h))
theorem in_cc_begin_T171 : ∀ w ∈ (vx_atS RX11 171 "java/lang/IllegalStateException" ["java/lang/RuntimeException", "java/lang/Exception"]).filter goodWord, w ∈ ws_cc_begin := fun _ h => List.mem_cons_of_mem _ (List.mem_append_right _ h)
set_option maxHeartbeats 4000000 in
set_option maxRecDepth 100000 in
theorem cc_begin (l : Launch) (dC : Nat → ClassId) (dI : Nat → Nat → Nat) (h0 : Nat) (qt : Nat) (qs : Nat) (qm : Nat) (sa : Nat) (i : Int32) (sz : Nat) (hflags : l.stackTraces = false) : vx_Met l yX11_begin ws_cc_begin ({ frames := 6, cells := 1, slots := 6, locals := 90 }) (va_Pc [.ref h0, .int i] (fun U => U.heap.size = sz ∧ va_P (dC, dI) vwCl [(h0, .inr (13, [.ref qt, .int 0, .ref qs, .ref qm, .null]))] U.heap ∧ va_K (dC, dI) vwCl [] U ∧ va_D (fun _ => True) [(h0, .inr (13, [.ref qt, .int 0, .ref qs, .ref qm, .null]))] ∧ vk_R RX11 169 kx169 sa U ∧ va_Nw (.castable "java/lang/IllegalStateException" "java/lang/IllegalStateException") U ∧ va_Nw (.declares (Bundle.initS "java/lang/Throwable")) U ∧ va_Nw (.declares (Bundle.initS "java/lang/Exception")) U ∧ va_Nw (.declares (Bundle.initS "java/lang/RuntimeException")) U ∧ vx_Zq "java/lang/Throwable" "UNASSIGNED_STACK" "[Ljava/lang/StackTraceElement;" (va_A [(h0, .inr (13, [.ref qt, .int 0, .ref qs, .ref qm, .null]))] sz) U U.heap ∧ vx_Zq "java/lang/Throwable" "SUPPRESSED_SENTINEL" "Ljava/util/List;" (va_A [(h0, .inr (13, [.ref qt, .int 0, .ref qs, .ref qm, .null]))] sz) U U.heap)) (va_Qv (fun _ : Unit => False) (fun _ _ => True) (va_A [(h0, .inr (13, [.ref qt, .int 0, .ref qs, .ref qm, .null]))] sz)) (vx_X (fun _ : Unit => True) (fun E _ t => E = "java/lang/IllegalStateException" ∧ va_P (dC, dI) vwCl [] t.heap ∧ va_K (dC, dI) vwCl [] t ∧ va_D (va_A [(h0, .inr (13, [.ref qt, .int 0, .ref qs, .ref qm, .null]))] sz) []) (va_A [(h0, .inr (13, [.ref qt, .int 0, .ref qs, .ref qm, .null]))] sz)) 1 6 (va_A [(h0, .inr (13, [.ref qt, .int 0, .ref qs, .ref qm, .null]))] sz) := by
  refine vx_ofW (cc := cX11_begin) (maxL := 2) (ret := none) (by decide) rfl ?_
  intro p e s m args below meth c s₁ B hml htab hv
  obtain ⟨rfl, hsz, hP, hK, hD0, hN0, hN1, hN2, hN3, hN4, hN5, hN6⟩ := hv
  have hx := B.exec
  have hb := B.bytes
  have hr := B.returns
  have hts := atoms_spec (ws := ws_cc_begin) B.pre
  have hown : s.vm.findClass RX11 = some m.cls := findClass_of_methodNamed B.named
  have hlocks := B.notSynchronized
  subst hsz
  have hD := hD0.self (sz := s.heap.size)
  generalize hAe : va_A [(h0, .inr (13, [.ref qt, .int 0, .ref qs, .ref qm, .null]))] s.heap.size = A at hD hN5 hN6 ⊢
  have hA : ∀ q : Nat, s.heap.size ≤ q → A q := fun q h => by rw [← hAe]; exact Or.inr h
  have hS : va_S A s.heap s.heap [] := va_S.rf
  have hP : va_P (dC, dI) vwCl [(h0, .inr (13, [.ref qt, .int 0, .ref qs, .ref qm, .null]))] s.heap := hP
  have hl := lv_entry ([.ref h0, .int i]) (n := 2) (Nat.le_of_ble_eq_true rfl)
  rw [lg_entry_eq]
  generalize (lg_sl ([.ref h0, .int i]) ++ List.replicate (2 - (lg_sl ([.ref h0, .int i])).length) Slot.unset).toArray = ls at hl ⊢
  have hl : lv_has ls 2 [(0, .ref h0), (1, .int i)] := hl
  refine lv_aload_n hx hb dX11_begin_0 rfl (lv_at hl 0 rfl) ?_
  refine va_get (D := (dC, dI)) (ci := 13) (v := .null) (C := RX11) (T := TX11) (N := 5) hx hb hts in_cc_begin_RX11 hown hK hP 0 rfl rfl 4 (by decide) (hts (.fieldLink RX11 35 "LevelUnits" "program" "LLevelUnits$Types;") (List.mem_of_getElem? (i := 1) rfl)) (fun _ h9 => h9) rfl dX11_begin_1 ?_
  refine lv_ifnonnullN hx hb dX11_begin_4 ?_
  have hat9 : ∀ w ∈ vx_atS RX11 171 "java/lang/IllegalStateException" ["java/lang/RuntimeException", "java/lang/Exception"], w.before _ s = true := vx_hat (B := [(.declares (Bundle.initS "java/lang/RuntimeException")), (.declares (Bundle.initS "java/lang/Exception")), (.declares (Bundle.initS "java/lang/Throwable")), (.castable "java/lang/IllegalStateException" "java/lang/IllegalStateException")]) (fun w h => hts w (in_cc_begin_T171 w h)) (by decide +kernel) (vx_c (va_Nw.use rfl hN4) (vx_c (va_Nw.use rfl hN3) (vx_c (va_Nw.use rfl hN2) (vx_c (va_Nw.use rfl hN1) vx_n))))
  have hP9 := hP.sub (ws' := []) [] rfl
  have hD9 := hD.sub (ws' := []) [] (by decide) rfl
  have hK9 := hK.sub (tys' := []) [] rfl
  exact vx_throwS (names := ["java/lang/RuntimeException", "java/lang/Exception"]) (mc := 1) (ms := 6) hx hb hflags hown (by decide +kernel) (by decide +kernel) (hts (.classLink RX11 167 "java/lang/IllegalStateException") (List.mem_of_getElem? (i := 2) rfl)) (hts (.initialized "java/lang/IllegalStateException") (List.mem_of_getElem? (i := 3) rfl)) hN0 hat9 (by decide +kernel) hN5 hN6 hS (hl.1.trans hml.symm) dX11_begin_7 dX11_begin_10 dX11_begin_11 dX11_begin_13 dX11_begin_16 (fun x hx => (htab x hx).elim) (Nat.le_of_ble_eq_true rfl) (Nat.le_of_ble_eq_true rfl) (Nat.le_of_ble_eq_true rfl) (Nat.le_of_ble_eq_true rfl) hlocks (fun t hW h1 h2 => ⟨(), trivial, ⟨rfl, hP9.kept (fun k x hx => h2 x.1 ((hP9 k x hx).lt)), va_K.moved hW hK9, hD9⟩, Nat.le_trans hS.1 h1, fun q a b => (h2 q (Nat.lt_of_lt_of_le a hS.1)).trans (hS.2.1 q a b)⟩) hS.2.2 (Nat.le_of_ble_eq_true rfl) (Nat.le_of_ble_eq_true rfl)
def ws_cc_run_bad : List Cond := .code yX11_run cX11_run 3 (some .int) :: ([.classLink RX11 178 "java/lang/IllegalArgumentException", .initialized "java/lang/IllegalArgumentException"] ++ (vx_atS RX11 182 "java/lang/IllegalArgumentException" ["java/lang/RuntimeException", "java/lang/Exception"]).filter goodWord)
theorem in_cc_run_bad_T182 : ∀ w ∈ (vx_atS RX11 182 "java/lang/IllegalArgumentException" ["java/lang/RuntimeException", "java/lang/Exception"]).filter goodWord, w ∈ ws_cc_run_bad := fun _ h => List.mem_cons_of_mem _ (List.mem_append_right _ h)
set_option maxHeartbeats 4000000 in
set_option maxRecDepth 100000 in
theorem cc_run_bad (l : Launch) (dC : Nat → ClassId) (dI : Nat → Nat → Nat) (h0 : Nat) (qt : Nat) (qs : Nat) (qm : Nat) (sa : Nat) (i : Int32) (sz : Nat) (hbad : i < 0 ∨ ¬ i ≤ 2000) (hflags : l.stackTraces = false) : vx_Met l yX11_run ws_cc_run_bad ({ frames := 6, cells := 1, slots := 6, locals := 90 }) (va_Pc [.ref h0, .int i] (fun U => U.heap.size = sz ∧ va_P (dC, dI) vwCl [(h0, .inr (13, [.ref qt, .int 0, .ref qs, .ref qm, .null]))] U.heap ∧ va_K (dC, dI) vwCl [] U ∧ va_D (fun _ => True) [(h0, .inr (13, [.ref qt, .int 0, .ref qs, .ref qm, .null]))] ∧ vk_R RX11 180 kx180 sa U ∧ va_Nw (.castable "java/lang/IllegalArgumentException" "java/lang/IllegalArgumentException") U ∧ va_Nw (.declares (Bundle.initS "java/lang/Throwable")) U ∧ va_Nw (.declares (Bundle.initS "java/lang/Exception")) U ∧ va_Nw (.declares (Bundle.initS "java/lang/RuntimeException")) U ∧ vx_Zq "java/lang/Throwable" "UNASSIGNED_STACK" "[Ljava/lang/StackTraceElement;" (va_A [(h0, .inr (13, [.ref qt, .int 0, .ref qs, .ref qm, .null]))] sz) U U.heap ∧ vx_Zq "java/lang/Throwable" "SUPPRESSED_SENTINEL" "Ljava/util/List;" (va_A [(h0, .inr (13, [.ref qt, .int 0, .ref qs, .ref qm, .null]))] sz) U U.heap)) (va_Qi (fun (_ : Int32) (_ : Unit) => False) (fun _ _ => True) (va_A [(h0, .inr (13, [.ref qt, .int 0, .ref qs, .ref qm, .null]))] sz)) (vx_X (fun _ : Unit => True) (fun E _ t => E = "java/lang/IllegalArgumentException" ∧ va_P (dC, dI) vwCl [] t.heap ∧ va_K (dC, dI) vwCl [] t ∧ va_D (va_A [(h0, .inr (13, [.ref qt, .int 0, .ref qs, .ref qm, .null]))] sz) []) (va_A [(h0, .inr (13, [.ref qt, .int 0, .ref qs, .ref qm, .null]))] sz)) 1 6 (va_A [(h0, .inr (13, [.ref qt, .int 0, .ref qs, .ref qm, .null]))] sz) := by
  refine vx_ofW (cc := cX11_run) (maxL := 3) (ret := (some .int)) (by decide) rfl ?_
  intro p e s m args below meth c s₁ B hml htab hv
  obtain ⟨rfl, hsz, hP, hK, hD0, hN0, hN1, hN2, hN3, hN4, hN5, hN6⟩ := hv
  have hx := B.exec
  have hb := B.bytes
  have hr := B.returns
  have hts := atoms_spec (ws := ws_cc_run_bad) B.pre
  have hown : s.vm.findClass RX11 = some m.cls := findClass_of_methodNamed B.named
  have hlocks := B.notSynchronized
  subst hsz
  have hD := hD0.self (sz := s.heap.size)
  generalize hAe : va_A [(h0, .inr (13, [.ref qt, .int 0, .ref qs, .ref qm, .null]))] s.heap.size = A at hD hN5 hN6 ⊢
  have hA : ∀ q : Nat, s.heap.size ≤ q → A q := fun q h => by rw [← hAe]; exact Or.inr h
  have hS : va_S A s.heap s.heap [] := va_S.rf
  have hP : va_P (dC, dI) vwCl [(h0, .inr (13, [.ref qt, .int 0, .ref qs, .ref qm, .null]))] s.heap := hP
  have hl := lv_entry ([.ref h0, .int i]) (n := 3) (Nat.le_of_ble_eq_true rfl)
  rw [lg_entry_eq]
  generalize (lg_sl ([.ref h0, .int i]) ++ List.replicate (3 - (lg_sl ([.ref h0, .int i])).length) Slot.unset).toArray = ls at hl ⊢
  have hl : lv_has ls 3 [(0, .ref h0), (1, .int i)] := hl
  refine lv_iload_n hx hb dX11_run_0 rfl (lv_at hl 1 rfl) ?_
  refine lv_if_lt (tgt := 11) hx hb dX11_run_1 (by decide) (fun c1 => ?_) (fun c1 => ?_)
  · skip
    have hat9 : ∀ w ∈ vx_atS RX11 182 "java/lang/IllegalArgumentException" ["java/lang/RuntimeException", "java/lang/Exception"], w.before _ s = true := vx_hat (B := [(.declares (Bundle.initS "java/lang/RuntimeException")), (.declares (Bundle.initS "java/lang/Exception")), (.declares (Bundle.initS "java/lang/Throwable")), (.castable "java/lang/IllegalArgumentException" "java/lang/IllegalArgumentException")]) (fun w h => hts w (in_cc_run_bad_T182 w h)) (by decide +kernel) (vx_c (va_Nw.use rfl hN4) (vx_c (va_Nw.use rfl hN3) (vx_c (va_Nw.use rfl hN2) (vx_c (va_Nw.use rfl hN1) vx_n))))
    have hP9 := hP.sub (ws' := []) [] rfl
    have hD9 := hD.sub (ws' := []) [] (by decide) rfl
    have hK9 := hK.sub (tys' := []) [] rfl
    exact vx_throwS (names := ["java/lang/RuntimeException", "java/lang/Exception"]) (mc := 1) (ms := 6) hx hb hflags hown (by decide +kernel) (by decide +kernel) (hts (.classLink RX11 178 "java/lang/IllegalArgumentException") (List.mem_of_getElem? (i := 1) rfl)) (hts (.initialized "java/lang/IllegalArgumentException") (List.mem_of_getElem? (i := 2) rfl)) hN0 hat9 (by decide +kernel) hN5 hN6 hS (hl.1.trans hml.symm) dX11_run_11 dX11_run_14 dX11_run_15 dX11_run_17 dX11_run_20 (fun x hx => (htab x hx).elim) (Nat.le_of_ble_eq_true rfl) (Nat.le_of_ble_eq_true rfl) (Nat.le_of_ble_eq_true rfl) (Nat.le_of_ble_eq_true rfl) hlocks (fun t hW h1 h2 => ⟨(), trivial, ⟨rfl, hP9.kept (fun k x hx => h2 x.1 ((hP9 k x hx).lt)), va_K.moved hW hK9, hD9⟩, Nat.le_trans hS.1 h1, fun q a b => (h2 q (Nat.lt_of_lt_of_le a hS.1)).trans (hS.2.1 q a b)⟩) hS.2.2 (Nat.le_of_ble_eq_true rfl) (Nat.le_of_ble_eq_true rfl)
  · skip
    refine lv_iload_n hx hb dX11_run_4 rfl (lv_at hl 1 rfl) ?_
    refine lv_sipush (v := 2000) hx hb dX11_run_5 (by decide) ?_
    refine lv_icmp_le (tgt := 21) hx hb dX11_run_8 (by decide) (fun c9 => absurd c9 (hbad.resolve_left c1)) (fun c9 => ?_)
    have hat9 : ∀ w ∈ vx_atS RX11 182 "java/lang/IllegalArgumentException" ["java/lang/RuntimeException", "java/lang/Exception"], w.before _ s = true := vx_hat (B := [(.declares (Bundle.initS "java/lang/RuntimeException")), (.declares (Bundle.initS "java/lang/Exception")), (.declares (Bundle.initS "java/lang/Throwable")), (.castable "java/lang/IllegalArgumentException" "java/lang/IllegalArgumentException")]) (fun w h => hts w (in_cc_run_bad_T182 w h)) (by decide +kernel) (vx_c (va_Nw.use rfl hN4) (vx_c (va_Nw.use rfl hN3) (vx_c (va_Nw.use rfl hN2) (vx_c (va_Nw.use rfl hN1) vx_n))))
    have hP9 := hP.sub (ws' := []) [] rfl
    have hD9 := hD.sub (ws' := []) [] (by decide) rfl
    have hK9 := hK.sub (tys' := []) [] rfl
    exact vx_throwS (names := ["java/lang/RuntimeException", "java/lang/Exception"]) (mc := 1) (ms := 6) hx hb hflags hown (by decide +kernel) (by decide +kernel) (hts (.classLink RX11 178 "java/lang/IllegalArgumentException") (List.mem_of_getElem? (i := 1) rfl)) (hts (.initialized "java/lang/IllegalArgumentException") (List.mem_of_getElem? (i := 2) rfl)) hN0 hat9 (by decide +kernel) hN5 hN6 hS (hl.1.trans hml.symm) dX11_run_11 dX11_run_14 dX11_run_15 dX11_run_17 dX11_run_20 (fun x hx => (htab x hx).elim) (Nat.le_of_ble_eq_true rfl) (Nat.le_of_ble_eq_true rfl) (Nat.le_of_ble_eq_true rfl) (Nat.le_of_ble_eq_true rfl) hlocks (fun t hW h1 h2 => ⟨(), trivial, ⟨rfl, hP9.kept (fun k x hx => h2 x.1 ((hP9 k x hx).lt)), va_K.moved hW hK9, hD9⟩, Nat.le_trans hS.1 h1, fun q a b => (h2 q (Nat.lt_of_lt_of_le a hS.1)).trans (hS.2.1 q a b)⟩) hS.2.2 (Nat.le_of_ble_eq_true rfl) (Nat.le_of_ble_eq_true rfl)
def ws_cc_begun : List Cond := .code yX2_begun cX2_begun 1 (some .boolean) :: ([.fieldLink RX2 49 "LevelUnits$Machine" "made" "I"] ++ wsX20)
theorem in_cc_begun_RX2 : ∀ w ∈ wsX20, w ∈ ws_cc_begun := fun _ h => List.mem_cons_of_mem _ (List.mem_append_right _ h)
set_option maxHeartbeats 4000000 in
set_option maxRecDepth 100000 in
theorem cc_begun (l : Launch) (dC : Nat → ClassId) (dI : Nat → Nat → Nat) (h0 : Nat) (m1 : Nat) (m2 : Nat) (m3 : Nat) (m4 : Nat) (m5 : Nat) (m7 : Nat) (m11 : Nat) (m13 : Nat) (m15 : Nat) (sz : Nat) : Met l yX2_begun ws_cc_begun ({ frames := 0, cells := 0, slots := 0, locals := 0 }) (va_Pc [.ref h0] (fun U => U.heap.size = sz ∧ va_P (dC, dI) vwCl [(h0, .inr (4, [.null, .ref m1, .ref m2, .ref m3, .ref m4, .ref m5, .int 0, .ref m7, .int 0, .int 0, .int 0, .ref m11, .int 0, .ref m13, .int 0, .ref m15, .null, .int 0, .int 0]))] U.heap ∧ va_K (dC, dI) vwCl [] U ∧ va_D (fun _ => True) [(h0, .inr (4, [.null, .ref m1, .ref m2, .ref m3, .ref m4, .ref m5, .int 0, .ref m7, .int 0, .int 0, .int 0, .ref m11, .int 0, .ref m13, .int 0, .ref m15, .null, .int 0, .int 0]))])) (va_Qi (fun (r : Int32) (_ : Unit) => r = 0) (fun _ t => va_P (dC, dI) vwCl [(h0, .inr (4, [.null, .ref m1, .ref m2, .ref m3, .ref m4, .ref m5, .int 0, .ref m7, .int 0, .int 0, .int 0, .ref m11, .int 0, .ref m13, .int 0, .ref m15, .null, .int 0, .int 0]))] t.heap ∧ va_K (dC, dI) vwCl [] t ∧ va_D (va_A [(h0, .inr (4, [.null, .ref m1, .ref m2, .ref m3, .ref m4, .ref m5, .int 0, .ref m7, .int 0, .int 0, .int 0, .ref m11, .int 0, .ref m13, .int 0, .ref m15, .null, .int 0, .int 0]))] sz) [(h0, .inr (4, [.null, .ref m1, .ref m2, .ref m3, .ref m4, .ref m5, .int 0, .ref m7, .int 0, .int 0, .int 0, .ref m11, .int 0, .ref m13, .int 0, .ref m15, .null, .int 0, .int 0]))]) (va_A [(h0, .inr (4, [.null, .ref m1, .ref m2, .ref m3, .ref m4, .ref m5, .int 0, .ref m7, .int 0, .int 0, .int 0, .ref m11, .int 0, .ref m13, .int 0, .ref m15, .null, .int 0, .int 0]))] sz)) 0 0 (va_A [(h0, .inr (4, [.null, .ref m1, .ref m2, .ref m3, .ref m4, .ref m5, .int 0, .ref m7, .int 0, .int 0, .int 0, .ref m11, .int 0, .ref m13, .int 0, .ref m15, .null, .int 0, .int 0]))] sz) := by
  refine Met.ofW (cc := cX2_begun) (maxL := 1) (ret := (some .boolean)) (by decide) rfl ?_
  intro p e s m args below meth c s₁ B hml hv
  obtain ⟨rfl, hsz, hP, hK, hD0⟩ := hv
  have hx := B.exec
  have hb := B.bytes
  have hr := B.returns
  have hts := atoms_spec (ws := ws_cc_begun) B.pre
  have hown : s.vm.findClass RX2 = some m.cls := findClass_of_methodNamed B.named
  have hlocks := B.notSynchronized
  subst hsz
  have hD := hD0.self (sz := s.heap.size)
  generalize hAe : va_A [(h0, .inr (4, [.null, .ref m1, .ref m2, .ref m3, .ref m4, .ref m5, .int 0, .ref m7, .int 0, .int 0, .int 0, .ref m11, .int 0, .ref m13, .int 0, .ref m15, .null, .int 0, .int 0]))] s.heap.size = A at hD ⊢
  have hA : ∀ q : Nat, s.heap.size ≤ q → A q := fun q h => by rw [← hAe]; exact Or.inr h
  have hS : va_S A s.heap s.heap [] := va_S.rf
  have hP : va_P (dC, dI) vwCl [(h0, .inr (4, [.null, .ref m1, .ref m2, .ref m3, .ref m4, .ref m5, .int 0, .ref m7, .int 0, .int 0, .int 0, .ref m11, .int 0, .ref m13, .int 0, .ref m15, .null, .int 0, .int 0]))] s.heap := hP
  have hl := lv_entry ([.ref h0]) (n := 1) (Nat.le_of_ble_eq_true rfl)
  rw [lg_entry_eq]
  generalize (lg_sl ([.ref h0]) ++ List.replicate (1 - (lg_sl ([.ref h0])).length) Slot.unset).toArray = ls at hl ⊢
  have hl : lv_has ls 1 [(0, .ref h0)] := hl
  refine lv_aload_n hx hb dX2_begun_0 rfl (lv_at hl 0 rfl) ?_
  refine va_get (D := (dC, dI)) (ci := 4) (v := .int 0) (C := RX2) (T := TX2) (N := 19) hx hb hts in_cc_begun_RX2 hown hK hP 0 rfl rfl 8 (by decide) (hts (.fieldLink RX2 49 "LevelUnits$Machine" "made" "I") (List.mem_of_getElem? (i := 1) rfl)) (fun _ h9 => h9) rfl dX2_begun_1 ?_
  refine lv_if_le (tgt := 11) hx hb dX2_begun_4 (by decide) (fun c9 => ?_) (fun c9 => absurd (by decide) c9)
  clear c9
  refine lv_iconst (v := 0) hx hb dX2_begun_11 (by decide) ?_
  have hP9 := hP.sub (ws' := [(h0, .inr (4, [.null, .ref m1, .ref m2, .ref m3, .ref m4, .ref m5, .int 0, .ref m7, .int 0, .int 0, .int 0, .ref m11, .int 0, .ref m13, .int 0, .ref m15, .null, .int 0, .int 0]))]) [0] rfl
  have hD9 := hD.sub (ws' := [(h0, .inr (4, [.null, .ref m1, .ref m2, .ref m3, .ref m4, .ref m5, .int 0, .ref m7, .int 0, .int 0, .int 0, .ref m11, .int 0, .ref m13, .int 0, .ref m15, .null, .int 0, .int 0]))]) [0] (by decide) rfl
  have hK9 := hK.sub (tys' := []) [] rfl
  refine W.widen (k := 0) (n := 0) (Nat.le_of_ble_eq_true rfl) (Nat.le_of_ble_eq_true rfl) ?_
  exact W.zret (v := 0) hx hb hr rfl (fun t ht hW => ⟨⟨0, (), rfl, rfl, by rw [ht]; exact hP9, va_K.moved hW.alike hK9, hD9⟩, hS.F ht⟩) hS.2.2 dX2_begun_12
def ws_cc_run_none : List Cond := .code yX11_run cX11_run 3 (some .int) :: ([.fieldLink RX11 23 "LevelUnits" "machine" "LLevelUnits$Machine;", .fieldLink RX2 49 "LevelUnits$Machine" "made" "I", .code yX2_begun cX2_begun 1 (some .boolean), .methodLink RX11 183 yX2_begun, .instanceMethod yX2_begun, .selects RX2 yX2_begun yX2_begun, .initialized RX2, .classLink RX11 167 "java/lang/IllegalStateException", .initialized "java/lang/IllegalStateException"] ++ wsX110 ++ wsX20 ++ (vx_atS RX11 171 "java/lang/IllegalStateException" ["java/lang/RuntimeException", "java/lang/Exception"]).filter goodWord)
theorem in_cc_run_none_RX11 : ∀ w ∈ wsX110, w ∈ ws_cc_run_none := fun _ h => List.mem_cons_of_mem _ (List.mem_append_left _ (List.mem_append_left _ (List.mem_append_right _ h)))
theorem in_cc_run_none_RX2 : ∀ w ∈ wsX20, w ∈ ws_cc_run_none := fun _ h => List.mem_cons_of_mem _ (List.mem_append_left _ (List.mem_append_right _ h))
theorem in_cc_run_none_T171 : ∀ w ∈ (vx_atS RX11 171 "java/lang/IllegalStateException" ["java/lang/RuntimeException", "java/lang/Exception"]).filter goodWord, w ∈ ws_cc_run_none := fun _ h => List.mem_cons_of_mem _ (List.mem_append_right _ h)
theorem g0_cc_run_none_cc_begun_183 : GoodIn ws_cc_run_none ws_cc_begun := goodIn_r _ [3, 2, 15, 16, 17, 18, 19, 20, 21, 22, 23, 24, 25, 26, 27, 28, 29, 30, 31, 32, 33] (by decide +kernel) (by decide +kernel)
theorem gg_cc_run_none_cc_begun_183 : GoodIn ws_cc_run_none (wsV RX11 183 RX2 yX2_begun ws_cc_begun) := goodIn_app (goodIn_of _ (by decide +kernel)) g0_cc_run_none_cc_begun_183
set_option maxHeartbeats 4000000 in
set_option maxRecDepth 100000 in
theorem cc_run_none (l : Launch) (dC : Nat → ClassId) (dI : Nat → Nat → Nat) (h0 : Nat) (qt : Nat) (qs : Nat) (qm : Nat) (m1 : Nat) (m2 : Nat) (m3 : Nat) (m4 : Nat) (m5 : Nat) (m7 : Nat) (m11 : Nat) (m13 : Nat) (m15 : Nat) (sa : Nat) (i : Int32) (sz : Nat) (hlo : ¬ i < 0) (hhi : i ≤ 2000) (hflags : l.stackTraces = false) : vx_Met l yX11_run ws_cc_run_none ({ frames := 6, cells := 1, slots := 6, locals := 90 }) (va_Pc [.ref h0, .int i] (fun U => U.heap.size = sz ∧ va_P (dC, dI) vwCl [(h0, .inr (13, [.ref qt, .int 0, .ref qs, .ref qm, .null])), (qm, .inr (4, [.null, .ref m1, .ref m2, .ref m3, .ref m4, .ref m5, .int 0, .ref m7, .int 0, .int 0, .int 0, .ref m11, .int 0, .ref m13, .int 0, .ref m15, .null, .int 0, .int 0]))] U.heap ∧ va_K (dC, dI) vwCl [] U ∧ va_D (fun _ => True) [(h0, .inr (13, [.ref qt, .int 0, .ref qs, .ref qm, .null])), (qm, .inr (4, [.null, .ref m1, .ref m2, .ref m3, .ref m4, .ref m5, .int 0, .ref m7, .int 0, .int 0, .int 0, .ref m11, .int 0, .ref m13, .int 0, .ref m15, .null, .int 0, .int 0]))] ∧ vk_R RX11 187 kx187 sa U ∧ va_Nw (.castable "java/lang/IllegalStateException" "java/lang/IllegalStateException") U ∧ va_Nw (.declares (Bundle.initS "java/lang/Throwable")) U ∧ va_Nw (.declares (Bundle.initS "java/lang/Exception")) U ∧ va_Nw (.declares (Bundle.initS "java/lang/RuntimeException")) U ∧ vx_Zq "java/lang/Throwable" "UNASSIGNED_STACK" "[Ljava/lang/StackTraceElement;" (va_A [(h0, .inr (13, [.ref qt, .int 0, .ref qs, .ref qm, .null])), (qm, .inr (4, [.null, .ref m1, .ref m2, .ref m3, .ref m4, .ref m5, .int 0, .ref m7, .int 0, .int 0, .int 0, .ref m11, .int 0, .ref m13, .int 0, .ref m15, .null, .int 0, .int 0]))] sz) U U.heap ∧ vx_Zq "java/lang/Throwable" "SUPPRESSED_SENTINEL" "Ljava/util/List;" (va_A [(h0, .inr (13, [.ref qt, .int 0, .ref qs, .ref qm, .null])), (qm, .inr (4, [.null, .ref m1, .ref m2, .ref m3, .ref m4, .ref m5, .int 0, .ref m7, .int 0, .int 0, .int 0, .ref m11, .int 0, .ref m13, .int 0, .ref m15, .null, .int 0, .int 0]))] sz) U U.heap)) (va_Qi (fun (_ : Int32) (_ : Unit) => False) (fun _ _ => True) (va_A [(h0, .inr (13, [.ref qt, .int 0, .ref qs, .ref qm, .null])), (qm, .inr (4, [.null, .ref m1, .ref m2, .ref m3, .ref m4, .ref m5, .int 0, .ref m7, .int 0, .int 0, .int 0, .ref m11, .int 0, .ref m13, .int 0, .ref m15, .null, .int 0, .int 0]))] sz)) (vx_X (fun _ : Unit => True) (fun E _ t => E = "java/lang/IllegalStateException" ∧ va_P (dC, dI) vwCl [] t.heap ∧ va_K (dC, dI) vwCl [] t ∧ va_D (va_A [(h0, .inr (13, [.ref qt, .int 0, .ref qs, .ref qm, .null])), (qm, .inr (4, [.null, .ref m1, .ref m2, .ref m3, .ref m4, .ref m5, .int 0, .ref m7, .int 0, .int 0, .int 0, .ref m11, .int 0, .ref m13, .int 0, .ref m15, .null, .int 0, .int 0]))] sz) []) (va_A [(h0, .inr (13, [.ref qt, .int 0, .ref qs, .ref qm, .null])), (qm, .inr (4, [.null, .ref m1, .ref m2, .ref m3, .ref m4, .ref m5, .int 0, .ref m7, .int 0, .int 0, .int 0, .ref m11, .int 0, .ref m13, .int 0, .ref m15, .null, .int 0, .int 0]))] sz)) 1 6 (va_A [(h0, .inr (13, [.ref qt, .int 0, .ref qs, .ref qm, .null])), (qm, .inr (4, [.null, .ref m1, .ref m2, .ref m3, .ref m4, .ref m5, .int 0, .ref m7, .int 0, .int 0, .int 0, .ref m11, .int 0, .ref m13, .int 0, .ref m15, .null, .int 0, .int 0]))] sz) := by
  refine vx_ofW (cc := cX11_run) (maxL := 3) (ret := (some .int)) (by decide) rfl ?_
  intro p e s m args below meth c s₁ B hml htab hv
  obtain ⟨rfl, hsz, hP, hK, hD0, hN0, hN1, hN2, hN3, hN4, hN5, hN6⟩ := hv
  have hx := B.exec
  have hb := B.bytes
  have hr := B.returns
  have hts := atoms_spec (ws := ws_cc_run_none) B.pre
  have hown : s.vm.findClass RX11 = some m.cls := findClass_of_methodNamed B.named
  have hlocks := B.notSynchronized
  subst hsz
  have hD := hD0.self (sz := s.heap.size)
  generalize hAe : va_A [(h0, .inr (13, [.ref qt, .int 0, .ref qs, .ref qm, .null])), (qm, .inr (4, [.null, .ref m1, .ref m2, .ref m3, .ref m4, .ref m5, .int 0, .ref m7, .int 0, .int 0, .int 0, .ref m11, .int 0, .ref m13, .int 0, .ref m15, .null, .int 0, .int 0]))] s.heap.size = A at hD hN5 hN6 ⊢
  have hA : ∀ q : Nat, s.heap.size ≤ q → A q := fun q h => by rw [← hAe]; exact Or.inr h
  have hS : va_S A s.heap s.heap [] := va_S.rf
  have hP : va_P (dC, dI) vwCl [(h0, .inr (13, [.ref qt, .int 0, .ref qs, .ref qm, .null])), (qm, .inr (4, [.null, .ref m1, .ref m2, .ref m3, .ref m4, .ref m5, .int 0, .ref m7, .int 0, .int 0, .int 0, .ref m11, .int 0, .ref m13, .int 0, .ref m15, .null, .int 0, .int 0]))] s.heap := hP
  have hl := lv_entry ([.ref h0, .int i]) (n := 3) (Nat.le_of_ble_eq_true rfl)
  rw [lg_entry_eq]
  generalize (lg_sl ([.ref h0, .int i]) ++ List.replicate (3 - (lg_sl ([.ref h0, .int i])).length) Slot.unset).toArray = ls at hl ⊢
  have hl : lv_has ls 3 [(0, .ref h0), (1, .int i)] := hl
  refine lv_iload_n hx hb dX11_run_0 rfl (lv_at hl 1 rfl) ?_
  refine lv_if_lt (tgt := 11) hx hb dX11_run_1 (by decide) (fun c9 => absurd c9 hlo) (fun c9 => ?_)
  refine lv_iload_n hx hb dX11_run_4 rfl (lv_at hl 1 rfl) ?_
  refine lv_sipush (v := 2000) hx hb dX11_run_5 (by decide) ?_
  refine lv_icmp_le (tgt := 21) hx hb dX11_run_8 (by decide) (fun c9 => ?_) (fun c9 => absurd hhi c9)
  refine lv_aload_n hx hb dX11_run_21 rfl (lv_at hl 0 rfl) ?_
  refine va_get (D := (dC, dI)) (ci := 13) (v := .ref qm) (C := RX11) (T := TX11) (N := 5) hx hb hts in_cc_run_none_RX11 hown hK hP 0 rfl rfl 3 (by decide) (hts (.fieldLink RX11 23 "LevelUnits" "machine" "LLevelUnits$Machine;") (List.mem_of_getElem? (i := 1) rfl)) (fun _ h9 => h9) rfl dX11_run_22 ?_
  have hPc := hP.sub (ws' := [(qm, .inr (4, [.null, .ref m1, .ref m2, .ref m3, .ref m4, .ref m5, .int 0, .ref m7, .int 0, .int 0, .int 0, .ref m11, .int 0, .ref m13, .int 0, .ref m15, .null, .int 0, .int 0]))]) [1] rfl
  have hDc := hD.sub (ws' := [(qm, .inr (4, [.null, .ref m1, .ref m2, .ref m3, .ref m4, .ref m5, .int 0, .ref m7, .int 0, .int 0, .int 0, .ref m11, .int 0, .ref m13, .int 0, .ref m15, .null, .int 0, .int 0]))]) [1] (by decide) rfl
  have hKc := hK.sub (tys' := []) [] rfl
  have hFc := va_free (wc := [(qm, .inr (4, [.null, .ref m1, .ref m2, .ref m3, .ref m4, .ref m5, .int 0, .ref m7, .int 0, .int 0, .int 0, .ref m11, .int 0, .ref m13, .int 0, .ref m15, .null, .int 0, .int 0]))]) hD hS hA [1] rfl
  refine va_calli (va_runV (As := []) (rest := []) ⟨hx, hb, hml, hown, hts⟩ (cc_begun l dC dI qm m1 m2 m3 m4 m5 m7 m11 m13 m15 s.heap.size) (cwV 0 hts gg_cc_run_none_cc_begun_183 rfl rfl rfl (by decide +kernel) ⟨(Nat.le_of_ble_eq_true rfl), (Nat.le_of_ble_eq_true rfl)⟩) ⟨fun a U g mk q => by obtain ⟨q0, q1, qP, qK, qD⟩ := q; exact ⟨q0, q1, qP, va_K.moved (u := U) (U := U.calling g mk a) (Vm.Alike.refl U.vm) qK, qD⟩, va_recv hKc hPc (ci := 4) (q0 := 0) rfl rfl, fun U hU hW => ⟨rfl, by rw [hU], by rw [hU]; exact hPc, va_K.moved hW.alike hKc, hDc.weaken (fun _ _ _ _ => trivial)⟩⟩ rfl rfl hl.1 rfl (lv_room (Nat.le_of_ble_eq_true rfl)) dX11_run_25 ⟨(Nat.le_of_ble_eq_true rfl), (Nat.le_of_ble_eq_true rfl)⟩) hS (fun q _ h => hFc q h) hFc (fun r9 u t H1 locs ht hvm hw hB hz1 hk1 hS => ?_)
  obtain ⟨hP1, hK1, hD1⟩ := hB
  rw [ht] at hP1
  have hK1 := va_K.moved hvm.symm hK1
  obtain ⟨hP, hD⟩ := va_join (wr := [(h0, .inr (13, [.ref qt, .int 0, .ref qs, .ref qm, .null]))]) (w1 := [(qm, .inr (4, [.null, .ref m1, .ref m2, .ref m3, .ref m4, .ref m5, .int 0, .ref m7, .int 0, .int 0, .int 0, .ref m11, .int 0, .ref m13, .int 0, .ref m15, .null, .int 0, .int 0]))]) hP hD [1] [0] rfl rfl (by decide) (by decide) hk1 hFc hP1 hD1
  have hK := (hK.sub (tys' := []) [] rfl).app hK1
  generalize H1 = H at hP hS ⊢
  have hK : va_K (dC, dI) vwCl [] s := hK
  have hP : va_P (dC, dI) vwCl [(h0, .inr (13, [.ref qt, .int 0, .ref qs, .ref qm, .null])), (qm, .inr (4, [.null, .ref m1, .ref m2, .ref m3, .ref m4, .ref m5, .int 0, .ref m7, .int 0, .int 0, .int 0, .ref m11, .int 0, .ref m13, .int 0, .ref m15, .null, .int 0, .int 0]))] H := hP
  have hD : va_D A [(h0, .inr (13, [.ref qt, .int 0, .ref qs, .ref qm, .null])), (qm, .inr (4, [.null, .ref m1, .ref m2, .ref m3, .ref m4, .ref m5, .int 0, .ref m7, .int 0, .int 0, .int 0, .ref m11, .int 0, .ref m13, .int 0, .ref m15, .null, .int 0, .int 0]))] := hD
  refine W.widen (k := 0) (n := 0) (Nat.le_of_ble_eq_true rfl) (Nat.le_of_ble_eq_true rfl) ?_
  obtain rfl : r9 = 0 := hw
  refine lv_if_ne (tgt := 41) hx hb dX11_run_28 (by decide) (fun c9 => absurd c9 (by decide)) (fun c9 => ?_)
  clear c9
  have hat9 : ∀ w ∈ vx_atS RX11 171 "java/lang/IllegalStateException" ["java/lang/RuntimeException", "java/lang/Exception"], w.before _ s = true := vx_hat (B := [(.declares (Bundle.initS "java/lang/RuntimeException")), (.declares (Bundle.initS "java/lang/Exception")), (.declares (Bundle.initS "java/lang/Throwable")), (.castable "java/lang/IllegalStateException" "java/lang/IllegalStateException")]) (fun w h => hts w (in_cc_run_none_T171 w h)) (by decide +kernel) (vx_c (va_Nw.use rfl hN4) (vx_c (va_Nw.use rfl hN3) (vx_c (va_Nw.use rfl hN2) (vx_c (va_Nw.use rfl hN1) vx_n))))
  have hP9 := hP.sub (ws' := []) [] rfl
  have hD9 := hD.sub (ws' := []) [] (by decide) rfl
  have hK9 := hK.sub (tys' := []) [] rfl
  exact vx_throwS (names := ["java/lang/RuntimeException", "java/lang/Exception"]) (mc := 1) (ms := 6) hx hb hflags hown (by decide +kernel) (by decide +kernel) (hts (.classLink RX11 167 "java/lang/IllegalStateException") (List.mem_of_getElem? (i := 8) rfl)) (hts (.initialized "java/lang/IllegalStateException") (List.mem_of_getElem? (i := 9) rfl)) hN0 hat9 (by decide +kernel) hN5 hN6 hS (hl.1.trans hml.symm) dX11_run_31 dX11_run_34 dX11_run_35 dX11_run_37 dX11_run_40 (fun x hx => (htab x hx).elim) (Nat.le_of_ble_eq_true rfl) (Nat.le_of_ble_eq_true rfl) (Nat.le_of_ble_eq_true rfl) (Nat.le_of_ble_eq_true rfl) hlocks (fun t hW h1 h2 => ⟨(), trivial, ⟨rfl, hP9.kept (fun k x hx => h2 x.1 ((hP9 k x hx).lt)), va_K.moved hW hK9, hD9⟩, Nat.le_trans hS.1 h1, fun q a b => (h2 q (Nat.lt_of_lt_of_le a hS.1)).trans (hS.2.1 q a b)⟩) hS.2.2 (Nat.le_of_ble_eq_true rfl) (Nat.le_of_ble_eq_true rfl)
