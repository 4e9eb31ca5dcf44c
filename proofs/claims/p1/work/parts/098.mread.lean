def ws_cm_see : List Cond := .code yX13_see cX13_see 2 (some .int) :: ([.fieldLink RX13 262 "LevelUnitsModel" "size" "I"] ++ wsX130)
theorem in_cm_see_RX13 : ∀ w ∈ wsX130, w ∈ ws_cm_see := fun _ h => List.mem_cons_of_mem _ (List.mem_append_right _ h)
set_option maxHeartbeats 4000000 in
set_option maxRecDepth 100000 in
theorem cm_see (l : Launch) (dC : Nat → ClassId) (dI : Nat → Nat → Nat) (h0 : Nat) (F : Nat → Value) (sz : Nat) (hq5 : F 5 = .int 0) : Met l yX13_see ws_cm_see ({ frames := 0, cells := 0, slots := 0, locals := 0 }) (va_Pc [.ref h0, .int 0] (fun U => U.heap.size = sz ∧ va_P (dC, dI) vwCl [(h0, .inr (15, fl 134 F))] U.heap ∧ va_K (dC, dI) vwCl [] U ∧ va_D (fun _ => True) [(h0, .inr (15, fl 134 F))])) (va_Qi (fun (r : Int32) (_ : Unit) => r = (-1)) (fun _ t => F 5 = .int 0 ∧ va_P (dC, dI) vwCl [(h0, .inr (15, fl 134 F))] t.heap ∧ va_K (dC, dI) vwCl [] t ∧ va_D (va_A [(h0, .inr (15, fl 134 F))] sz) [(h0, .inr (15, fl 134 F))]) (va_A [(h0, .inr (15, fl 134 F))] sz)) 0 0 (va_A [(h0, .inr (15, fl 134 F))] sz) := by
  refine Met.ofW (cc := cX13_see) (maxL := 2) (ret := (some .int)) (by decide) rfl ?_
  intro p e s m args below meth c s₁ B hml hv
  obtain ⟨rfl, hsz, hP, hK, hD0⟩ := hv
  have hx := B.exec
  have hb := B.bytes
  have hr := B.returns
  have hts := atoms_spec (ws := ws_cm_see) B.pre
  have hown : s.vm.findClass RX13 = some m.cls := findClass_of_methodNamed B.named
  have hlocks := B.notSynchronized
  subst hsz
  have hD := hD0.self (sz := s.heap.size)
  generalize hAe : va_A [(h0, .inr (15, fl 134 F))] s.heap.size = A at hD ⊢
  have hA : ∀ q : Nat, s.heap.size ≤ q → A q := fun q h => by rw [← hAe]; exact Or.inr h
  have hS : va_S A s.heap s.heap [] := va_S.rf
  have hP : va_P (dC, dI) vwCl [(h0, .inr (15, fl 134 F))] s.heap := hP
  have hl := lv_entry ([.ref h0, .int 0]) (n := 2) (Nat.le_of_ble_eq_true rfl)
  rw [lg_entry_eq]
  generalize (lg_sl ([.ref h0, .int 0]) ++ List.replicate (2 - (lg_sl ([.ref h0, .int 0])).length) Slot.unset).toArray = ls at hl ⊢
  have hl : lv_has ls 2 [(0, .ref h0), (1, .int 0)] := hl
  refine lv_iload_n hx hb dX13_see_0 rfl (lv_at hl 1 rfl) ?_
  refine lv_aload_n hx hb dX13_see_1 rfl (lv_at hl 0 rfl) ?_
  refine va_get (D := (dC, dI)) (ci := 15) (v := .int 0) (C := RX13) (T := TX13) (N := 134) hx hb hts in_cm_see_RX13 hown hK hP 0 rfl rfl 5 (by decide) (hts (.fieldLink RX13 262 "LevelUnitsModel" "size" "I") (List.mem_of_getElem? (i := 1) rfl)) (fun _ h9 => h9) (fl_get (by decide) hq5) dX13_see_2 ?_
  refine lv_icmp_ge (tgt := 21) hx hb dX13_see_5 (by decide) (fun c9 => ?_) (fun c9 => absurd (by decide) c9)
  clear c9
  refine lv_iconst (v := (-1)) hx hb dX13_see_21 (by decide) ?_
  have hP9 := hP.sub (ws' := [(h0, .inr (15, fl 134 F))]) [0] rfl
  have hD9 := hD.sub (ws' := [(h0, .inr (15, fl 134 F))]) [0] (by decide) rfl
  have hK9 := hK.sub (tys' := []) [] rfl
  refine W.widen (k := 0) (n := 0) (Nat.le_of_ble_eq_true rfl) (Nat.le_of_ble_eq_true rfl) ?_
  exact W.iret (v := (-1)) hx hb hr (fun t ht hW => ⟨⟨(-1), (), rfl, rfl, hq5, by rw [ht]; exact hP9, va_K.moved hW.alike hK9, hD9⟩, hS.F ht⟩) hS.2.2 dX13_see_22
def ws_cm_passes : List Cond := .code yX13_passes cX13_passes 2 (some .boolean) :: ([.fieldLink RX13 301 "LevelUnitsModel" "scan" "I", .fieldLink RX13 262 "LevelUnitsModel" "size" "I", .code yX13_see cX13_see 2 (some .int), .methodLink RX13 304 yX13_see, .instanceMethod yX13_see, .selects RX13 yX13_see yX13_see, .initialized RX13] ++ wsX130)
theorem in_cm_passes_RX13 : ∀ w ∈ wsX130, w ∈ ws_cm_passes := fun _ h => List.mem_cons_of_mem _ (List.mem_append_right _ h)
theorem g0_cm_passes_cm_see_304 : GoodIn ws_cm_passes ws_cm_see := goodIn_r _ [3, 2, 8, 9, 10, 11, 12, 13, 14, 15, 16, 17, 18, 19, 20, 21, 22, 23, 24, 25, 26, 27, 28, 29, 30, 31, 32, 33, 34, 35, 36, 37, 38, 39, 40, 41, 42, 43, 44, 45, 46, 47, 48, 49, 50, 51, 52, 53, 54, 55, 56, 57, 58, 59, 60, 61, 62, 63, 64, 65, 66, 67, 68, 69, 70, 71, 72, 73, 74, 75, 76, 77, 78, 79, 80, 81, 82, 83, 84, 85, 86, 87, 88, 89, 90, 91, 92, 93, 94, 95, 96, 97, 98, 99, 100, 101, 102, 103, 104, 105, 106, 107, 108, 109, 110, 111, 112, 113, 114, 115, 116, 117, 118, 119, 120, 121, 122, 123, 124, 125, 126, 127, 128, 129, 130, 131, 132, 133, 134, 135, 136, 137, 138, 139, 140, 141] (by decide +kernel) (by decide +kernel)
theorem gg_cm_passes_cm_see_304 : GoodIn ws_cm_passes (wsV RX13 304 RX13 yX13_see ws_cm_see) := goodIn_app (goodIn_of _ (by decide +kernel)) g0_cm_passes_cm_see_304
set_option maxHeartbeats 4000000 in
set_option maxRecDepth 100000 in
theorem cm_passes (l : Launch) (dC : Nat → ClassId) (dI : Nat → Nat → Nat) (h0 : Nat) (F : Nat → Value) (sz : Nat) (hq5 : F 5 = .int 0) (hq6 : F 6 = .int 0) : Met l yX13_passes ws_cm_passes ({ frames := 1, cells := 0, slots := 0, locals := 21 }) (va_Pc [.ref h0] (fun U => U.heap.size = sz ∧ va_P (dC, dI) vwCl [(h0, .inr (15, fl 134 F))] U.heap ∧ va_K (dC, dI) vwCl [] U ∧ va_D (fun _ => True) [(h0, .inr (15, fl 134 F))])) (va_Qi (fun (r : Int32) (_ : Unit) => r = 1) (fun _ t => F 5 = .int 0 ∧ F 6 = .int 0 ∧ va_P (dC, dI) vwCl [(h0, .inr (15, fl 134 F))] t.heap ∧ va_K (dC, dI) vwCl [] t ∧ va_D (va_A [(h0, .inr (15, fl 134 F))] sz) [(h0, .inr (15, fl 134 F))]) (va_A [(h0, .inr (15, fl 134 F))] sz)) 0 0 (va_A [(h0, .inr (15, fl 134 F))] sz) := by
  refine Met.ofW (cc := cX13_passes) (maxL := 2) (ret := (some .boolean)) (by decide) rfl ?_
  intro p e s m args below meth c s₁ B hml hv
  obtain ⟨rfl, hsz, hP, hK, hD0⟩ := hv
  have hx := B.exec
  have hb := B.bytes
  have hr := B.returns
  have hts := atoms_spec (ws := ws_cm_passes) B.pre
  have hown : s.vm.findClass RX13 = some m.cls := findClass_of_methodNamed B.named
  have hlocks := B.notSynchronized
  subst hsz
  have hD := hD0.self (sz := s.heap.size)
  generalize hAe : va_A [(h0, .inr (15, fl 134 F))] s.heap.size = A at hD ⊢
  have hA : ∀ q : Nat, s.heap.size ≤ q → A q := fun q h => by rw [← hAe]; exact Or.inr h
  have hS : va_S A s.heap s.heap [] := va_S.rf
  have hP : va_P (dC, dI) vwCl [(h0, .inr (15, fl 134 F))] s.heap := hP
  have hl := lv_entry ([.ref h0]) (n := 2) (Nat.le_of_ble_eq_true rfl)
  rw [lg_entry_eq]
  generalize (lg_sl ([.ref h0]) ++ List.replicate (2 - (lg_sl ([.ref h0])).length) Slot.unset).toArray = ls at hl ⊢
  have hl : lv_has ls 2 [(0, .ref h0)] := hl
  refine lv_aload_n hx hb dX13_passes_0 rfl (lv_at hl 0 rfl) ?_
  refine lv_aload_n hx hb dX13_passes_1 rfl (lv_at hl 0 rfl) ?_
  refine va_get (D := (dC, dI)) (ci := 15) (v := .int 0) (C := RX13) (T := TX13) (N := 134) hx hb hts in_cm_passes_RX13 hown hK hP 0 rfl rfl 6 (by decide) (hts (.fieldLink RX13 301 "LevelUnitsModel" "scan" "I") (List.mem_of_getElem? (i := 1) rfl)) (fun _ h9 => h9) (fl_get (by decide) hq6) dX13_passes_2 ?_
  have hPc := hP.sub (ws' := [(h0, .inr (15, fl 134 F))]) [0] rfl
  have hDc := hD.sub (ws' := [(h0, .inr (15, fl 134 F))]) [0] (by decide) rfl
  have hKc := hK.sub (tys' := []) [] rfl
  have hFc := va_free (wc := [(h0, .inr (15, fl 134 F))]) hD hS hA [0] rfl
  refine va_calli (va_runV (As := [.int 0]) (rest := []) ⟨hx, hb, hml, hown, hts⟩ (cm_see l dC dI h0 F s.heap.size hq5) (cwV 1 hts gg_cm_passes_cm_see_304 rfl rfl rfl (by decide +kernel) ⟨(Nat.le_of_ble_eq_true rfl), (Nat.le_of_ble_eq_true rfl)⟩) ⟨fun a U g mk q => by obtain ⟨q0, q1, qP, qK, qD⟩ := q; exact ⟨q0, q1, qP, va_K.moved (u := U) (U := U.calling g mk a) (Vm.Alike.refl U.vm) qK, qD⟩, va_recv hKc hPc (ci := 15) (q0 := 0) rfl rfl, fun U hU hW => ⟨rfl, by rw [hU], by rw [hU]; exact hPc, va_K.moved hW.alike hKc, hDc.weaken (fun _ _ _ _ => trivial)⟩⟩ rfl rfl hl.1 rfl (lv_room (Nat.le_of_ble_eq_true rfl)) dX13_passes_5 ⟨(Nat.le_of_ble_eq_true rfl), (Nat.le_of_ble_eq_true rfl)⟩) hS (fun q _ h => hFc q h) hFc (fun r9 u t H1 locs ht hvm hw hB hz1 hk1 hS => ?_)
  obtain ⟨hf_1, hP1, hK1, hD1⟩ := hB
  rw [ht] at hP1
  have hK1 := va_K.moved hvm.symm hK1
  obtain ⟨hP, hD⟩ := va_join (wr := []) (w1 := [(h0, .inr (15, fl 134 F))]) hP hD [0] [] rfl rfl (by decide) (by decide) hk1 hFc hP1 hD1
  have hK := (hK.sub (tys' := []) [] rfl).app hK1
  generalize H1 = H at hP hS ⊢
  have hK : va_K (dC, dI) vwCl [] s := hK
  have hP : va_P (dC, dI) vwCl [(h0, .inr (15, fl 134 F))] H := hP
  have hD : va_D A [(h0, .inr (15, fl 134 F))] := hD
  refine W.widen (k := 0) (n := 0) (Nat.le_of_ble_eq_true rfl) (Nat.le_of_ble_eq_true rfl) ?_
  obtain rfl : r9 = ((-1)) := hw
  refine lv_istore_n (lv' := [(1, .int ((-1))), (0, .ref h0)]) hx hb dX13_passes_8 rfl hl (by decide) rfl (fun ls hl => ?_)
  refine lv_iload_n hx hb dX13_passes_9 rfl (lv_at hl 0 rfl) ?_
  refine lv_bipush (v := 9) hx hb dX13_passes_10 (by decide) ?_
  refine lv_icmp_eq (tgt := 33) hx hb dX13_passes_12 (by decide) (fun c9 => absurd c9 (by decide)) (fun c9 => ?_)
  clear c9
  refine lv_iload_n hx hb dX13_passes_15 rfl (lv_at hl 0 rfl) ?_
  refine lv_bipush (v := 10) hx hb dX13_passes_16 (by decide) ?_
  refine lv_icmp_eq (tgt := 33) hx hb dX13_passes_18 (by decide) (fun c9 => absurd c9 (by decide)) (fun c9 => ?_)
  clear c9
  refine lv_iload_n hx hb dX13_passes_21 rfl (lv_at hl 0 rfl) ?_
  refine lv_bipush (v := 13) hx hb dX13_passes_22 (by decide) ?_
  refine lv_icmp_eq (tgt := 33) hx hb dX13_passes_24 (by decide) (fun c9 => absurd c9 (by decide)) (fun c9 => ?_)
  clear c9
  refine lv_iload_n hx hb dX13_passes_27 rfl (lv_at hl 0 rfl) ?_
  refine lv_bipush (v := 32) hx hb dX13_passes_28 (by decide) ?_
  refine lv_icmp_ne (tgt := 69) hx hb dX13_passes_30 (by decide) (fun c9 => ?_) (fun c9 => absurd c9 (by decide))
  clear c9
  refine lv_iload_n hx hb dX13_passes_69 rfl (lv_at hl 0 rfl) ?_
  refine lv_bipush (v := 40) hx hb dX13_passes_70 (by decide) ?_
  refine lv_icmp_ne (tgt := 99) hx hb dX13_passes_72 (by decide) (fun c9 => ?_) (fun c9 => absurd c9 (by decide))
  clear c9
  refine lv_iconst (v := 1) hx hb dX13_passes_99 (by decide) ?_
  have hP9 := hP.sub (ws' := [(h0, .inr (15, fl 134 F))]) [0] rfl
  have hD9 := hD.sub (ws' := [(h0, .inr (15, fl 134 F))]) [0] (by decide) rfl
  have hK9 := hK.sub (tys' := []) [] rfl
  refine W.widen (k := 0) (n := 0) (Nat.le_of_ble_eq_true rfl) (Nat.le_of_ble_eq_true rfl) ?_
  exact W.zret (v := 1) hx hb hr rfl (fun t ht hW => ⟨⟨1, (), rfl, rfl, hq5, hq6, by rw [ht]; exact hP9, va_K.moved hW.alike hK9, hD9⟩, hS.F ht⟩) hS.2.2 dX13_passes_100
def ws_cm_token : List Cond := .code yX13_token cX13_token 4 none :: ([.fieldLink RX13 23 "LevelUnitsModel" "tSort" "[I", .fieldLink RX13 298 "LevelUnitsModel" "tokens" "I", .fieldLink RX13 27 "LevelUnitsModel" "tValue" "[I", .fieldLink RX13 30 "LevelUnitsModel" "tLine" "[I"] ++ wsX130)
theorem in_cm_token_RX13 : ∀ w ∈ wsX130, w ∈ ws_cm_token := fun _ h => List.mem_cons_of_mem _ (List.mem_append_right _ h)
set_option maxHeartbeats 4000000 in
set_option maxRecDepth 100000 in
theorem cm_token (l : Launch) (dC : Nat → ClassId) (dI : Nat → Nat → Nat) (h0 : Nat) (F : Nat → Value) (qts : Nat) (qtv : Nat) (qtl : Nat) (cts : ClassId) (ctv : ClassId) (ctl : ClassId) (fts : Nat → Int32) (ftv : Nat → Int32) (ftl : Nat → Int32) (sz : Nat) (hq8 : F 8 = .int 0) (hq9 : F 9 = .ref qts) (hq10 : F 10 = .ref qtv) (hq11 : F 11 = .ref qtl) : Met l yX13_token ws_cm_token ({ frames := 0, cells := 0, slots := 0, locals := 0 }) (va_Pc [.ref h0, .int 203, .int 0, .int 1] (fun U => U.heap.size = sz ∧ va_P (dC, dI) vwCl [(h0, .inr (15, fl 134 F)), (qts, .inl (cts, 6002, .inl fts)), (qtv, .inl (ctv, 6002, .inl ftv)), (qtl, .inl (ctl, 6002, .inl ftl))] U.heap ∧ va_K (dC, dI) vwCl [(cts, .int), (ctv, .int), (ctl, .int)] U ∧ va_D (fun _ => True) [(h0, .inr (15, fl 134 F)), (qts, .inl (cts, 6002, .inl fts)), (qtv, .inl (ctv, 6002, .inl ftv)), (qtl, .inl (ctl, 6002, .inl ftl))])) (va_Qv (fun _ : Unit => True) (fun _ t => ∃ F_a : Nat → Value, ∃ f_a : Nat → Int32, ∃ f_b : Nat → Int32, ∃ f_c : Nat → Int32, f_a 0 = 203 ∧ f_b 0 = 0 ∧ f_c 0 = 1 ∧ (∀ j : Nat, j ≠ 8 → F_a j = F j) ∧ va_P (dC, dI) vwCl [(h0, .inr (15, fl 134 F_a)), (qts, .inl (cts, 6002, .inl f_a)), (qtv, .inl (ctv, 6002, .inl f_b)), (qtl, .inl (ctl, 6002, .inl f_c))] t.heap ∧ va_K (dC, dI) vwCl [(cts, .int), (ctv, .int), (ctl, .int)] t ∧ va_D (va_A [(h0, .inr (15, fl 134 F)), (qts, .inl (cts, 6002, .inl fts)), (qtv, .inl (ctv, 6002, .inl ftv)), (qtl, .inl (ctl, 6002, .inl ftl))] sz) [(h0, .inr (15, fl 134 F_a)), (qts, .inl (cts, 6002, .inl f_a)), (qtv, .inl (ctv, 6002, .inl f_b)), (qtl, .inl (ctl, 6002, .inl f_c))]) (va_A [(h0, .inr (15, fl 134 F)), (qts, .inl (cts, 6002, .inl fts)), (qtv, .inl (ctv, 6002, .inl ftv)), (qtl, .inl (ctl, 6002, .inl ftl))] sz)) 0 0 (va_A [(h0, .inr (15, fl 134 F)), (qts, .inl (cts, 6002, .inl fts)), (qtv, .inl (ctv, 6002, .inl ftv)), (qtl, .inl (ctl, 6002, .inl ftl))] sz) := by
  refine Met.ofW (cc := cX13_token) (maxL := 4) (ret := none) (by decide) rfl ?_
  intro p e s m args below meth c s₁ B hml hv
  obtain ⟨rfl, hsz, hP, hK, hD0⟩ := hv
  have hx := B.exec
  have hb := B.bytes
  have hr := B.returns
  have hts := atoms_spec (ws := ws_cm_token) B.pre
  have hown : s.vm.findClass RX13 = some m.cls := findClass_of_methodNamed B.named
  have hlocks := B.notSynchronized
  subst hsz
  have hD := hD0.self (sz := s.heap.size)
  generalize hAe : va_A [(h0, .inr (15, fl 134 F)), (qts, .inl (cts, 6002, .inl fts)), (qtv, .inl (ctv, 6002, .inl ftv)), (qtl, .inl (ctl, 6002, .inl ftl))] s.heap.size = A at hD ⊢
  have hA : ∀ q : Nat, s.heap.size ≤ q → A q := fun q h => by rw [← hAe]; exact Or.inr h
  have hS : va_S A s.heap s.heap [] := va_S.rf
  have hP : va_P (dC, dI) vwCl [(h0, .inr (15, fl 134 F)), (qts, .inl (cts, 6002, .inl fts)), (qtv, .inl (ctv, 6002, .inl ftv)), (qtl, .inl (ctl, 6002, .inl ftl))] s.heap := hP
  have hl := lv_entry ([.ref h0, .int 203, .int 0, .int 1]) (n := 4) (Nat.le_of_ble_eq_true rfl)
  rw [lg_entry_eq]
  generalize (lg_sl ([.ref h0, .int 203, .int 0, .int 1]) ++ List.replicate (4 - (lg_sl ([.ref h0, .int 203, .int 0, .int 1])).length) Slot.unset).toArray = ls at hl ⊢
  have hl : lv_has ls 4 [(0, .ref h0), (1, .int 203), (2, .int 0), (3, .int 1)] := hl
  refine lv_aload_n hx hb dX13_token_0 rfl (lv_at hl 0 rfl) ?_
  refine va_get (D := (dC, dI)) (ci := 15) (v := .ref qts) (C := RX13) (T := TX13) (N := 134) hx hb hts in_cm_token_RX13 hown hK hP 0 rfl rfl 9 (by decide) (hts (.fieldLink RX13 23 "LevelUnitsModel" "tSort" "[I") (List.mem_of_getElem? (i := 1) rfl)) (fun _ h9 => h9) (fl_get (by decide) hq9) dX13_token_1 ?_
  refine lv_aload_n hx hb dX13_token_4 rfl (lv_at hl 0 rfl) ?_
  refine va_get (D := (dC, dI)) (ci := 15) (v := .int 0) (C := RX13) (T := TX13) (N := 134) hx hb hts in_cm_token_RX13 hown hK hP 0 rfl rfl 8 (by decide) (hts (.fieldLink RX13 298 "LevelUnitsModel" "tokens" "I") (List.mem_of_getElem? (i := 2) rfl)) (fun _ h9 => h9) (fl_get (by decide) hq8) dX13_token_5 ?_
  refine lv_iload_n hx hb dX13_token_8 rfl (lv_at hl 1 rfl) ?_
  refine va_iast hx hb hK hP hD hS 1 0 rfl rfl (i := 0) (by unfold vp_in; decide) dX13_token_9 (fun H locs hP hD hS => ?_)
  obtain ⟨f_1, ef_1⟩ : ∃ z, z = upd fts (Int32.toNatClampNeg 0) 203 := ⟨_, rfl⟩
  rw [← ef_1] at hP hD
  have hP : va_P (dC, dI) vwCl [(h0, .inr (15, fl 134 F)), (qts, .inl (cts, 6002, .inl f_1)), (qtv, .inl (ctv, 6002, .inl ftv)), (qtl, .inl (ctl, 6002, .inl ftl))] H := hP
  have hD : va_D A [(h0, .inr (15, fl 134 F)), (qts, .inl (cts, 6002, .inl f_1)), (qtv, .inl (ctv, 6002, .inl ftv)), (qtl, .inl (ctl, 6002, .inl ftl))] := hD
  refine lv_aload_n hx hb dX13_token_10 rfl (lv_at hl 0 rfl) ?_
  refine va_get (D := (dC, dI)) (ci := 15) (v := .ref qtv) (C := RX13) (T := TX13) (N := 134) hx hb hts in_cm_token_RX13 hown hK hP 0 rfl rfl 10 (by decide) (hts (.fieldLink RX13 27 "LevelUnitsModel" "tValue" "[I") (List.mem_of_getElem? (i := 3) rfl)) (fun _ h9 => h9) (fl_get (by decide) hq10) dX13_token_11 ?_
  refine lv_aload_n hx hb dX13_token_14 rfl (lv_at hl 0 rfl) ?_
  refine va_get (D := (dC, dI)) (ci := 15) (v := .int 0) (C := RX13) (T := TX13) (N := 134) hx hb hts in_cm_token_RX13 hown hK hP 0 rfl rfl 8 (by decide) (hts (.fieldLink RX13 298 "LevelUnitsModel" "tokens" "I") (List.mem_of_getElem? (i := 2) rfl)) (fun _ h9 => h9) (fl_get (by decide) hq8) dX13_token_15 ?_
  refine lv_iload_n hx hb dX13_token_18 rfl (lv_at hl 2 rfl) ?_
  refine va_iast hx hb hK hP hD hS 2 1 rfl rfl (i := 0) (by unfold vp_in; decide) dX13_token_19 (fun H locs hP hD hS => ?_)
  obtain ⟨f_2, ef_2⟩ : ∃ z, z = upd ftv (Int32.toNatClampNeg 0) 0 := ⟨_, rfl⟩
  rw [← ef_2] at hP hD
  have hP : va_P (dC, dI) vwCl [(h0, .inr (15, fl 134 F)), (qts, .inl (cts, 6002, .inl f_1)), (qtv, .inl (ctv, 6002, .inl f_2)), (qtl, .inl (ctl, 6002, .inl ftl))] H := hP
  have hD : va_D A [(h0, .inr (15, fl 134 F)), (qts, .inl (cts, 6002, .inl f_1)), (qtv, .inl (ctv, 6002, .inl f_2)), (qtl, .inl (ctl, 6002, .inl ftl))] := hD
  refine lv_aload_n hx hb dX13_token_20 rfl (lv_at hl 0 rfl) ?_
  refine va_get (D := (dC, dI)) (ci := 15) (v := .ref qtl) (C := RX13) (T := TX13) (N := 134) hx hb hts in_cm_token_RX13 hown hK hP 0 rfl rfl 11 (by decide) (hts (.fieldLink RX13 30 "LevelUnitsModel" "tLine" "[I") (List.mem_of_getElem? (i := 4) rfl)) (fun _ h9 => h9) (fl_get (by decide) hq11) dX13_token_21 ?_
  refine lv_aload_n hx hb dX13_token_24 rfl (lv_at hl 0 rfl) ?_
  refine va_get (D := (dC, dI)) (ci := 15) (v := .int 0) (C := RX13) (T := TX13) (N := 134) hx hb hts in_cm_token_RX13 hown hK hP 0 rfl rfl 8 (by decide) (hts (.fieldLink RX13 298 "LevelUnitsModel" "tokens" "I") (List.mem_of_getElem? (i := 2) rfl)) (fun _ h9 => h9) (fl_get (by decide) hq8) dX13_token_25 ?_
  refine lv_iload_n hx hb dX13_token_28 rfl (lv_at hl 3 rfl) ?_
  refine va_iast hx hb hK hP hD hS 3 2 rfl rfl (i := 0) (by unfold vp_in; decide) dX13_token_29 (fun H locs hP hD hS => ?_)
  obtain ⟨f_3, ef_3⟩ : ∃ z, z = upd ftl (Int32.toNatClampNeg 0) 1 := ⟨_, rfl⟩
  rw [← ef_3] at hP hD
  have hP : va_P (dC, dI) vwCl [(h0, .inr (15, fl 134 F)), (qts, .inl (cts, 6002, .inl f_1)), (qtv, .inl (ctv, 6002, .inl f_2)), (qtl, .inl (ctl, 6002, .inl f_3))] H := hP
  have hD : va_D A [(h0, .inr (15, fl 134 F)), (qts, .inl (cts, 6002, .inl f_1)), (qtv, .inl (ctv, 6002, .inl f_2)), (qtl, .inl (ctl, 6002, .inl f_3))] := hD
  refine lv_aload_n hx hb dX13_token_30 rfl (lv_at hl 0 rfl) ?_
  refine lv_dup hx hb dX13_token_31 rfl ?_
  refine va_get (D := (dC, dI)) (ci := 15) (v := .int 0) (C := RX13) (T := TX13) (N := 134) hx hb hts in_cm_token_RX13 hown hK hP 0 rfl rfl 8 (by decide) (hts (.fieldLink RX13 298 "LevelUnitsModel" "tokens" "I") (List.mem_of_getElem? (i := 2) rfl)) (fun _ h9 => h9) (fl_get (by decide) hq8) dX13_token_32 ?_
  refine lv_iconst (v := 1) hx hb dX13_token_35 (by decide) ?_
  refine lv_iadd hx hb dX13_token_36 ?_
  refine lv_topi (fun y9 e9 => ?_)
  have e9 : y9 = 1 := by rw [e9]; decide
  subst e9
  refine va_put (D := (dC, dI)) (ci := 15) (v := .int 1) (ty := .int) (C := RX13) (T := TX13) (N := 134) hx hb hts in_cm_token_RX13 tyX13 tyX13_ok nmX13 hown hK hP hD hS 0 rfl rfl 8 (by decide) (hts (.fieldLink RX13 298 "LevelUnitsModel" "tokens" "I") (List.mem_of_getElem? (i := 2) rfl)) (fun _ h9 => h9) rfl (by decide +kernel) rfl rfl (fl_lt (by decide)) dX13_token_37 (fun H locs hP hD hS => ?_)
  obtain ⟨F_4, eF_4⟩ : ∃ z, z = fu F 8 (.int 1) := ⟨_, rfl⟩
  have hP : va_P (dC, dI) vwCl [(h0, .inr (15, fl 134 F_4)), (qts, .inl (cts, 6002, .inl f_1)), (qtv, .inl (ctv, 6002, .inl f_2)), (qtl, .inl (ctl, 6002, .inl f_3))] H := by rw [eF_4, ← fl_set (n := 134) (k := 8) (by decide)]; exact hP
  have hD : va_D A [(h0, .inr (15, fl 134 F_4)), (qts, .inl (cts, 6002, .inl f_1)), (qtv, .inl (ctv, 6002, .inl f_2)), (qtl, .inl (ctl, 6002, .inl f_3))] := by rw [eF_4, ← fl_set (n := 134) (k := 8) (by decide)]; exact hD
  have hfr_5 : ∀ j : Nat, j ≠ 8 → F_4 j = F j := fun j hj => (fu_out eF_4 (by omega))
  have hk_6 : F_4 9 = .ref qts := (fu_ne eF_4 (by decide) hq9)
  have hk_7 : F_4 10 = .ref qtv := (fu_ne eF_4 (by decide) hq10)
  have hk_8 : F_4 11 = .ref qtl := (fu_ne eF_4 (by decide) hq11)
  have hk_9 : F_4 8 = .int 1 := (fu_eq eF_4)
  have hP9 := hP.sub (ws' := [(h0, .inr (15, fl 134 F_4)), (qts, .inl (cts, 6002, .inl f_1)), (qtv, .inl (ctv, 6002, .inl f_2)), (qtl, .inl (ctl, 6002, .inl f_3))]) [0, 1, 2, 3] rfl
  have hD9 := hD.sub (ws' := [(h0, .inr (15, fl 134 F_4)), (qts, .inl (cts, 6002, .inl f_1)), (qtv, .inl (ctv, 6002, .inl f_2)), (qtl, .inl (ctl, 6002, .inl f_3))]) [0, 1, 2, 3] (by decide) rfl
  have hK9 := hK.sub (tys' := [(cts, .int), (ctv, .int), (ctl, .int)]) [0, 1, 2] rfl
  refine W.widen (k := 0) (n := 0) (Nat.le_of_ble_eq_true rfl) (Nat.le_of_ble_eq_true rfl) ?_
  exact W.vret hx hb hr (fun t ht hW => ⟨⟨(), rfl, trivial, F_4, f_1, f_2, f_3, (up_eq ef_1 (by decide)), (up_eq ef_2 (by decide)), (up_eq ef_3 (by decide)), hfr_5, by rw [ht]; exact hP9, va_K.moved hW.alike hK9, hD9⟩, hS.F ht⟩) hS.2.2 dX13_token_40
def ws_cm_cut : List Cond := .code yX13_cut cX13_cut 2 none :: ([.fieldLink RX13 276 "LevelUnitsModel" "names" "I", .fieldLink RX13 279 "LevelUnitsModel" "lettered" "I", .fieldLink RJ0 9 "java/lang/String" "value" "[B", .fieldLink RJ0 38 "java/lang/String" "COMPACT_STRINGS" "Z", .fieldLink RJ0 15 "java/lang/String" "coder" "B", .code yJ0_coder_7d493 cJ0_coder_7d493 1 (some .byte), .methodLink RJ0 335 yJ0_coder_7d493, .instanceMethod yJ0_coder_7d493, .selects RJ0 yJ0_coder_7d493 yJ0_coder_7d493, .initialized RJ0, .code yJ0_length_8abf5 cJ0_length_8abf5 1 (some .int), .methodLink RX13 284 yJ0_length_8abf5, .instanceMethod yJ0_length_8abf5, .selects RJ0 yJ0_length_8abf5 yJ0_length_8abf5, .code yJ0_isLatin1_aae02 cJ0_isLatin1_aae02 1 (some .boolean), .methodLink RJ0 492 yJ0_isLatin1_aae02, .instanceMethod yJ0_isLatin1_aae02, .selects RJ0 yJ0_isLatin1_aae02 yJ0_isLatin1_aae02, .fieldLink RJ0 1053 "jdk/internal/util/Preconditions" "SIOOBE_FORMATTER" "Ljava/util/function/BiFunction;", .code yJ3_checkIndex_8e157 cJ3_checkIndex_8e157 3 (some .int), .methodLink RJ0 1059 yJ3_checkIndex_8e157, .static yJ3_checkIndex_8e157, .initialized RJ3, .code yJ0_checkIndex_df160 cJ0_checkIndex_df160 2 none, .methodLink RJ1 9 yJ0_checkIndex_df160, .static yJ0_checkIndex_df160, .code yJ1_charAt_3b067 cJ1_charAt_3b067 2 (some .char), .methodLink RJ0 495 yJ1_charAt_3b067, .static yJ1_charAt_3b067, .initialized RJ1, .code yJ0_charAt_5068e cJ0_charAt_5068e 2 (some .char), .methodLink RX13 290 yJ0_charAt_5068e, .instanceMethod yJ0_charAt_5068e, .selects RJ0 yJ0_charAt_5068e yJ0_charAt_5068e, .fieldLink RX13 39 "LevelUnitsModel" "letters" "[B", .fieldLink RX13 33 "LevelUnitsModel" "nameFrom" "[I", .fieldLink RX13 36 "LevelUnitsModel" "nameSize" "[I", .code yX13_nameOf cX13_nameOf 5 (some .int), .methodLink RX13 294 yX13_nameOf, .instanceMethod yX13_nameOf, .selects RX13 yX13_nameOf yX13_nameOf, .initialized RX13, .code yX13_knowWords cX13_knowWords 4 none, .methodLink RX13 314 yX13_knowWords, .instanceMethod yX13_knowWords, .selects RX13 yX13_knowWords yX13_knowWords, .fieldLink RX13 298 "LevelUnitsModel" "tokens" "I", .fieldLink RX13 301 "LevelUnitsModel" "scan" "I", .fieldLink RX13 307 "LevelUnitsModel" "row" "I", .fieldLink RX13 262 "LevelUnitsModel" "size" "I", .code yX13_see cX13_see 2 (some .int), .methodLink RX13 304 yX13_see, .instanceMethod yX13_see, .selects RX13 yX13_see yX13_see, .code yX13_passes cX13_passes 2 (some .boolean), .methodLink RX13 317 yX13_passes, .instanceMethod yX13_passes, .selects RX13 yX13_passes yX13_passes, .fieldLink RX13 23 "LevelUnitsModel" "tSort" "[I", .fieldLink RX13 27 "LevelUnitsModel" "tValue" "[I", .fieldLink RX13 30 "LevelUnitsModel" "tLine" "[I", .code yX13_token cX13_token 4 none, .methodLink RX13 320 yX13_token, .instanceMethod yX13_token, .selects RX13 yX13_token yX13_token] ++ wsX130)
theorem in_cm_cut_RX13 : ∀ w ∈ wsX130, w ∈ ws_cm_cut := fun _ h => List.mem_cons_of_mem _ (List.mem_append_right _ h)
theorem g0_cm_cut_cm_knowWords_314 : GoodIn ws_cm_cut ws_cm_knowWords := goodIn_r _ [43, 1, 2, 3, 4, 5, 6, 7, 8, 9, 10, 11, 12, 13, 14, 15, 16, 17, 18, 19, 20, 21, 22, 23, 24, 25, 26, 27, 28, 29, 30, 31, 32, 33, 34, 35, 36, 37, 38, 39, 40, 41, 42, 66, 67, 68, 69, 70, 71, 72, 73, 74, 75, 76, 77, 78, 79, 80, 81, 82, 83, 84, 85, 86, 87, 88, 89, 90, 91, 92, 93, 94, 95, 96, 97, 98, 99, 100, 101, 102, 103, 104, 105, 106, 107, 108, 109, 110, 111, 112, 113, 114, 115, 116, 117, 118, 119, 120, 121, 122, 123, 124, 125, 126, 127, 128, 129, 130, 131, 132, 133, 134, 135, 136, 137, 138, 139, 140, 141, 142, 143, 144, 145, 146, 147, 148, 149, 150, 151, 152, 153, 154, 155, 156, 157, 158, 159, 160, 161, 162, 163, 164, 165, 166, 167, 168, 169, 170, 171, 172, 173, 174, 175, 176, 177, 178, 179, 180, 181, 182, 183, 184, 185, 186, 187, 188, 189, 190, 191, 192, 193, 194, 195, 196, 197, 198, 199] (by decide +kernel) (by decide +kernel)
theorem gg_cm_cut_cm_knowWords_314 : GoodIn ws_cm_cut (wsV RX13 314 RX13 yX13_knowWords ws_cm_knowWords) := goodIn_app (goodIn_of _ (by decide +kernel)) g0_cm_cut_cm_knowWords_314
theorem g0_cm_cut_cm_passes_317 : GoodIn ws_cm_cut ws_cm_passes := goodIn_r _ [55, 48, 50, 51, 52, 53, 54, 42, 66, 67, 68, 69, 70, 71, 72, 73, 74, 75, 76, 77, 78, 79, 80, 81, 82, 83, 84, 85, 86, 87, 88, 89, 90, 91, 92, 93, 94, 95, 96, 97, 98, 99, 100, 101, 102, 103, 104, 105, 106, 107, 108, 109, 110, 111, 112, 113, 114, 115, 116, 117, 118, 119, 120, 121, 122, 123, 124, 125, 126, 127, 128, 129, 130, 131, 132, 133, 134, 135, 136, 137, 138, 139, 140, 141, 142, 143, 144, 145, 146, 147, 148, 149, 150, 151, 152, 153, 154, 155, 156, 157, 158, 159, 160, 161, 162, 163, 164, 165, 166, 167, 168, 169, 170, 171, 172, 173, 174, 175, 176, 177, 178, 179, 180, 181, 182, 183, 184, 185, 186, 187, 188, 189, 190, 191, 192, 193, 194, 195, 196, 197, 198, 199] (by decide +kernel) (by decide +kernel)
theorem gg_cm_cut_cm_passes_317 : GoodIn ws_cm_cut (wsV RX13 317 RX13 yX13_passes ws_cm_passes) := goodIn_app (goodIn_of _ (by decide +kernel)) g0_cm_cut_cm_passes_317
theorem g0_cm_cut_cm_token_320 : GoodIn ws_cm_cut ws_cm_token := goodIn_r _ [62, 59, 47, 60, 61, 66, 67, 68, 69, 70, 71, 72, 73, 74, 75, 76, 77, 78, 79, 80, 81, 82, 83, 84, 85, 86, 87, 88, 89, 90, 91, 92, 93, 94, 95, 96, 97, 98, 99, 100, 101, 102, 103, 104, 105, 106, 107, 108, 109, 110, 111, 112, 113, 114, 115, 116, 117, 118, 119, 120, 121, 122, 123, 124, 125, 126, 127, 128, 129, 130, 131, 132, 133, 134, 135, 136, 137, 138, 139, 140, 141, 142, 143, 144, 145, 146, 147, 148, 149, 150, 151, 152, 153, 154, 155, 156, 157, 158, 159, 160, 161, 162, 163, 164, 165, 166, 167, 168, 169, 170, 171, 172, 173, 174, 175, 176, 177, 178, 179, 180, 181, 182, 183, 184, 185, 186, 187, 188, 189, 190, 191, 192, 193, 194, 195, 196, 197, 198, 199] (by decide +kernel) (by decide +kernel)
theorem gg_cm_cut_cm_token_320 : GoodIn ws_cm_cut (wsV RX13 320 RX13 yX13_token ws_cm_token) := goodIn_app (goodIn_of _ (by decide +kernel)) g0_cm_cut_cm_token_320
set_option maxHeartbeats 4000000 in
set_option maxRecDepth 100000 in
theorem cm_cut (l : Launch) (dC : Nat → ClassId) (dI : Nat → Nat → Nat) (h0 : Nat) (F : Nat → Value) (qf : Nat) (qs : Nat) (ql : Nat) (cqf : ClassId) (cqs : ClassId) (cql : ClassId) (fqf : Nat → Int32) (fqs : Nat → Int32) (fql : Nat → Int32) (qts : Nat) (qtv : Nat) (qtl : Nat) (cts : ClassId) (ctv : ClassId) (ctl : ClassId) (fts : Nat → Int32) (ftv : Nat → Int32) (ftl : Nat → Int32) (q : Nat) (v : Nat) (f : Nat → Int32) (sz : Nat) (hq5 : F 5 = .int 0) (hq13 : F 13 = .ref qf) (hq14 : F 14 = .ref qs) (hq15 : F 15 = .ref ql) (hq9 : F 9 = .ref qts) (hq10 : F 10 = .ref qtv) (hq11 : F 11 = .ref qtl) : Met l yX13_cut ws_cm_cut ({ frames := 5, cells := 0, slots := 0, locals := 108 }) (va_Pc [.ref h0] (fun U => U.heap.size = sz ∧ va_P (dC, dI) vwCl [(h0, .inr (15, fl 134 F)), (qf, .inl (cqf, 6000, .inl fqf)), (qs, .inl (cqs, 6000, .inl fqs)), (ql, .inl (cql, 6600, .inl fql)), (qts, .inl (cts, 6002, .inl fts)), (qtv, .inl (ctv, 6002, .inl ftv)), (qtl, .inl (ctl, 6002, .inl ftl))] U.heap ∧ va_K (dC, dI) vwCl [(cqf, .int), (cqs, .int), (cql, .byte), (cts, .int), (ctv, .int), (ctl, .int)] U ∧ va_D (fun _ => True) [(h0, .inr (15, fl 134 F)), (qf, .inl (cqf, 6000, .inl fqf)), (qs, .inl (cqs, 6000, .inl fqs)), (ql, .inl (cql, 6600, .inl fql)), (qts, .inl (cts, 6002, .inl fts)), (qtv, .inl (ctv, 6002, .inl ftv)), (qtl, .inl (ctl, 6002, .inl ftl))] ∧ vk_R RX13 282 kwT q U ∧ ks q v 345 f (va_A [(h0, .inr (15, fl 134 F)), (qf, .inl (cqf, 6000, .inl fqf)), (qs, .inl (cqs, 6000, .inl fqs)), (ql, .inl (cql, 6600, .inl fql)), (qts, .inl (cts, 6002, .inl fts)), (qtv, .inl (ctv, 6002, .inl ftv)), (qtl, .inl (ctl, 6002, .inl ftl))] sz) U U.heap ∧ va_Z "java/lang/String" "COMPACT_STRINGS" "Z" (.int 1) (va_A [(h0, .inr (15, fl 134 F)), (qf, .inl (cqf, 6000, .inl fqf)), (qs, .inl (cqs, 6000, .inl fqs)), (ql, .inl (cql, 6600, .inl fql)), (qts, .inl (cts, 6002, .inl fts)), (qtv, .inl (ctv, 6002, .inl ftv)), (qtl, .inl (ctl, 6002, .inl ftl))] sz) U U.heap ∧ va_Zq "jdk/internal/util/Preconditions" "SIOOBE_FORMATTER" "Ljava/util/function/BiFunction;" (va_A [(h0, .inr (15, fl 134 F)), (qf, .inl (cqf, 6000, .inl fqf)), (qs, .inl (cqs, 6000, .inl fqs)), (ql, .inl (cql, 6600, .inl fql)), (qts, .inl (cts, 6002, .inl fts)), (qtv, .inl (ctv, 6002, .inl ftv)), (qtl, .inl (ctl, 6002, .inl ftl))] sz) U U.heap)) (va_Qv (fun _ : Unit => True) (fun _ t => ∃ f_a : Nat → Int32, ∃ f_b : Nat → Int32, ∃ f_c : Nat → Int32, ∃ F_a : Nat → Value, ∃ f_d : Nat → Int32, ∃ f_e : Nat → Int32, ∃ f_f : Nat → Int32, f_d 0 = 203 ∧ f_e 0 = 0 ∧ f_f 0 = 1 ∧ (∀ j : Nat, j ≠ 6 ∧ j ≠ 7 ∧ j ≠ 8 ∧ j ≠ 12 ∧ j ≠ 16 → F_a j = F j) ∧ va_P (dC, dI) vwCl [(qf, .inl (cqf, 6000, .inl f_a)), (qs, .inl (cqs, 6000, .inl f_b)), (ql, .inl (cql, 6600, .inl f_c)), (h0, .inr (15, fl 134 F_a)), (qts, .inl (cts, 6002, .inl f_d)), (qtv, .inl (ctv, 6002, .inl f_e)), (qtl, .inl (ctl, 6002, .inl f_f))] t.heap ∧ va_K (dC, dI) vwCl [(cqf, .int), (cqs, .int), (cql, .byte), (cts, .int), (ctv, .int), (ctl, .int)] t ∧ va_D (va_A [(h0, .inr (15, fl 134 F)), (qf, .inl (cqf, 6000, .inl fqf)), (qs, .inl (cqs, 6000, .inl fqs)), (ql, .inl (cql, 6600, .inl fql)), (qts, .inl (cts, 6002, .inl fts)), (qtv, .inl (ctv, 6002, .inl ftv)), (qtl, .inl (ctl, 6002, .inl ftl))] sz) [(qf, .inl (cqf, 6000, .inl f_a)), (qs, .inl (cqs, 6000, .inl f_b)), (ql, .inl (cql, 6600, .inl f_c)), (h0, .inr (15, fl 134 F_a)), (qts, .inl (cts, 6002, .inl f_d)), (qtv, .inl (ctv, 6002, .inl f_e)), (qtl, .inl (ctl, 6002, .inl f_f))]) (va_A [(h0, .inr (15, fl 134 F)), (qf, .inl (cqf, 6000, .inl fqf)), (qs, .inl (cqs, 6000, .inl fqs)), (ql, .inl (cql, 6600, .inl fql)), (qts, .inl (cts, 6002, .inl fts)), (qtv, .inl (ctv, 6002, .inl ftv)), (qtl, .inl (ctl, 6002, .inl ftl))] sz)) 0 0 (va_A [(h0, .inr (15, fl 134 F)), (qf, .inl (cqf, 6000, .inl fqf)), (qs, .inl (cqs, 6000, .inl fqs)), (ql, .inl (cql, 6600, .inl fql)), (qts, .inl (cts, 6002, .inl fts)), (qtv, .inl (ctv, 6002, .inl ftv)), (qtl, .inl (ctl, 6002, .inl ftl))] sz) := by
  refine Met.ofW (cc := cX13_cut) (maxL := 2) (ret := none) (by decide) rfl ?_
  intro p e s m args below meth c s₁ B hml hv
  obtain ⟨rfl, hsz, hP, hK, hD0, hN0, hN1, hN2, hN3⟩ := hv
  have hx := B.exec
  have hb := B.bytes
  have hr := B.returns
  have hts := atoms_spec (ws := ws_cm_cut) B.pre
  have hown : s.vm.findClass RX13 = some m.cls := findClass_of_methodNamed B.named
  have hlocks := B.notSynchronized
  subst hsz
  have hD := hD0.self (sz := s.heap.size)
  generalize hAe : va_A [(h0, .inr (15, fl 134 F)), (qf, .inl (cqf, 6000, .inl fqf)), (qs, .inl (cqs, 6000, .inl fqs)), (ql, .inl (cql, 6600, .inl fql)), (qts, .inl (cts, 6002, .inl fts)), (qtv, .inl (ctv, 6002, .inl ftv)), (qtl, .inl (ctl, 6002, .inl ftl))] s.heap.size = A at hD hN1 hN2 hN3 ⊢
  have hA : ∀ q : Nat, s.heap.size ≤ q → A q := fun q h => by rw [← hAe]; exact Or.inr h
  have hS : va_S A s.heap s.heap [] := va_S.rf
  have hP : va_P (dC, dI) vwCl [(h0, .inr (15, fl 134 F)), (qf, .inl (cqf, 6000, .inl fqf)), (qs, .inl (cqs, 6000, .inl fqs)), (ql, .inl (cql, 6600, .inl fql)), (qts, .inl (cts, 6002, .inl fts)), (qtv, .inl (ctv, 6002, .inl ftv)), (qtl, .inl (ctl, 6002, .inl ftl))] s.heap := hP
  have hl := lv_entry ([.ref h0]) (n := 2) (Nat.le_of_ble_eq_true rfl)
  rw [lg_entry_eq]
  generalize (lg_sl ([.ref h0]) ++ List.replicate (2 - (lg_sl ([.ref h0])).length) Slot.unset).toArray = ls at hl ⊢
  have hl : lv_has ls 2 [(0, .ref h0)] := hl
  refine lv_aload_n hx hb dX13_cut_0 rfl (lv_at hl 0 rfl) ?_
  have hPc := hP.sub (ws' := [(h0, .inr (15, fl 134 F)), (qf, .inl (cqf, 6000, .inl fqf)), (qs, .inl (cqs, 6000, .inl fqs)), (ql, .inl (cql, 6600, .inl fql))]) [0, 1, 2, 3] rfl
  have hDc := hD.sub (ws' := [(h0, .inr (15, fl 134 F)), (qf, .inl (cqf, 6000, .inl fqf)), (qs, .inl (cqs, 6000, .inl fqs)), (ql, .inl (cql, 6600, .inl fql))]) [0, 1, 2, 3] (by decide) rfl
  have hKc := hK.sub (tys' := [(cqf, .int), (cqs, .int), (cql, .byte)]) [0, 1, 2] rfl
  have hFc := va_free (wc := [(h0, .inr (15, fl 134 F)), (qf, .inl (cqf, 6000, .inl fqf)), (qs, .inl (cqs, 6000, .inl fqs)), (ql, .inl (cql, 6600, .inl fql))]) hD hS hA [0, 1, 2, 3] rfl
  refine va_callv (va_runV (As := []) (rest := []) ⟨hx, hb, hml, hown, hts⟩ (cm_knowWords l dC dI h0 F qf qs ql cqf cqs cql fqf fqs fql q v f s.heap.size hq13 hq14 hq15) (cwV 0 hts gg_cm_cut_cm_knowWords_314 rfl rfl rfl (by decide +kernel) ⟨(Nat.le_of_ble_eq_true rfl), (Nat.le_of_ble_eq_true rfl)⟩) ⟨fun a U g mk q => by obtain ⟨q0, q1, qP, qK, qD, qN0, qN1, qN2, qN3⟩ := q; exact ⟨q0, q1, qP, va_K.moved (u := U) (U := U.calling g mk a) (Vm.Alike.refl U.vm) qK, qD, vk_R.same (u := U) (U := U.calling g mk a) rfl qN0, ks.moved (u := U) (U := U.calling g mk a) (Vm.Alike.refl U.vm) qN1, va_Z.moved (u := U) (U := U.calling g mk a) (Vm.Alike.refl U.vm) qN2, va_Zq.moved (u := U) (U := U.calling g mk a) (Vm.Alike.refl U.vm) qN3⟩, va_recv hKc hPc (ci := 15) (q0 := 0) rfl rfl, fun U hU hW => ⟨rfl, by rw [hU], by rw [hU]; exact hPc, va_K.moved hW.alike hKc, hDc.weaken (fun _ _ _ _ => trivial), vk_R.warm hW hN0, (by rw [hU]; exact ks.moved hW.alike ((hN1.kept (fun a h1 h2 => hS.2.1 a h1 h2)).narrow hFc)), (by rw [hU]; exact va_Z.moved hW.alike ((hN2.kept (fun a h1 h2 => hS.2.1 a h1 h2)).narrow hFc)), (by rw [hU]; exact va_Zq.moved hW.alike ((hN3.kept (fun a h1 h2 => hS.2.1 a h1 h2)).narrow hFc))⟩⟩ rfl rfl hl.1 rfl (lv_room (Nat.le_of_ble_eq_true rfl)) dX13_cut_1 ⟨(Nat.le_of_ble_eq_true rfl), (Nat.le_of_ble_eq_true rfl)⟩) hS (fun q _ h => hFc q h) hFc (fun u t H1 locs ht hvm hw hB hz1 hk1 hS => ?_)
  obtain ⟨F_1, f_2, f_3, f_4, hx_5, hP1, hK1, hD1⟩ := hB
  rw [ht] at hP1
  have hK1 := va_K.moved hvm.symm hK1
  have hfr_6 : ∀ j : Nat, j ≠ 12 ∧ j ≠ 16 → F_1 j = F j := fun j hj => (hx_5 j (by omega))
  have hk_7 : F_1 5 = .int 0 := ((hx_5 5 (by omega)).trans hq5)
  have hk_8 : F_1 13 = .ref qf := ((hx_5 13 (by omega)).trans hq13)
  have hk_9 : F_1 14 = .ref qs := ((hx_5 14 (by omega)).trans hq14)
  have hk_10 : F_1 15 = .ref ql := ((hx_5 15 (by omega)).trans hq15)
  have hk_11 : F_1 9 = .ref qts := ((hx_5 9 (by omega)).trans hq9)
  have hk_12 : F_1 10 = .ref qtv := ((hx_5 10 (by omega)).trans hq10)
  have hk_13 : F_1 11 = .ref qtl := ((hx_5 11 (by omega)).trans hq11)
  obtain ⟨hP, hD⟩ := va_join (wr := [(qts, .inl (cts, 6002, .inl fts)), (qtv, .inl (ctv, 6002, .inl ftv)), (qtl, .inl (ctl, 6002, .inl ftl))]) (w1 := [(h0, .inr (15, fl 134 F_1)), (qf, .inl (cqf, 6000, .inl f_2)), (qs, .inl (cqs, 6000, .inl f_3)), (ql, .inl (cql, 6600, .inl f_4))]) hP hD [0, 1, 2, 3] [4, 5, 6] rfl rfl (by decide) (by decide) hk1 hFc hP1 hD1
  have hK := (hK.sub (tys' := [(cts, .int), (ctv, .int), (ctl, .int)]) [3, 4, 5] rfl).app hK1
  generalize H1 = H at hP hS ⊢
  have hK : va_K (dC, dI) vwCl [(cts, .int), (ctv, .int), (ctl, .int), (cqf, .int), (cqs, .int), (cql, .byte)] s := hK
  have hP : va_P (dC, dI) vwCl [(qts, .inl (cts, 6002, .inl fts)), (qtv, .inl (ctv, 6002, .inl ftv)), (qtl, .inl (ctl, 6002, .inl ftl)), (h0, .inr (15, fl 134 F_1)), (qf, .inl (cqf, 6000, .inl f_2)), (qs, .inl (cqs, 6000, .inl f_3)), (ql, .inl (cql, 6600, .inl f_4))] H := hP
  have hD : va_D A [(qts, .inl (cts, 6002, .inl fts)), (qtv, .inl (ctv, 6002, .inl ftv)), (qtl, .inl (ctl, 6002, .inl ftl)), (h0, .inr (15, fl 134 F_1)), (qf, .inl (cqf, 6000, .inl f_2)), (qs, .inl (cqs, 6000, .inl f_3)), (ql, .inl (cql, 6600, .inl f_4))] := hD
  refine W.widen (k := 0) (n := 0) (Nat.le_of_ble_eq_true rfl) (Nat.le_of_ble_eq_true rfl) ?_
  refine lv_aload_n hx hb dX13_cut_4 rfl (lv_at hl 0 rfl) ?_
  refine lv_iconst (v := 0) hx hb dX13_cut_5 (by decide) ?_
  refine va_put (D := (dC, dI)) (ci := 15) (v := .int 0) (ty := .int) (C := RX13) (T := TX13) (N := 134) hx hb hts in_cm_cut_RX13 tyX13 tyX13_ok nmX13 hown hK hP hD hS 3 rfl rfl 8 (by decide) (hts (.fieldLink RX13 298 "LevelUnitsModel" "tokens" "I") (List.mem_of_getElem? (i := 47) rfl)) (fun _ h9 => h9) rfl (by decide +kernel) rfl rfl (fl_lt (by decide)) dX13_cut_6 (fun H locs hP hD hS => ?_)
  obtain ⟨F_14, eF_14⟩ : ∃ z, z = fu F_1 8 (.int 0) := ⟨_, rfl⟩
  have hP : va_P (dC, dI) vwCl [(qts, .inl (cts, 6002, .inl fts)), (qtv, .inl (ctv, 6002, .inl ftv)), (qtl, .inl (ctl, 6002, .inl ftl)), (h0, .inr (15, fl 134 F_14)), (qf, .inl (cqf, 6000, .inl f_2)), (qs, .inl (cqs, 6000, .inl f_3)), (ql, .inl (cql, 6600, .inl f_4))] H := by rw [eF_14, ← fl_set (n := 134) (k := 8) (by decide)]; exact hP
  have hD : va_D A [(qts, .inl (cts, 6002, .inl fts)), (qtv, .inl (ctv, 6002, .inl ftv)), (qtl, .inl (ctl, 6002, .inl ftl)), (h0, .inr (15, fl 134 F_14)), (qf, .inl (cqf, 6000, .inl f_2)), (qs, .inl (cqs, 6000, .inl f_3)), (ql, .inl (cql, 6600, .inl f_4))] := by rw [eF_14, ← fl_set (n := 134) (k := 8) (by decide)]; exact hD
  have hfr_15 : ∀ j : Nat, j ≠ 8 ∧ j ≠ 12 ∧ j ≠ 16 → F_14 j = F j := fun j hj => (fu_out eF_14 (by omega)).trans (hfr_6 j (by omega))
  have hk_16 : F_14 5 = .int 0 := (fu_ne eF_14 (by decide) hk_7)
  have hk_17 : F_14 13 = .ref qf := (fu_ne eF_14 (by decide) hk_8)
  have hk_18 : F_14 14 = .ref qs := (fu_ne eF_14 (by decide) hk_9)
  have hk_19 : F_14 15 = .ref ql := (fu_ne eF_14 (by decide) hk_10)
  have hk_20 : F_14 9 = .ref qts := (fu_ne eF_14 (by decide) hk_11)
  have hk_21 : F_14 10 = .ref qtv := (fu_ne eF_14 (by decide) hk_12)
  have hk_22 : F_14 11 = .ref qtl := (fu_ne eF_14 (by decide) hk_13)
  have hk_23 : F_14 8 = .int 0 := (fu_eq eF_14)
  refine lv_aload_n hx hb dX13_cut_9 rfl (lv_at hl 0 rfl) ?_
  refine lv_iconst (v := 0) hx hb dX13_cut_10 (by decide) ?_
  refine va_put (D := (dC, dI)) (ci := 15) (v := .int 0) (ty := .int) (C := RX13) (T := TX13) (N := 134) hx hb hts in_cm_cut_RX13 tyX13 tyX13_ok nmX13 hown hK hP hD hS 3 rfl rfl 6 (by decide) (hts (.fieldLink RX13 301 "LevelUnitsModel" "scan" "I") (List.mem_of_getElem? (i := 48) rfl)) (fun _ h9 => h9) rfl (by decide +kernel) rfl rfl (fl_lt (by decide)) dX13_cut_11 (fun H locs hP hD hS => ?_)
  obtain ⟨F_24, eF_24⟩ : ∃ z, z = fu F_14 6 (.int 0) := ⟨_, rfl⟩
  have hP : va_P (dC, dI) vwCl [(qts, .inl (cts, 6002, .inl fts)), (qtv, .inl (ctv, 6002, .inl ftv)), (qtl, .inl (ctl, 6002, .inl ftl)), (h0, .inr (15, fl 134 F_24)), (qf, .inl (cqf, 6000, .inl f_2)), (qs, .inl (cqs, 6000, .inl f_3)), (ql, .inl (cql, 6600, .inl f_4))] H := by rw [eF_24, ← fl_set (n := 134) (k := 6) (by decide)]; exact hP
  have hD : va_D A [(qts, .inl (cts, 6002, .inl fts)), (qtv, .inl (ctv, 6002, .inl ftv)), (qtl, .inl (ctl, 6002, .inl ftl)), (h0, .inr (15, fl 134 F_24)), (qf, .inl (cqf, 6000, .inl f_2)), (qs, .inl (cqs, 6000, .inl f_3)), (ql, .inl (cql, 6600, .inl f_4))] := by rw [eF_24, ← fl_set (n := 134) (k := 6) (by decide)]; exact hD
  have hfr_25 : ∀ j : Nat, j ≠ 6 ∧ j ≠ 8 ∧ j ≠ 12 ∧ j ≠ 16 → F_24 j = F j := fun j hj => (fu_out eF_24 (by omega)).trans (hfr_15 j (by omega))
  have hk_26 : F_24 5 = .int 0 := (fu_ne eF_24 (by decide) hk_16)
  have hk_27 : F_24 13 = .ref qf := (fu_ne eF_24 (by decide) hk_17)
  have hk_28 : F_24 14 = .ref qs := (fu_ne eF_24 (by decide) hk_18)
  have hk_29 : F_24 15 = .ref ql := (fu_ne eF_24 (by decide) hk_19)
  have hk_30 : F_24 9 = .ref qts := (fu_ne eF_24 (by decide) hk_20)
  have hk_31 : F_24 10 = .ref qtv := (fu_ne eF_24 (by decide) hk_21)
  have hk_32 : F_24 11 = .ref qtl := (fu_ne eF_24 (by decide) hk_22)
  have hk_33 : F_24 8 = .int 0 := (fu_ne eF_24 (by decide) hk_23)
  have hk_34 : F_24 6 = .int 0 := (fu_eq eF_24)
  refine lv_aload_n hx hb dX13_cut_14 rfl (lv_at hl 0 rfl) ?_
  refine lv_iconst (v := 1) hx hb dX13_cut_15 (by decide) ?_
  refine va_put (D := (dC, dI)) (ci := 15) (v := .int 1) (ty := .int) (C := RX13) (T := TX13) (N := 134) hx hb hts in_cm_cut_RX13 tyX13 tyX13_ok nmX13 hown hK hP hD hS 3 rfl rfl 7 (by decide) (hts (.fieldLink RX13 307 "LevelUnitsModel" "row" "I") (List.mem_of_getElem? (i := 49) rfl)) (fun _ h9 => h9) rfl (by decide +kernel) rfl rfl (fl_lt (by decide)) dX13_cut_16 (fun H locs hP hD hS => ?_)
  obtain ⟨F_35, eF_35⟩ : ∃ z, z = fu F_24 7 (.int 1) := ⟨_, rfl⟩
  have hP : va_P (dC, dI) vwCl [(qts, .inl (cts, 6002, .inl fts)), (qtv, .inl (ctv, 6002, .inl ftv)), (qtl, .inl (ctl, 6002, .inl ftl)), (h0, .inr (15, fl 134 F_35)), (qf, .inl (cqf, 6000, .inl f_2)), (qs, .inl (cqs, 6000, .inl f_3)), (ql, .inl (cql, 6600, .inl f_4))] H := by rw [eF_35, ← fl_set (n := 134) (k := 7) (by decide)]; exact hP
  have hD : va_D A [(qts, .inl (cts, 6002, .inl fts)), (qtv, .inl (ctv, 6002, .inl ftv)), (qtl, .inl (ctl, 6002, .inl ftl)), (h0, .inr (15, fl 134 F_35)), (qf, .inl (cqf, 6000, .inl f_2)), (qs, .inl (cqs, 6000, .inl f_3)), (ql, .inl (cql, 6600, .inl f_4))] := by rw [eF_35, ← fl_set (n := 134) (k := 7) (by decide)]; exact hD
  have hfr_36 : ∀ j : Nat, j ≠ 6 ∧ j ≠ 7 ∧ j ≠ 8 ∧ j ≠ 12 ∧ j ≠ 16 → F_35 j = F j := fun j hj => (fu_out eF_35 (by omega)).trans (hfr_25 j (by omega))
  have hk_37 : F_35 5 = .int 0 := (fu_ne eF_35 (by decide) hk_26)
  have hk_38 : F_35 13 = .ref qf := (fu_ne eF_35 (by decide) hk_27)
  have hk_39 : F_35 14 = .ref qs := (fu_ne eF_35 (by decide) hk_28)
  have hk_40 : F_35 15 = .ref ql := (fu_ne eF_35 (by decide) hk_29)
  have hk_41 : F_35 9 = .ref qts := (fu_ne eF_35 (by decide) hk_30)
  have hk_42 : F_35 10 = .ref qtv := (fu_ne eF_35 (by decide) hk_31)
  have hk_43 : F_35 11 = .ref qtl := (fu_ne eF_35 (by decide) hk_32)
  have hk_44 : F_35 8 = .int 0 := (fu_ne eF_35 (by decide) hk_33)
  have hk_45 : F_35 6 = .int 0 := (fu_ne eF_35 (by decide) hk_34)
  have hk_46 : F_35 7 = .int 1 := (fu_eq eF_35)
  refine lv_iconst (v := 1) hx hb dX13_cut_19 (by decide) ?_
  refine lv_istore_n (lv' := [(1, .int 1), (0, .ref h0)]) hx hb dX13_cut_20 rfl hl (by decide) rfl (fun ls hl => ?_)
  refine lv_iload_n hx hb dX13_cut_21 rfl (lv_at hl 0 rfl) ?_
  refine lv_if_eq (tgt := 77) hx hb dX13_cut_22 (by decide) (fun c9 => absurd c9 (by decide)) (fun c9 => ?_)
  clear c9
  refine lv_aload_n hx hb dX13_cut_25 rfl (lv_at hl 1 rfl) ?_
  have hPc := hP.sub (ws' := [(h0, .inr (15, fl 134 F_35))]) [3] rfl
  have hDc := hD.sub (ws' := [(h0, .inr (15, fl 134 F_35))]) [3] (by decide) rfl
  have hKc := hK.sub (tys' := []) [] rfl
  have hFc := va_free (wc := [(h0, .inr (15, fl 134 F_35))]) hD hS hA [3] rfl
  refine va_calli (va_runV (As := []) (rest := []) ⟨hx, hb, hml, hown, hts⟩ (cm_passes l dC dI h0 F_35 H.size hk_37 hk_45) (cwV 0 hts gg_cm_cut_cm_passes_317 rfl rfl rfl (by decide +kernel) ⟨(Nat.le_of_ble_eq_true rfl), (Nat.le_of_ble_eq_true rfl)⟩) ⟨fun a U g mk q => by obtain ⟨q0, q1, qP, qK, qD⟩ := q; exact ⟨q0, q1, qP, va_K.moved (u := U) (U := U.calling g mk a) (Vm.Alike.refl U.vm) qK, qD⟩, va_recv hKc hPc (ci := 15) (q0 := 0) rfl rfl, fun U hU hW => ⟨rfl, by rw [hU], by rw [hU]; exact hPc, va_K.moved hW.alike hKc, hDc.weaken (fun _ _ _ _ => trivial)⟩⟩ rfl rfl hl.1 rfl (lv_room (Nat.le_of_ble_eq_true rfl)) dX13_cut_26 ⟨(Nat.le_of_ble_eq_true rfl), (Nat.le_of_ble_eq_true rfl)⟩) hS (fun q _ h => hFc q h) hFc (fun r9 u t H1 locs ht hvm hw hB hz1 hk1 hS => ?_)
  obtain ⟨hf_47, hf_48, hP1, hK1, hD1⟩ := hB
  rw [ht] at hP1
  have hK1 := va_K.moved hvm.symm hK1
  obtain ⟨hP, hD⟩ := va_join (wr := [(qts, .inl (cts, 6002, .inl fts)), (qtv, .inl (ctv, 6002, .inl ftv)), (qtl, .inl (ctl, 6002, .inl ftl)), (qf, .inl (cqf, 6000, .inl f_2)), (qs, .inl (cqs, 6000, .inl f_3)), (ql, .inl (cql, 6600, .inl f_4))]) (w1 := [(h0, .inr (15, fl 134 F_35))]) hP hD [3] [0, 1, 2, 4, 5, 6] rfl rfl (by decide) (by decide) hk1 hFc hP1 hD1
  have hK := (hK.sub (tys' := [(cts, .int), (ctv, .int), (ctl, .int), (cqf, .int), (cqs, .int), (cql, .byte)]) [0, 1, 2, 3, 4, 5] rfl).app hK1
  generalize H1 = H at hP hS ⊢
  have hK : va_K (dC, dI) vwCl [(cts, .int), (ctv, .int), (ctl, .int), (cqf, .int), (cqs, .int), (cql, .byte)] s := hK
  have hP : va_P (dC, dI) vwCl [(qts, .inl (cts, 6002, .inl fts)), (qtv, .inl (ctv, 6002, .inl ftv)), (qtl, .inl (ctl, 6002, .inl ftl)), (qf, .inl (cqf, 6000, .inl f_2)), (qs, .inl (cqs, 6000, .inl f_3)), (ql, .inl (cql, 6600, .inl f_4)), (h0, .inr (15, fl 134 F_35))] H := hP
  have hD : va_D A [(qts, .inl (cts, 6002, .inl fts)), (qtv, .inl (ctv, 6002, .inl ftv)), (qtl, .inl (ctl, 6002, .inl ftl)), (qf, .inl (cqf, 6000, .inl f_2)), (qs, .inl (cqs, 6000, .inl f_3)), (ql, .inl (cql, 6600, .inl f_4)), (h0, .inr (15, fl 134 F_35))] := hD
  refine W.widen (k := 0) (n := 0) (Nat.le_of_ble_eq_true rfl) (Nat.le_of_ble_eq_true rfl) ?_
  obtain rfl : r9 = 1 := hw
  refine lv_if_ne (tgt := 45) hx hb dX13_cut_29 (by decide) (fun c9 => ?_) (fun c9 => absurd c9 (by decide))
  clear c9
  refine lv_aload_n hx hb dX13_cut_45 rfl (lv_at hl 1 rfl) ?_
  refine va_get (D := (dC, dI)) (ci := 15) (v := .int 0) (C := RX13) (T := TX13) (N := 134) hx hb hts in_cm_cut_RX13 hown hK hP 6 rfl rfl 6 (by decide) (hts (.fieldLink RX13 301 "LevelUnitsModel" "scan" "I") (List.mem_of_getElem? (i := 48) rfl)) (fun _ h9 => h9) (fl_get (by decide) hk_45) dX13_cut_46 ?_
  refine lv_aload_n hx hb dX13_cut_49 rfl (lv_at hl 1 rfl) ?_
  refine va_get (D := (dC, dI)) (ci := 15) (v := .int 0) (C := RX13) (T := TX13) (N := 134) hx hb hts in_cm_cut_RX13 hown hK hP 6 rfl rfl 5 (by decide) (hts (.fieldLink RX13 262 "LevelUnitsModel" "size" "I") (List.mem_of_getElem? (i := 50) rfl)) (fun _ h9 => h9) (fl_get (by decide) hk_37) dX13_cut_50 ?_
  refine lv_icmp_ne (tgt := 69) hx hb dX13_cut_53 (by decide) (fun c9 => absurd c9 (by decide)) (fun c9 => ?_)
  clear c9
  refine lv_aload_n hx hb dX13_cut_56 rfl (lv_at hl 1 rfl) ?_
  refine lv_sipush (v := 203) hx hb dX13_cut_57 (by decide) ?_
  refine lv_iconst (v := 0) hx hb dX13_cut_60 (by decide) ?_
  refine lv_aload_n hx hb dX13_cut_61 rfl (lv_at hl 1 rfl) ?_
  refine va_get (D := (dC, dI)) (ci := 15) (v := .int 1) (C := RX13) (T := TX13) (N := 134) hx hb hts in_cm_cut_RX13 hown hK hP 6 rfl rfl 7 (by decide) (hts (.fieldLink RX13 307 "LevelUnitsModel" "row" "I") (List.mem_of_getElem? (i := 49) rfl)) (fun _ h9 => h9) (fl_get (by decide) hk_46) dX13_cut_62 ?_
  have hPc := hP.sub (ws' := [(h0, .inr (15, fl 134 F_35)), (qts, .inl (cts, 6002, .inl fts)), (qtv, .inl (ctv, 6002, .inl ftv)), (qtl, .inl (ctl, 6002, .inl ftl))]) [6, 0, 1, 2] rfl
  have hDc := hD.sub (ws' := [(h0, .inr (15, fl 134 F_35)), (qts, .inl (cts, 6002, .inl fts)), (qtv, .inl (ctv, 6002, .inl ftv)), (qtl, .inl (ctl, 6002, .inl ftl))]) [6, 0, 1, 2] (by decide) rfl
  have hKc := hK.sub (tys' := [(cts, .int), (ctv, .int), (ctl, .int)]) [0, 1, 2] rfl
  have hFc := va_free (wc := [(h0, .inr (15, fl 134 F_35)), (qts, .inl (cts, 6002, .inl fts)), (qtv, .inl (ctv, 6002, .inl ftv)), (qtl, .inl (ctl, 6002, .inl ftl))]) hD hS hA [6, 0, 1, 2] rfl
  refine va_callv (va_runV (As := [.int 203, .int 0, .int 1]) (rest := []) ⟨hx, hb, hml, hown, hts⟩ (cm_token l dC dI h0 F_35 qts qtv qtl cts ctv ctl fts ftv ftl H.size hk_44 hk_41 hk_42 hk_43) (cwV 3 hts gg_cm_cut_cm_token_320 rfl rfl rfl (by decide +kernel) ⟨(Nat.le_of_ble_eq_true rfl), (Nat.le_of_ble_eq_true rfl)⟩) ⟨fun a U g mk q => by obtain ⟨q0, q1, qP, qK, qD⟩ := q; exact ⟨q0, q1, qP, va_K.moved (u := U) (U := U.calling g mk a) (Vm.Alike.refl U.vm) qK, qD⟩, va_recv hKc hPc (ci := 15) (q0 := 0) rfl rfl, fun U hU hW => ⟨rfl, by rw [hU], by rw [hU]; exact hPc, va_K.moved hW.alike hKc, hDc.weaken (fun _ _ _ _ => trivial)⟩⟩ rfl rfl hl.1 rfl (lv_room (Nat.le_of_ble_eq_true rfl)) dX13_cut_65 ⟨(Nat.le_of_ble_eq_true rfl), (Nat.le_of_ble_eq_true rfl)⟩) hS (fun q _ h => hFc q h) hFc (fun u t H1 locs ht hvm hw hB hz1 hk1 hS => ?_)
  obtain ⟨F_49, f_50, f_51, f_52, hf_53, hf_54, hf_55, hx_56, hP1, hK1, hD1⟩ := hB
  rw [ht] at hP1
  have hK1 := va_K.moved hvm.symm hK1
  have hfr_57 : ∀ j : Nat, j ≠ 6 ∧ j ≠ 7 ∧ j ≠ 8 ∧ j ≠ 12 ∧ j ≠ 16 → F_49 j = F j := fun j hj => (hx_56 j (by omega)).trans (hfr_36 j (by omega))
  have hk_58 : F_49 5 = .int 0 := ((hx_56 5 (by omega)).trans hk_37)
  have hk_59 : F_49 6 = .int 0 := ((hx_56 6 (by omega)).trans hk_45)
  have hk_60 : F_49 13 = .ref qf := ((hx_56 13 (by omega)).trans hk_38)
  have hk_61 : F_49 14 = .ref qs := ((hx_56 14 (by omega)).trans hk_39)
  have hk_62 : F_49 15 = .ref ql := ((hx_56 15 (by omega)).trans hk_40)
  have hk_63 : F_49 9 = .ref qts := ((hx_56 9 (by omega)).trans hk_41)
  have hk_64 : F_49 10 = .ref qtv := ((hx_56 10 (by omega)).trans hk_42)
  have hk_65 : F_49 11 = .ref qtl := ((hx_56 11 (by omega)).trans hk_43)
  have hk_66 : F_49 7 = .int 1 := ((hx_56 7 (by omega)).trans hk_46)
  obtain ⟨hP, hD⟩ := va_join (wr := [(qf, .inl (cqf, 6000, .inl f_2)), (qs, .inl (cqs, 6000, .inl f_3)), (ql, .inl (cql, 6600, .inl f_4))]) (w1 := [(h0, .inr (15, fl 134 F_49)), (qts, .inl (cts, 6002, .inl f_50)), (qtv, .inl (ctv, 6002, .inl f_51)), (qtl, .inl (ctl, 6002, .inl f_52))]) hP hD [6, 0, 1, 2] [3, 4, 5] rfl rfl (by decide) (by decide) hk1 hFc hP1 hD1
  have hK := (hK.sub (tys' := [(cqf, .int), (cqs, .int), (cql, .byte)]) [3, 4, 5] rfl).app hK1
  generalize H1 = H at hP hS ⊢
  have hK : va_K (dC, dI) vwCl [(cqf, .int), (cqs, .int), (cql, .byte), (cts, .int), (ctv, .int), (ctl, .int)] s := hK
  have hP : va_P (dC, dI) vwCl [(qf, .inl (cqf, 6000, .inl f_2)), (qs, .inl (cqs, 6000, .inl f_3)), (ql, .inl (cql, 6600, .inl f_4)), (h0, .inr (15, fl 134 F_49)), (qts, .inl (cts, 6002, .inl f_50)), (qtv, .inl (ctv, 6002, .inl f_51)), (qtl, .inl (ctl, 6002, .inl f_52))] H := hP
  have hD : va_D A [(qf, .inl (cqf, 6000, .inl f_2)), (qs, .inl (cqs, 6000, .inl f_3)), (ql, .inl (cql, 6600, .inl f_4)), (h0, .inr (15, fl 134 F_49)), (qts, .inl (cts, 6002, .inl f_50)), (qtv, .inl (ctv, 6002, .inl f_51)), (qtl, .inl (ctl, 6002, .inl f_52))] := hD
  refine W.widen (k := 0) (n := 0) (Nat.le_of_ble_eq_true rfl) (Nat.le_of_ble_eq_true rfl) ?_
  have hP9 := hP.sub (ws' := [(qf, .inl (cqf, 6000, .inl f_2)), (qs, .inl (cqs, 6000, .inl f_3)), (ql, .inl (cql, 6600, .inl f_4)), (h0, .inr (15, fl 134 F_49)), (qts, .inl (cts, 6002, .inl f_50)), (qtv, .inl (ctv, 6002, .inl f_51)), (qtl, .inl (ctl, 6002, .inl f_52))]) [0, 1, 2, 3, 4, 5, 6] rfl
  have hD9 := hD.sub (ws' := [(qf, .inl (cqf, 6000, .inl f_2)), (qs, .inl (cqs, 6000, .inl f_3)), (ql, .inl (cql, 6600, .inl f_4)), (h0, .inr (15, fl 134 F_49)), (qts, .inl (cts, 6002, .inl f_50)), (qtv, .inl (ctv, 6002, .inl f_51)), (qtl, .inl (ctl, 6002, .inl f_52))]) [0, 1, 2, 3, 4, 5, 6] (by decide) rfl
  have hK9 := hK.sub (tys' := [(cqf, .int), (cqs, .int), (cql, .byte), (cts, .int), (ctv, .int), (ctl, .int)]) [0, 1, 2, 3, 4, 5] rfl
  refine W.widen (k := 0) (n := 0) (Nat.le_of_ble_eq_true rfl) (Nat.le_of_ble_eq_true rfl) ?_
  exact W.vret hx hb hr (fun t ht hW => ⟨⟨(), rfl, trivial, f_2, f_3, f_4, F_49, f_50, f_51, f_52, hf_53, hf_54, hf_55, hfr_57, by rw [ht]; exact hP9, va_K.moved hW.alike hK9, hD9⟩, hS.F ht⟩) hS.2.2 dX13_cut_68
def ws_cm_look : List Cond := .code yX13_look cX13_look 1 none :: ([.fieldLink RX13 23 "LevelUnitsModel" "tSort" "[I", .fieldLink RX13 349 "LevelUnitsModel" "at" "I"] ++ wsX130)
theorem in_cm_look_RX13 : ∀ w ∈ wsX130, w ∈ ws_cm_look := fun _ h => List.mem_cons_of_mem _ (List.mem_append_right _ h)
set_option maxHeartbeats 4000000 in
set_option maxRecDepth 100000 in
theorem cm_look (l : Launch) (dC : Nat → ClassId) (dI : Nat → Nat → Nat) (h0 : Nat) (F : Nat → Value) (qts : Nat) (cts : ClassId) (fts : Nat → Int32) (sz : Nat) (hq32 : F 32 = .int 0) (hq9 : F 9 = .ref qts) (hts9 : fts 0 = 203) : Met l yX13_look ws_cm_look ({ frames := 0, cells := 0, slots := 0, locals := 0 }) (va_Pc [.ref h0] (fun U => U.heap.size = sz ∧ va_P (dC, dI) vwCl [(h0, .inr (15, fl 134 F)), (qts, .inl (cts, 6002, .inl fts))] U.heap ∧ va_K (dC, dI) vwCl [(cts, .int)] U ∧ va_D (fun _ => True) [(h0, .inr (15, fl 134 F)), (qts, .inl (cts, 6002, .inl fts))])) (va_Qv (fun _ : Unit => True) (fun _ t => F 32 = .int 0 ∧ F 9 = .ref qts ∧ fts 0 = 203 ∧ va_P (dC, dI) vwCl [(h0, .inr (15, fl 134 F)), (qts, .inl (cts, 6002, .inl fts))] t.heap ∧ va_K (dC, dI) vwCl [(cts, .int)] t ∧ va_D (va_A [(h0, .inr (15, fl 134 F)), (qts, .inl (cts, 6002, .inl fts))] sz) [(h0, .inr (15, fl 134 F)), (qts, .inl (cts, 6002, .inl fts))]) (va_A [(h0, .inr (15, fl 134 F)), (qts, .inl (cts, 6002, .inl fts))] sz)) 0 0 (va_A [(h0, .inr (15, fl 134 F)), (qts, .inl (cts, 6002, .inl fts))] sz) := by
  refine Met.ofW (cc := cX13_look) (maxL := 1) (ret := none) (by decide) rfl ?_
  intro p e s m args below meth c s₁ B hml hv
  obtain ⟨rfl, hsz, hP, hK, hD0⟩ := hv
  have hx := B.exec
  have hb := B.bytes
  have hr := B.returns
  have hts := atoms_spec (ws := ws_cm_look) B.pre
  have hown : s.vm.findClass RX13 = some m.cls := findClass_of_methodNamed B.named
  have hlocks := B.notSynchronized
  subst hsz
  have hD := hD0.self (sz := s.heap.size)
  generalize hAe : va_A [(h0, .inr (15, fl 134 F)), (qts, .inl (cts, 6002, .inl fts))] s.heap.size = A at hD ⊢
  have hA : ∀ q : Nat, s.heap.size ≤ q → A q := fun q h => by rw [← hAe]; exact Or.inr h
  have hS : va_S A s.heap s.heap [] := va_S.rf
  have hP : va_P (dC, dI) vwCl [(h0, .inr (15, fl 134 F)), (qts, .inl (cts, 6002, .inl fts))] s.heap := hP
  have hl := lv_entry ([.ref h0]) (n := 1) (Nat.le_of_ble_eq_true rfl)
  rw [lg_entry_eq]
  generalize (lg_sl ([.ref h0]) ++ List.replicate (1 - (lg_sl ([.ref h0])).length) Slot.unset).toArray = ls at hl ⊢
  have hl : lv_has ls 1 [(0, .ref h0)] := hl
  refine lv_aload_n hx hb dX13_look_0 rfl (lv_at hl 0 rfl) ?_
  refine va_get (D := (dC, dI)) (ci := 15) (v := .ref qts) (C := RX13) (T := TX13) (N := 134) hx hb hts in_cm_look_RX13 hown hK hP 0 rfl rfl 9 (by decide) (hts (.fieldLink RX13 23 "LevelUnitsModel" "tSort" "[I") (List.mem_of_getElem? (i := 1) rfl)) (fun _ h9 => h9) (fl_get (by decide) hq9) dX13_look_1 ?_
  refine lv_aload_n hx hb dX13_look_4 rfl (lv_at hl 0 rfl) ?_
  refine va_get (D := (dC, dI)) (ci := 15) (v := .int 0) (C := RX13) (T := TX13) (N := 134) hx hb hts in_cm_look_RX13 hown hK hP 0 rfl rfl 32 (by decide) (hts (.fieldLink RX13 349 "LevelUnitsModel" "at" "I") (List.mem_of_getElem? (i := 2) rfl)) (fun _ h9 => h9) (fl_get (by decide) hq32) dX13_look_5 ?_
  refine va_iald hx hb hK hP 1 0 rfl rfl (i := 0) (by unfold vp_in; decide) dX13_look_8 ?_
  refine lv_topi (fun x_1 ex_1 => ?_)
  have ex_1 : x_1 = 203 := ex_1.trans hts9
  subst ex_1
  refine lv_sipush (v := 202) hx hb dX13_look_9 (by decide) ?_
  refine lv_icmp_ne (tgt := 24) hx hb dX13_look_12 (by decide) (fun c9 => ?_) (fun c9 => absurd c9 (by decide))
  clear c9
  have hP9 := hP.sub (ws' := [(h0, .inr (15, fl 134 F)), (qts, .inl (cts, 6002, .inl fts))]) [0, 1] rfl
  have hD9 := hD.sub (ws' := [(h0, .inr (15, fl 134 F)), (qts, .inl (cts, 6002, .inl fts))]) [0, 1] (by decide) rfl
  have hK9 := hK.sub (tys' := [(cts, .int)]) [0] rfl
  refine W.widen (k := 0) (n := 0) (Nat.le_of_ble_eq_true rfl) (Nat.le_of_ble_eq_true rfl) ?_
  exact W.vret hx hb hr (fun t ht hW => ⟨⟨(), rfl, trivial, hq32, hq9, hts9, by rw [ht]; exact hP9, va_K.moved hW.alike hK9, hD9⟩, hS.F ht⟩) hS.2.2 dX13_look_24
def ws_cm_is_21 : List Cond := .code yX13_is cX13_is 2 (some .boolean) :: ([.fieldLink RX13 23 "LevelUnitsModel" "tSort" "[I", .fieldLink RX13 349 "LevelUnitsModel" "at" "I"] ++ wsX130)
theorem in_cm_is_21_RX13 : ∀ w ∈ wsX130, w ∈ ws_cm_is_21 := fun _ h => List.mem_cons_of_mem _ (List.mem_append_right _ h)
set_option maxHeartbeats 4000000 in
set_option maxRecDepth 100000 in
theorem cm_is_21 (l : Launch) (dC : Nat → ClassId) (dI : Nat → Nat → Nat) (h0 : Nat) (F : Nat → Value) (qts : Nat) (cts : ClassId) (fts : Nat → Int32) (sz : Nat) (hq32 : F 32 = .int 0) (hq9 : F 9 = .ref qts) (hts9 : fts 0 = 203) : Met l yX13_is ws_cm_is_21 ({ frames := 0, cells := 0, slots := 0, locals := 0 }) (va_Pc [.ref h0, .int 21] (fun U => U.heap.size = sz ∧ va_P (dC, dI) vwCl [(h0, .inr (15, fl 134 F)), (qts, .inl (cts, 6002, .inl fts))] U.heap ∧ va_K (dC, dI) vwCl [(cts, .int)] U ∧ va_D (fun _ => True) [(h0, .inr (15, fl 134 F)), (qts, .inl (cts, 6002, .inl fts))])) (va_Qi (fun (r : Int32) (_ : Unit) => r = 0) (fun _ t => F 32 = .int 0 ∧ F 9 = .ref qts ∧ fts 0 = 203 ∧ va_P (dC, dI) vwCl [(h0, .inr (15, fl 134 F)), (qts, .inl (cts, 6002, .inl fts))] t.heap ∧ va_K (dC, dI) vwCl [(cts, .int)] t ∧ va_D (va_A [(h0, .inr (15, fl 134 F)), (qts, .inl (cts, 6002, .inl fts))] sz) [(h0, .inr (15, fl 134 F)), (qts, .inl (cts, 6002, .inl fts))]) (va_A [(h0, .inr (15, fl 134 F)), (qts, .inl (cts, 6002, .inl fts))] sz)) 0 0 (va_A [(h0, .inr (15, fl 134 F)), (qts, .inl (cts, 6002, .inl fts))] sz) := by
  refine Met.ofW (cc := cX13_is) (maxL := 2) (ret := (some .boolean)) (by decide) rfl ?_
  intro p e s m args below meth c s₁ B hml hv
  obtain ⟨rfl, hsz, hP, hK, hD0⟩ := hv
  have hx := B.exec
  have hb := B.bytes
  have hr := B.returns
  have hts := atoms_spec (ws := ws_cm_is_21) B.pre
  have hown : s.vm.findClass RX13 = some m.cls := findClass_of_methodNamed B.named
  have hlocks := B.notSynchronized
  subst hsz
  have hD := hD0.self (sz := s.heap.size)
  generalize hAe : va_A [(h0, .inr (15, fl 134 F)), (qts, .inl (cts, 6002, .inl fts))] s.heap.size = A at hD ⊢
  have hA : ∀ q : Nat, s.heap.size ≤ q → A q := fun q h => by rw [← hAe]; exact Or.inr h
  have hS : va_S A s.heap s.heap [] := va_S.rf
  have hP : va_P (dC, dI) vwCl [(h0, .inr (15, fl 134 F)), (qts, .inl (cts, 6002, .inl fts))] s.heap := hP
  have hl := lv_entry ([.ref h0, .int 21]) (n := 2) (Nat.le_of_ble_eq_true rfl)
  rw [lg_entry_eq]
  generalize (lg_sl ([.ref h0, .int 21]) ++ List.replicate (2 - (lg_sl ([.ref h0, .int 21])).length) Slot.unset).toArray = ls at hl ⊢
  have hl : lv_has ls 2 [(0, .ref h0), (1, .int 21)] := hl
  refine lv_aload_n hx hb dX13_is_0 rfl (lv_at hl 0 rfl) ?_
  refine va_get (D := (dC, dI)) (ci := 15) (v := .ref qts) (C := RX13) (T := TX13) (N := 134) hx hb hts in_cm_is_21_RX13 hown hK hP 0 rfl rfl 9 (by decide) (hts (.fieldLink RX13 23 "LevelUnitsModel" "tSort" "[I") (List.mem_of_getElem? (i := 1) rfl)) (fun _ h9 => h9) (fl_get (by decide) hq9) dX13_is_1 ?_
  refine lv_aload_n hx hb dX13_is_4 rfl (lv_at hl 0 rfl) ?_
  refine va_get (D := (dC, dI)) (ci := 15) (v := .int 0) (C := RX13) (T := TX13) (N := 134) hx hb hts in_cm_is_21_RX13 hown hK hP 0 rfl rfl 32 (by decide) (hts (.fieldLink RX13 349 "LevelUnitsModel" "at" "I") (List.mem_of_getElem? (i := 2) rfl)) (fun _ h9 => h9) (fl_get (by decide) hq32) dX13_is_5 ?_
  refine va_iald hx hb hK hP 1 0 rfl rfl (i := 0) (by unfold vp_in; decide) dX13_is_8 ?_
  refine lv_topi (fun x_1 ex_1 => ?_)
  have ex_1 : x_1 = 203 := ex_1.trans hts9
  subst ex_1
  refine lv_iload_n hx hb dX13_is_9 rfl (lv_at hl 1 rfl) ?_
  refine lv_icmp_ne (tgt := 17) hx hb dX13_is_10 (by decide) (fun c9 => ?_) (fun c9 => absurd c9 (by decide))
  clear c9
  refine lv_iconst (v := 0) hx hb dX13_is_17 (by decide) ?_
  have hP9 := hP.sub (ws' := [(h0, .inr (15, fl 134 F)), (qts, .inl (cts, 6002, .inl fts))]) [0, 1] rfl
  have hD9 := hD.sub (ws' := [(h0, .inr (15, fl 134 F)), (qts, .inl (cts, 6002, .inl fts))]) [0, 1] (by decide) rfl
  have hK9 := hK.sub (tys' := [(cts, .int)]) [0] rfl
  refine W.widen (k := 0) (n := 0) (Nat.le_of_ble_eq_true rfl) (Nat.le_of_ble_eq_true rfl) ?_
  exact W.zret (v := 0) hx hb hr rfl (fun t ht hW => ⟨⟨0, (), rfl, rfl, hq32, hq9, hts9, by rw [ht]; exact hP9, va_K.moved hW.alike hK9, hD9⟩, hS.F ht⟩) hS.2.2 dX13_is_18
def ws_cm_is_28 : List Cond := .code yX13_is cX13_is 2 (some .boolean) :: ([.fieldLink RX13 23 "LevelUnitsModel" "tSort" "[I", .fieldLink RX13 349 "LevelUnitsModel" "at" "I"] ++ wsX130)
theorem in_cm_is_28_RX13 : ∀ w ∈ wsX130, w ∈ ws_cm_is_28 := fun _ h => List.mem_cons_of_mem _ (List.mem_append_right _ h)
set_option maxHeartbeats 4000000 in
set_option maxRecDepth 100000 in
theorem cm_is_28 (l : Launch) (dC : Nat → ClassId) (dI : Nat → Nat → Nat) (h0 : Nat) (F : Nat → Value) (qts : Nat) (cts : ClassId) (fts : Nat → Int32) (sz : Nat) (hq32 : F 32 = .int 0) (hq9 : F 9 = .ref qts) (hts9 : fts 0 = 203) : Met l yX13_is ws_cm_is_28 ({ frames := 0, cells := 0, slots := 0, locals := 0 }) (va_Pc [.ref h0, .int 28] (fun U => U.heap.size = sz ∧ va_P (dC, dI) vwCl [(h0, .inr (15, fl 134 F)), (qts, .inl (cts, 6002, .inl fts))] U.heap ∧ va_K (dC, dI) vwCl [(cts, .int)] U ∧ va_D (fun _ => True) [(h0, .inr (15, fl 134 F)), (qts, .inl (cts, 6002, .inl fts))])) (va_Qi (fun (r : Int32) (_ : Unit) => r = 0) (fun _ t => F 32 = .int 0 ∧ F 9 = .ref qts ∧ fts 0 = 203 ∧ va_P (dC, dI) vwCl [(h0, .inr (15, fl 134 F)), (qts, .inl (cts, 6002, .inl fts))] t.heap ∧ va_K (dC, dI) vwCl [(cts, .int)] t ∧ va_D (va_A [(h0, .inr (15, fl 134 F)), (qts, .inl (cts, 6002, .inl fts))] sz) [(h0, .inr (15, fl 134 F)), (qts, .inl (cts, 6002, .inl fts))]) (va_A [(h0, .inr (15, fl 134 F)), (qts, .inl (cts, 6002, .inl fts))] sz)) 0 0 (va_A [(h0, .inr (15, fl 134 F)), (qts, .inl (cts, 6002, .inl fts))] sz) := by
  refine Met.ofW (cc := cX13_is) (maxL := 2) (ret := (some .boolean)) (by decide) rfl ?_
  intro p e s m args below meth c s₁ B hml hv
  obtain ⟨rfl, hsz, hP, hK, hD0⟩ := hv
  have hx := B.exec
  have hb := B.bytes
  have hr := B.returns
  have hts := atoms_spec (ws := ws_cm_is_28) B.pre
  have hown : s.vm.findClass RX13 = some m.cls := findClass_of_methodNamed B.named
  have hlocks := B.notSynchronized
  subst hsz
  have hD := hD0.self (sz := s.heap.size)
  generalize hAe : va_A [(h0, .inr (15, fl 134 F)), (qts, .inl (cts, 6002, .inl fts))] s.heap.size = A at hD ⊢
  have hA : ∀ q : Nat, s.heap.size ≤ q → A q := fun q h => by rw [← hAe]; exact Or.inr h
  have hS : va_S A s.heap s.heap [] := va_S.rf
  have hP : va_P (dC, dI) vwCl [(h0, .inr (15, fl 134 F)), (qts, .inl (cts, 6002, .inl fts))] s.heap := hP
  have hl := lv_entry ([.ref h0, .int 28]) (n := 2) (Nat.le_of_ble_eq_true rfl)
  rw [lg_entry_eq]
  generalize (lg_sl ([.ref h0, .int 28]) ++ List.replicate (2 - (lg_sl ([.ref h0, .int 28])).length) Slot.unset).toArray = ls at hl ⊢
  have hl : lv_has ls 2 [(0, .ref h0), (1, .int 28)] := hl
  refine lv_aload_n hx hb dX13_is_0 rfl (lv_at hl 0 rfl) ?_
  refine va_get (D := (dC, dI)) (ci := 15) (v := .ref qts) (C := RX13) (T := TX13) (N := 134) hx hb hts in_cm_is_28_RX13 hown hK hP 0 rfl rfl 9 (by decide) (hts (.fieldLink RX13 23 "LevelUnitsModel" "tSort" "[I") (List.mem_of_getElem? (i := 1) rfl)) (fun _ h9 => h9) (fl_get (by decide) hq9) dX13_is_1 ?_
  refine lv_aload_n hx hb dX13_is_4 rfl (lv_at hl 0 rfl) ?_
  refine va_get (D := (dC, dI)) (ci := 15) (v := .int 0) (C := RX13) (T := TX13) (N := 134) hx hb hts in_cm_is_28_RX13 hown hK hP 0 rfl rfl 32 (by decide) (hts (.fieldLink RX13 349 "LevelUnitsModel" "at" "I") (List.mem_of_getElem? (i := 2) rfl)) (fun _ h9 => h9) (fl_get (by decide) hq32) dX13_is_5 ?_
  refine va_iald hx hb hK hP 1 0 rfl rfl (i := 0) (by unfold vp_in; decide) dX13_is_8 ?_
  refine lv_topi (fun x_1 ex_1 => ?_)
  have ex_1 : x_1 = 203 := ex_1.trans hts9
  subst ex_1
  refine lv_iload_n hx hb dX13_is_9 rfl (lv_at hl 1 rfl) ?_
  refine lv_icmp_ne (tgt := 17) hx hb dX13_is_10 (by decide) (fun c9 => ?_) (fun c9 => absurd c9 (by decide))
  clear c9
  refine lv_iconst (v := 0) hx hb dX13_is_17 (by decide) ?_
  have hP9 := hP.sub (ws' := [(h0, .inr (15, fl 134 F)), (qts, .inl (cts, 6002, .inl fts))]) [0, 1] rfl
  have hD9 := hD.sub (ws' := [(h0, .inr (15, fl 134 F)), (qts, .inl (cts, 6002, .inl fts))]) [0, 1] (by decide) rfl
  have hK9 := hK.sub (tys' := [(cts, .int)]) [0] rfl
  refine W.widen (k := 0) (n := 0) (Nat.le_of_ble_eq_true rfl) (Nat.le_of_ble_eq_true rfl) ?_
  exact W.zret (v := 0) hx hb hr rfl (fun t ht hW => ⟨⟨0, (), rfl, rfl, hq32, hq9, hts9, by rw [ht]; exact hP9, va_K.moved hW.alike hK9, hD9⟩, hS.F ht⟩) hS.2.2 dX13_is_18
def ws_cm_line : List Cond := .code yX13_line cX13_line 1 (some .int) :: ([.fieldLink RX13 30 "LevelUnitsModel" "tLine" "[I", .fieldLink RX13 349 "LevelUnitsModel" "at" "I"] ++ wsX130)
theorem in_cm_line_RX13 : ∀ w ∈ wsX130, w ∈ ws_cm_line := fun _ h => List.mem_cons_of_mem _ (List.mem_append_right _ h)
set_option maxHeartbeats 4000000 in
set_option maxRecDepth 100000 in
theorem cm_line (l : Launch) (dC : Nat → ClassId) (dI : Nat → Nat → Nat) (h0 : Nat) (F : Nat → Value) (qtl : Nat) (ctl : ClassId) (ftl : Nat → Int32) (sz : Nat) (hq32 : F 32 = .int 0) (hq11 : F 11 = .ref qtl) (htl9 : ftl 0 = 1) : Met l yX13_line ws_cm_line ({ frames := 0, cells := 0, slots := 0, locals := 0 }) (va_Pc [.ref h0] (fun U => U.heap.size = sz ∧ va_P (dC, dI) vwCl [(h0, .inr (15, fl 134 F)), (qtl, .inl (ctl, 6002, .inl ftl))] U.heap ∧ va_K (dC, dI) vwCl [(ctl, .int)] U ∧ va_D (fun _ => True) [(h0, .inr (15, fl 134 F)), (qtl, .inl (ctl, 6002, .inl ftl))])) (va_Qi (fun (r : Int32) (_ : Unit) => r = 1) (fun _ t => F 32 = .int 0 ∧ F 11 = .ref qtl ∧ ftl 0 = 1 ∧ va_P (dC, dI) vwCl [(h0, .inr (15, fl 134 F)), (qtl, .inl (ctl, 6002, .inl ftl))] t.heap ∧ va_K (dC, dI) vwCl [(ctl, .int)] t ∧ va_D (va_A [(h0, .inr (15, fl 134 F)), (qtl, .inl (ctl, 6002, .inl ftl))] sz) [(h0, .inr (15, fl 134 F)), (qtl, .inl (ctl, 6002, .inl ftl))]) (va_A [(h0, .inr (15, fl 134 F)), (qtl, .inl (ctl, 6002, .inl ftl))] sz)) 0 0 (va_A [(h0, .inr (15, fl 134 F)), (qtl, .inl (ctl, 6002, .inl ftl))] sz) := by
  refine Met.ofW (cc := cX13_line) (maxL := 1) (ret := (some .int)) (by decide) rfl ?_
  intro p e s m args below meth c s₁ B hml hv
  obtain ⟨rfl, hsz, hP, hK, hD0⟩ := hv
  have hx := B.exec
  have hb := B.bytes
  have hr := B.returns
  have hts := atoms_spec (ws := ws_cm_line) B.pre
  have hown : s.vm.findClass RX13 = some m.cls := findClass_of_methodNamed B.named
  have hlocks := B.notSynchronized
  subst hsz
  have hD := hD0.self (sz := s.heap.size)
  generalize hAe : va_A [(h0, .inr (15, fl 134 F)), (qtl, .inl (ctl, 6002, .inl ftl))] s.heap.size = A at hD ⊢
  have hA : ∀ q : Nat, s.heap.size ≤ q → A q := fun q h => by rw [← hAe]; exact Or.inr h
  have hS : va_S A s.heap s.heap [] := va_S.rf
  have hP : va_P (dC, dI) vwCl [(h0, .inr (15, fl 134 F)), (qtl, .inl (ctl, 6002, .inl ftl))] s.heap := hP
  have hl := lv_entry ([.ref h0]) (n := 1) (Nat.le_of_ble_eq_true rfl)
  rw [lg_entry_eq]
  generalize (lg_sl ([.ref h0]) ++ List.replicate (1 - (lg_sl ([.ref h0])).length) Slot.unset).toArray = ls at hl ⊢
  have hl : lv_has ls 1 [(0, .ref h0)] := hl
  refine lv_aload_n hx hb dX13_line_0 rfl (lv_at hl 0 rfl) ?_
  refine va_get (D := (dC, dI)) (ci := 15) (v := .ref qtl) (C := RX13) (T := TX13) (N := 134) hx hb hts in_cm_line_RX13 hown hK hP 0 rfl rfl 11 (by decide) (hts (.fieldLink RX13 30 "LevelUnitsModel" "tLine" "[I") (List.mem_of_getElem? (i := 1) rfl)) (fun _ h9 => h9) (fl_get (by decide) hq11) dX13_line_1 ?_
  refine lv_aload_n hx hb dX13_line_4 rfl (lv_at hl 0 rfl) ?_
  refine va_get (D := (dC, dI)) (ci := 15) (v := .int 0) (C := RX13) (T := TX13) (N := 134) hx hb hts in_cm_line_RX13 hown hK hP 0 rfl rfl 32 (by decide) (hts (.fieldLink RX13 349 "LevelUnitsModel" "at" "I") (List.mem_of_getElem? (i := 2) rfl)) (fun _ h9 => h9) (fl_get (by decide) hq32) dX13_line_5 ?_
  refine va_iald hx hb hK hP 1 0 rfl rfl (i := 0) (by unfold vp_in; decide) dX13_line_8 ?_
  refine lv_topi (fun x_1 ex_1 => ?_)
  have ex_1 : x_1 = 1 := ex_1.trans htl9
  subst ex_1
  have hP9 := hP.sub (ws' := [(h0, .inr (15, fl 134 F)), (qtl, .inl (ctl, 6002, .inl ftl))]) [0, 1] rfl
  have hD9 := hD.sub (ws' := [(h0, .inr (15, fl 134 F)), (qtl, .inl (ctl, 6002, .inl ftl))]) [0, 1] (by decide) rfl
  have hK9 := hK.sub (tys' := [(ctl, .int)]) [0] rfl
  refine W.widen (k := 0) (n := 0) (Nat.le_of_ble_eq_true rfl) (Nat.le_of_ble_eq_true rfl) ?_
  exact W.iret (v := 1) hx hb hr (fun t ht hW => ⟨⟨1, (), rfl, rfl, hq32, hq11, htl9, by rw [ht]; exact hP9, va_K.moved hW.alike hK9, hD9⟩, hS.F ht⟩) hS.2.2 dX13_line_9
def ws_cm_first : List Cond := .code yX13_first cX13_first 3 none :: ([.fieldLink RX13 343 "LevelUnitsModel" "fault" "I", .fieldLink RX13 346 "LevelUnitsModel" "faultLine" "I", .fieldLink RX13 10 "LevelUnitsModel" "stop" "LLevelUnitsModel$Stop;"] ++ wsX130)
theorem in_cm_first_RX13 : ∀ w ∈ wsX130, w ∈ ws_cm_first := fun _ h => List.mem_cons_of_mem _ (List.mem_append_right _ h)
set_option maxHeartbeats 4000000 in
set_option maxRecDepth 100000 in
theorem cm_first (l : Launch) (dC : Nat → ClassId) (dI : Nat → Nat → Nat) (h0 : Nat) (F : Nat → Value) (qst : Nat) (sz : Nat) (hq1 : F 1 = .ref qst) : vx_Met l yX13_first ws_cm_first ({ frames := 0, cells := 0, slots := 0, locals := 0 }) (va_Pc [.ref h0, .int 2, .int 1] (fun U => U.heap.size = sz ∧ va_P (dC, dI) vwCl [(h0, .inr (15, fl 134 F)), (qst, .inr (14, [.null, .null, .null, .null, .null, .int 0]))] U.heap ∧ va_K (dC, dI) vwCl [] U ∧ va_D (fun _ => True) [(h0, .inr (15, fl 134 F)), (qst, .inr (14, [.null, .null, .null, .null, .null, .int 0]))])) (va_Qv (fun _ : Unit => False) (fun _ _ => True) (va_A [(h0, .inr (15, fl 134 F)), (qst, .inr (14, [.null, .null, .null, .null, .null, .int 0]))] sz)) (vx_X (fun _ : Unit => True) (fun E _ t => E = RX12 ∧ ∃ F_a : Nat → Value, F_a 17 = .int 2 ∧ F_a 18 = .int 1 ∧ (∀ j : Nat, j ≠ 17 ∧ j ≠ 18 → F_a j = F j) ∧ va_P (dC, dI) vwCl [(h0, .inr (15, fl 134 F_a)), (qst, .inr (14, [.null, .null, .null, .null, .null, .int 0]))] t.heap ∧ va_K (dC, dI) vwCl [] t ∧ va_D (va_A [(h0, .inr (15, fl 134 F)), (qst, .inr (14, [.null, .null, .null, .null, .null, .int 0]))] sz) [(h0, .inr (15, fl 134 F_a)), (qst, .inr (14, [.null, .null, .null, .null, .null, .int 0]))]) (va_A [(h0, .inr (15, fl 134 F)), (qst, .inr (14, [.null, .null, .null, .null, .null, .int 0]))] sz)) 0 0 (va_A [(h0, .inr (15, fl 134 F)), (qst, .inr (14, [.null, .null, .null, .null, .null, .int 0]))] sz) := by
  refine vx_ofW (cc := cX13_first) (maxL := 3) (ret := none) (by decide) rfl ?_
  intro p e s m args below meth c s₁ B hml htab hv
  obtain ⟨rfl, hsz, hP, hK, hD0⟩ := hv
  have hx := B.exec
  have hb := B.bytes
  have hr := B.returns
  have hts := atoms_spec (ws := ws_cm_first) B.pre
  have hown : s.vm.findClass RX13 = some m.cls := findClass_of_methodNamed B.named
  have hlocks := B.notSynchronized
  subst hsz
  have hD := hD0.self (sz := s.heap.size)
  generalize hAe : va_A [(h0, .inr (15, fl 134 F)), (qst, .inr (14, [.null, .null, .null, .null, .null, .int 0]))] s.heap.size = A at hD ⊢
  have hA : ∀ q : Nat, s.heap.size ≤ q → A q := fun q h => by rw [← hAe]; exact Or.inr h
  have hS : va_S A s.heap s.heap [] := va_S.rf
  have hP : va_P (dC, dI) vwCl [(h0, .inr (15, fl 134 F)), (qst, .inr (14, [.null, .null, .null, .null, .null, .int 0]))] s.heap := hP
  have hl := lv_entry ([.ref h0, .int 2, .int 1]) (n := 3) (Nat.le_of_ble_eq_true rfl)
  rw [lg_entry_eq]
  generalize (lg_sl ([.ref h0, .int 2, .int 1]) ++ List.replicate (3 - (lg_sl ([.ref h0, .int 2, .int 1])).length) Slot.unset).toArray = ls at hl ⊢
  have hl : lv_has ls 3 [(0, .ref h0), (1, .int 2), (2, .int 1)] := hl
  refine lv_aload_n hx hb dX13_first_0 rfl (lv_at hl 0 rfl) ?_
  refine lv_iload_n hx hb dX13_first_1 rfl (lv_at hl 1 rfl) ?_
  refine va_put (D := (dC, dI)) (ci := 15) (v := .int 2) (ty := .int) (C := RX13) (T := TX13) (N := 134) hx hb hts in_cm_first_RX13 tyX13 tyX13_ok nmX13 hown hK hP hD hS 0 rfl rfl 17 (by decide) (hts (.fieldLink RX13 343 "LevelUnitsModel" "fault" "I") (List.mem_of_getElem? (i := 1) rfl)) (fun _ h9 => h9) rfl (by decide +kernel) rfl rfl (fl_lt (by decide)) dX13_first_2 (fun H locs hP hD hS => ?_)
  obtain ⟨F_1, eF_1⟩ : ∃ z, z = fu F 17 (.int 2) := ⟨_, rfl⟩
  have hP : va_P (dC, dI) vwCl [(h0, .inr (15, fl 134 F_1)), (qst, .inr (14, [.null, .null, .null, .null, .null, .int 0]))] H := by rw [eF_1, ← fl_set (n := 134) (k := 17) (by decide)]; exact hP
  have hD : va_D A [(h0, .inr (15, fl 134 F_1)), (qst, .inr (14, [.null, .null, .null, .null, .null, .int 0]))] := by rw [eF_1, ← fl_set (n := 134) (k := 17) (by decide)]; exact hD
  have hfr_2 : ∀ j : Nat, j ≠ 17 → F_1 j = F j := fun j hj => (fu_out eF_1 (by omega))
  have hk_3 : F_1 1 = .ref qst := (fu_ne eF_1 (by decide) hq1)
  have hk_4 : F_1 17 = .int 2 := (fu_eq eF_1)
  refine lv_aload_n hx hb dX13_first_5 rfl (lv_at hl 0 rfl) ?_
  refine lv_iload_n hx hb dX13_first_6 rfl (lv_at hl 2 rfl) ?_
  refine va_put (D := (dC, dI)) (ci := 15) (v := .int 1) (ty := .int) (C := RX13) (T := TX13) (N := 134) hx hb hts in_cm_first_RX13 tyX13 tyX13_ok nmX13 hown hK hP hD hS 0 rfl rfl 18 (by decide) (hts (.fieldLink RX13 346 "LevelUnitsModel" "faultLine" "I") (List.mem_of_getElem? (i := 2) rfl)) (fun _ h9 => h9) rfl (by decide +kernel) rfl rfl (fl_lt (by decide)) dX13_first_7 (fun H locs hP hD hS => ?_)
  obtain ⟨F_5, eF_5⟩ : ∃ z, z = fu F_1 18 (.int 1) := ⟨_, rfl⟩
  have hP : va_P (dC, dI) vwCl [(h0, .inr (15, fl 134 F_5)), (qst, .inr (14, [.null, .null, .null, .null, .null, .int 0]))] H := by rw [eF_5, ← fl_set (n := 134) (k := 18) (by decide)]; exact hP
  have hD : va_D A [(h0, .inr (15, fl 134 F_5)), (qst, .inr (14, [.null, .null, .null, .null, .null, .int 0]))] := by rw [eF_5, ← fl_set (n := 134) (k := 18) (by decide)]; exact hD
  have hfr_6 : ∀ j : Nat, j ≠ 17 ∧ j ≠ 18 → F_5 j = F j := fun j hj => (fu_out eF_5 (by omega)).trans (hfr_2 j (by omega))
  have hk_7 : F_5 1 = .ref qst := (fu_ne eF_5 (by decide) hk_3)
  have hk_8 : F_5 17 = .int 2 := (fu_ne eF_5 (by decide) hk_4)
  have hk_9 : F_5 18 = .int 1 := (fu_eq eF_5)
  refine lv_aload_n hx hb dX13_first_10 rfl (lv_at hl 0 rfl) ?_
  refine va_get (D := (dC, dI)) (ci := 15) (v := .ref qst) (C := RX13) (T := TX13) (N := 134) hx hb hts in_cm_first_RX13 hown hK hP 0 rfl rfl 1 (by decide) (hts (.fieldLink RX13 10 "LevelUnitsModel" "stop" "LLevelUnitsModel$Stop;") (List.mem_of_getElem? (i := 3) rfl)) (fun _ h9 => h9) (fl_get (by decide) hk_7) dX13_first_11 ?_
  refine vx_athrow hx hb dX13_first_14 ?_
  obtain ⟨q9, hc9, ce9, hce9, hcl0, hvm9, -⟩ := hP 1 _ rfl
  have hcl9 : s.vm.findClass RX12 = some ce9.cls := by rw [hcl0]; exact (hK.1 14 _ rfl).2.1
  have hP9 := hP.sub (ws' := [(h0, .inr (15, fl 134 F_5)), (qst, .inr (14, [.null, .null, .null, .null, .null, .int 0]))]) [0, 1] rfl
  have hD9 := hD.sub (ws' := [(h0, .inr (15, fl 134 F_5)), (qst, .inr (14, [.null, .null, .null, .null, .null, .int 0]))]) [0, 1] (by decide) rfl
  have hK9 := hK.sub (tys' := []) [] rfl
  exact vx_out (E := RX12) (ce := ce9) (fun x hx => (htab x hx).elim) hlocks hce9 hvm9 hcl9 (fun t ht hW => ⟨(), trivial, ⟨rfl, F_5, hk_8, hk_9, hfr_6, by rw [ht]; exact hP9, va_K.moved hW hK9, hD9⟩, hS.F ht⟩) hS.2.2 (Nat.le_of_ble_eq_true rfl) (Nat.le_of_ble_eq_true rfl)
def ws_cm_unfit : List Cond := .code yX13_unfit cX13_unfit 1 none :: ([.fieldLink RX13 30 "LevelUnitsModel" "tLine" "[I", .fieldLink RX13 349 "LevelUnitsModel" "at" "I", .code yX13_line cX13_line 1 (some .int), .methodLink RX13 355 yX13_line, .instanceMethod yX13_line, .selects RX13 yX13_line yX13_line, .initialized RX13, .fieldLink RX13 343 "LevelUnitsModel" "fault" "I", .fieldLink RX13 346 "LevelUnitsModel" "faultLine" "I", .fieldLink RX13 10 "LevelUnitsModel" "stop" "LLevelUnitsModel$Stop;", .code yX13_first cX13_first 3 none, .methodLink RX13 364 yX13_first, .instanceMethod yX13_first, .selects RX13 yX13_first yX13_first] ++ wsX130)
theorem in_cm_unfit_RX13 : ∀ w ∈ wsX130, w ∈ ws_cm_unfit := fun _ h => List.mem_cons_of_mem _ (List.mem_append_right _ h)
theorem g0_cm_unfit_cm_line_355 : GoodIn ws_cm_unfit ws_cm_line := goodIn_r _ [3, 1, 2, 15, 16, 17, 18, 19, 20, 21, 22, 23, 24, 25, 26, 27, 28, 29, 30, 31, 32, 33, 34, 35, 36, 37, 38, 39, 40, 41, 42, 43, 44, 45, 46, 47, 48, 49, 50, 51, 52, 53, 54, 55, 56, 57, 58, 59, 60, 61, 62, 63, 64, 65, 66, 67, 68, 69, 70, 71, 72, 73, 74, 75, 76, 77, 78, 79, 80, 81, 82, 83, 84, 85, 86, 87, 88, 89, 90, 91, 92, 93, 94, 95, 96, 97, 98, 99, 100, 101, 102, 103, 104, 105, 106, 107, 108, 109, 110, 111, 112, 113, 114, 115, 116, 117, 118, 119, 120, 121, 122, 123, 124, 125, 126, 127, 128, 129, 130, 131, 132, 133, 134, 135, 136, 137, 138, 139, 140, 141, 142, 143, 144, 145, 146, 147, 148] (by decide +kernel) (by decide +kernel)
theorem gg_cm_unfit_cm_line_355 : GoodIn ws_cm_unfit (wsV RX13 355 RX13 yX13_line ws_cm_line) := goodIn_app (goodIn_of _ (by decide +kernel)) g0_cm_unfit_cm_line_355
theorem g0_cm_unfit_cm_first_364 : GoodIn ws_cm_unfit ws_cm_first := goodIn_r _ [11, 8, 9, 10, 15, 16, 17, 18, 19, 20, 21, 22, 23, 24, 25, 26, 27, 28, 29, 30, 31, 32, 33, 34, 35, 36, 37, 38, 39, 40, 41, 42, 43, 44, 45, 46, 47, 48, 49, 50, 51, 52, 53, 54, 55, 56, 57, 58, 59, 60, 61, 62, 63, 64, 65, 66, 67, 68, 69, 70, 71, 72, 73, 74, 75, 76, 77, 78, 79, 80, 81, 82, 83, 84, 85, 86, 87, 88, 89, 90, 91, 92, 93, 94, 95, 96, 97, 98, 99, 100, 101, 102, 103, 104, 105, 106, 107, 108, 109, 110, 111, 112, 113, 114, 115, 116, 117, 118, 119, 120, 121, 122, 123, 124, 125, 126, 127, 128, 129, 130, 131, 132, 133, 134, 135, 136, 137, 138, 139, 140, 141, 142, 143, 144, 145, 146, 147, 148] (by decide +kernel) (by decide +kernel)
theorem gg_cm_unfit_cm_first_364 : GoodIn ws_cm_unfit (wsV RX13 364 RX13 yX13_first ws_cm_first) := goodIn_app (goodIn_of _ (by decide +kernel)) g0_cm_unfit_cm_first_364
set_option maxHeartbeats 4000000 in
set_option maxRecDepth 100000 in
theorem cm_unfit (l : Launch) (dC : Nat → ClassId) (dI : Nat → Nat → Nat) (h0 : Nat) (F : Nat → Value) (qst : Nat) (qtl : Nat) (ctl : ClassId) (ftl : Nat → Int32) (sz : Nat) (hq1 : F 1 = .ref qst) (hq32 : F 32 = .int 0) (hq11 : F 11 = .ref qtl) (htl9 : ftl 0 = 1) : vx_Met l yX13_unfit ws_cm_unfit ({ frames := 1, cells := 0, slots := 0, locals := 22 }) (va_Pc [.ref h0] (fun U => U.heap.size = sz ∧ va_P (dC, dI) vwCl [(h0, .inr (15, fl 134 F)), (qtl, .inl (ctl, 6002, .inl ftl)), (qst, .inr (14, [.null, .null, .null, .null, .null, .int 0]))] U.heap ∧ va_K (dC, dI) vwCl [(ctl, .int)] U ∧ va_D (fun _ => True) [(h0, .inr (15, fl 134 F)), (qtl, .inl (ctl, 6002, .inl ftl)), (qst, .inr (14, [.null, .null, .null, .null, .null, .int 0]))])) (va_Qv (fun _ : Unit => False) (fun _ _ => True) (va_A [(h0, .inr (15, fl 134 F)), (qtl, .inl (ctl, 6002, .inl ftl)), (qst, .inr (14, [.null, .null, .null, .null, .null, .int 0]))] sz)) (vx_X (fun _ : Unit => True) (fun E _ t => E = RX12 ∧ ∃ F_a : Nat → Value, ftl 0 = 1 ∧ F_a 17 = .int 2 ∧ F_a 18 = .int 1 ∧ (∀ j : Nat, j ≠ 17 ∧ j ≠ 18 → F_a j = F j) ∧ va_P (dC, dI) vwCl [(qtl, .inl (ctl, 6002, .inl ftl)), (h0, .inr (15, fl 134 F_a)), (qst, .inr (14, [.null, .null, .null, .null, .null, .int 0]))] t.heap ∧ va_K (dC, dI) vwCl [(ctl, .int)] t ∧ va_D (va_A [(h0, .inr (15, fl 134 F)), (qtl, .inl (ctl, 6002, .inl ftl)), (qst, .inr (14, [.null, .null, .null, .null, .null, .int 0]))] sz) [(qtl, .inl (ctl, 6002, .inl ftl)), (h0, .inr (15, fl 134 F_a)), (qst, .inr (14, [.null, .null, .null, .null, .null, .int 0]))]) (va_A [(h0, .inr (15, fl 134 F)), (qtl, .inl (ctl, 6002, .inl ftl)), (qst, .inr (14, [.null, .null, .null, .null, .null, .int 0]))] sz)) 0 0 (va_A [(h0, .inr (15, fl 134 F)), (qtl, .inl (ctl, 6002, .inl ftl)), (qst, .inr (14, [.null, .null, .null, .null, .null, .int 0]))] sz) := by
  refine vx_ofW (cc := cX13_unfit) (maxL := 1) (ret := none) (by decide) rfl ?_
  intro p e s m args below meth c s₁ B hml htab hv
  obtain ⟨rfl, hsz, hP, hK, hD0⟩ := hv
  have hx := B.exec
  have hb := B.bytes
  have hr := B.returns
  have hts := atoms_spec (ws := ws_cm_unfit) B.pre
  have hown : s.vm.findClass RX13 = some m.cls := findClass_of_methodNamed B.named
  have hlocks := B.notSynchronized
  subst hsz
  have hD := hD0.self (sz := s.heap.size)
  generalize hAe : va_A [(h0, .inr (15, fl 134 F)), (qtl, .inl (ctl, 6002, .inl ftl)), (qst, .inr (14, [.null, .null, .null, .null, .null, .int 0]))] s.heap.size = A at hD ⊢
  have hA : ∀ q : Nat, s.heap.size ≤ q → A q := fun q h => by rw [← hAe]; exact Or.inr h
  have hS : va_S A s.heap s.heap [] := va_S.rf
  have hP : va_P (dC, dI) vwCl [(h0, .inr (15, fl 134 F)), (qtl, .inl (ctl, 6002, .inl ftl)), (qst, .inr (14, [.null, .null, .null, .null, .null, .int 0]))] s.heap := hP
  have hl := lv_entry ([.ref h0]) (n := 1) (Nat.le_of_ble_eq_true rfl)
  rw [lg_entry_eq]
  generalize (lg_sl ([.ref h0]) ++ List.replicate (1 - (lg_sl ([.ref h0])).length) Slot.unset).toArray = ls at hl ⊢
  have hl : lv_has ls 1 [(0, .ref h0)] := hl
  refine lv_aload_n hx hb dX13_unfit_0 rfl (lv_at hl 0 rfl) ?_
  refine lv_iconst (v := 2) hx hb dX13_unfit_1 (by decide) ?_
  refine lv_aload_n hx hb dX13_unfit_2 rfl (lv_at hl 0 rfl) ?_
  have hPc := hP.sub (ws' := [(h0, .inr (15, fl 134 F)), (qtl, .inl (ctl, 6002, .inl ftl))]) [0, 1] rfl
  have hDc := hD.sub (ws' := [(h0, .inr (15, fl 134 F)), (qtl, .inl (ctl, 6002, .inl ftl))]) [0, 1] (by decide) rfl
  have hKc := hK.sub (tys' := [(ctl, .int)]) [0] rfl
  have hFc := va_free (wc := [(h0, .inr (15, fl 134 F)), (qtl, .inl (ctl, 6002, .inl ftl))]) hD hS hA [0, 1] rfl
  refine va_calli (va_runV (As := []) (rest := [.int 2, .ref h0]) ⟨hx, hb, hml, hown, hts⟩ (cm_line l dC dI h0 F qtl ctl ftl s.heap.size hq32 hq11 htl9) (cwV 0 hts gg_cm_unfit_cm_line_355 rfl rfl rfl (by decide +kernel) ⟨(Nat.le_of_ble_eq_true rfl), (Nat.le_of_ble_eq_true rfl)⟩) ⟨fun a U g mk q => by obtain ⟨q0, q1, qP, qK, qD⟩ := q; exact ⟨q0, q1, qP, va_K.moved (u := U) (U := U.calling g mk a) (Vm.Alike.refl U.vm) qK, qD⟩, va_recv hKc hPc (ci := 15) (q0 := 0) rfl rfl, fun U hU hW => ⟨rfl, by rw [hU], by rw [hU]; exact hPc, va_K.moved hW.alike hKc, hDc.weaken (fun _ _ _ _ => trivial)⟩⟩ rfl rfl hl.1 rfl (lv_room (Nat.le_of_ble_eq_true rfl)) dX13_unfit_3 ⟨(Nat.le_of_ble_eq_true rfl), (Nat.le_of_ble_eq_true rfl)⟩) hS (fun q _ h => hFc q h) hFc (fun r9 u t H1 locs ht hvm hw hB hz1 hk1 hS => ?_)
  obtain ⟨hf_1, hf_2, hf_3, hP1, hK1, hD1⟩ := hB
  rw [ht] at hP1
  have hK1 := va_K.moved hvm.symm hK1
  obtain ⟨hP, hD⟩ := va_join (wr := [(qst, .inr (14, [.null, .null, .null, .null, .null, .int 0]))]) (w1 := [(h0, .inr (15, fl 134 F)), (qtl, .inl (ctl, 6002, .inl ftl))]) hP hD [0, 1] [2] rfl rfl (by decide) (by decide) hk1 hFc hP1 hD1
  have hK := (hK.sub (tys' := []) [] rfl).app hK1
  generalize H1 = H at hP hS ⊢
  have hK : va_K (dC, dI) vwCl [(ctl, .int)] s := hK
  have hP : va_P (dC, dI) vwCl [(qst, .inr (14, [.null, .null, .null, .null, .null, .int 0])), (h0, .inr (15, fl 134 F)), (qtl, .inl (ctl, 6002, .inl ftl))] H := hP
  have hD : va_D A [(qst, .inr (14, [.null, .null, .null, .null, .null, .int 0])), (h0, .inr (15, fl 134 F)), (qtl, .inl (ctl, 6002, .inl ftl))] := hD
  refine W.widen (k := 0) (n := 0) (Nat.le_of_ble_eq_true rfl) (Nat.le_of_ble_eq_true rfl) ?_
  obtain rfl : r9 = 1 := hw
  have hPc := hP.sub (ws' := [(h0, .inr (15, fl 134 F)), (qst, .inr (14, [.null, .null, .null, .null, .null, .int 0]))]) [1, 0] rfl
  have hDc := hD.sub (ws' := [(h0, .inr (15, fl 134 F)), (qst, .inr (14, [.null, .null, .null, .null, .null, .int 0]))]) [1, 0] (by decide) rfl
  have hKc := hK.sub (tys' := []) [] rfl
  have hFc := va_free (wc := [(h0, .inr (15, fl 134 F)), (qst, .inr (14, [.null, .null, .null, .null, .null, .int 0]))]) hD hS hA [1, 0] rfl
  refine vx_callv (vx_runV (As := [.int 2, .int 1]) (rest := []) ⟨hx, hb, hml, hown, hts⟩ (cm_first l dC dI h0 F qst H.size hq1) (cwV 2 hts gg_cm_unfit_cm_first_364 rfl rfl rfl (by decide +kernel) ⟨(Nat.le_of_ble_eq_true rfl), (Nat.le_of_ble_eq_true rfl)⟩) ⟨fun a U g mk q => by obtain ⟨q0, q1, qP, qK, qD⟩ := q; exact ⟨q0, q1, qP, va_K.moved (u := U) (U := U.calling g mk a) (Vm.Alike.refl U.vm) qK, qD⟩, va_recv hKc hPc (ci := 15) (q0 := 0) rfl rfl, fun U hU hW => ⟨rfl, by rw [hU], by rw [hU]; exact hPc, va_K.moved hW.alike hKc, hDc.weaken (fun _ _ _ _ => trivial)⟩⟩ rfl rfl hl.1 rfl (lv_room (Nat.le_of_ble_eq_true rfl)) dX13_unfit_6 ⟨(Nat.le_of_ble_eq_true rfl), (Nat.le_of_ble_eq_true rfl)⟩) hS (fun q _ h => hFc q h) hFc (fun q _ h => hFc q h) (fun E9 ce9 q9 u t H1 locs ht hvm hw hB hz1 hk1 hS hce9 hvm9 hcl9 => ?_) (fun u t H1 locs ht hvm hw hB hz1 hk1 hS => hw.elim)
  obtain ⟨rfl, F_4, hf_5, hf_6, hx_7, hP1, hK1, hD1⟩ := hB
  rw [ht] at hP1
  have hK1 := va_K.moved hvm.symm hK1
  have hfr_8 : ∀ j : Nat, j ≠ 17 ∧ j ≠ 18 → F_4 j = F j := fun j hj => (hx_7 j (by omega))
  have hk_9 : F_4 17 = .int 2 := hf_5
  have hk_10 : F_4 18 = .int 1 := hf_6
  have hk_11 : F_4 32 = .int 0 := ((hx_7 32 (by omega)).trans hq32)
  have hk_12 : F_4 11 = .ref qtl := ((hx_7 11 (by omega)).trans hq11)
  have hk_13 : F_4 1 = .ref qst := ((hx_7 1 (by omega)).trans hq1)
  obtain ⟨hP, hD⟩ := va_join (wr := [(qtl, .inl (ctl, 6002, .inl ftl))]) (w1 := [(h0, .inr (15, fl 134 F_4)), (qst, .inr (14, [.null, .null, .null, .null, .null, .int 0]))]) hP hD [1, 0] [2] rfl rfl (by decide) (by decide) hk1 hFc hP1 hD1
  have hK := (hK.sub (tys' := [(ctl, .int)]) [0] rfl).app hK1
  generalize H1 = H at hP hS hce9 ⊢
  have hK : va_K (dC, dI) vwCl [(ctl, .int)] s := hK
  have hP : va_P (dC, dI) vwCl [(qtl, .inl (ctl, 6002, .inl ftl)), (h0, .inr (15, fl 134 F_4)), (qst, .inr (14, [.null, .null, .null, .null, .null, .int 0]))] H := hP
  have hD : va_D A [(qtl, .inl (ctl, 6002, .inl ftl)), (h0, .inr (15, fl 134 F_4)), (qst, .inr (14, [.null, .null, .null, .null, .null, .int 0]))] := hD
  refine vx_widen (k := 0) (n := 0) (Nat.le_of_ble_eq_true rfl) (Nat.le_of_ble_eq_true rfl) ?_
  have hP9 := hP.sub (ws' := [(qtl, .inl (ctl, 6002, .inl ftl)), (h0, .inr (15, fl 134 F_4)), (qst, .inr (14, [.null, .null, .null, .null, .null, .int 0]))]) [0, 1, 2] rfl
  have hD9 := hD.sub (ws' := [(qtl, .inl (ctl, 6002, .inl ftl)), (h0, .inr (15, fl 134 F_4)), (qst, .inr (14, [.null, .null, .null, .null, .null, .int 0]))]) [0, 1, 2] (by decide) rfl
  have hK9 := hK.sub (tys' := [(ctl, .int)]) [0] rfl
  exact vx_out (E := RX12) (ce := ce9) (fun x hx => (htab x hx).elim) hlocks hce9 hvm9 hcl9 (fun t ht hW => ⟨(), trivial, ⟨rfl, F_4, hf_3, hk_9, hk_10, hfr_8, by rw [ht]; exact hP9, va_K.moved hW hK9, hD9⟩, hS.F ht⟩) hS.2.2 (Nat.le_of_ble_eq_true rfl) (Nat.le_of_ble_eq_true rfl)
def ws_cm_parse : List Cond := .code yX13_parse cX13_parse 2 none :: ([.fieldLink RX13 352 "LevelUnitsModel" "nodes" "I", .fieldLink RX13 349 "LevelUnitsModel" "at" "I", .fieldLink RX13 358 "LevelUnitsModel" "unit" "I", .fieldLink RX13 361 "LevelUnitsModel" "told" "I", .fieldLink RX13 386 "LevelUnitsModel" "units" "I", .fieldLink RX13 380 "LevelUnitsModel" "brackets" "I", .fieldLink RX13 389 "LevelUnitsModel" "nots" "I", .fieldLink RX13 392 "LevelUnitsModel" "typesOpen" "I", .fieldLink RX13 395 "LevelUnitsModel" "statementsOpen" "I", .fieldLink RX13 23 "LevelUnitsModel" "tSort" "[I", .code yX13_look cX13_look 1 none, .methodLink RX13 368 yX13_look, .instanceMethod yX13_look, .selects RX13 yX13_look yX13_look, .initialized RX13, .code yX13_is cX13_is 2 (some .boolean), .methodLink RX13 371 yX13_is, .instanceMethod yX13_is, .selects RX13 yX13_is yX13_is, .fieldLink RX13 30 "LevelUnitsModel" "tLine" "[I", .code yX13_line cX13_line 1 (some .int), .methodLink RX13 355 yX13_line, .instanceMethod yX13_line, .selects RX13 yX13_line yX13_line, .fieldLink RX13 343 "LevelUnitsModel" "fault" "I", .fieldLink RX13 346 "LevelUnitsModel" "faultLine" "I", .fieldLink RX13 10 "LevelUnitsModel" "stop" "LLevelUnitsModel$Stop;", .code yX13_first cX13_first 3 none, .methodLink RX13 364 yX13_first, .instanceMethod yX13_first, .selects RX13 yX13_first yX13_first, .code yX13_unfit cX13_unfit 1 none, .methodLink RX13 374 yX13_unfit, .instanceMethod yX13_unfit, .selects RX13 yX13_unfit yX13_unfit] ++ wsX130)
theorem in_cm_parse_RX13 : ∀ w ∈ wsX130, w ∈ ws_cm_parse := fun _ h => List.mem_cons_of_mem _ (List.mem_append_right _ h)
theorem g0_cm_parse_cm_look_368 : GoodIn ws_cm_parse ws_cm_look := goodIn_r _ [11, 10, 2, 36, 37, 38, 39, 40, 41, 42, 43, 44, 45, 46, 47, 48, 49, 50, 51, 52, 53, 54, 55, 56, 57, 58, 59, 60, 61, 62, 63, 64, 65, 66, 67, 68, 69, 70, 71, 72, 73, 74, 75, 76, 77, 78, 79, 80, 81, 82, 83, 84, 85, 86, 87, 88, 89, 90, 91, 92, 93, 94, 95, 96, 97, 98, 99, 100, 101, 102, 103, 104, 105, 106, 107, 108, 109, 110, 111, 112, 113, 114, 115, 116, 117, 118, 119, 120, 121, 122, 123, 124, 125, 126, 127, 128, 129, 130, 131, 132, 133, 134, 135, 136, 137, 138, 139, 140, 141, 142, 143, 144, 145, 146, 147, 148, 149, 150, 151, 152, 153, 154, 155, 156, 157, 158, 159, 160, 161, 162, 163, 164, 165, 166, 167, 168, 169] (by decide +kernel) (by decide +kernel)
theorem gg_cm_parse_cm_look_368 : GoodIn ws_cm_parse (wsV RX13 368 RX13 yX13_look ws_cm_look) := goodIn_app (goodIn_of _ (by decide +kernel)) g0_cm_parse_cm_look_368
theorem g0_cm_parse_cm_is_21_371 : GoodIn ws_cm_parse ws_cm_is_21 := goodIn_r _ [16, 10, 2, 36, 37, 38, 39, 40, 41, 42, 43, 44, 45, 46, 47, 48, 49, 50, 51, 52, 53, 54, 55, 56, 57, 58, 59, 60, 61, 62, 63, 64, 65, 66, 67, 68, 69, 70, 71, 72, 73, 74, 75, 76, 77, 78, 79, 80, 81, 82, 83, 84, 85, 86, 87, 88, 89, 90, 91, 92, 93, 94, 95, 96, 97, 98, 99, 100, 101, 102, 103, 104, 105, 106, 107, 108, 109, 110, 111, 112, 113, 114, 115, 116, 117, 118, 119, 120, 121, 122, 123, 124, 125, 126, 127, 128, 129, 130, 131, 132, 133, 134, 135, 136, 137, 138, 139, 140, 141, 142, 143, 144, 145, 146, 147, 148, 149, 150, 151, 152, 153, 154, 155, 156, 157, 158, 159, 160, 161, 162, 163, 164, 165, 166, 167, 168, 169] (by decide +kernel) (by decide +kernel)
theorem gg_cm_parse_cm_is_21_371 : GoodIn ws_cm_parse (wsV RX13 371 RX13 yX13_is ws_cm_is_21) := goodIn_app (goodIn_of _ (by decide +kernel)) g0_cm_parse_cm_is_21_371
theorem g0_cm_parse_cm_is_28_371 : GoodIn ws_cm_parse ws_cm_is_28 := goodIn_r _ [16, 10, 2, 36, 37, 38, 39, 40, 41, 42, 43, 44, 45, 46, 47, 48, 49, 50, 51, 52, 53, 54, 55, 56, 57, 58, 59, 60, 61, 62, 63, 64, 65, 66, 67, 68, 69, 70, 71, 72, 73, 74, 75, 76, 77, 78, 79, 80, 81, 82, 83, 84, 85, 86, 87, 88, 89, 90, 91, 92, 93, 94, 95, 96, 97, 98, 99, 100, 101, 102, 103, 104, 105, 106, 107, 108, 109, 110, 111, 112, 113, 114, 115, 116, 117, 118, 119, 120, 121, 122, 123, 124, 125, 126, 127, 128, 129, 130, 131, 132, 133, 134, 135, 136, 137, 138, 139, 140, 141, 142, 143, 144, 145, 146, 147, 148, 149, 150, 151, 152, 153, 154, 155, 156, 157, 158, 159, 160, 161, 162, 163, 164, 165, 166, 167, 168, 169] (by decide +kernel) (by decide +kernel)
theorem gg_cm_parse_cm_is_28_371 : GoodIn ws_cm_parse (wsV RX13 371 RX13 yX13_is ws_cm_is_28) := goodIn_app (goodIn_of _ (by decide +kernel)) g0_cm_parse_cm_is_28_371
theorem g0_cm_parse_cm_unfit_374 : GoodIn ws_cm_parse ws_cm_unfit := goodIn_r _ [32, 20, 2, 21, 22, 23, 24, 15, 25, 26, 27, 28, 29, 30, 31, 36, 37, 38, 39, 40, 41, 42, 43, 44, 45, 46, 47, 48, 49, 50, 51, 52, 53, 54, 55, 56, 57, 58, 59, 60, 61, 62, 63, 64, 65, 66, 67, 68, 69, 70, 71, 72, 73, 74, 75, 76, 77, 78, 79, 80, 81, 82, 83, 84, 85, 86, 87, 88, 89, 90, 91, 92, 93, 94, 95, 96, 97, 98, 99, 100, 101, 102, 103, 104, 105, 106, 107, 108, 109, 110, 111, 112, 113, 114, 115, 116, 117, 118, 119, 120, 121, 122, 123, 124, 125, 126, 127, 128, 129, 130, 131, 132, 133, 134, 135, 136, 137, 138, 139, 140, 141, 142, 143, 144, 145, 146, 147, 148, 149, 150, 151, 152, 153, 154, 155, 156, 157, 158, 159, 160, 161, 162, 163, 164, 165, 166, 167, 168, 169] (by decide +kernel) (by decide +kernel)
theorem gg_cm_parse_cm_unfit_374 : GoodIn ws_cm_parse (wsV RX13 374 RX13 yX13_unfit ws_cm_unfit) := goodIn_app (goodIn_of _ (by decide +kernel)) g0_cm_parse_cm_unfit_374
set_option maxHeartbeats 4000000 in
set_option maxRecDepth 100000 in
theorem cm_parse (l : Launch) (dC : Nat → ClassId) (dI : Nat → Nat → Nat) (h0 : Nat) (F : Nat → Value) (qst : Nat) (qts : Nat) (qtl : Nat) (cts : ClassId) (ctl : ClassId) (fts : Nat → Int32) (ftl : Nat → Int32) (sz : Nat) (hq1 : F 1 = .ref qst) (hq9 : F 9 = .ref qts) (hq11 : F 11 = .ref qtl) (hts9 : fts 0 = 203) (htl9 : ftl 0 = 1) : vx_Met l yX13_parse ws_cm_parse ({ frames := 2, cells := 0, slots := 0, locals := 42 }) (va_Pc [.ref h0] (fun U => U.heap.size = sz ∧ va_P (dC, dI) vwCl [(h0, .inr (15, fl 134 F)), (qts, .inl (cts, 6002, .inl fts)), (qtl, .inl (ctl, 6002, .inl ftl)), (qst, .inr (14, [.null, .null, .null, .null, .null, .int 0]))] U.heap ∧ va_K (dC, dI) vwCl [(cts, .int), (ctl, .int)] U ∧ va_D (fun _ => True) [(h0, .inr (15, fl 134 F)), (qts, .inl (cts, 6002, .inl fts)), (qtl, .inl (ctl, 6002, .inl ftl)), (qst, .inr (14, [.null, .null, .null, .null, .null, .int 0]))])) (va_Qv (fun _ : Unit => False) (fun _ _ => True) (va_A [(h0, .inr (15, fl 134 F)), (qts, .inl (cts, 6002, .inl fts)), (qtl, .inl (ctl, 6002, .inl ftl)), (qst, .inr (14, [.null, .null, .null, .null, .null, .int 0]))] sz)) (vx_X (fun _ : Unit => True) (fun E _ t => E = RX12 ∧ ∃ F_a : Nat → Value, fts 0 = 203 ∧ ftl 0 = 1 ∧ F_a 17 = .int 2 ∧ F_a 18 = .int 1 ∧ (∀ j : Nat, j ≠ 17 ∧ j ≠ 18 ∧ j ≠ 19 ∧ j ≠ 32 ∧ j ≠ 33 ∧ j ≠ 34 ∧ j ≠ 37 ∧ j ≠ 38 ∧ j ≠ 39 ∧ j ≠ 40 ∧ j ≠ 41 → F_a j = F j) ∧ va_P (dC, dI) vwCl [(qts, .inl (cts, 6002, .inl fts)), (qtl, .inl (ctl, 6002, .inl ftl)), (h0, .inr (15, fl 134 F_a)), (qst, .inr (14, [.null, .null, .null, .null, .null, .int 0]))] t.heap ∧ va_K (dC, dI) vwCl [(cts, .int), (ctl, .int)] t ∧ va_D (va_A [(h0, .inr (15, fl 134 F)), (qts, .inl (cts, 6002, .inl fts)), (qtl, .inl (ctl, 6002, .inl ftl)), (qst, .inr (14, [.null, .null, .null, .null, .null, .int 0]))] sz) [(qts, .inl (cts, 6002, .inl fts)), (qtl, .inl (ctl, 6002, .inl ftl)), (h0, .inr (15, fl 134 F_a)), (qst, .inr (14, [.null, .null, .null, .null, .null, .int 0]))]) (va_A [(h0, .inr (15, fl 134 F)), (qts, .inl (cts, 6002, .inl fts)), (qtl, .inl (ctl, 6002, .inl ftl)), (qst, .inr (14, [.null, .null, .null, .null, .null, .int 0]))] sz)) 0 0 (va_A [(h0, .inr (15, fl 134 F)), (qts, .inl (cts, 6002, .inl fts)), (qtl, .inl (ctl, 6002, .inl ftl)), (qst, .inr (14, [.null, .null, .null, .null, .null, .int 0]))] sz) := by
  refine vx_ofW (cc := cX13_parse) (maxL := 2) (ret := none) (by decide) rfl ?_
  intro p e s m args below meth c s₁ B hml htab hv
  obtain ⟨rfl, hsz, hP, hK, hD0⟩ := hv
  have hx := B.exec
  have hb := B.bytes
  have hr := B.returns
  have hts := atoms_spec (ws := ws_cm_parse) B.pre
  have hown : s.vm.findClass RX13 = some m.cls := findClass_of_methodNamed B.named
  have hlocks := B.notSynchronized
  subst hsz
  have hD := hD0.self (sz := s.heap.size)
  generalize hAe : va_A [(h0, .inr (15, fl 134 F)), (qts, .inl (cts, 6002, .inl fts)), (qtl, .inl (ctl, 6002, .inl ftl)), (qst, .inr (14, [.null, .null, .null, .null, .null, .int 0]))] s.heap.size = A at hD ⊢
  have hA : ∀ q : Nat, s.heap.size ≤ q → A q := fun q h => by rw [← hAe]; exact Or.inr h
  have hS : va_S A s.heap s.heap [] := va_S.rf
  have hP : va_P (dC, dI) vwCl [(h0, .inr (15, fl 134 F)), (qts, .inl (cts, 6002, .inl fts)), (qtl, .inl (ctl, 6002, .inl ftl)), (qst, .inr (14, [.null, .null, .null, .null, .null, .int 0]))] s.heap := hP
  have hl := lv_entry ([.ref h0]) (n := 2) (Nat.le_of_ble_eq_true rfl)
  rw [lg_entry_eq]
  generalize (lg_sl ([.ref h0]) ++ List.replicate (2 - (lg_sl ([.ref h0])).length) Slot.unset).toArray = ls at hl ⊢
  have hl : lv_has ls 2 [(0, .ref h0)] := hl
  refine lv_aload_n hx hb dX13_parse_0 rfl (lv_at hl 0 rfl) ?_
  refine lv_iconst (v := 0) hx hb dX13_parse_1 (by decide) ?_
  refine va_put (D := (dC, dI)) (ci := 15) (v := .int 0) (ty := .int) (C := RX13) (T := TX13) (N := 134) hx hb hts in_cm_parse_RX13 tyX13 tyX13_ok nmX13 hown hK hP hD hS 0 rfl rfl 19 (by decide) (hts (.fieldLink RX13 352 "LevelUnitsModel" "nodes" "I") (List.mem_of_getElem? (i := 1) rfl)) (fun _ h9 => h9) rfl (by decide +kernel) rfl rfl (fl_lt (by decide)) dX13_parse_2 (fun H locs hP hD hS => ?_)
  obtain ⟨F_1, eF_1⟩ : ∃ z, z = fu F 19 (.int 0) := ⟨_, rfl⟩
  have hP : va_P (dC, dI) vwCl [(h0, .inr (15, fl 134 F_1)), (qts, .inl (cts, 6002, .inl fts)), (qtl, .inl (ctl, 6002, .inl ftl)), (qst, .inr (14, [.null, .null, .null, .null, .null, .int 0]))] H := by rw [eF_1, ← fl_set (n := 134) (k := 19) (by decide)]; exact hP
  have hD : va_D A [(h0, .inr (15, fl 134 F_1)), (qts, .inl (cts, 6002, .inl fts)), (qtl, .inl (ctl, 6002, .inl ftl)), (qst, .inr (14, [.null, .null, .null, .null, .null, .int 0]))] := by rw [eF_1, ← fl_set (n := 134) (k := 19) (by decide)]; exact hD
  have hfr_2 : ∀ j : Nat, j ≠ 19 → F_1 j = F j := fun j hj => (fu_out eF_1 (by omega))
  have hk_3 : F_1 1 = .ref qst := (fu_ne eF_1 (by decide) hq1)
  have hk_4 : F_1 9 = .ref qts := (fu_ne eF_1 (by decide) hq9)
  have hk_5 : F_1 11 = .ref qtl := (fu_ne eF_1 (by decide) hq11)
  have hk_6 : F_1 19 = .int 0 := (fu_eq eF_1)
  refine lv_aload_n hx hb dX13_parse_5 rfl (lv_at hl 0 rfl) ?_
  refine lv_iconst (v := 0) hx hb dX13_parse_6 (by decide) ?_
  refine va_put (D := (dC, dI)) (ci := 15) (v := .int 0) (ty := .int) (C := RX13) (T := TX13) (N := 134) hx hb hts in_cm_parse_RX13 tyX13 tyX13_ok nmX13 hown hK hP hD hS 0 rfl rfl 32 (by decide) (hts (.fieldLink RX13 349 "LevelUnitsModel" "at" "I") (List.mem_of_getElem? (i := 2) rfl)) (fun _ h9 => h9) rfl (by decide +kernel) rfl rfl (fl_lt (by decide)) dX13_parse_7 (fun H locs hP hD hS => ?_)
  obtain ⟨F_7, eF_7⟩ : ∃ z, z = fu F_1 32 (.int 0) := ⟨_, rfl⟩
  have hP : va_P (dC, dI) vwCl [(h0, .inr (15, fl 134 F_7)), (qts, .inl (cts, 6002, .inl fts)), (qtl, .inl (ctl, 6002, .inl ftl)), (qst, .inr (14, [.null, .null, .null, .null, .null, .int 0]))] H := by rw [eF_7, ← fl_set (n := 134) (k := 32) (by decide)]; exact hP
  have hD : va_D A [(h0, .inr (15, fl 134 F_7)), (qts, .inl (cts, 6002, .inl fts)), (qtl, .inl (ctl, 6002, .inl ftl)), (qst, .inr (14, [.null, .null, .null, .null, .null, .int 0]))] := by rw [eF_7, ← fl_set (n := 134) (k := 32) (by decide)]; exact hD
  have hfr_8 : ∀ j : Nat, j ≠ 19 ∧ j ≠ 32 → F_7 j = F j := fun j hj => (fu_out eF_7 (by omega)).trans (hfr_2 j (by omega))
  have hk_9 : F_7 1 = .ref qst := (fu_ne eF_7 (by decide) hk_3)
  have hk_10 : F_7 9 = .ref qts := (fu_ne eF_7 (by decide) hk_4)
  have hk_11 : F_7 11 = .ref qtl := (fu_ne eF_7 (by decide) hk_5)
  have hk_12 : F_7 19 = .int 0 := (fu_ne eF_7 (by decide) hk_6)
  have hk_13 : F_7 32 = .int 0 := (fu_eq eF_7)
  refine lv_aload_n hx hb dX13_parse_10 rfl (lv_at hl 0 rfl) ?_
  refine lv_iconst (v := 0) hx hb dX13_parse_11 (by decide) ?_
  refine va_put (D := (dC, dI)) (ci := 15) (v := .int 0) (ty := .int) (C := RX13) (T := TX13) (N := 134) hx hb hts in_cm_parse_RX13 tyX13 tyX13_ok nmX13 hown hK hP hD hS 0 rfl rfl 33 (by decide) (hts (.fieldLink RX13 358 "LevelUnitsModel" "unit" "I") (List.mem_of_getElem? (i := 3) rfl)) (fun _ h9 => h9) rfl (by decide +kernel) rfl rfl (fl_lt (by decide)) dX13_parse_12 (fun H locs hP hD hS => ?_)
  obtain ⟨F_14, eF_14⟩ : ∃ z, z = fu F_7 33 (.int 0) := ⟨_, rfl⟩
  have hP : va_P (dC, dI) vwCl [(h0, .inr (15, fl 134 F_14)), (qts, .inl (cts, 6002, .inl fts)), (qtl, .inl (ctl, 6002, .inl ftl)), (qst, .inr (14, [.null, .null, .null, .null, .null, .int 0]))] H := by rw [eF_14, ← fl_set (n := 134) (k := 33) (by decide)]; exact hP
  have hD : va_D A [(h0, .inr (15, fl 134 F_14)), (qts, .inl (cts, 6002, .inl fts)), (qtl, .inl (ctl, 6002, .inl ftl)), (qst, .inr (14, [.null, .null, .null, .null, .null, .int 0]))] := by rw [eF_14, ← fl_set (n := 134) (k := 33) (by decide)]; exact hD
  have hfr_15 : ∀ j : Nat, j ≠ 19 ∧ j ≠ 32 ∧ j ≠ 33 → F_14 j = F j := fun j hj => (fu_out eF_14 (by omega)).trans (hfr_8 j (by omega))
  have hk_16 : F_14 1 = .ref qst := (fu_ne eF_14 (by decide) hk_9)
  have hk_17 : F_14 9 = .ref qts := (fu_ne eF_14 (by decide) hk_10)
  have hk_18 : F_14 11 = .ref qtl := (fu_ne eF_14 (by decide) hk_11)
  have hk_19 : F_14 19 = .int 0 := (fu_ne eF_14 (by decide) hk_12)
  have hk_20 : F_14 32 = .int 0 := (fu_ne eF_14 (by decide) hk_13)
  have hk_21 : F_14 33 = .int 0 := (fu_eq eF_14)
  refine lv_aload_n hx hb dX13_parse_15 rfl (lv_at hl 0 rfl) ?_
  refine lv_iconst (v := 0) hx hb dX13_parse_16 (by decide) ?_
  refine va_put (D := (dC, dI)) (ci := 15) (v := .int 0) (ty := .int) (C := RX13) (T := TX13) (N := 134) hx hb hts in_cm_parse_RX13 tyX13 tyX13_ok nmX13 hown hK hP hD hS 0 rfl rfl 34 (by decide) (hts (.fieldLink RX13 361 "LevelUnitsModel" "told" "I") (List.mem_of_getElem? (i := 4) rfl)) (fun _ h9 => h9) rfl (by decide +kernel) rfl rfl (fl_lt (by decide)) dX13_parse_17 (fun H locs hP hD hS => ?_)
  obtain ⟨F_22, eF_22⟩ : ∃ z, z = fu F_14 34 (.int 0) := ⟨_, rfl⟩
  have hP : va_P (dC, dI) vwCl [(h0, .inr (15, fl 134 F_22)), (qts, .inl (cts, 6002, .inl fts)), (qtl, .inl (ctl, 6002, .inl ftl)), (qst, .inr (14, [.null, .null, .null, .null, .null, .int 0]))] H := by rw [eF_22, ← fl_set (n := 134) (k := 34) (by decide)]; exact hP
  have hD : va_D A [(h0, .inr (15, fl 134 F_22)), (qts, .inl (cts, 6002, .inl fts)), (qtl, .inl (ctl, 6002, .inl ftl)), (qst, .inr (14, [.null, .null, .null, .null, .null, .int 0]))] := by rw [eF_22, ← fl_set (n := 134) (k := 34) (by decide)]; exact hD
  have hfr_23 : ∀ j : Nat, j ≠ 19 ∧ j ≠ 32 ∧ j ≠ 33 ∧ j ≠ 34 → F_22 j = F j := fun j hj => (fu_out eF_22 (by omega)).trans (hfr_15 j (by omega))
  have hk_24 : F_22 1 = .ref qst := (fu_ne eF_22 (by decide) hk_16)
  have hk_25 : F_22 9 = .ref qts := (fu_ne eF_22 (by decide) hk_17)
  have hk_26 : F_22 11 = .ref qtl := (fu_ne eF_22 (by decide) hk_18)
  have hk_27 : F_22 19 = .int 0 := (fu_ne eF_22 (by decide) hk_19)
  have hk_28 : F_22 32 = .int 0 := (fu_ne eF_22 (by decide) hk_20)
  have hk_29 : F_22 33 = .int 0 := (fu_ne eF_22 (by decide) hk_21)
  have hk_30 : F_22 34 = .int 0 := (fu_eq eF_22)
  refine lv_aload_n hx hb dX13_parse_20 rfl (lv_at hl 0 rfl) ?_
  refine lv_iconst (v := 0) hx hb dX13_parse_21 (by decide) ?_
  refine va_put (D := (dC, dI)) (ci := 15) (v := .int 0) (ty := .int) (C := RX13) (T := TX13) (N := 134) hx hb hts in_cm_parse_RX13 tyX13 tyX13_ok nmX13 hown hK hP hD hS 0 rfl rfl 41 (by decide) (hts (.fieldLink RX13 386 "LevelUnitsModel" "units" "I") (List.mem_of_getElem? (i := 5) rfl)) (fun _ h9 => h9) rfl (by decide +kernel) rfl rfl (fl_lt (by decide)) dX13_parse_22 (fun H locs hP hD hS => ?_)
  obtain ⟨F_31, eF_31⟩ : ∃ z, z = fu F_22 41 (.int 0) := ⟨_, rfl⟩
  have hP : va_P (dC, dI) vwCl [(h0, .inr (15, fl 134 F_31)), (qts, .inl (cts, 6002, .inl fts)), (qtl, .inl (ctl, 6002, .inl ftl)), (qst, .inr (14, [.null, .null, .null, .null, .null, .int 0]))] H := by rw [eF_31, ← fl_set (n := 134) (k := 41) (by decide)]; exact hP
  have hD : va_D A [(h0, .inr (15, fl 134 F_31)), (qts, .inl (cts, 6002, .inl fts)), (qtl, .inl (ctl, 6002, .inl ftl)), (qst, .inr (14, [.null, .null, .null, .null, .null, .int 0]))] := by rw [eF_31, ← fl_set (n := 134) (k := 41) (by decide)]; exact hD
  have hfr_32 : ∀ j : Nat, j ≠ 19 ∧ j ≠ 32 ∧ j ≠ 33 ∧ j ≠ 34 ∧ j ≠ 41 → F_31 j = F j := fun j hj => (fu_out eF_31 (by omega)).trans (hfr_23 j (by omega))
  have hk_33 : F_31 1 = .ref qst := (fu_ne eF_31 (by decide) hk_24)
  have hk_34 : F_31 9 = .ref qts := (fu_ne eF_31 (by decide) hk_25)
  have hk_35 : F_31 11 = .ref qtl := (fu_ne eF_31 (by decide) hk_26)
  have hk_36 : F_31 19 = .int 0 := (fu_ne eF_31 (by decide) hk_27)
  have hk_37 : F_31 32 = .int 0 := (fu_ne eF_31 (by decide) hk_28)
  have hk_38 : F_31 33 = .int 0 := (fu_ne eF_31 (by decide) hk_29)
  have hk_39 : F_31 34 = .int 0 := (fu_ne eF_31 (by decide) hk_30)
  have hk_40 : F_31 41 = .int 0 := (fu_eq eF_31)
  refine lv_aload_n hx hb dX13_parse_25 rfl (lv_at hl 0 rfl) ?_
  refine lv_iconst (v := 0) hx hb dX13_parse_26 (by decide) ?_
  refine va_put (D := (dC, dI)) (ci := 15) (v := .int 0) (ty := .int) (C := RX13) (T := TX13) (N := 134) hx hb hts in_cm_parse_RX13 tyX13 tyX13_ok nmX13 hown hK hP hD hS 0 rfl rfl 37 (by decide) (hts (.fieldLink RX13 380 "LevelUnitsModel" "brackets" "I") (List.mem_of_getElem? (i := 6) rfl)) (fun _ h9 => h9) rfl (by decide +kernel) rfl rfl (fl_lt (by decide)) dX13_parse_27 (fun H locs hP hD hS => ?_)
  obtain ⟨F_41, eF_41⟩ : ∃ z, z = fu F_31 37 (.int 0) := ⟨_, rfl⟩
  have hP : va_P (dC, dI) vwCl [(h0, .inr (15, fl 134 F_41)), (qts, .inl (cts, 6002, .inl fts)), (qtl, .inl (ctl, 6002, .inl ftl)), (qst, .inr (14, [.null, .null, .null, .null, .null, .int 0]))] H := by rw [eF_41, ← fl_set (n := 134) (k := 37) (by decide)]; exact hP
  have hD : va_D A [(h0, .inr (15, fl 134 F_41)), (qts, .inl (cts, 6002, .inl fts)), (qtl, .inl (ctl, 6002, .inl ftl)), (qst, .inr (14, [.null, .null, .null, .null, .null, .int 0]))] := by rw [eF_41, ← fl_set (n := 134) (k := 37) (by decide)]; exact hD
  have hfr_42 : ∀ j : Nat, j ≠ 19 ∧ j ≠ 32 ∧ j ≠ 33 ∧ j ≠ 34 ∧ j ≠ 37 ∧ j ≠ 41 → F_41 j = F j := fun j hj => (fu_out eF_41 (by omega)).trans (hfr_32 j (by omega))
  have hk_43 : F_41 1 = .ref qst := (fu_ne eF_41 (by decide) hk_33)
  have hk_44 : F_41 9 = .ref qts := (fu_ne eF_41 (by decide) hk_34)
  have hk_45 : F_41 11 = .ref qtl := (fu_ne eF_41 (by decide) hk_35)
  have hk_46 : F_41 19 = .int 0 := (fu_ne eF_41 (by decide) hk_36)
  have hk_47 : F_41 32 = .int 0 := (fu_ne eF_41 (by decide) hk_37)
  have hk_48 : F_41 33 = .int 0 := (fu_ne eF_41 (by decide) hk_38)
  have hk_49 : F_41 34 = .int 0 := (fu_ne eF_41 (by decide) hk_39)
  have hk_50 : F_41 41 = .int 0 := (fu_ne eF_41 (by decide) hk_40)
  have hk_51 : F_41 37 = .int 0 := (fu_eq eF_41)
  refine lv_aload_n hx hb dX13_parse_30 rfl (lv_at hl 0 rfl) ?_
  refine lv_iconst (v := 0) hx hb dX13_parse_31 (by decide) ?_
  refine va_put (D := (dC, dI)) (ci := 15) (v := .int 0) (ty := .int) (C := RX13) (T := TX13) (N := 134) hx hb hts in_cm_parse_RX13 tyX13 tyX13_ok nmX13 hown hK hP hD hS 0 rfl rfl 38 (by decide) (hts (.fieldLink RX13 389 "LevelUnitsModel" "nots" "I") (List.mem_of_getElem? (i := 7) rfl)) (fun _ h9 => h9) rfl (by decide +kernel) rfl rfl (fl_lt (by decide)) dX13_parse_32 (fun H locs hP hD hS => ?_)
  obtain ⟨F_52, eF_52⟩ : ∃ z, z = fu F_41 38 (.int 0) := ⟨_, rfl⟩
  have hP : va_P (dC, dI) vwCl [(h0, .inr (15, fl 134 F_52)), (qts, .inl (cts, 6002, .inl fts)), (qtl, .inl (ctl, 6002, .inl ftl)), (qst, .inr (14, [.null, .null, .null, .null, .null, .int 0]))] H := by rw [eF_52, ← fl_set (n := 134) (k := 38) (by decide)]; exact hP
  have hD : va_D A [(h0, .inr (15, fl 134 F_52)), (qts, .inl (cts, 6002, .inl fts)), (qtl, .inl (ctl, 6002, .inl ftl)), (qst, .inr (14, [.null, .null, .null, .null, .null, .int 0]))] := by rw [eF_52, ← fl_set (n := 134) (k := 38) (by decide)]; exact hD
  have hfr_53 : ∀ j : Nat, j ≠ 19 ∧ j ≠ 32 ∧ j ≠ 33 ∧ j ≠ 34 ∧ j ≠ 37 ∧ j ≠ 38 ∧ j ≠ 41 → F_52 j = F j := fun j hj => (fu_out eF_52 (by omega)).trans (hfr_42 j (by omega))
  have hk_54 : F_52 1 = .ref qst := (fu_ne eF_52 (by decide) hk_43)
  have hk_55 : F_52 9 = .ref qts := (fu_ne eF_52 (by decide) hk_44)
  have hk_56 : F_52 11 = .ref qtl := (fu_ne eF_52 (by decide) hk_45)
  have hk_57 : F_52 19 = .int 0 := (fu_ne eF_52 (by decide) hk_46)
  have hk_58 : F_52 32 = .int 0 := (fu_ne eF_52 (by decide) hk_47)
  have hk_59 : F_52 33 = .int 0 := (fu_ne eF_52 (by decide) hk_48)
  have hk_60 : F_52 34 = .int 0 := (fu_ne eF_52 (by decide) hk_49)
  have hk_61 : F_52 41 = .int 0 := (fu_ne eF_52 (by decide) hk_50)
  have hk_62 : F_52 37 = .int 0 := (fu_ne eF_52 (by decide) hk_51)
  have hk_63 : F_52 38 = .int 0 := (fu_eq eF_52)
  refine lv_aload_n hx hb dX13_parse_35 rfl (lv_at hl 0 rfl) ?_
  refine lv_iconst (v := 0) hx hb dX13_parse_36 (by decide) ?_
  refine va_put (D := (dC, dI)) (ci := 15) (v := .int 0) (ty := .int) (C := RX13) (T := TX13) (N := 134) hx hb hts in_cm_parse_RX13 tyX13 tyX13_ok nmX13 hown hK hP hD hS 0 rfl rfl 39 (by decide) (hts (.fieldLink RX13 392 "LevelUnitsModel" "typesOpen" "I") (List.mem_of_getElem? (i := 8) rfl)) (fun _ h9 => h9) rfl (by decide +kernel) rfl rfl (fl_lt (by decide)) dX13_parse_37 (fun H locs hP hD hS => ?_)
  obtain ⟨F_64, eF_64⟩ : ∃ z, z = fu F_52 39 (.int 0) := ⟨_, rfl⟩
  have hP : va_P (dC, dI) vwCl [(h0, .inr (15, fl 134 F_64)), (qts, .inl (cts, 6002, .inl fts)), (qtl, .inl (ctl, 6002, .inl ftl)), (qst, .inr (14, [.null, .null, .null, .null, .null, .int 0]))] H := by rw [eF_64, ← fl_set (n := 134) (k := 39) (by decide)]; exact hP
  have hD : va_D A [(h0, .inr (15, fl 134 F_64)), (qts, .inl (cts, 6002, .inl fts)), (qtl, .inl (ctl, 6002, .inl ftl)), (qst, .inr (14, [.null, .null, .null, .null, .null, .int 0]))] := by rw [eF_64, ← fl_set (n := 134) (k := 39) (by decide)]; exact hD
  have hfr_65 : ∀ j : Nat, j ≠ 19 ∧ j ≠ 32 ∧ j ≠ 33 ∧ j ≠ 34 ∧ j ≠ 37 ∧ j ≠ 38 ∧ j ≠ 39 ∧ j ≠ 41 → F_64 j = F j := fun j hj => (fu_out eF_64 (by omega)).trans (hfr_53 j (by omega))
  have hk_66 : F_64 1 = .ref qst := (fu_ne eF_64 (by decide) hk_54)
  have hk_67 : F_64 9 = .ref qts := (fu_ne eF_64 (by decide) hk_55)
  have hk_68 : F_64 11 = .ref qtl := (fu_ne eF_64 (by decide) hk_56)
  have hk_69 : F_64 19 = .int 0 := (fu_ne eF_64 (by decide) hk_57)
  have hk_70 : F_64 32 = .int 0 := (fu_ne eF_64 (by decide) hk_58)
  have hk_71 : F_64 33 = .int 0 := (fu_ne eF_64 (by decide) hk_59)
  have hk_72 : F_64 34 = .int 0 := (fu_ne eF_64 (by decide) hk_60)
  have hk_73 : F_64 41 = .int 0 := (fu_ne eF_64 (by decide) hk_61)
  have hk_74 : F_64 37 = .int 0 := (fu_ne eF_64 (by decide) hk_62)
  have hk_75 : F_64 38 = .int 0 := (fu_ne eF_64 (by decide) hk_63)
  have hk_76 : F_64 39 = .int 0 := (fu_eq eF_64)
  refine lv_aload_n hx hb dX13_parse_40 rfl (lv_at hl 0 rfl) ?_
  refine lv_iconst (v := 0) hx hb dX13_parse_41 (by decide) ?_
  refine va_put (D := (dC, dI)) (ci := 15) (v := .int 0) (ty := .int) (C := RX13) (T := TX13) (N := 134) hx hb hts in_cm_parse_RX13 tyX13 tyX13_ok nmX13 hown hK hP hD hS 0 rfl rfl 40 (by decide) (hts (.fieldLink RX13 395 "LevelUnitsModel" "statementsOpen" "I") (List.mem_of_getElem? (i := 9) rfl)) (fun _ h9 => h9) rfl (by decide +kernel) rfl rfl (fl_lt (by decide)) dX13_parse_42 (fun H locs hP hD hS => ?_)
  obtain ⟨F_77, eF_77⟩ : ∃ z, z = fu F_64 40 (.int 0) := ⟨_, rfl⟩
  have hP : va_P (dC, dI) vwCl [(h0, .inr (15, fl 134 F_77)), (qts, .inl (cts, 6002, .inl fts)), (qtl, .inl (ctl, 6002, .inl ftl)), (qst, .inr (14, [.null, .null, .null, .null, .null, .int 0]))] H := by rw [eF_77, ← fl_set (n := 134) (k := 40) (by decide)]; exact hP
  have hD : va_D A [(h0, .inr (15, fl 134 F_77)), (qts, .inl (cts, 6002, .inl fts)), (qtl, .inl (ctl, 6002, .inl ftl)), (qst, .inr (14, [.null, .null, .null, .null, .null, .int 0]))] := by rw [eF_77, ← fl_set (n := 134) (k := 40) (by decide)]; exact hD
  have hfr_78 : ∀ j : Nat, j ≠ 19 ∧ j ≠ 32 ∧ j ≠ 33 ∧ j ≠ 34 ∧ j ≠ 37 ∧ j ≠ 38 ∧ j ≠ 39 ∧ j ≠ 40 ∧ j ≠ 41 → F_77 j = F j := fun j hj => (fu_out eF_77 (by omega)).trans (hfr_65 j (by omega))
  have hk_79 : F_77 1 = .ref qst := (fu_ne eF_77 (by decide) hk_66)
  have hk_80 : F_77 9 = .ref qts := (fu_ne eF_77 (by decide) hk_67)
  have hk_81 : F_77 11 = .ref qtl := (fu_ne eF_77 (by decide) hk_68)
  have hk_82 : F_77 19 = .int 0 := (fu_ne eF_77 (by decide) hk_69)
  have hk_83 : F_77 32 = .int 0 := (fu_ne eF_77 (by decide) hk_70)
  have hk_84 : F_77 33 = .int 0 := (fu_ne eF_77 (by decide) hk_71)
  have hk_85 : F_77 34 = .int 0 := (fu_ne eF_77 (by decide) hk_72)
  have hk_86 : F_77 41 = .int 0 := (fu_ne eF_77 (by decide) hk_73)
  have hk_87 : F_77 37 = .int 0 := (fu_ne eF_77 (by decide) hk_74)
  have hk_88 : F_77 38 = .int 0 := (fu_ne eF_77 (by decide) hk_75)
  have hk_89 : F_77 39 = .int 0 := (fu_ne eF_77 (by decide) hk_76)
  have hk_90 : F_77 40 = .int 0 := (fu_eq eF_77)
  refine lv_aload_n hx hb dX13_parse_45 rfl (lv_at hl 0 rfl) ?_
  have hPc := hP.sub (ws' := [(h0, .inr (15, fl 134 F_77)), (qts, .inl (cts, 6002, .inl fts))]) [0, 1] rfl
  have hDc := hD.sub (ws' := [(h0, .inr (15, fl 134 F_77)), (qts, .inl (cts, 6002, .inl fts))]) [0, 1] (by decide) rfl
  have hKc := hK.sub (tys' := [(cts, .int)]) [0] rfl
  have hFc := va_free (wc := [(h0, .inr (15, fl 134 F_77)), (qts, .inl (cts, 6002, .inl fts))]) hD hS hA [0, 1] rfl
  refine va_callv (va_runV (As := []) (rest := []) ⟨hx, hb, hml, hown, hts⟩ (cm_look l dC dI h0 F_77 qts cts fts H.size hk_83 hk_80 hts9) (cwV 0 hts gg_cm_parse_cm_look_368 rfl rfl rfl (by decide +kernel) ⟨(Nat.le_of_ble_eq_true rfl), (Nat.le_of_ble_eq_true rfl)⟩) ⟨fun a U g mk q => by obtain ⟨q0, q1, qP, qK, qD⟩ := q; exact ⟨q0, q1, qP, va_K.moved (u := U) (U := U.calling g mk a) (Vm.Alike.refl U.vm) qK, qD⟩, va_recv hKc hPc (ci := 15) (q0 := 0) rfl rfl, fun U hU hW => ⟨rfl, by rw [hU], by rw [hU]; exact hPc, va_K.moved hW.alike hKc, hDc.weaken (fun _ _ _ _ => trivial)⟩⟩ rfl rfl hl.1 rfl (lv_room (Nat.le_of_ble_eq_true rfl)) dX13_parse_46 ⟨(Nat.le_of_ble_eq_true rfl), (Nat.le_of_ble_eq_true rfl)⟩) hS (fun q _ h => hFc q h) hFc (fun u t H1 locs ht hvm hw hB hz1 hk1 hS => ?_)
  obtain ⟨hf_91, hf_92, hf_93, hP1, hK1, hD1⟩ := hB
  rw [ht] at hP1
  have hK1 := va_K.moved hvm.symm hK1
  obtain ⟨hP, hD⟩ := va_join (wr := [(qtl, .inl (ctl, 6002, .inl ftl)), (qst, .inr (14, [.null, .null, .null, .null, .null, .int 0]))]) (w1 := [(h0, .inr (15, fl 134 F_77)), (qts, .inl (cts, 6002, .inl fts))]) hP hD [0, 1] [2, 3] rfl rfl (by decide) (by decide) hk1 hFc hP1 hD1
  have hK := (hK.sub (tys' := [(ctl, .int)]) [1] rfl).app hK1
  generalize H1 = H at hP hS ⊢
  have hK : va_K (dC, dI) vwCl [(ctl, .int), (cts, .int)] s := hK
  have hP : va_P (dC, dI) vwCl [(qtl, .inl (ctl, 6002, .inl ftl)), (qst, .inr (14, [.null, .null, .null, .null, .null, .int 0])), (h0, .inr (15, fl 134 F_77)), (qts, .inl (cts, 6002, .inl fts))] H := hP
  have hD : va_D A [(qtl, .inl (ctl, 6002, .inl ftl)), (qst, .inr (14, [.null, .null, .null, .null, .null, .int 0])), (h0, .inr (15, fl 134 F_77)), (qts, .inl (cts, 6002, .inl fts))] := hD
  refine W.widen (k := 0) (n := 0) (Nat.le_of_ble_eq_true rfl) (Nat.le_of_ble_eq_true rfl) ?_
  refine lv_iconst (v := 1) hx hb dX13_parse_49 (by decide) ?_
  refine lv_istore_n (lv' := [(1, .int 1), (0, .ref h0)]) hx hb dX13_parse_50 rfl hl (by decide) rfl (fun ls hl => ?_)
  refine lv_iload_n hx hb dX13_parse_51 rfl (lv_at hl 0 rfl) ?_
  refine lv_if_eq (tgt := 137) hx hb dX13_parse_52 (by decide) (fun c9 => absurd c9 (by decide)) (fun c9 => ?_)
  clear c9
  refine lv_aload_n hx hb dX13_parse_55 rfl (lv_at hl 1 rfl) ?_
  refine lv_bipush (v := 21) hx hb dX13_parse_56 (by decide) ?_
  have hPc := hP.sub (ws' := [(h0, .inr (15, fl 134 F_77)), (qts, .inl (cts, 6002, .inl fts))]) [2, 3] rfl
  have hDc := hD.sub (ws' := [(h0, .inr (15, fl 134 F_77)), (qts, .inl (cts, 6002, .inl fts))]) [2, 3] (by decide) rfl
  have hKc := hK.sub (tys' := [(cts, .int)]) [1] rfl
  have hFc := va_free (wc := [(h0, .inr (15, fl 134 F_77)), (qts, .inl (cts, 6002, .inl fts))]) hD hS hA [2, 3] rfl
  refine va_calli (va_runV (As := [.int 21]) (rest := []) ⟨hx, hb, hml, hown, hts⟩ (cm_is_21 l dC dI h0 F_77 qts cts fts H.size hk_83 hk_80 hf_93) (cwV 1 hts gg_cm_parse_cm_is_21_371 rfl rfl rfl (by decide +kernel) ⟨(Nat.le_of_ble_eq_true rfl), (Nat.le_of_ble_eq_true rfl)⟩) ⟨fun a U g mk q => by obtain ⟨q0, q1, qP, qK, qD⟩ := q; exact ⟨q0, q1, qP, va_K.moved (u := U) (U := U.calling g mk a) (Vm.Alike.refl U.vm) qK, qD⟩, va_recv hKc hPc (ci := 15) (q0 := 0) rfl rfl, fun U hU hW => ⟨rfl, by rw [hU], by rw [hU]; exact hPc, va_K.moved hW.alike hKc, hDc.weaken (fun _ _ _ _ => trivial)⟩⟩ rfl rfl hl.1 rfl (lv_room (Nat.le_of_ble_eq_true rfl)) dX13_parse_58 ⟨(Nat.le_of_ble_eq_true rfl), (Nat.le_of_ble_eq_true rfl)⟩) hS (fun q _ h => hFc q h) hFc (fun r9 u t H1 locs ht hvm hw hB hz1 hk1 hS => ?_)
  obtain ⟨hf_94, hf_95, hf_96, hP1, hK1, hD1⟩ := hB
  rw [ht] at hP1
  have hK1 := va_K.moved hvm.symm hK1
  obtain ⟨hP, hD⟩ := va_join (wr := [(qtl, .inl (ctl, 6002, .inl ftl)), (qst, .inr (14, [.null, .null, .null, .null, .null, .int 0]))]) (w1 := [(h0, .inr (15, fl 134 F_77)), (qts, .inl (cts, 6002, .inl fts))]) hP hD [2, 3] [0, 1] rfl rfl (by decide) (by decide) hk1 hFc hP1 hD1
  have hK := (hK.sub (tys' := [(ctl, .int)]) [0] rfl).app hK1
  generalize H1 = H at hP hS ⊢
  have hK : va_K (dC, dI) vwCl [(ctl, .int), (cts, .int)] s := hK
  have hP : va_P (dC, dI) vwCl [(qtl, .inl (ctl, 6002, .inl ftl)), (qst, .inr (14, [.null, .null, .null, .null, .null, .int 0])), (h0, .inr (15, fl 134 F_77)), (qts, .inl (cts, 6002, .inl fts))] H := hP
  have hD : va_D A [(qtl, .inl (ctl, 6002, .inl ftl)), (qst, .inr (14, [.null, .null, .null, .null, .null, .int 0])), (h0, .inr (15, fl 134 F_77)), (qts, .inl (cts, 6002, .inl fts))] := hD
  refine W.widen (k := 0) (n := 0) (Nat.le_of_ble_eq_true rfl) (Nat.le_of_ble_eq_true rfl) ?_
  obtain rfl : r9 = 0 := hw
  refine lv_if_ne (tgt := 73) hx hb dX13_parse_61 (by decide) (fun c9 => absurd c9 (by decide)) (fun c9 => ?_)
  clear c9
  refine lv_aload_n hx hb dX13_parse_64 rfl (lv_at hl 1 rfl) ?_
  refine lv_bipush (v := 28) hx hb dX13_parse_65 (by decide) ?_
  have hPc := hP.sub (ws' := [(h0, .inr (15, fl 134 F_77)), (qts, .inl (cts, 6002, .inl fts))]) [2, 3] rfl
  have hDc := hD.sub (ws' := [(h0, .inr (15, fl 134 F_77)), (qts, .inl (cts, 6002, .inl fts))]) [2, 3] (by decide) rfl
  have hKc := hK.sub (tys' := [(cts, .int)]) [1] rfl
  have hFc := va_free (wc := [(h0, .inr (15, fl 134 F_77)), (qts, .inl (cts, 6002, .inl fts))]) hD hS hA [2, 3] rfl
  refine va_calli (va_runV (As := [.int 28]) (rest := []) ⟨hx, hb, hml, hown, hts⟩ (cm_is_28 l dC dI h0 F_77 qts cts fts H.size hk_83 hk_80 hf_96) (cwV 1 hts gg_cm_parse_cm_is_28_371 rfl rfl rfl (by decide +kernel) ⟨(Nat.le_of_ble_eq_true rfl), (Nat.le_of_ble_eq_true rfl)⟩) ⟨fun a U g mk q => by obtain ⟨q0, q1, qP, qK, qD⟩ := q; exact ⟨q0, q1, qP, va_K.moved (u := U) (U := U.calling g mk a) (Vm.Alike.refl U.vm) qK, qD⟩, va_recv hKc hPc (ci := 15) (q0 := 0) rfl rfl, fun U hU hW => ⟨rfl, by rw [hU], by rw [hU]; exact hPc, va_K.moved hW.alike hKc, hDc.weaken (fun _ _ _ _ => trivial)⟩⟩ rfl rfl hl.1 rfl (lv_room (Nat.le_of_ble_eq_true rfl)) dX13_parse_67 ⟨(Nat.le_of_ble_eq_true rfl), (Nat.le_of_ble_eq_true rfl)⟩) hS (fun q _ h => hFc q h) hFc (fun r9 u t H1 locs ht hvm hw hB hz1 hk1 hS => ?_)
  obtain ⟨hf_97, hf_98, hf_99, hP1, hK1, hD1⟩ := hB
  rw [ht] at hP1
  have hK1 := va_K.moved hvm.symm hK1
  obtain ⟨hP, hD⟩ := va_join (wr := [(qtl, .inl (ctl, 6002, .inl ftl)), (qst, .inr (14, [.null, .null, .null, .null, .null, .int 0]))]) (w1 := [(h0, .inr (15, fl 134 F_77)), (qts, .inl (cts, 6002, .inl fts))]) hP hD [2, 3] [0, 1] rfl rfl (by decide) (by decide) hk1 hFc hP1 hD1
  have hK := (hK.sub (tys' := [(ctl, .int)]) [0] rfl).app hK1
  generalize H1 = H at hP hS ⊢
  have hK : va_K (dC, dI) vwCl [(ctl, .int), (cts, .int)] s := hK
  have hP : va_P (dC, dI) vwCl [(qtl, .inl (ctl, 6002, .inl ftl)), (qst, .inr (14, [.null, .null, .null, .null, .null, .int 0])), (h0, .inr (15, fl 134 F_77)), (qts, .inl (cts, 6002, .inl fts))] H := hP
  have hD : va_D A [(qtl, .inl (ctl, 6002, .inl ftl)), (qst, .inr (14, [.null, .null, .null, .null, .null, .int 0])), (h0, .inr (15, fl 134 F_77)), (qts, .inl (cts, 6002, .inl fts))] := hD
  refine W.widen (k := 0) (n := 0) (Nat.le_of_ble_eq_true rfl) (Nat.le_of_ble_eq_true rfl) ?_
  obtain rfl : r9 = 0 := hw
  refine lv_if_eq (tgt := 82) hx hb dX13_parse_70 (by decide) (fun c9 => ?_) (fun c9 => absurd (by decide) c9)
  clear c9
  refine lv_aload_n hx hb dX13_parse_82 rfl (lv_at hl 1 rfl) ?_
  have hPc := hP.sub (ws' := [(h0, .inr (15, fl 134 F_77)), (qtl, .inl (ctl, 6002, .inl ftl)), (qst, .inr (14, [.null, .null, .null, .null, .null, .int 0]))]) [2, 0, 1] rfl
  have hDc := hD.sub (ws' := [(h0, .inr (15, fl 134 F_77)), (qtl, .inl (ctl, 6002, .inl ftl)), (qst, .inr (14, [.null, .null, .null, .null, .null, .int 0]))]) [2, 0, 1] (by decide) rfl
  have hKc := hK.sub (tys' := [(ctl, .int)]) [0] rfl
  have hFc := va_free (wc := [(h0, .inr (15, fl 134 F_77)), (qtl, .inl (ctl, 6002, .inl ftl)), (qst, .inr (14, [.null, .null, .null, .null, .null, .int 0]))]) hD hS hA [2, 0, 1] rfl
  refine vx_callv (vx_runV (As := []) (rest := []) ⟨hx, hb, hml, hown, hts⟩ (cm_unfit l dC dI h0 F_77 qst qtl ctl ftl H.size hk_79 hk_83 hk_81 htl9) (cwV 0 hts gg_cm_parse_cm_unfit_374 rfl rfl rfl (by decide +kernel) ⟨(Nat.le_of_ble_eq_true rfl), (Nat.le_of_ble_eq_true rfl)⟩) ⟨fun a U g mk q => by obtain ⟨q0, q1, qP, qK, qD⟩ := q; exact ⟨q0, q1, qP, va_K.moved (u := U) (U := U.calling g mk a) (Vm.Alike.refl U.vm) qK, qD⟩, va_recv hKc hPc (ci := 15) (q0 := 0) rfl rfl, fun U hU hW => ⟨rfl, by rw [hU], by rw [hU]; exact hPc, va_K.moved hW.alike hKc, hDc.weaken (fun _ _ _ _ => trivial)⟩⟩ rfl rfl hl.1 rfl (lv_room (Nat.le_of_ble_eq_true rfl)) dX13_parse_83 ⟨(Nat.le_of_ble_eq_true rfl), (Nat.le_of_ble_eq_true rfl)⟩) hS (fun q _ h => hFc q h) hFc (fun q _ h => hFc q h) (fun E9 ce9 q9 u t H1 locs ht hvm hw hB hz1 hk1 hS hce9 hvm9 hcl9 => ?_) (fun u t H1 locs ht hvm hw hB hz1 hk1 hS => hw.elim)
  obtain ⟨rfl, F_100, hf_101, hf_102, hf_103, hx_104, hP1, hK1, hD1⟩ := hB
  rw [ht] at hP1
  have hK1 := va_K.moved hvm.symm hK1
  have hfr_105 : ∀ j : Nat, j ≠ 17 ∧ j ≠ 18 ∧ j ≠ 19 ∧ j ≠ 32 ∧ j ≠ 33 ∧ j ≠ 34 ∧ j ≠ 37 ∧ j ≠ 38 ∧ j ≠ 39 ∧ j ≠ 40 ∧ j ≠ 41 → F_100 j = F j := fun j hj => (hx_104 j (by omega)).trans (hfr_78 j (by omega))
  have hk_106 : F_100 17 = .int 2 := hf_102
  have hk_107 : F_100 18 = .int 1 := hf_103
  have hk_108 : F_100 32 = .int 0 := ((hx_104 32 (by omega)).trans hk_83)
  have hk_109 : F_100 9 = .ref qts := ((hx_104 9 (by omega)).trans hk_80)
  have hk_110 : F_100 1 = .ref qst := ((hx_104 1 (by omega)).trans hk_79)
  have hk_111 : F_100 11 = .ref qtl := ((hx_104 11 (by omega)).trans hk_81)
  have hk_112 : F_100 19 = .int 0 := ((hx_104 19 (by omega)).trans hk_82)
  have hk_113 : F_100 33 = .int 0 := ((hx_104 33 (by omega)).trans hk_84)
  have hk_114 : F_100 34 = .int 0 := ((hx_104 34 (by omega)).trans hk_85)
  have hk_115 : F_100 41 = .int 0 := ((hx_104 41 (by omega)).trans hk_86)
  have hk_116 : F_100 37 = .int 0 := ((hx_104 37 (by omega)).trans hk_87)
  have hk_117 : F_100 38 = .int 0 := ((hx_104 38 (by omega)).trans hk_88)
  have hk_118 : F_100 39 = .int 0 := ((hx_104 39 (by omega)).trans hk_89)
  have hk_119 : F_100 40 = .int 0 := ((hx_104 40 (by omega)).trans hk_90)
  obtain ⟨hP, hD⟩ := va_join (wr := [(qts, .inl (cts, 6002, .inl fts))]) (w1 := [(qtl, .inl (ctl, 6002, .inl ftl)), (h0, .inr (15, fl 134 F_100)), (qst, .inr (14, [.null, .null, .null, .null, .null, .int 0]))]) hP hD [2, 0, 1] [3] rfl rfl (by decide) (by decide) hk1 hFc hP1 hD1
  have hK := (hK.sub (tys' := [(cts, .int)]) [1] rfl).app hK1
  generalize H1 = H at hP hS hce9 ⊢
  have hK : va_K (dC, dI) vwCl [(cts, .int), (ctl, .int)] s := hK
  have hP : va_P (dC, dI) vwCl [(qts, .inl (cts, 6002, .inl fts)), (qtl, .inl (ctl, 6002, .inl ftl)), (h0, .inr (15, fl 134 F_100)), (qst, .inr (14, [.null, .null, .null, .null, .null, .int 0]))] H := hP
  have hD : va_D A [(qts, .inl (cts, 6002, .inl fts)), (qtl, .inl (ctl, 6002, .inl ftl)), (h0, .inr (15, fl 134 F_100)), (qst, .inr (14, [.null, .null, .null, .null, .null, .int 0]))] := hD
  refine vx_widen (k := 0) (n := 0) (Nat.le_of_ble_eq_true rfl) (Nat.le_of_ble_eq_true rfl) ?_
  have hP9 := hP.sub (ws' := [(qts, .inl (cts, 6002, .inl fts)), (qtl, .inl (ctl, 6002, .inl ftl)), (h0, .inr (15, fl 134 F_100)), (qst, .inr (14, [.null, .null, .null, .null, .null, .int 0]))]) [0, 1, 2, 3] rfl
  have hD9 := hD.sub (ws' := [(qts, .inl (cts, 6002, .inl fts)), (qtl, .inl (ctl, 6002, .inl ftl)), (h0, .inr (15, fl 134 F_100)), (qst, .inr (14, [.null, .null, .null, .null, .null, .int 0]))]) [0, 1, 2, 3] (by decide) rfl
  have hK9 := hK.sub (tys' := [(cts, .int), (ctl, .int)]) [0, 1] rfl
  exact vx_out (E := RX12) (ce := ce9) (fun x hx => (htab x hx).elim) hlocks hce9 hvm9 hcl9 (fun t ht hW => ⟨(), trivial, ⟨rfl, F_100, hf_99, hf_101, hk_106, hk_107, hfr_105, by rw [ht]; exact hP9, va_K.moved hW hK9, hD9⟩, hS.F ht⟩) hS.2.2 (Nat.le_of_ble_eq_true rfl) (Nat.le_of_ble_eq_true rfl)
def ws_cm_read : List Cond := .codeWith yX13_read cX13_read 2 (some .int) [(65, 105, 108, 7)] :: ([.fieldLink RX13 251 "LevelUnitsModel" "thrown" "I", .fieldLink RX13 889 "LevelUnitsModel" "hasProgram" "Z", .fieldLink RX13 893 "LevelUnitsModel" "begun" "Z", .fieldLink RX13 255 "LevelUnitsModel" "taped" "I", .fieldLink RX13 262 "LevelUnitsModel" "size" "I", .fieldLink RX13 343 "LevelUnitsModel" "fault" "I", .fieldLink RX13 276 "LevelUnitsModel" "names" "I", .fieldLink RX13 279 "LevelUnitsModel" "lettered" "I", .fieldLink RJ0 9 "java/lang/String" "value" "[B", .fieldLink RJ0 38 "java/lang/String" "COMPACT_STRINGS" "Z", .fieldLink RJ0 15 "java/lang/String" "coder" "B", .code yJ0_coder_7d493 cJ0_coder_7d493 1 (some .byte), .methodLink RJ0 335 yJ0_coder_7d493, .instanceMethod yJ0_coder_7d493, .selects RJ0 yJ0_coder_7d493 yJ0_coder_7d493, .initialized RJ0, .code yJ0_length_8abf5 cJ0_length_8abf5 1 (some .int), .methodLink RX13 284 yJ0_length_8abf5, .instanceMethod yJ0_length_8abf5, .selects RJ0 yJ0_length_8abf5 yJ0_length_8abf5, .code yJ0_isLatin1_aae02 cJ0_isLatin1_aae02 1 (some .boolean), .methodLink RJ0 492 yJ0_isLatin1_aae02, .instanceMethod yJ0_isLatin1_aae02, .selects RJ0 yJ0_isLatin1_aae02 yJ0_isLatin1_aae02, .fieldLink RJ0 1053 "jdk/internal/util/Preconditions" "SIOOBE_FORMATTER" "Ljava/util/function/BiFunction;", .code yJ3_checkIndex_8e157 cJ3_checkIndex_8e157 3 (some .int), .methodLink RJ0 1059 yJ3_checkIndex_8e157, .static yJ3_checkIndex_8e157, .initialized RJ3, .code yJ0_checkIndex_df160 cJ0_checkIndex_df160 2 none, .methodLink RJ1 9 yJ0_checkIndex_df160, .static yJ0_checkIndex_df160, .code yJ1_charAt_3b067 cJ1_charAt_3b067 2 (some .char), .methodLink RJ0 495 yJ1_charAt_3b067, .static yJ1_charAt_3b067, .initialized RJ1, .code yJ0_charAt_5068e cJ0_charAt_5068e 2 (some .char), .methodLink RX13 290 yJ0_charAt_5068e, .instanceMethod yJ0_charAt_5068e, .selects RJ0 yJ0_charAt_5068e yJ0_charAt_5068e, .fieldLink RX13 39 "LevelUnitsModel" "letters" "[B", .fieldLink RX13 33 "LevelUnitsModel" "nameFrom" "[I", .fieldLink RX13 36 "LevelUnitsModel" "nameSize" "[I", .code yX13_nameOf cX13_nameOf 5 (some .int), .methodLink RX13 294 yX13_nameOf, .instanceMethod yX13_nameOf, .selects RX13 yX13_nameOf yX13_nameOf, .initialized RX13, .code yX13_knowWords cX13_knowWords 4 none, .methodLink RX13 314 yX13_knowWords, .instanceMethod yX13_knowWords, .selects RX13 yX13_knowWords yX13_knowWords, .fieldLink RX13 298 "LevelUnitsModel" "tokens" "I", .fieldLink RX13 301 "LevelUnitsModel" "scan" "I", .fieldLink RX13 307 "LevelUnitsModel" "row" "I", .code yX13_see cX13_see 2 (some .int), .methodLink RX13 304 yX13_see, .instanceMethod yX13_see, .selects RX13 yX13_see yX13_see, .code yX13_passes cX13_passes 2 (some .boolean), .methodLink RX13 317 yX13_passes, .instanceMethod yX13_passes, .selects RX13 yX13_passes yX13_passes, .fieldLink RX13 23 "LevelUnitsModel" "tSort" "[I", .fieldLink RX13 27 "LevelUnitsModel" "tValue" "[I", .fieldLink RX13 30 "LevelUnitsModel" "tLine" "[I", .code yX13_token cX13_token 4 none, .methodLink RX13 320 yX13_token, .instanceMethod yX13_token, .selects RX13 yX13_token yX13_token, .code yX13_cut cX13_cut 2 none, .methodLink RX13 896 yX13_cut, .instanceMethod yX13_cut, .selects RX13 yX13_cut yX13_cut, .fieldLink RX13 352 "LevelUnitsModel" "nodes" "I", .fieldLink RX13 349 "LevelUnitsModel" "at" "I", .fieldLink RX13 358 "LevelUnitsModel" "unit" "I", .fieldLink RX13 361 "LevelUnitsModel" "told" "I", .fieldLink RX13 386 "LevelUnitsModel" "units" "I", .fieldLink RX13 380 "LevelUnitsModel" "brackets" "I", .fieldLink RX13 389 "LevelUnitsModel" "nots" "I", .fieldLink RX13 392 "LevelUnitsModel" "typesOpen" "I", .fieldLink RX13 395 "LevelUnitsModel" "statementsOpen" "I", .code yX13_look cX13_look 1 none, .methodLink RX13 368 yX13_look, .instanceMethod yX13_look, .selects RX13 yX13_look yX13_look, .code yX13_is cX13_is 2 (some .boolean), .methodLink RX13 371 yX13_is, .instanceMethod yX13_is, .selects RX13 yX13_is yX13_is, .code yX13_line cX13_line 1 (some .int), .methodLink RX13 355 yX13_line, .instanceMethod yX13_line, .selects RX13 yX13_line yX13_line, .fieldLink RX13 346 "LevelUnitsModel" "faultLine" "I", .fieldLink RX13 10 "LevelUnitsModel" "stop" "LLevelUnitsModel$Stop;", .code yX13_first cX13_first 3 none, .methodLink RX13 364 yX13_first, .instanceMethod yX13_first, .selects RX13 yX13_first yX13_first, .code yX13_unfit cX13_unfit 1 none, .methodLink RX13 374 yX13_unfit, .instanceMethod yX13_unfit, .selects RX13 yX13_unfit yX13_unfit, .code yX13_parse cX13_parse 2 none, .methodLink RX13 899 yX13_parse, .instanceMethod yX13_parse, .selects RX13 yX13_parse yX13_parse, .classLink RX13 7 RX12] ++ wsX130)
theorem in_cm_read_RX13 : ∀ w ∈ wsX130, w ∈ ws_cm_read := fun _ h => List.mem_cons_of_mem _ (List.mem_append_right _ h)
theorem g0_cm_read_cm_cut_896 : GoodIn ws_cm_read ws_cm_cut := goodIn_r _ [71, 7, 8, 9, 10, 11, 12, 13, 14, 15, 16, 17, 18, 19, 20, 21, 22, 23, 24, 25, 26, 27, 28, 29, 30, 31, 32, 33, 34, 35, 36, 37, 38, 39, 40, 41, 42, 43, 44, 45, 46, 47, 48, 49, 50, 51, 52, 53, 54, 55, 5, 56, 57, 58, 59, 60, 61, 62, 63, 64, 65, 66, 67, 68, 69, 70, 111, 112, 113, 114, 115, 116, 117, 118, 119, 120, 121, 122, 123, 124, 125, 126, 127, 128, 129, 130, 131, 132, 133, 134, 135, 136, 137, 138, 139, 140, 141, 142, 143, 144, 145, 146, 147, 148, 149, 150, 151, 152, 153, 154, 155, 156, 157, 158, 159, 160, 161, 162, 163, 164, 165, 166, 167, 168, 169, 170, 171, 172, 173, 174, 175, 176, 177, 178, 179, 180, 181, 182, 183, 184, 185, 186, 187, 188, 189, 190, 191, 192, 193, 194, 195, 196, 197, 198, 199, 200, 201, 202, 203, 204, 205, 206, 207, 208, 209, 210, 211, 212, 213, 214, 215, 216, 217, 218, 219, 220, 221, 222, 223, 224, 225, 226, 227, 228, 229, 230, 231, 232, 233, 234, 235, 236, 237, 238, 239, 240, 241, 242, 243, 244] (by decide +kernel) (by decide +kernel)
theorem gg_cm_read_cm_cut_896 : GoodIn ws_cm_read (wsV RX13 896 RX13 yX13_cut ws_cm_cut) := goodIn_app (goodIn_of _ (by decide +kernel)) g0_cm_read_cm_cut_896
theorem g0_cm_read_cm_parse_899 : GoodIn ws_cm_read ws_cm_parse := goodIn_r _ [106, 75, 76, 77, 78, 79, 80, 81, 82, 83, 64, 84, 85, 86, 87, 48, 88, 89, 90, 91, 66, 92, 93, 94, 95, 6, 96, 97, 98, 99, 100, 101, 102, 103, 104, 105, 111, 112, 113, 114, 115, 116, 117, 118, 119, 120, 121, 122, 123, 124, 125, 126, 127, 128, 129, 130, 131, 132, 133, 134, 135, 136, 137, 138, 139, 140, 141, 142, 143, 144, 145, 146, 147, 148, 149, 150, 151, 152, 153, 154, 155, 156, 157, 158, 159, 160, 161, 162, 163, 164, 165, 166, 167, 168, 169, 170, 171, 172, 173, 174, 175, 176, 177, 178, 179, 180, 181, 182, 183, 184, 185, 186, 187, 188, 189, 190, 191, 192, 193, 194, 195, 196, 197, 198, 199, 200, 201, 202, 203, 204, 205, 206, 207, 208, 209, 210, 211, 212, 213, 214, 215, 216, 217, 218, 219, 220, 221, 222, 223, 224, 225, 226, 227, 228, 229, 230, 231, 232, 233, 234, 235, 236, 237, 238, 239, 240, 241, 242, 243, 244] (by decide +kernel) (by decide +kernel)
theorem gg_cm_read_cm_parse_899 : GoodIn ws_cm_read (wsV RX13 899 RX13 yX13_parse ws_cm_parse) := goodIn_app (goodIn_of _ (by decide +kernel)) g0_cm_read_cm_parse_899
set_option maxHeartbeats 4000000 in
set_option maxRecDepth 100000 in
theorem cm_read (l : Launch) (dC : Nat → ClassId) (dI : Nat → Nat → Nat) (h0 : Nat) (F : Nat → Value) (qf : Nat) (qs : Nat) (ql : Nat) (cqf : ClassId) (cqs : ClassId) (cql : ClassId) (fqf : Nat → Int32) (fqs : Nat → Int32) (fql : Nat → Int32) (qts : Nat) (qtv : Nat) (qtl : Nat) (cts : ClassId) (ctv : ClassId) (ctl : ClassId) (fts : Nat → Int32) (ftv : Nat → Int32) (ftl : Nat → Int32) (qst : Nat) (q : Nat) (v : Nat) (f : Nat → Int32) (sz : Nat) (hq3 : F 3 = .int 0) (hq1 : F 1 = .ref qst) (hq13 : F 13 = .ref qf) (hq14 : F 14 = .ref qs) (hq15 : F 15 = .ref ql) (hq9 : F 9 = .ref qts) (hq10 : F 10 = .ref qtv) (hq11 : F 11 = .ref qtl) : Met l yX13_read ws_cm_read ({ frames := 6, cells := 0, slots := 0, locals := 129 }) (va_Pc [.ref h0] (fun U => U.heap.size = sz ∧ va_P (dC, dI) vwCl [(h0, .inr (15, fl 134 F)), (qf, .inl (cqf, 6000, .inl fqf)), (qs, .inl (cqs, 6000, .inl fqs)), (ql, .inl (cql, 6600, .inl fql)), (qts, .inl (cts, 6002, .inl fts)), (qtv, .inl (ctv, 6002, .inl ftv)), (qtl, .inl (ctl, 6002, .inl ftl)), (qst, .inr (14, [.null, .null, .null, .null, .null, .int 0]))] U.heap ∧ va_K (dC, dI) vwCl [(cqf, .int), (cqs, .int), (cql, .byte), (cts, .int), (ctv, .int), (ctl, .int)] U ∧ va_D (fun _ => True) [(h0, .inr (15, fl 134 F)), (qf, .inl (cqf, 6000, .inl fqf)), (qs, .inl (cqs, 6000, .inl fqs)), (ql, .inl (cql, 6600, .inl fql)), (qts, .inl (cts, 6002, .inl fts)), (qtv, .inl (ctv, 6002, .inl ftv)), (qtl, .inl (ctl, 6002, .inl ftl)), (qst, .inr (14, [.null, .null, .null, .null, .null, .int 0]))] ∧ vk_R RX13 282 kwT q U ∧ ks q v 345 f (va_A [(h0, .inr (15, fl 134 F)), (qf, .inl (cqf, 6000, .inl fqf)), (qs, .inl (cqs, 6000, .inl fqs)), (ql, .inl (cql, 6600, .inl fql)), (qts, .inl (cts, 6002, .inl fts)), (qtv, .inl (ctv, 6002, .inl ftv)), (qtl, .inl (ctl, 6002, .inl ftl)), (qst, .inr (14, [.null, .null, .null, .null, .null, .int 0]))] sz) U U.heap ∧ va_Z "java/lang/String" "COMPACT_STRINGS" "Z" (.int 1) (va_A [(h0, .inr (15, fl 134 F)), (qf, .inl (cqf, 6000, .inl fqf)), (qs, .inl (cqs, 6000, .inl fqs)), (ql, .inl (cql, 6600, .inl fql)), (qts, .inl (cts, 6002, .inl fts)), (qtv, .inl (ctv, 6002, .inl ftv)), (qtl, .inl (ctl, 6002, .inl ftl)), (qst, .inr (14, [.null, .null, .null, .null, .null, .int 0]))] sz) U U.heap ∧ va_Zq "jdk/internal/util/Preconditions" "SIOOBE_FORMATTER" "Ljava/util/function/BiFunction;" (va_A [(h0, .inr (15, fl 134 F)), (qf, .inl (cqf, 6000, .inl fqf)), (qs, .inl (cqs, 6000, .inl fqs)), (ql, .inl (cql, 6600, .inl fql)), (qts, .inl (cts, 6002, .inl fts)), (qtv, .inl (ctv, 6002, .inl ftv)), (qtl, .inl (ctl, 6002, .inl ftl)), (qst, .inr (14, [.null, .null, .null, .null, .null, .int 0]))] sz) U U.heap ∧ va_Nw (.castable RX12 RX12) U)) (va_Qi (fun (r : Int32) (_ : Unit) => r = 18) (fun _ t => va_P (dC, dI) vwCl [] t.heap ∧ va_K (dC, dI) vwCl [] t ∧ va_D (va_A [(h0, .inr (15, fl 134 F)), (qf, .inl (cqf, 6000, .inl fqf)), (qs, .inl (cqs, 6000, .inl fqs)), (ql, .inl (cql, 6600, .inl fql)), (qts, .inl (cts, 6002, .inl fts)), (qtv, .inl (ctv, 6002, .inl ftv)), (qtl, .inl (ctl, 6002, .inl ftl)), (qst, .inr (14, [.null, .null, .null, .null, .null, .int 0]))] sz) []) (va_A [(h0, .inr (15, fl 134 F)), (qf, .inl (cqf, 6000, .inl fqf)), (qs, .inl (cqs, 6000, .inl fqs)), (ql, .inl (cql, 6600, .inl fql)), (qts, .inl (cts, 6002, .inl fts)), (qtv, .inl (ctv, 6002, .inl ftv)), (qtl, .inl (ctl, 6002, .inl ftl)), (qst, .inr (14, [.null, .null, .null, .null, .null, .int 0]))] sz)) 0 0 (va_A [(h0, .inr (15, fl 134 F)), (qf, .inl (cqf, 6000, .inl fqf)), (qs, .inl (cqs, 6000, .inl fqs)), (ql, .inl (cql, 6600, .inl fql)), (qts, .inl (cts, 6002, .inl fts)), (qtv, .inl (ctv, 6002, .inl ftv)), (qtl, .inl (ctl, 6002, .inl ftl)), (qst, .inr (14, [.null, .null, .null, .null, .null, .int 0]))] sz) := by
  refine va_MetW (cc := cX13_read) (maxL := 2) (ret := (some .int)) (by decide) rfl ?_
  intro p e s m args below meth c s₁ B hml hv
  obtain ⟨rfl, hsz, hP, hK, hD0, hN0, hN1, hN2, hN3, hN4⟩ := hv
  have hx := B.exec
  have hb := B.bytes
  have hr := B.returns
  have hts := atoms_spec (ws := ws_cm_read) B.pre
  have hown : s.vm.findClass RX13 = some m.cls := findClass_of_methodNamed B.named
  have hlocks := B.notSynchronized
  subst hsz
  have hD := hD0.self (sz := s.heap.size)
  generalize hAe : va_A [(h0, .inr (15, fl 134 F)), (qf, .inl (cqf, 6000, .inl fqf)), (qs, .inl (cqs, 6000, .inl fqs)), (ql, .inl (cql, 6600, .inl fql)), (qts, .inl (cts, 6002, .inl fts)), (qtv, .inl (ctv, 6002, .inl ftv)), (qtl, .inl (ctl, 6002, .inl ftl)), (qst, .inr (14, [.null, .null, .null, .null, .null, .int 0]))] s.heap.size = A at hD hN1 hN2 hN3 ⊢
  have hA : ∀ q : Nat, s.heap.size ≤ q → A q := fun q h => by rw [← hAe]; exact Or.inr h
  have hS : va_S A s.heap s.heap [] := va_S.rf
  have hP : va_P (dC, dI) vwCl [(h0, .inr (15, fl 134 F)), (qf, .inl (cqf, 6000, .inl fqf)), (qs, .inl (cqs, 6000, .inl fqs)), (ql, .inl (cql, 6600, .inl fql)), (qts, .inl (cts, 6002, .inl fts)), (qtv, .inl (ctv, 6002, .inl ftv)), (qtl, .inl (ctl, 6002, .inl ftl)), (qst, .inr (14, [.null, .null, .null, .null, .null, .int 0]))] s.heap := hP
  have hl := lv_entry ([.ref h0]) (n := 2) (Nat.le_of_ble_eq_true rfl)
  rw [lg_entry_eq]
  generalize (lg_sl ([.ref h0]) ++ List.replicate (2 - (lg_sl ([.ref h0])).length) Slot.unset).toArray = ls at hl ⊢
  have hl : lv_has ls 2 [(0, .ref h0)] := hl
  refine lv_aload_n hx hb dX13_read_0 rfl (lv_at hl 0 rfl) ?_
  refine lv_iconst (v := 0) hx hb dX13_read_1 (by decide) ?_
  refine va_put (D := (dC, dI)) (ci := 15) (v := .int 0) (ty := .int) (C := RX13) (T := TX13) (N := 134) hx hb hts in_cm_read_RX13 tyX13 tyX13_ok nmX13 hown hK hP hD hS 0 rfl rfl 0 (by decide) (hts (.fieldLink RX13 251 "LevelUnitsModel" "thrown" "I") (List.mem_of_getElem? (i := 1) rfl)) (fun _ h9 => h9) rfl (by decide +kernel) rfl rfl (fl_lt (by decide)) dX13_read_2 (fun H locs hP hD hS => ?_)
  obtain ⟨F_1, eF_1⟩ : ∃ z, z = fu F 0 (.int 0) := ⟨_, rfl⟩
  have hP : va_P (dC, dI) vwCl [(h0, .inr (15, fl 134 F_1)), (qf, .inl (cqf, 6000, .inl fqf)), (qs, .inl (cqs, 6000, .inl fqs)), (ql, .inl (cql, 6600, .inl fql)), (qts, .inl (cts, 6002, .inl fts)), (qtv, .inl (ctv, 6002, .inl ftv)), (qtl, .inl (ctl, 6002, .inl ftl)), (qst, .inr (14, [.null, .null, .null, .null, .null, .int 0]))] H := by rw [eF_1, ← fl_set (n := 134) (k := 0) (by decide)]; exact hP
  have hD : va_D A [(h0, .inr (15, fl 134 F_1)), (qf, .inl (cqf, 6000, .inl fqf)), (qs, .inl (cqs, 6000, .inl fqs)), (ql, .inl (cql, 6600, .inl fql)), (qts, .inl (cts, 6002, .inl fts)), (qtv, .inl (ctv, 6002, .inl ftv)), (qtl, .inl (ctl, 6002, .inl ftl)), (qst, .inr (14, [.null, .null, .null, .null, .null, .int 0]))] := by rw [eF_1, ← fl_set (n := 134) (k := 0) (by decide)]; exact hD
  have hfr_2 : ∀ j : Nat, j ≠ 0 → F_1 j = F j := fun j hj => (fu_out eF_1 (by omega))
  have hk_3 : F_1 3 = .int 0 := (fu_ne eF_1 (by decide) hq3)
  have hk_4 : F_1 1 = .ref qst := (fu_ne eF_1 (by decide) hq1)
  have hk_5 : F_1 13 = .ref qf := (fu_ne eF_1 (by decide) hq13)
  have hk_6 : F_1 14 = .ref qs := (fu_ne eF_1 (by decide) hq14)
  have hk_7 : F_1 15 = .ref ql := (fu_ne eF_1 (by decide) hq15)
  have hk_8 : F_1 9 = .ref qts := (fu_ne eF_1 (by decide) hq9)
  have hk_9 : F_1 10 = .ref qtv := (fu_ne eF_1 (by decide) hq10)
  have hk_10 : F_1 11 = .ref qtl := (fu_ne eF_1 (by decide) hq11)
  have hk_11 : F_1 0 = .int 0 := (fu_eq eF_1)
  refine lv_aload_n hx hb dX13_read_5 rfl (lv_at hl 0 rfl) ?_
  refine lv_iconst (v := 0) hx hb dX13_read_6 (by decide) ?_
  refine va_put (D := (dC, dI)) (ci := 15) (v := .int 0) (ty := .boolean) (C := RX13) (T := TX13) (N := 134) hx hb hts in_cm_read_RX13 tyX13 tyX13_ok nmX13 hown hK hP hD hS 0 rfl rfl 98 (by decide) (hts (.fieldLink RX13 889 "LevelUnitsModel" "hasProgram" "Z") (List.mem_of_getElem? (i := 2) rfl)) (fun _ h9 => h9) rfl (by decide +kernel) rfl rfl (fl_lt (by decide)) dX13_read_7 (fun H locs hP hD hS => ?_)
  obtain ⟨F_12, eF_12⟩ : ∃ z, z = fu F_1 98 (.int 0) := ⟨_, rfl⟩
  have hP : va_P (dC, dI) vwCl [(h0, .inr (15, fl 134 F_12)), (qf, .inl (cqf, 6000, .inl fqf)), (qs, .inl (cqs, 6000, .inl fqs)), (ql, .inl (cql, 6600, .inl fql)), (qts, .inl (cts, 6002, .inl fts)), (qtv, .inl (ctv, 6002, .inl ftv)), (qtl, .inl (ctl, 6002, .inl ftl)), (qst, .inr (14, [.null, .null, .null, .null, .null, .int 0]))] H := by rw [eF_12, ← fl_set (n := 134) (k := 98) (by decide)]; exact hP
  have hD : va_D A [(h0, .inr (15, fl 134 F_12)), (qf, .inl (cqf, 6000, .inl fqf)), (qs, .inl (cqs, 6000, .inl fqs)), (ql, .inl (cql, 6600, .inl fql)), (qts, .inl (cts, 6002, .inl fts)), (qtv, .inl (ctv, 6002, .inl ftv)), (qtl, .inl (ctl, 6002, .inl ftl)), (qst, .inr (14, [.null, .null, .null, .null, .null, .int 0]))] := by rw [eF_12, ← fl_set (n := 134) (k := 98) (by decide)]; exact hD
  have hfr_13 : ∀ j : Nat, j ≠ 0 ∧ j ≠ 98 → F_12 j = F j := fun j hj => (fu_out eF_12 (by omega)).trans (hfr_2 j (by omega))
  have hk_14 : F_12 3 = .int 0 := (fu_ne eF_12 (by decide) hk_3)
  have hk_15 : F_12 1 = .ref qst := (fu_ne eF_12 (by decide) hk_4)
  have hk_16 : F_12 13 = .ref qf := (fu_ne eF_12 (by decide) hk_5)
  have hk_17 : F_12 14 = .ref qs := (fu_ne eF_12 (by decide) hk_6)
  have hk_18 : F_12 15 = .ref ql := (fu_ne eF_12 (by decide) hk_7)
  have hk_19 : F_12 9 = .ref qts := (fu_ne eF_12 (by decide) hk_8)
  have hk_20 : F_12 10 = .ref qtv := (fu_ne eF_12 (by decide) hk_9)
  have hk_21 : F_12 11 = .ref qtl := (fu_ne eF_12 (by decide) hk_10)
  have hk_22 : F_12 0 = .int 0 := (fu_ne eF_12 (by decide) hk_11)
  have hk_23 : F_12 98 = .int 0 := (fu_eq eF_12)
  refine lv_aload_n hx hb dX13_read_10 rfl (lv_at hl 0 rfl) ?_
  refine lv_iconst (v := 0) hx hb dX13_read_11 (by decide) ?_
  refine va_put (D := (dC, dI)) (ci := 15) (v := .int 0) (ty := .boolean) (C := RX13) (T := TX13) (N := 134) hx hb hts in_cm_read_RX13 tyX13 tyX13_ok nmX13 hown hK hP hD hS 0 rfl rfl 100 (by decide) (hts (.fieldLink RX13 893 "LevelUnitsModel" "begun" "Z") (List.mem_of_getElem? (i := 3) rfl)) (fun _ h9 => h9) rfl (by decide +kernel) rfl rfl (fl_lt (by decide)) dX13_read_12 (fun H locs hP hD hS => ?_)
  obtain ⟨F_24, eF_24⟩ : ∃ z, z = fu F_12 100 (.int 0) := ⟨_, rfl⟩
  have hP : va_P (dC, dI) vwCl [(h0, .inr (15, fl 134 F_24)), (qf, .inl (cqf, 6000, .inl fqf)), (qs, .inl (cqs, 6000, .inl fqs)), (ql, .inl (cql, 6600, .inl fql)), (qts, .inl (cts, 6002, .inl fts)), (qtv, .inl (ctv, 6002, .inl ftv)), (qtl, .inl (ctl, 6002, .inl ftl)), (qst, .inr (14, [.null, .null, .null, .null, .null, .int 0]))] H := by rw [eF_24, ← fl_set (n := 134) (k := 100) (by decide)]; exact hP
  have hD : va_D A [(h0, .inr (15, fl 134 F_24)), (qf, .inl (cqf, 6000, .inl fqf)), (qs, .inl (cqs, 6000, .inl fqs)), (ql, .inl (cql, 6600, .inl fql)), (qts, .inl (cts, 6002, .inl fts)), (qtv, .inl (ctv, 6002, .inl ftv)), (qtl, .inl (ctl, 6002, .inl ftl)), (qst, .inr (14, [.null, .null, .null, .null, .null, .int 0]))] := by rw [eF_24, ← fl_set (n := 134) (k := 100) (by decide)]; exact hD
  have hfr_25 : ∀ j : Nat, j ≠ 0 ∧ j ≠ 98 ∧ j ≠ 100 → F_24 j = F j := fun j hj => (fu_out eF_24 (by omega)).trans (hfr_13 j (by omega))
  have hk_26 : F_24 3 = .int 0 := (fu_ne eF_24 (by decide) hk_14)
  have hk_27 : F_24 1 = .ref qst := (fu_ne eF_24 (by decide) hk_15)
  have hk_28 : F_24 13 = .ref qf := (fu_ne eF_24 (by decide) hk_16)
  have hk_29 : F_24 14 = .ref qs := (fu_ne eF_24 (by decide) hk_17)
  have hk_30 : F_24 15 = .ref ql := (fu_ne eF_24 (by decide) hk_18)
  have hk_31 : F_24 9 = .ref qts := (fu_ne eF_24 (by decide) hk_19)
  have hk_32 : F_24 10 = .ref qtv := (fu_ne eF_24 (by decide) hk_20)
  have hk_33 : F_24 11 = .ref qtl := (fu_ne eF_24 (by decide) hk_21)
  have hk_34 : F_24 0 = .int 0 := (fu_ne eF_24 (by decide) hk_22)
  have hk_35 : F_24 98 = .int 0 := (fu_ne eF_24 (by decide) hk_23)
  have hk_36 : F_24 100 = .int 0 := (fu_eq eF_24)
  refine lv_aload_n hx hb dX13_read_15 rfl (lv_at hl 0 rfl) ?_
  refine lv_aload_n hx hb dX13_read_16 rfl (lv_at hl 0 rfl) ?_
  refine va_get (D := (dC, dI)) (ci := 15) (v := .int 0) (C := RX13) (T := TX13) (N := 134) hx hb hts in_cm_read_RX13 hown hK hP 0 rfl rfl 3 (by decide) (hts (.fieldLink RX13 255 "LevelUnitsModel" "taped" "I") (List.mem_of_getElem? (i := 4) rfl)) (fun _ h9 => h9) (fl_get (by decide) hk_26) dX13_read_17 ?_
  refine va_put (D := (dC, dI)) (ci := 15) (v := .int 0) (ty := .int) (C := RX13) (T := TX13) (N := 134) hx hb hts in_cm_read_RX13 tyX13 tyX13_ok nmX13 hown hK hP hD hS 0 rfl rfl 5 (by decide) (hts (.fieldLink RX13 262 "LevelUnitsModel" "size" "I") (List.mem_of_getElem? (i := 5) rfl)) (fun _ h9 => h9) rfl (by decide +kernel) rfl rfl (fl_lt (by decide)) dX13_read_20 (fun H locs hP hD hS => ?_)
  obtain ⟨F_37, eF_37⟩ : ∃ z, z = fu F_24 5 (.int 0) := ⟨_, rfl⟩
  have hP : va_P (dC, dI) vwCl [(h0, .inr (15, fl 134 F_37)), (qf, .inl (cqf, 6000, .inl fqf)), (qs, .inl (cqs, 6000, .inl fqs)), (ql, .inl (cql, 6600, .inl fql)), (qts, .inl (cts, 6002, .inl fts)), (qtv, .inl (ctv, 6002, .inl ftv)), (qtl, .inl (ctl, 6002, .inl ftl)), (qst, .inr (14, [.null, .null, .null, .null, .null, .int 0]))] H := by rw [eF_37, ← fl_set (n := 134) (k := 5) (by decide)]; exact hP
  have hD : va_D A [(h0, .inr (15, fl 134 F_37)), (qf, .inl (cqf, 6000, .inl fqf)), (qs, .inl (cqs, 6000, .inl fqs)), (ql, .inl (cql, 6600, .inl fql)), (qts, .inl (cts, 6002, .inl fts)), (qtv, .inl (ctv, 6002, .inl ftv)), (qtl, .inl (ctl, 6002, .inl ftl)), (qst, .inr (14, [.null, .null, .null, .null, .null, .int 0]))] := by rw [eF_37, ← fl_set (n := 134) (k := 5) (by decide)]; exact hD
  have hfr_38 : ∀ j : Nat, j ≠ 0 ∧ j ≠ 5 ∧ j ≠ 98 ∧ j ≠ 100 → F_37 j = F j := fun j hj => (fu_out eF_37 (by omega)).trans (hfr_25 j (by omega))
  have hk_39 : F_37 3 = .int 0 := (fu_ne eF_37 (by decide) hk_26)
  have hk_40 : F_37 1 = .ref qst := (fu_ne eF_37 (by decide) hk_27)
  have hk_41 : F_37 13 = .ref qf := (fu_ne eF_37 (by decide) hk_28)
  have hk_42 : F_37 14 = .ref qs := (fu_ne eF_37 (by decide) hk_29)
  have hk_43 : F_37 15 = .ref ql := (fu_ne eF_37 (by decide) hk_30)
  have hk_44 : F_37 9 = .ref qts := (fu_ne eF_37 (by decide) hk_31)
  have hk_45 : F_37 10 = .ref qtv := (fu_ne eF_37 (by decide) hk_32)
  have hk_46 : F_37 11 = .ref qtl := (fu_ne eF_37 (by decide) hk_33)
  have hk_47 : F_37 0 = .int 0 := (fu_ne eF_37 (by decide) hk_34)
  have hk_48 : F_37 98 = .int 0 := (fu_ne eF_37 (by decide) hk_35)
  have hk_49 : F_37 100 = .int 0 := (fu_ne eF_37 (by decide) hk_36)
  have hk_50 : F_37 5 = .int 0 := (fu_eq eF_37)
  refine lv_iconst (v := 0) hx hb dX13_read_23 (by decide) ?_
  refine lv_istore_n (lv' := [(1, .int 0), (0, .ref h0)]) hx hb dX13_read_24 rfl hl (by decide) rfl (fun ls hl => ?_)
  refine lv_iload_n hx hb dX13_read_25 rfl (lv_at hl 0 rfl) ?_
  refine lv_aload_n hx hb dX13_read_26 rfl (lv_at hl 1 rfl) ?_
  refine va_get (D := (dC, dI)) (ci := 15) (v := .int 0) (C := RX13) (T := TX13) (N := 134) hx hb hts in_cm_read_RX13 hown hK hP 0 rfl rfl 5 (by decide) (hts (.fieldLink RX13 262 "LevelUnitsModel" "size" "I") (List.mem_of_getElem? (i := 5) rfl)) (fun _ h9 => h9) (fl_get (by decide) hk_50) dX13_read_27 ?_
  refine lv_icmp_ge (tgt := 51) hx hb dX13_read_30 (by decide) (fun c9 => ?_) (fun c9 => absurd (by decide) c9)
  clear c9
  refine lv_aload_n hx hb dX13_read_51 rfl (lv_at hl 1 rfl) ?_
  refine lv_iconst (v := 0) hx hb dX13_read_52 (by decide) ?_
  refine va_put (D := (dC, dI)) (ci := 15) (v := .int 0) (ty := .int) (C := RX13) (T := TX13) (N := 134) hx hb hts in_cm_read_RX13 tyX13 tyX13_ok nmX13 hown hK hP hD hS 0 rfl rfl 3 (by decide) (hts (.fieldLink RX13 255 "LevelUnitsModel" "taped" "I") (List.mem_of_getElem? (i := 4) rfl)) (fun _ h9 => h9) rfl (by decide +kernel) rfl rfl (fl_lt (by decide)) dX13_read_53 (fun H locs hP hD hS => ?_)
  obtain ⟨F_51, eF_51⟩ : ∃ z, z = fu F_37 3 (.int 0) := ⟨_, rfl⟩
  have hP : va_P (dC, dI) vwCl [(h0, .inr (15, fl 134 F_51)), (qf, .inl (cqf, 6000, .inl fqf)), (qs, .inl (cqs, 6000, .inl fqs)), (ql, .inl (cql, 6600, .inl fql)), (qts, .inl (cts, 6002, .inl fts)), (qtv, .inl (ctv, 6002, .inl ftv)), (qtl, .inl (ctl, 6002, .inl ftl)), (qst, .inr (14, [.null, .null, .null, .null, .null, .int 0]))] H := by rw [eF_51, ← fl_set (n := 134) (k := 3) (by decide)]; exact hP
  have hD : va_D A [(h0, .inr (15, fl 134 F_51)), (qf, .inl (cqf, 6000, .inl fqf)), (qs, .inl (cqs, 6000, .inl fqs)), (ql, .inl (cql, 6600, .inl fql)), (qts, .inl (cts, 6002, .inl fts)), (qtv, .inl (ctv, 6002, .inl ftv)), (qtl, .inl (ctl, 6002, .inl ftl)), (qst, .inr (14, [.null, .null, .null, .null, .null, .int 0]))] := by rw [eF_51, ← fl_set (n := 134) (k := 3) (by decide)]; exact hD
  have hfr_52 : ∀ j : Nat, j ≠ 0 ∧ j ≠ 3 ∧ j ≠ 5 ∧ j ≠ 98 ∧ j ≠ 100 → F_51 j = F j := fun j hj => (fu_out eF_51 (by omega)).trans (hfr_38 j (by omega))
  have hk_53 : F_51 1 = .ref qst := (fu_ne eF_51 (by decide) hk_40)
  have hk_54 : F_51 13 = .ref qf := (fu_ne eF_51 (by decide) hk_41)
  have hk_55 : F_51 14 = .ref qs := (fu_ne eF_51 (by decide) hk_42)
  have hk_56 : F_51 15 = .ref ql := (fu_ne eF_51 (by decide) hk_43)
  have hk_57 : F_51 9 = .ref qts := (fu_ne eF_51 (by decide) hk_44)
  have hk_58 : F_51 10 = .ref qtv := (fu_ne eF_51 (by decide) hk_45)
  have hk_59 : F_51 11 = .ref qtl := (fu_ne eF_51 (by decide) hk_46)
  have hk_60 : F_51 0 = .int 0 := (fu_ne eF_51 (by decide) hk_47)
  have hk_61 : F_51 98 = .int 0 := (fu_ne eF_51 (by decide) hk_48)
  have hk_62 : F_51 100 = .int 0 := (fu_ne eF_51 (by decide) hk_49)
  have hk_63 : F_51 5 = .int 0 := (fu_ne eF_51 (by decide) hk_50)
  have hk_64 : F_51 3 = .int 0 := (fu_eq eF_51)
  refine lv_aload_n hx hb dX13_read_56 rfl (lv_at hl 1 rfl) ?_
  refine lv_iconst (v := 0) hx hb dX13_read_57 (by decide) ?_
  refine va_put (D := (dC, dI)) (ci := 15) (v := .int 0) (ty := .int) (C := RX13) (T := TX13) (N := 134) hx hb hts in_cm_read_RX13 tyX13 tyX13_ok nmX13 hown hK hP hD hS 0 rfl rfl 17 (by decide) (hts (.fieldLink RX13 343 "LevelUnitsModel" "fault" "I") (List.mem_of_getElem? (i := 6) rfl)) (fun _ h9 => h9) rfl (by decide +kernel) rfl rfl (fl_lt (by decide)) dX13_read_58 (fun H locs hP hD hS => ?_)
  obtain ⟨F_65, eF_65⟩ : ∃ z, z = fu F_51 17 (.int 0) := ⟨_, rfl⟩
  have hP : va_P (dC, dI) vwCl [(h0, .inr (15, fl 134 F_65)), (qf, .inl (cqf, 6000, .inl fqf)), (qs, .inl (cqs, 6000, .inl fqs)), (ql, .inl (cql, 6600, .inl fql)), (qts, .inl (cts, 6002, .inl fts)), (qtv, .inl (ctv, 6002, .inl ftv)), (qtl, .inl (ctl, 6002, .inl ftl)), (qst, .inr (14, [.null, .null, .null, .null, .null, .int 0]))] H := by rw [eF_65, ← fl_set (n := 134) (k := 17) (by decide)]; exact hP
  have hD : va_D A [(h0, .inr (15, fl 134 F_65)), (qf, .inl (cqf, 6000, .inl fqf)), (qs, .inl (cqs, 6000, .inl fqs)), (ql, .inl (cql, 6600, .inl fql)), (qts, .inl (cts, 6002, .inl fts)), (qtv, .inl (ctv, 6002, .inl ftv)), (qtl, .inl (ctl, 6002, .inl ftl)), (qst, .inr (14, [.null, .null, .null, .null, .null, .int 0]))] := by rw [eF_65, ← fl_set (n := 134) (k := 17) (by decide)]; exact hD
  have hfr_66 : ∀ j : Nat, j ≠ 0 ∧ j ≠ 3 ∧ j ≠ 5 ∧ j ≠ 17 ∧ j ≠ 98 ∧ j ≠ 100 → F_65 j = F j := fun j hj => (fu_out eF_65 (by omega)).trans (hfr_52 j (by omega))
  have hk_67 : F_65 1 = .ref qst := (fu_ne eF_65 (by decide) hk_53)
  have hk_68 : F_65 13 = .ref qf := (fu_ne eF_65 (by decide) hk_54)
  have hk_69 : F_65 14 = .ref qs := (fu_ne eF_65 (by decide) hk_55)
  have hk_70 : F_65 15 = .ref ql := (fu_ne eF_65 (by decide) hk_56)
  have hk_71 : F_65 9 = .ref qts := (fu_ne eF_65 (by decide) hk_57)
  have hk_72 : F_65 10 = .ref qtv := (fu_ne eF_65 (by decide) hk_58)
  have hk_73 : F_65 11 = .ref qtl := (fu_ne eF_65 (by decide) hk_59)
  have hk_74 : F_65 0 = .int 0 := (fu_ne eF_65 (by decide) hk_60)
  have hk_75 : F_65 98 = .int 0 := (fu_ne eF_65 (by decide) hk_61)
  have hk_76 : F_65 100 = .int 0 := (fu_ne eF_65 (by decide) hk_62)
  have hk_77 : F_65 5 = .int 0 := (fu_ne eF_65 (by decide) hk_63)
  have hk_78 : F_65 3 = .int 0 := (fu_ne eF_65 (by decide) hk_64)
  have hk_79 : F_65 17 = .int 0 := (fu_eq eF_65)
  refine lv_aload_n hx hb dX13_read_61 rfl (lv_at hl 1 rfl) ?_
  have hPc := hP.sub (ws' := [(h0, .inr (15, fl 134 F_65)), (qf, .inl (cqf, 6000, .inl fqf)), (qs, .inl (cqs, 6000, .inl fqs)), (ql, .inl (cql, 6600, .inl fql)), (qts, .inl (cts, 6002, .inl fts)), (qtv, .inl (ctv, 6002, .inl ftv)), (qtl, .inl (ctl, 6002, .inl ftl))]) [0, 1, 2, 3, 4, 5, 6] rfl
  have hDc := hD.sub (ws' := [(h0, .inr (15, fl 134 F_65)), (qf, .inl (cqf, 6000, .inl fqf)), (qs, .inl (cqs, 6000, .inl fqs)), (ql, .inl (cql, 6600, .inl fql)), (qts, .inl (cts, 6002, .inl fts)), (qtv, .inl (ctv, 6002, .inl ftv)), (qtl, .inl (ctl, 6002, .inl ftl))]) [0, 1, 2, 3, 4, 5, 6] (by decide) rfl
  have hKc := hK.sub (tys' := [(cqf, .int), (cqs, .int), (cql, .byte), (cts, .int), (ctv, .int), (ctl, .int)]) [0, 1, 2, 3, 4, 5] rfl
  have hFc := va_free (wc := [(h0, .inr (15, fl 134 F_65)), (qf, .inl (cqf, 6000, .inl fqf)), (qs, .inl (cqs, 6000, .inl fqs)), (ql, .inl (cql, 6600, .inl fql)), (qts, .inl (cts, 6002, .inl fts)), (qtv, .inl (ctv, 6002, .inl ftv)), (qtl, .inl (ctl, 6002, .inl ftl))]) hD hS hA [0, 1, 2, 3, 4, 5, 6] rfl
  refine va_callv (va_runV (As := []) (rest := []) ⟨hx, hb, hml, hown, hts⟩ (cm_cut l dC dI h0 F_65 qf qs ql cqf cqs cql fqf fqs fql qts qtv qtl cts ctv ctl fts ftv ftl q v f H.size hk_77 hk_68 hk_69 hk_70 hk_71 hk_72 hk_73) (cwV 0 hts gg_cm_read_cm_cut_896 rfl rfl rfl (by decide +kernel) ⟨(Nat.le_of_ble_eq_true rfl), (Nat.le_of_ble_eq_true rfl)⟩) ⟨fun a U g mk q => by obtain ⟨q0, q1, qP, qK, qD, qN0, qN1, qN2, qN3⟩ := q; exact ⟨q0, q1, qP, va_K.moved (u := U) (U := U.calling g mk a) (Vm.Alike.refl U.vm) qK, qD, vk_R.same (u := U) (U := U.calling g mk a) rfl qN0, ks.moved (u := U) (U := U.calling g mk a) (Vm.Alike.refl U.vm) qN1, va_Z.moved (u := U) (U := U.calling g mk a) (Vm.Alike.refl U.vm) qN2, va_Zq.moved (u := U) (U := U.calling g mk a) (Vm.Alike.refl U.vm) qN3⟩, va_recv hKc hPc (ci := 15) (q0 := 0) rfl rfl, fun U hU hW => ⟨rfl, by rw [hU], by rw [hU]; exact hPc, va_K.moved hW.alike hKc, hDc.weaken (fun _ _ _ _ => trivial), vk_R.warm hW hN0, (by rw [hU]; exact ks.moved hW.alike ((hN1.kept (fun a h1 h2 => hS.2.1 a h1 h2)).narrow hFc)), (by rw [hU]; exact va_Z.moved hW.alike ((hN2.kept (fun a h1 h2 => hS.2.1 a h1 h2)).narrow hFc)), (by rw [hU]; exact va_Zq.moved hW.alike ((hN3.kept (fun a h1 h2 => hS.2.1 a h1 h2)).narrow hFc))⟩⟩ rfl rfl hl.1 rfl (lv_room (Nat.le_of_ble_eq_true rfl)) dX13_read_62 ⟨(Nat.le_of_ble_eq_true rfl), (Nat.le_of_ble_eq_true rfl)⟩) hS (fun q _ h => hFc q h) hFc (fun u t H1 locs ht hvm hw hB hz1 hk1 hS => ?_)
  obtain ⟨f_80, f_81, f_82, F_83, f_84, f_85, f_86, hf_87, hf_88, hf_89, hx_90, hP1, hK1, hD1⟩ := hB
  rw [ht] at hP1
  have hK1 := va_K.moved hvm.symm hK1
  have hfr_91 : ∀ j : Nat, j ≠ 0 ∧ j ≠ 3 ∧ j ≠ 5 ∧ j ≠ 6 ∧ j ≠ 7 ∧ j ≠ 8 ∧ j ≠ 12 ∧ j ≠ 16 ∧ j ≠ 17 ∧ j ≠ 98 ∧ j ≠ 100 → F_83 j = F j := fun j hj => (hx_90 j (by omega)).trans (hfr_66 j (by omega))
  have hk_92 : F_83 1 = .ref qst := ((hx_90 1 (by omega)).trans hk_67)
  have hk_93 : F_83 13 = .ref qf := ((hx_90 13 (by omega)).trans hk_68)
  have hk_94 : F_83 14 = .ref qs := ((hx_90 14 (by omega)).trans hk_69)
  have hk_95 : F_83 15 = .ref ql := ((hx_90 15 (by omega)).trans hk_70)
  have hk_96 : F_83 9 = .ref qts := ((hx_90 9 (by omega)).trans hk_71)
  have hk_97 : F_83 10 = .ref qtv := ((hx_90 10 (by omega)).trans hk_72)
  have hk_98 : F_83 11 = .ref qtl := ((hx_90 11 (by omega)).trans hk_73)
  have hk_99 : F_83 0 = .int 0 := ((hx_90 0 (by omega)).trans hk_74)
  have hk_100 : F_83 98 = .int 0 := ((hx_90 98 (by omega)).trans hk_75)
  have hk_101 : F_83 100 = .int 0 := ((hx_90 100 (by omega)).trans hk_76)
  have hk_102 : F_83 5 = .int 0 := ((hx_90 5 (by omega)).trans hk_77)
  have hk_103 : F_83 3 = .int 0 := ((hx_90 3 (by omega)).trans hk_78)
  have hk_104 : F_83 17 = .int 0 := ((hx_90 17 (by omega)).trans hk_79)
  obtain ⟨hP, hD⟩ := va_join (wr := [(qst, .inr (14, [.null, .null, .null, .null, .null, .int 0]))]) (w1 := [(qf, .inl (cqf, 6000, .inl f_80)), (qs, .inl (cqs, 6000, .inl f_81)), (ql, .inl (cql, 6600, .inl f_82)), (h0, .inr (15, fl 134 F_83)), (qts, .inl (cts, 6002, .inl f_84)), (qtv, .inl (ctv, 6002, .inl f_85)), (qtl, .inl (ctl, 6002, .inl f_86))]) hP hD [0, 1, 2, 3, 4, 5, 6] [7] rfl rfl (by decide) (by decide) hk1 hFc hP1 hD1
  have hK := (hK.sub (tys' := []) [] rfl).app hK1
  generalize H1 = H at hP hS ⊢
  have hK : va_K (dC, dI) vwCl [(cqf, .int), (cqs, .int), (cql, .byte), (cts, .int), (ctv, .int), (ctl, .int)] s := hK
  have hP : va_P (dC, dI) vwCl [(qst, .inr (14, [.null, .null, .null, .null, .null, .int 0])), (qf, .inl (cqf, 6000, .inl f_80)), (qs, .inl (cqs, 6000, .inl f_81)), (ql, .inl (cql, 6600, .inl f_82)), (h0, .inr (15, fl 134 F_83)), (qts, .inl (cts, 6002, .inl f_84)), (qtv, .inl (ctv, 6002, .inl f_85)), (qtl, .inl (ctl, 6002, .inl f_86))] H := hP
  have hD : va_D A [(qst, .inr (14, [.null, .null, .null, .null, .null, .int 0])), (qf, .inl (cqf, 6000, .inl f_80)), (qs, .inl (cqs, 6000, .inl f_81)), (ql, .inl (cql, 6600, .inl f_82)), (h0, .inr (15, fl 134 F_83)), (qts, .inl (cts, 6002, .inl f_84)), (qtv, .inl (ctv, 6002, .inl f_85)), (qtl, .inl (ctl, 6002, .inl f_86))] := hD
  refine W.widen (k := 0) (n := 0) (Nat.le_of_ble_eq_true rfl) (Nat.le_of_ble_eq_true rfl) ?_
  refine lv_aload_n hx hb dX13_read_65 rfl (lv_at hl 1 rfl) ?_
  have hPc := hP.sub (ws' := [(h0, .inr (15, fl 134 F_83)), (qts, .inl (cts, 6002, .inl f_84)), (qtl, .inl (ctl, 6002, .inl f_86)), (qst, .inr (14, [.null, .null, .null, .null, .null, .int 0]))]) [4, 5, 7, 0] rfl
  have hDc := hD.sub (ws' := [(h0, .inr (15, fl 134 F_83)), (qts, .inl (cts, 6002, .inl f_84)), (qtl, .inl (ctl, 6002, .inl f_86)), (qst, .inr (14, [.null, .null, .null, .null, .null, .int 0]))]) [4, 5, 7, 0] (by decide) rfl
  have hKc := hK.sub (tys' := [(cts, .int), (ctl, .int)]) [3, 5] rfl
  have hFc := va_free (wc := [(h0, .inr (15, fl 134 F_83)), (qts, .inl (cts, 6002, .inl f_84)), (qtl, .inl (ctl, 6002, .inl f_86)), (qst, .inr (14, [.null, .null, .null, .null, .null, .int 0]))]) hD hS hA [4, 5, 7, 0] rfl
  refine vx_callv (vx_runV (As := []) (rest := []) ⟨hx, hb, hml, hown, hts⟩ (cm_parse l dC dI h0 F_83 qst qts qtl cts ctl f_84 f_86 H.size hk_92 hk_96 hk_98 hf_87 hf_89) (cwV 0 hts gg_cm_read_cm_parse_899 rfl rfl rfl (by decide +kernel) ⟨(Nat.le_of_ble_eq_true rfl), (Nat.le_of_ble_eq_true rfl)⟩) ⟨fun a U g mk q => by obtain ⟨q0, q1, qP, qK, qD⟩ := q; exact ⟨q0, q1, qP, va_K.moved (u := U) (U := U.calling g mk a) (Vm.Alike.refl U.vm) qK, qD⟩, va_recv hKc hPc (ci := 15) (q0 := 0) rfl rfl, fun U hU hW => ⟨rfl, by rw [hU], by rw [hU]; exact hPc, va_K.moved hW.alike hKc, hDc.weaken (fun _ _ _ _ => trivial)⟩⟩ rfl rfl hl.1 rfl (lv_room (Nat.le_of_ble_eq_true rfl)) dX13_read_66 ⟨(Nat.le_of_ble_eq_true rfl), (Nat.le_of_ble_eq_true rfl)⟩) hS (fun q _ h => hFc q h) hFc (fun q _ h => hFc q h) (fun E9 ce9 q9 u t H1 locs ht hvm hw hB hz1 hk1 hS hce9 hvm9 hcl9 => ?_) (fun u t H1 locs ht hvm hw hB hz1 hk1 hS => hw.elim)
  obtain ⟨rfl, F_105, hf_106, hf_107, hf_108, hf_109, hx_110, hP1, hK1, hD1⟩ := hB
  rw [ht] at hP1
  have hK1 := va_K.moved hvm.symm hK1
  have hfr_111 : ∀ j : Nat, j ≠ 0 ∧ j ≠ 3 ∧ j ≠ 5 ∧ j ≠ 6 ∧ j ≠ 7 ∧ j ≠ 8 ∧ j ≠ 12 ∧ j ≠ 16 ∧ j ≠ 17 ∧ j ≠ 18 ∧ j ≠ 19 ∧ j ≠ 32 ∧ j ≠ 33 ∧ j ≠ 34 ∧ j ≠ 37 ∧ j ≠ 38 ∧ j ≠ 39 ∧ j ≠ 40 ∧ j ≠ 41 ∧ j ≠ 98 ∧ j ≠ 100 → F_105 j = F j := fun j hj => (hx_110 j (by omega)).trans (hfr_91 j (by omega))
  have hk_112 : F_105 17 = .int 2 := hf_108
  have hk_113 : F_105 18 = .int 1 := hf_109
  have hk_114 : F_105 1 = .ref qst := ((hx_110 1 (by omega)).trans hk_92)
  have hk_115 : F_105 13 = .ref qf := ((hx_110 13 (by omega)).trans hk_93)
  have hk_116 : F_105 14 = .ref qs := ((hx_110 14 (by omega)).trans hk_94)
  have hk_117 : F_105 15 = .ref ql := ((hx_110 15 (by omega)).trans hk_95)
  have hk_118 : F_105 9 = .ref qts := ((hx_110 9 (by omega)).trans hk_96)
  have hk_119 : F_105 10 = .ref qtv := ((hx_110 10 (by omega)).trans hk_97)
  have hk_120 : F_105 11 = .ref qtl := ((hx_110 11 (by omega)).trans hk_98)
  have hk_121 : F_105 0 = .int 0 := ((hx_110 0 (by omega)).trans hk_99)
  have hk_122 : F_105 98 = .int 0 := ((hx_110 98 (by omega)).trans hk_100)
  have hk_123 : F_105 100 = .int 0 := ((hx_110 100 (by omega)).trans hk_101)
  have hk_124 : F_105 5 = .int 0 := ((hx_110 5 (by omega)).trans hk_102)
  have hk_125 : F_105 3 = .int 0 := ((hx_110 3 (by omega)).trans hk_103)
  obtain ⟨hP, hD⟩ := va_join (wr := [(qf, .inl (cqf, 6000, .inl f_80)), (qs, .inl (cqs, 6000, .inl f_81)), (ql, .inl (cql, 6600, .inl f_82)), (qtv, .inl (ctv, 6002, .inl f_85))]) (w1 := [(qts, .inl (cts, 6002, .inl f_84)), (qtl, .inl (ctl, 6002, .inl f_86)), (h0, .inr (15, fl 134 F_105)), (qst, .inr (14, [.null, .null, .null, .null, .null, .int 0]))]) hP hD [4, 5, 7, 0] [1, 2, 3, 6] rfl rfl (by decide) (by decide) hk1 hFc hP1 hD1
  have hK := (hK.sub (tys' := [(cqf, .int), (cqs, .int), (cql, .byte), (ctv, .int)]) [0, 1, 2, 4] rfl).app hK1
  generalize H1 = H at hP hS hce9 ⊢
  have hK : va_K (dC, dI) vwCl [(cqf, .int), (cqs, .int), (cql, .byte), (ctv, .int), (cts, .int), (ctl, .int)] s := hK
  have hP : va_P (dC, dI) vwCl [(qf, .inl (cqf, 6000, .inl f_80)), (qs, .inl (cqs, 6000, .inl f_81)), (ql, .inl (cql, 6600, .inl f_82)), (qtv, .inl (ctv, 6002, .inl f_85)), (qts, .inl (cts, 6002, .inl f_84)), (qtl, .inl (ctl, 6002, .inl f_86)), (h0, .inr (15, fl 134 F_105)), (qst, .inr (14, [.null, .null, .null, .null, .null, .int 0]))] H := hP
  have hD : va_D A [(qf, .inl (cqf, 6000, .inl f_80)), (qs, .inl (cqs, 6000, .inl f_81)), (ql, .inl (cql, 6600, .inl f_82)), (qtv, .inl (ctv, 6002, .inl f_85)), (qts, .inl (cts, 6002, .inl f_84)), (qtl, .inl (ctl, 6002, .inl f_86)), (h0, .inr (15, fl 134 F_105)), (qst, .inr (14, [.null, .null, .null, .null, .null, .int 0]))] := hD
  refine vx_widen (k := 0) (n := 0) (Nat.le_of_ble_eq_true rfl) (Nat.le_of_ble_eq_true rfl) ?_
  have htb9 := vx_table (x := yX13_read) B (hts (.codeWith yX13_read cX13_read 2 (some .int) [(65, 105, 108, 7)]) (List.mem_of_getElem? (i := 0) rfl))
  refine vx_catch (own := RX13) (name := RX12) (E := RX12) hown [] (⟨65, 105, 108, 7⟩ : ExceptionTableEntry) [] (by rw [htb9]; rfl) (fun z9 h9 => nomatch h9) (by decide) (by decide) (hts (.classLink RX13 7 RX12) (List.mem_of_getElem? (i := 110) rfl)) (va_Nw.use rfl hN4) hce9 hvm9 hcl9 ?_
  refine lv_astore_n (lv' := [(1, .ref q9), (0, .ref h0)]) hx hb dX13_read_108 rfl hl (by decide) rfl (fun ls hl => ?_)
  refine lv_aload_n hx hb dX13_read_109 rfl (lv_at hl 1 rfl) ?_
  refine va_get (D := (dC, dI)) (ci := 15) (v := .int 2) (C := RX13) (T := TX13) (N := 134) hx hb hts in_cm_read_RX13 hown hK hP 6 rfl rfl 17 (by decide) (hts (.fieldLink RX13 343 "LevelUnitsModel" "fault" "I") (List.mem_of_getElem? (i := 6) rfl)) (fun _ h9 => h9) (fl_get (by decide) hk_112) dX13_read_110 ?_
  refine lv_bipush (v := 16) hx hb dX13_read_113 (by decide) ?_
  refine lv_aload_n hx hb dX13_read_115 rfl (lv_at hl 1 rfl) ?_
  refine va_get (D := (dC, dI)) (ci := 15) (v := .int 1) (C := RX13) (T := TX13) (N := 134) hx hb hts in_cm_read_RX13 hown hK hP 6 rfl rfl 18 (by decide) (hts (.fieldLink RX13 346 "LevelUnitsModel" "faultLine" "I") (List.mem_of_getElem? (i := 96) rfl)) (fun _ h9 => h9) (fl_get (by decide) hk_113) dX13_read_116 ?_
  refine lv_imul hx hb dX13_read_119 ?_
  refine lv_topi (fun y9 e9 => ?_)
  have e9 : y9 = 16 := by rw [e9]; decide
  subst e9
  refine lv_iadd hx hb dX13_read_120 ?_
  refine lv_topi (fun y9 e9 => ?_)
  have e9 : y9 = 18 := by rw [e9]; decide
  subst e9
  have hP9 := hP.sub (ws' := []) [] rfl
  have hD9 := hD.sub (ws' := []) [] (by decide) rfl
  have hK9 := hK.sub (tys' := []) [] rfl
  refine W.widen (k := 0) (n := 0) (Nat.le_of_ble_eq_true rfl) (Nat.le_of_ble_eq_true rfl) ?_
  exact W.iret (v := 18) hx hb hr (fun t ht hW => ⟨⟨18, (), rfl, rfl, by rw [ht]; exact hP9, va_K.moved hW.alike hK9, hD9⟩, hS.F ht⟩) hS.2.2 dX13_read_121
