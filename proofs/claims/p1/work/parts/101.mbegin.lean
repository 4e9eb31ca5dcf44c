def ws_cm_fails_1 : List Cond := .code yX13_fails cX13_fails 3 (some .boolean) :: ([.fieldLink RX13 251 "LevelUnitsModel" "thrown" "I"] ++ wsX130)
theorem in_cm_fails_1_RX13 : ∀ w ∈ wsX130, w ∈ ws_cm_fails_1 := fun _ h => List.mem_cons_of_mem _ (List.mem_append_right _ h)
set_option maxHeartbeats 4000000 in
set_option maxRecDepth 100000 in
theorem cm_fails_1 (l : Launch) (dC : Nat → ClassId) (dI : Nat → Nat → Nat) (h0 : Nat) (F : Nat → Value) (sz : Nat) : Met l yX13_fails ws_cm_fails_1 ({ frames := 0, cells := 0, slots := 0, locals := 0 }) (va_Pc [.ref h0, .int 1, .int 0] (fun U => U.heap.size = sz ∧ va_P (dC, dI) vwCl [(h0, .inr (15, fl 134 F))] U.heap ∧ va_K (dC, dI) vwCl [] U ∧ va_D (fun _ => True) [(h0, .inr (15, fl 134 F))])) (va_Qi (fun (r : Int32) (_ : Unit) => r = 1) (fun _ t => ∃ F_a : Nat → Value, F_a 0 = .int 1 ∧ (∀ j : Nat, j ≠ 0 → F_a j = F j) ∧ va_P (dC, dI) vwCl [(h0, .inr (15, fl 134 F_a))] t.heap ∧ va_K (dC, dI) vwCl [] t ∧ va_D (va_A [(h0, .inr (15, fl 134 F))] sz) [(h0, .inr (15, fl 134 F_a))]) (va_A [(h0, .inr (15, fl 134 F))] sz)) 0 0 (va_A [(h0, .inr (15, fl 134 F))] sz) := by
  refine Met.ofW (cc := cX13_fails) (maxL := 3) (ret := (some .boolean)) (by decide) rfl ?_
  intro p e s m args below meth c s₁ B hml hv
  obtain ⟨rfl, hsz, hP, hK, hD0⟩ := hv
  have hx := B.exec
  have hb := B.bytes
  have hr := B.returns
  have hts := atoms_spec (ws := ws_cm_fails_1) B.pre
  have hown : s.vm.findClass RX13 = some m.cls := findClass_of_methodNamed B.named
  have hlocks := B.notSynchronized
  subst hsz
  have hD := hD0.self (sz := s.heap.size)
  generalize hAe : va_A [(h0, .inr (15, fl 134 F))] s.heap.size = A at hD ⊢
  have hA : ∀ q : Nat, s.heap.size ≤ q → A q := fun q h => by rw [← hAe]; exact Or.inr h
  have hS : va_S A s.heap s.heap [] := va_S.rf
  have hP : va_P (dC, dI) vwCl [(h0, .inr (15, fl 134 F))] s.heap := hP
  have hl := lv_entry ([.ref h0, .int 1, .int 0]) (n := 3) (Nat.le_of_ble_eq_true rfl)
  rw [lg_entry_eq]
  generalize (lg_sl ([.ref h0, .int 1, .int 0]) ++ List.replicate (3 - (lg_sl ([.ref h0, .int 1, .int 0])).length) Slot.unset).toArray = ls at hl ⊢
  have hl : lv_has ls 3 [(0, .ref h0), (1, .int 1), (2, .int 0)] := hl
  refine lv_aload_n hx hb dX13_fails_0 rfl (lv_at hl 0 rfl) ?_
  refine lv_iload_n hx hb dX13_fails_1 rfl (lv_at hl 1 rfl) ?_
  refine lv_if_eq (tgt := 9) hx hb dX13_fails_2 (by decide) (fun c9 => absurd c9 (by decide)) (fun c9 => ?_)
  clear c9
  refine lv_iconst (v := 1) hx hb dX13_fails_5 (by decide) ?_
  refine lv_goto (tgt := 18) hx hb dX13_fails_6 (by decide) ?_
  refine va_put (D := (dC, dI)) (ci := 15) (v := .int 1) (ty := .int) (C := RX13) (T := TX13) (N := 134) hx hb hts in_cm_fails_1_RX13 tyX13 tyX13_ok nmX13 hown hK hP hD hS 0 rfl rfl 0 (by decide) (hts (.fieldLink RX13 251 "LevelUnitsModel" "thrown" "I") (List.mem_of_getElem? (i := 1) rfl)) (fun _ h9 => h9) rfl (by decide +kernel) rfl rfl (fl_lt (by decide)) dX13_fails_18 (fun H locs hP hD hS => ?_)
  obtain ⟨F_1, eF_1⟩ : ∃ z, z = fu F 0 (.int 1) := ⟨_, rfl⟩
  have hP : va_P (dC, dI) vwCl [(h0, .inr (15, fl 134 F_1))] H := by rw [eF_1, ← fl_set (n := 134) (k := 0) (by decide)]; exact hP
  have hD : va_D A [(h0, .inr (15, fl 134 F_1))] := by rw [eF_1, ← fl_set (n := 134) (k := 0) (by decide)]; exact hD
  have hfr_2 : ∀ j : Nat, j ≠ 0 → F_1 j = F j := fun j hj => (fu_out eF_1 (by omega))
  have hk_3 : F_1 0 = .int 1 := (fu_eq eF_1)
  refine lv_aload_n hx hb dX13_fails_21 rfl (lv_at hl 0 rfl) ?_
  refine va_get (D := (dC, dI)) (ci := 15) (v := .int 1) (C := RX13) (T := TX13) (N := 134) hx hb hts in_cm_fails_1_RX13 hown hK hP 0 rfl rfl 0 (by decide) (hts (.fieldLink RX13 251 "LevelUnitsModel" "thrown" "I") (List.mem_of_getElem? (i := 1) rfl)) (fun _ h9 => h9) (fl_get (by decide) hk_3) dX13_fails_22 ?_
  refine lv_if_le (tgt := 32) hx hb dX13_fails_25 (by decide) (fun c9 => absurd c9 (by decide)) (fun c9 => ?_)
  clear c9
  refine lv_iconst (v := 1) hx hb dX13_fails_28 (by decide) ?_
  refine lv_goto (tgt := 33) hx hb dX13_fails_29 (by decide) ?_
  have hP9 := hP.sub (ws' := [(h0, .inr (15, fl 134 F_1))]) [0] rfl
  have hD9 := hD.sub (ws' := [(h0, .inr (15, fl 134 F_1))]) [0] (by decide) rfl
  have hK9 := hK.sub (tys' := []) [] rfl
  refine W.widen (k := 0) (n := 0) (Nat.le_of_ble_eq_true rfl) (Nat.le_of_ble_eq_true rfl) ?_
  exact W.zret (v := 1) hx hb hr rfl (fun t ht hW => ⟨⟨1, (), rfl, rfl, F_1, hk_3, hfr_2, by rw [ht]; exact hP9, va_K.moved hW.alike hK9, hD9⟩, hS.F ht⟩) hS.2.2 dX13_fails_33
def ws_cm_fails_11 : List Cond := .code yX13_fails cX13_fails 3 (some .boolean) :: ([.fieldLink RX13 251 "LevelUnitsModel" "thrown" "I"] ++ wsX130)
theorem in_cm_fails_11_RX13 : ∀ w ∈ wsX130, w ∈ ws_cm_fails_11 := fun _ h => List.mem_cons_of_mem _ (List.mem_append_right _ h)
set_option maxHeartbeats 4000000 in
set_option maxRecDepth 100000 in
theorem cm_fails_11 (l : Launch) (dC : Nat → ClassId) (dI : Nat → Nat → Nat) (h0 : Nat) (F : Nat → Value) (sz : Nat) : Met l yX13_fails ws_cm_fails_11 ({ frames := 0, cells := 0, slots := 0, locals := 0 }) (va_Pc [.ref h0, .int 1, .int 1] (fun U => U.heap.size = sz ∧ va_P (dC, dI) vwCl [(h0, .inr (15, fl 134 F))] U.heap ∧ va_K (dC, dI) vwCl [] U ∧ va_D (fun _ => True) [(h0, .inr (15, fl 134 F))])) (va_Qi (fun (r : Int32) (_ : Unit) => r = 1) (fun _ t => ∃ F_a : Nat → Value, F_a 0 = .int 1 ∧ (∀ j : Nat, j ≠ 0 → F_a j = F j) ∧ va_P (dC, dI) vwCl [(h0, .inr (15, fl 134 F_a))] t.heap ∧ va_K (dC, dI) vwCl [] t ∧ va_D (va_A [(h0, .inr (15, fl 134 F))] sz) [(h0, .inr (15, fl 134 F_a))]) (va_A [(h0, .inr (15, fl 134 F))] sz)) 0 0 (va_A [(h0, .inr (15, fl 134 F))] sz) := by
  refine Met.ofW (cc := cX13_fails) (maxL := 3) (ret := (some .boolean)) (by decide) rfl ?_
  intro p e s m args below meth c s₁ B hml hv
  obtain ⟨rfl, hsz, hP, hK, hD0⟩ := hv
  have hx := B.exec
  have hb := B.bytes
  have hr := B.returns
  have hts := atoms_spec (ws := ws_cm_fails_11) B.pre
  have hown : s.vm.findClass RX13 = some m.cls := findClass_of_methodNamed B.named
  have hlocks := B.notSynchronized
  subst hsz
  have hD := hD0.self (sz := s.heap.size)
  generalize hAe : va_A [(h0, .inr (15, fl 134 F))] s.heap.size = A at hD ⊢
  have hA : ∀ q : Nat, s.heap.size ≤ q → A q := fun q h => by rw [← hAe]; exact Or.inr h
  have hS : va_S A s.heap s.heap [] := va_S.rf
  have hP : va_P (dC, dI) vwCl [(h0, .inr (15, fl 134 F))] s.heap := hP
  have hl := lv_entry ([.ref h0, .int 1, .int 1]) (n := 3) (Nat.le_of_ble_eq_true rfl)
  rw [lg_entry_eq]
  generalize (lg_sl ([.ref h0, .int 1, .int 1]) ++ List.replicate (3 - (lg_sl ([.ref h0, .int 1, .int 1])).length) Slot.unset).toArray = ls at hl ⊢
  have hl : lv_has ls 3 [(0, .ref h0), (1, .int 1), (2, .int 1)] := hl
  refine lv_aload_n hx hb dX13_fails_0 rfl (lv_at hl 0 rfl) ?_
  refine lv_iload_n hx hb dX13_fails_1 rfl (lv_at hl 1 rfl) ?_
  refine lv_if_eq (tgt := 9) hx hb dX13_fails_2 (by decide) (fun c9 => absurd c9 (by decide)) (fun c9 => ?_)
  clear c9
  refine lv_iconst (v := 1) hx hb dX13_fails_5 (by decide) ?_
  refine lv_goto (tgt := 18) hx hb dX13_fails_6 (by decide) ?_
  refine va_put (D := (dC, dI)) (ci := 15) (v := .int 1) (ty := .int) (C := RX13) (T := TX13) (N := 134) hx hb hts in_cm_fails_11_RX13 tyX13 tyX13_ok nmX13 hown hK hP hD hS 0 rfl rfl 0 (by decide) (hts (.fieldLink RX13 251 "LevelUnitsModel" "thrown" "I") (List.mem_of_getElem? (i := 1) rfl)) (fun _ h9 => h9) rfl (by decide +kernel) rfl rfl (fl_lt (by decide)) dX13_fails_18 (fun H locs hP hD hS => ?_)
  obtain ⟨F_1, eF_1⟩ : ∃ z, z = fu F 0 (.int 1) := ⟨_, rfl⟩
  have hP : va_P (dC, dI) vwCl [(h0, .inr (15, fl 134 F_1))] H := by rw [eF_1, ← fl_set (n := 134) (k := 0) (by decide)]; exact hP
  have hD : va_D A [(h0, .inr (15, fl 134 F_1))] := by rw [eF_1, ← fl_set (n := 134) (k := 0) (by decide)]; exact hD
  have hfr_2 : ∀ j : Nat, j ≠ 0 → F_1 j = F j := fun j hj => (fu_out eF_1 (by omega))
  have hk_3 : F_1 0 = .int 1 := (fu_eq eF_1)
  refine lv_aload_n hx hb dX13_fails_21 rfl (lv_at hl 0 rfl) ?_
  refine va_get (D := (dC, dI)) (ci := 15) (v := .int 1) (C := RX13) (T := TX13) (N := 134) hx hb hts in_cm_fails_11_RX13 hown hK hP 0 rfl rfl 0 (by decide) (hts (.fieldLink RX13 251 "LevelUnitsModel" "thrown" "I") (List.mem_of_getElem? (i := 1) rfl)) (fun _ h9 => h9) (fl_get (by decide) hk_3) dX13_fails_22 ?_
  refine lv_if_le (tgt := 32) hx hb dX13_fails_25 (by decide) (fun c9 => absurd c9 (by decide)) (fun c9 => ?_)
  clear c9
  refine lv_iconst (v := 1) hx hb dX13_fails_28 (by decide) ?_
  refine lv_goto (tgt := 33) hx hb dX13_fails_29 (by decide) ?_
  have hP9 := hP.sub (ws' := [(h0, .inr (15, fl 134 F_1))]) [0] rfl
  have hD9 := hD.sub (ws' := [(h0, .inr (15, fl 134 F_1))]) [0] (by decide) rfl
  have hK9 := hK.sub (tys' := []) [] rfl
  refine W.widen (k := 0) (n := 0) (Nat.le_of_ble_eq_true rfl) (Nat.le_of_ble_eq_true rfl) ?_
  exact W.zret (v := 1) hx hb hr rfl (fun t ht hW => ⟨⟨1, (), rfl, rfl, F_1, hk_3, hfr_2, by rw [ht]; exact hP9, va_K.moved hW.alike hK9, hD9⟩, hS.F ht⟩) hS.2.2 dX13_fails_33
def ws_cm_fails_2 : List Cond := .code yX13_fails cX13_fails 3 (some .boolean) :: ([.fieldLink RX13 251 "LevelUnitsModel" "thrown" "I"] ++ wsX130)
theorem in_cm_fails_2_RX13 : ∀ w ∈ wsX130, w ∈ ws_cm_fails_2 := fun _ h => List.mem_cons_of_mem _ (List.mem_append_right _ h)
set_option maxHeartbeats 4000000 in
set_option maxRecDepth 100000 in
theorem cm_fails_2 (l : Launch) (dC : Nat → ClassId) (dI : Nat → Nat → Nat) (h0 : Nat) (F : Nat → Value) (sz : Nat) : Met l yX13_fails ws_cm_fails_2 ({ frames := 0, cells := 0, slots := 0, locals := 0 }) (va_Pc [.ref h0, .int 0, .int 1] (fun U => U.heap.size = sz ∧ va_P (dC, dI) vwCl [(h0, .inr (15, fl 134 F))] U.heap ∧ va_K (dC, dI) vwCl [] U ∧ va_D (fun _ => True) [(h0, .inr (15, fl 134 F))])) (va_Qi (fun (r : Int32) (_ : Unit) => r = 1) (fun _ t => ∃ F_a : Nat → Value, F_a 0 = .int 2 ∧ (∀ j : Nat, j ≠ 0 → F_a j = F j) ∧ va_P (dC, dI) vwCl [(h0, .inr (15, fl 134 F_a))] t.heap ∧ va_K (dC, dI) vwCl [] t ∧ va_D (va_A [(h0, .inr (15, fl 134 F))] sz) [(h0, .inr (15, fl 134 F_a))]) (va_A [(h0, .inr (15, fl 134 F))] sz)) 0 0 (va_A [(h0, .inr (15, fl 134 F))] sz) := by
  refine Met.ofW (cc := cX13_fails) (maxL := 3) (ret := (some .boolean)) (by decide) rfl ?_
  intro p e s m args below meth c s₁ B hml hv
  obtain ⟨rfl, hsz, hP, hK, hD0⟩ := hv
  have hx := B.exec
  have hb := B.bytes
  have hr := B.returns
  have hts := atoms_spec (ws := ws_cm_fails_2) B.pre
  have hown : s.vm.findClass RX13 = some m.cls := findClass_of_methodNamed B.named
  have hlocks := B.notSynchronized
  subst hsz
  have hD := hD0.self (sz := s.heap.size)
  generalize hAe : va_A [(h0, .inr (15, fl 134 F))] s.heap.size = A at hD ⊢
  have hA : ∀ q : Nat, s.heap.size ≤ q → A q := fun q h => by rw [← hAe]; exact Or.inr h
  have hS : va_S A s.heap s.heap [] := va_S.rf
  have hP : va_P (dC, dI) vwCl [(h0, .inr (15, fl 134 F))] s.heap := hP
  have hl := lv_entry ([.ref h0, .int 0, .int 1]) (n := 3) (Nat.le_of_ble_eq_true rfl)
  rw [lg_entry_eq]
  generalize (lg_sl ([.ref h0, .int 0, .int 1]) ++ List.replicate (3 - (lg_sl ([.ref h0, .int 0, .int 1])).length) Slot.unset).toArray = ls at hl ⊢
  have hl : lv_has ls 3 [(0, .ref h0), (1, .int 0), (2, .int 1)] := hl
  refine lv_aload_n hx hb dX13_fails_0 rfl (lv_at hl 0 rfl) ?_
  refine lv_iload_n hx hb dX13_fails_1 rfl (lv_at hl 1 rfl) ?_
  refine lv_if_eq (tgt := 9) hx hb dX13_fails_2 (by decide) (fun c9 => ?_) (fun c9 => absurd (by decide) c9)
  clear c9
  refine lv_iload_n hx hb dX13_fails_9 rfl (lv_at hl 2 rfl) ?_
  refine lv_if_eq (tgt := 17) hx hb dX13_fails_10 (by decide) (fun c9 => absurd c9 (by decide)) (fun c9 => ?_)
  clear c9
  refine lv_iconst (v := 2) hx hb dX13_fails_13 (by decide) ?_
  refine lv_goto (tgt := 18) hx hb dX13_fails_14 (by decide) ?_
  refine va_put (D := (dC, dI)) (ci := 15) (v := .int 2) (ty := .int) (C := RX13) (T := TX13) (N := 134) hx hb hts in_cm_fails_2_RX13 tyX13 tyX13_ok nmX13 hown hK hP hD hS 0 rfl rfl 0 (by decide) (hts (.fieldLink RX13 251 "LevelUnitsModel" "thrown" "I") (List.mem_of_getElem? (i := 1) rfl)) (fun _ h9 => h9) rfl (by decide +kernel) rfl rfl (fl_lt (by decide)) dX13_fails_18 (fun H locs hP hD hS => ?_)
  obtain ⟨F_1, eF_1⟩ : ∃ z, z = fu F 0 (.int 2) := ⟨_, rfl⟩
  have hP : va_P (dC, dI) vwCl [(h0, .inr (15, fl 134 F_1))] H := by rw [eF_1, ← fl_set (n := 134) (k := 0) (by decide)]; exact hP
  have hD : va_D A [(h0, .inr (15, fl 134 F_1))] := by rw [eF_1, ← fl_set (n := 134) (k := 0) (by decide)]; exact hD
  have hfr_2 : ∀ j : Nat, j ≠ 0 → F_1 j = F j := fun j hj => (fu_out eF_1 (by omega))
  have hk_3 : F_1 0 = .int 2 := (fu_eq eF_1)
  refine lv_aload_n hx hb dX13_fails_21 rfl (lv_at hl 0 rfl) ?_
  refine va_get (D := (dC, dI)) (ci := 15) (v := .int 2) (C := RX13) (T := TX13) (N := 134) hx hb hts in_cm_fails_2_RX13 hown hK hP 0 rfl rfl 0 (by decide) (hts (.fieldLink RX13 251 "LevelUnitsModel" "thrown" "I") (List.mem_of_getElem? (i := 1) rfl)) (fun _ h9 => h9) (fl_get (by decide) hk_3) dX13_fails_22 ?_
  refine lv_if_le (tgt := 32) hx hb dX13_fails_25 (by decide) (fun c9 => absurd c9 (by decide)) (fun c9 => ?_)
  clear c9
  refine lv_iconst (v := 1) hx hb dX13_fails_28 (by decide) ?_
  refine lv_goto (tgt := 33) hx hb dX13_fails_29 (by decide) ?_
  have hP9 := hP.sub (ws' := [(h0, .inr (15, fl 134 F_1))]) [0] rfl
  have hD9 := hD.sub (ws' := [(h0, .inr (15, fl 134 F_1))]) [0] (by decide) rfl
  have hK9 := hK.sub (tys' := []) [] rfl
  refine W.widen (k := 0) (n := 0) (Nat.le_of_ble_eq_true rfl) (Nat.le_of_ble_eq_true rfl) ?_
  exact W.zret (v := 1) hx hb hr rfl (fun t ht hW => ⟨⟨1, (), rfl, rfl, F_1, hk_3, hfr_2, by rw [ht]; exact hP9, va_K.moved hW.alike hK9, hD9⟩, hS.F ht⟩) hS.2.2 dX13_fails_33
def ws_cm_begin : List Cond := .code yX13_begin cX13_begin 6 none :: ([.fieldLink RX13 889 "LevelUnitsModel" "hasProgram" "Z", .fieldLink RX13 251 "LevelUnitsModel" "thrown" "I", .code yX13_fails cX13_fails 3 (some .boolean), .methodLink RX13 1072 yX13_fails, .instanceMethod yX13_fails, .selects RX13 yX13_fails yX13_fails, .initialized RX13] ++ wsX130)
theorem in_cm_begin_RX13 : ∀ w ∈ wsX130, w ∈ ws_cm_begin := fun _ h => List.mem_cons_of_mem _ (List.mem_append_right _ h)
theorem g0_cm_begin_cm_fails_1_1072 : GoodIn ws_cm_begin ws_cm_fails_1 := goodIn_r _ [3, 2, 8, 9, 10, 11, 12, 13, 14, 15, 16, 17, 18, 19, 20, 21, 22, 23, 24, 25, 26, 27, 28, 29, 30, 31, 32, 33, 34, 35, 36, 37, 38, 39, 40, 41, 42, 43, 44, 45, 46, 47, 48, 49, 50, 51, 52, 53, 54, 55, 56, 57, 58, 59, 60, 61, 62, 63, 64, 65, 66, 67, 68, 69, 70, 71, 72, 73, 74, 75, 76, 77, 78, 79, 80, 81, 82, 83, 84, 85, 86, 87, 88, 89, 90, 91, 92, 93, 94, 95, 96, 97, 98, 99, 100, 101, 102, 103, 104, 105, 106, 107, 108, 109, 110, 111, 112, 113, 114, 115, 116, 117, 118, 119, 120, 121, 122, 123, 124, 125, 126, 127, 128, 129, 130, 131, 132, 133, 134, 135, 136, 137, 138, 139, 140, 141] (by decide +kernel) (by decide +kernel)
theorem gg_cm_begin_cm_fails_1_1072 : GoodIn ws_cm_begin (wsV RX13 1072 RX13 yX13_fails ws_cm_fails_1) := goodIn_app (goodIn_of _ (by decide +kernel)) g0_cm_begin_cm_fails_1_1072
set_option maxHeartbeats 4000000 in
set_option maxRecDepth 100000 in
theorem cm_begin (l : Launch) (dC : Nat → ClassId) (dI : Nat → Nat → Nat) (h0 : Nat) (F : Nat → Value) (i : Int32) (sz : Nat) (hq98 : F 98 = .int 0) : Met l yX13_begin ws_cm_begin ({ frames := 1, cells := 0, slots := 0, locals := 22 }) (va_Pc [.ref h0, .int i] (fun U => U.heap.size = sz ∧ va_P (dC, dI) vwCl [(h0, .inr (15, fl 134 F))] U.heap ∧ va_K (dC, dI) vwCl [] U ∧ va_D (fun _ => True) [(h0, .inr (15, fl 134 F))])) (va_Qv (fun _ : Unit => True) (fun _ t => ∃ F_a : Nat → Value, F_a 0 = .int 1 ∧ (∀ j : Nat, j ≠ 0 → F_a j = F j) ∧ va_P (dC, dI) vwCl [(h0, .inr (15, fl 134 F_a))] t.heap ∧ va_K (dC, dI) vwCl [] t ∧ va_D (va_A [(h0, .inr (15, fl 134 F))] sz) [(h0, .inr (15, fl 134 F_a))]) (va_A [(h0, .inr (15, fl 134 F))] sz)) 0 0 (va_A [(h0, .inr (15, fl 134 F))] sz) := by
  refine Met.ofW (cc := cX13_begin) (maxL := 6) (ret := none) (by decide) rfl ?_
  intro p e s m args below meth c s₁ B hml hv
  obtain ⟨rfl, hsz, hP, hK, hD0⟩ := hv
  have hx := B.exec
  have hb := B.bytes
  have hr := B.returns
  have hts := atoms_spec (ws := ws_cm_begin) B.pre
  have hown : s.vm.findClass RX13 = some m.cls := findClass_of_methodNamed B.named
  have hlocks := B.notSynchronized
  subst hsz
  have hD := hD0.self (sz := s.heap.size)
  generalize hAe : va_A [(h0, .inr (15, fl 134 F))] s.heap.size = A at hD ⊢
  have hA : ∀ q : Nat, s.heap.size ≤ q → A q := fun q h => by rw [← hAe]; exact Or.inr h
  have hS : va_S A s.heap s.heap [] := va_S.rf
  have hP : va_P (dC, dI) vwCl [(h0, .inr (15, fl 134 F))] s.heap := hP
  have hl := lv_entry ([.ref h0, .int i]) (n := 6) (Nat.le_of_ble_eq_true rfl)
  rw [lg_entry_eq]
  generalize (lg_sl ([.ref h0, .int i]) ++ List.replicate (6 - (lg_sl ([.ref h0, .int i])).length) Slot.unset).toArray = ls at hl ⊢
  have hl : lv_has ls 6 [(0, .ref h0), (1, .int i)] := hl
  refine lv_aload_n hx hb dX13_begin_0 rfl (lv_at hl 0 rfl) ?_
  refine lv_aload_n hx hb dX13_begin_1 rfl (lv_at hl 0 rfl) ?_
  refine va_get (D := (dC, dI)) (ci := 15) (v := .int 0) (C := RX13) (T := TX13) (N := 134) hx hb hts in_cm_begin_RX13 hown hK hP 0 rfl rfl 98 (by decide) (hts (.fieldLink RX13 889 "LevelUnitsModel" "hasProgram" "Z") (List.mem_of_getElem? (i := 1) rfl)) (fun _ h9 => h9) (fl_get (by decide) hq98) dX13_begin_2 ?_
  refine lv_if_ne (tgt := 12) hx hb dX13_begin_5 (by decide) (fun c9 => absurd c9 (by decide)) (fun c9 => ?_)
  clear c9
  refine lv_iconst (v := 1) hx hb dX13_begin_8 (by decide) ?_
  refine lv_goto (tgt := 13) hx hb dX13_begin_9 (by decide) ?_
  refine lv_iconst (v := 0) hx hb dX13_begin_13 (by decide) ?_
  have hPc := hP.sub (ws' := [(h0, .inr (15, fl 134 F))]) [0] rfl
  have hDc := hD.sub (ws' := [(h0, .inr (15, fl 134 F))]) [0] (by decide) rfl
  have hKc := hK.sub (tys' := []) [] rfl
  have hFc := va_free (wc := [(h0, .inr (15, fl 134 F))]) hD hS hA [0] rfl
  refine va_calli (va_runV (As := [.int 1, .int 0]) (rest := []) ⟨hx, hb, hml, hown, hts⟩ (cm_fails_1 l dC dI h0 F s.heap.size) (cwV 2 hts gg_cm_begin_cm_fails_1_1072 rfl rfl rfl (by decide +kernel) ⟨(Nat.le_of_ble_eq_true rfl), (Nat.le_of_ble_eq_true rfl)⟩) ⟨fun a U g mk q => by obtain ⟨q0, q1, qP, qK, qD⟩ := q; exact ⟨q0, q1, qP, va_K.moved (u := U) (U := U.calling g mk a) (Vm.Alike.refl U.vm) qK, qD⟩, va_recv hKc hPc (ci := 15) (q0 := 0) rfl rfl, fun U hU hW => ⟨rfl, by rw [hU], by rw [hU]; exact hPc, va_K.moved hW.alike hKc, hDc.weaken (fun _ _ _ _ => trivial)⟩⟩ rfl rfl hl.1 rfl (lv_room (Nat.le_of_ble_eq_true rfl)) dX13_begin_14 ⟨(Nat.le_of_ble_eq_true rfl), (Nat.le_of_ble_eq_true rfl)⟩) hS (fun q _ h => hFc q h) hFc (fun r9 u t H1 locs ht hvm hw hB hz1 hk1 hS => ?_)
  obtain ⟨F_1, hf_2, hx_3, hP1, hK1, hD1⟩ := hB
  rw [ht] at hP1
  have hK1 := va_K.moved hvm.symm hK1
  have hfr_4 : ∀ j : Nat, j ≠ 0 → F_1 j = F j := fun j hj => (hx_3 j (by omega))
  have hk_5 : F_1 0 = .int 1 := hf_2
  have hk_6 : F_1 98 = .int 0 := ((hx_3 98 (by omega)).trans hq98)
  obtain ⟨hP, hD⟩ := va_join (wr := []) (w1 := [(h0, .inr (15, fl 134 F_1))]) hP hD [0] [] rfl rfl (by decide) (by decide) hk1 hFc hP1 hD1
  have hK := (hK.sub (tys' := []) [] rfl).app hK1
  generalize H1 = H at hP hS ⊢
  have hK : va_K (dC, dI) vwCl [] s := hK
  have hP : va_P (dC, dI) vwCl [(h0, .inr (15, fl 134 F_1))] H := hP
  have hD : va_D A [(h0, .inr (15, fl 134 F_1))] := hD
  refine W.widen (k := 0) (n := 0) (Nat.le_of_ble_eq_true rfl) (Nat.le_of_ble_eq_true rfl) ?_
  obtain rfl : r9 = 1 := hw
  refine lv_if_eq (tgt := 21) hx hb dX13_begin_17 (by decide) (fun c9 => absurd c9 (by decide)) (fun c9 => ?_)
  clear c9
  have hP9 := hP.sub (ws' := [(h0, .inr (15, fl 134 F_1))]) [0] rfl
  have hD9 := hD.sub (ws' := [(h0, .inr (15, fl 134 F_1))]) [0] (by decide) rfl
  have hK9 := hK.sub (tys' := []) [] rfl
  refine W.widen (k := 0) (n := 0) (Nat.le_of_ble_eq_true rfl) (Nat.le_of_ble_eq_true rfl) ?_
  exact W.vret hx hb hr (fun t ht hW => ⟨⟨(), rfl, trivial, F_1, hk_5, hfr_4, by rw [ht]; exact hP9, va_K.moved hW.alike hK9, hD9⟩, hS.F ht⟩) hS.2.2 dX13_begin_20
def ws_cm_run_bad : List Cond := .code yX13_run cX13_run 5 (some .int) :: ([.fieldLink RX13 893 "LevelUnitsModel" "begun" "Z", .fieldLink RX13 251 "LevelUnitsModel" "thrown" "I", .code yX13_fails cX13_fails 3 (some .boolean), .methodLink RX13 1072 yX13_fails, .instanceMethod yX13_fails, .selects RX13 yX13_fails yX13_fails, .initialized RX13] ++ wsX130)
theorem in_cm_run_bad_RX13 : ∀ w ∈ wsX130, w ∈ ws_cm_run_bad := fun _ h => List.mem_cons_of_mem _ (List.mem_append_right _ h)
theorem g0_cm_run_bad_cm_fails_11_1072 : GoodIn ws_cm_run_bad ws_cm_fails_11 := goodIn_r _ [3, 2, 8, 9, 10, 11, 12, 13, 14, 15, 16, 17, 18, 19, 20, 21, 22, 23, 24, 25, 26, 27, 28, 29, 30, 31, 32, 33, 34, 35, 36, 37, 38, 39, 40, 41, 42, 43, 44, 45, 46, 47, 48, 49, 50, 51, 52, 53, 54, 55, 56, 57, 58, 59, 60, 61, 62, 63, 64, 65, 66, 67, 68, 69, 70, 71, 72, 73, 74, 75, 76, 77, 78, 79, 80, 81, 82, 83, 84, 85, 86, 87, 88, 89, 90, 91, 92, 93, 94, 95, 96, 97, 98, 99, 100, 101, 102, 103, 104, 105, 106, 107, 108, 109, 110, 111, 112, 113, 114, 115, 116, 117, 118, 119, 120, 121, 122, 123, 124, 125, 126, 127, 128, 129, 130, 131, 132, 133, 134, 135, 136, 137, 138, 139, 140, 141] (by decide +kernel) (by decide +kernel)
theorem gg_cm_run_bad_cm_fails_11_1072 : GoodIn ws_cm_run_bad (wsV RX13 1072 RX13 yX13_fails ws_cm_fails_11) := goodIn_app (goodIn_of _ (by decide +kernel)) g0_cm_run_bad_cm_fails_11_1072
set_option maxHeartbeats 4000000 in
set_option maxRecDepth 100000 in
theorem cm_run_bad (l : Launch) (dC : Nat → ClassId) (dI : Nat → Nat → Nat) (h0 : Nat) (F : Nat → Value) (i : Int32) (sz : Nat) (hq100 : F 100 = .int 0) (hbad : i < 0 ∨ ¬ i ≤ 2000) : Met l yX13_run ws_cm_run_bad ({ frames := 1, cells := 0, slots := 0, locals := 22 }) (va_Pc [.ref h0, .int i] (fun U => U.heap.size = sz ∧ va_P (dC, dI) vwCl [(h0, .inr (15, fl 134 F))] U.heap ∧ va_K (dC, dI) vwCl [] U ∧ va_D (fun _ => True) [(h0, .inr (15, fl 134 F))])) (va_Qi (fun (r : Int32) (_ : Unit) => r = 0) (fun _ t => ∃ F_a : Nat → Value, F_a 0 = .int 1 ∧ (∀ j : Nat, j ≠ 0 → F_a j = F j) ∧ va_P (dC, dI) vwCl [(h0, .inr (15, fl 134 F_a))] t.heap ∧ va_K (dC, dI) vwCl [] t ∧ va_D (va_A [(h0, .inr (15, fl 134 F))] sz) [(h0, .inr (15, fl 134 F_a))]) (va_A [(h0, .inr (15, fl 134 F))] sz)) 0 0 (va_A [(h0, .inr (15, fl 134 F))] sz) := by
  refine Met.ofW (cc := cX13_run) (maxL := 5) (ret := (some .int)) (by decide) rfl ?_
  intro p e s m args below meth c s₁ B hml hv
  obtain ⟨rfl, hsz, hP, hK, hD0⟩ := hv
  have hx := B.exec
  have hb := B.bytes
  have hr := B.returns
  have hts := atoms_spec (ws := ws_cm_run_bad) B.pre
  have hown : s.vm.findClass RX13 = some m.cls := findClass_of_methodNamed B.named
  have hlocks := B.notSynchronized
  subst hsz
  have hD := hD0.self (sz := s.heap.size)
  generalize hAe : va_A [(h0, .inr (15, fl 134 F))] s.heap.size = A at hD ⊢
  have hA : ∀ q : Nat, s.heap.size ≤ q → A q := fun q h => by rw [← hAe]; exact Or.inr h
  have hS : va_S A s.heap s.heap [] := va_S.rf
  have hP : va_P (dC, dI) vwCl [(h0, .inr (15, fl 134 F))] s.heap := hP
  have hl := lv_entry ([.ref h0, .int i]) (n := 5) (Nat.le_of_ble_eq_true rfl)
  rw [lg_entry_eq]
  generalize (lg_sl ([.ref h0, .int i]) ++ List.replicate (5 - (lg_sl ([.ref h0, .int i])).length) Slot.unset).toArray = ls at hl ⊢
  have hl : lv_has ls 5 [(0, .ref h0), (1, .int i)] := hl
  refine lv_aload_n hx hb dX13_run_0 rfl (lv_at hl 0 rfl) ?_
  refine lv_iload_n hx hb dX13_run_1 rfl (lv_at hl 1 rfl) ?_
  refine lv_if_lt (tgt := 12) hx hb dX13_run_2 (by decide) (fun c1 => ?_) (fun c1 => ?_)
  · skip
    refine lv_iconst (v := 1) hx hb dX13_run_12 (by decide) ?_
    refine lv_goto (tgt := 17) hx hb dX13_run_13 (by decide) ?_
    refine lv_aload_n hx hb dX13_run_17 rfl (lv_at hl 0 rfl) ?_
    refine va_get (D := (dC, dI)) (ci := 15) (v := .int 0) (C := RX13) (T := TX13) (N := 134) hx hb hts in_cm_run_bad_RX13 hown hK hP 0 rfl rfl 100 (by decide) (hts (.fieldLink RX13 893 "LevelUnitsModel" "begun" "Z") (List.mem_of_getElem? (i := 1) rfl)) (fun _ h9 => h9) (fl_get (by decide) hq100) dX13_run_18 ?_
    refine lv_if_ne (tgt := 28) hx hb dX13_run_21 (by decide) (fun c9 => absurd c9 (by decide)) (fun c9 => ?_)
    clear c9
    refine lv_iconst (v := 1) hx hb dX13_run_24 (by decide) ?_
    refine lv_goto (tgt := 29) hx hb dX13_run_25 (by decide) ?_
    have hPc := hP.sub (ws' := [(h0, .inr (15, fl 134 F))]) [0] rfl
    have hDc := hD.sub (ws' := [(h0, .inr (15, fl 134 F))]) [0] (by decide) rfl
    have hKc := hK.sub (tys' := []) [] rfl
    have hFc := va_free (wc := [(h0, .inr (15, fl 134 F))]) hD hS hA [0] rfl
    refine va_calli (va_runV (As := [.int 1, .int 1]) (rest := []) ⟨hx, hb, hml, hown, hts⟩ (cm_fails_11 l dC dI h0 F s.heap.size) (cwV 2 hts gg_cm_run_bad_cm_fails_11_1072 rfl rfl rfl (by decide +kernel) ⟨(Nat.le_of_ble_eq_true rfl), (Nat.le_of_ble_eq_true rfl)⟩) ⟨fun a U g mk q => by obtain ⟨q0, q1, qP, qK, qD⟩ := q; exact ⟨q0, q1, qP, va_K.moved (u := U) (U := U.calling g mk a) (Vm.Alike.refl U.vm) qK, qD⟩, va_recv hKc hPc (ci := 15) (q0 := 0) rfl rfl, fun U hU hW => ⟨rfl, by rw [hU], by rw [hU]; exact hPc, va_K.moved hW.alike hKc, hDc.weaken (fun _ _ _ _ => trivial)⟩⟩ rfl rfl hl.1 rfl (lv_room (Nat.le_of_ble_eq_true rfl)) dX13_run_29 ⟨(Nat.le_of_ble_eq_true rfl), (Nat.le_of_ble_eq_true rfl)⟩) hS (fun q _ h => hFc q h) hFc (fun r9 u t H1 locs ht hvm hw hB hz1 hk1 hS => ?_)
    obtain ⟨F_1, hf_2, hx_3, hP1, hK1, hD1⟩ := hB
    rw [ht] at hP1
    have hK1 := va_K.moved hvm.symm hK1
    have hfr_4 : ∀ j : Nat, j ≠ 0 → F_1 j = F j := fun j hj => (hx_3 j (by omega))
    have hk_5 : F_1 0 = .int 1 := hf_2
    have hk_6 : F_1 100 = .int 0 := ((hx_3 100 (by omega)).trans hq100)
    obtain ⟨hP, hD⟩ := va_join (wr := []) (w1 := [(h0, .inr (15, fl 134 F_1))]) hP hD [0] [] rfl rfl (by decide) (by decide) hk1 hFc hP1 hD1
    have hK := (hK.sub (tys' := []) [] rfl).app hK1
    generalize H1 = H at hP hS ⊢
    have hK : va_K (dC, dI) vwCl [] s := hK
    have hP : va_P (dC, dI) vwCl [(h0, .inr (15, fl 134 F_1))] H := hP
    have hD : va_D A [(h0, .inr (15, fl 134 F_1))] := hD
    refine W.widen (k := 0) (n := 0) (Nat.le_of_ble_eq_true rfl) (Nat.le_of_ble_eq_true rfl) ?_
    obtain rfl : r9 = 1 := hw
    refine lv_if_eq (tgt := 37) hx hb dX13_run_32 (by decide) (fun c9 => absurd c9 (by decide)) (fun c9 => ?_)
    clear c9
    refine lv_iconst (v := 0) hx hb dX13_run_35 (by decide) ?_
    have hP9 := hP.sub (ws' := [(h0, .inr (15, fl 134 F_1))]) [0] rfl
    have hD9 := hD.sub (ws' := [(h0, .inr (15, fl 134 F_1))]) [0] (by decide) rfl
    have hK9 := hK.sub (tys' := []) [] rfl
    refine W.widen (k := 0) (n := 0) (Nat.le_of_ble_eq_true rfl) (Nat.le_of_ble_eq_true rfl) ?_
    exact W.iret (v := 0) hx hb hr (fun t ht hW => ⟨⟨0, (), rfl, rfl, F_1, hk_5, hfr_4, by rw [ht]; exact hP9, va_K.moved hW.alike hK9, hD9⟩, hS.F ht⟩) hS.2.2 dX13_run_36
  · skip
    refine lv_iload_n hx hb dX13_run_5 rfl (lv_at hl 1 rfl) ?_
    refine lv_sipush (v := 2000) hx hb dX13_run_6 (by decide) ?_
    refine lv_icmp_le (tgt := 16) hx hb dX13_run_9 (by decide) (fun c9 => absurd c9 (hbad.resolve_left c1)) (fun c9 => ?_)
    refine lv_iconst (v := 1) hx hb dX13_run_12 (by decide) ?_
    refine lv_goto (tgt := 17) hx hb dX13_run_13 (by decide) ?_
    refine lv_aload_n hx hb dX13_run_17 rfl (lv_at hl 0 rfl) ?_
    refine va_get (D := (dC, dI)) (ci := 15) (v := .int 0) (C := RX13) (T := TX13) (N := 134) hx hb hts in_cm_run_bad_RX13 hown hK hP 0 rfl rfl 100 (by decide) (hts (.fieldLink RX13 893 "LevelUnitsModel" "begun" "Z") (List.mem_of_getElem? (i := 1) rfl)) (fun _ h9 => h9) (fl_get (by decide) hq100) dX13_run_18 ?_
    refine lv_if_ne (tgt := 28) hx hb dX13_run_21 (by decide) (fun c9 => absurd c9 (by decide)) (fun c9 => ?_)
    clear c9
    refine lv_iconst (v := 1) hx hb dX13_run_24 (by decide) ?_
    refine lv_goto (tgt := 29) hx hb dX13_run_25 (by decide) ?_
    have hPc := hP.sub (ws' := [(h0, .inr (15, fl 134 F))]) [0] rfl
    have hDc := hD.sub (ws' := [(h0, .inr (15, fl 134 F))]) [0] (by decide) rfl
    have hKc := hK.sub (tys' := []) [] rfl
    have hFc := va_free (wc := [(h0, .inr (15, fl 134 F))]) hD hS hA [0] rfl
    refine va_calli (va_runV (As := [.int 1, .int 1]) (rest := []) ⟨hx, hb, hml, hown, hts⟩ (cm_fails_11 l dC dI h0 F s.heap.size) (cwV 2 hts gg_cm_run_bad_cm_fails_11_1072 rfl rfl rfl (by decide +kernel) ⟨(Nat.le_of_ble_eq_true rfl), (Nat.le_of_ble_eq_true rfl)⟩) ⟨fun a U g mk q => by obtain ⟨q0, q1, qP, qK, qD⟩ := q; exact ⟨q0, q1, qP, va_K.moved (u := U) (U := U.calling g mk a) (Vm.Alike.refl U.vm) qK, qD⟩, va_recv hKc hPc (ci := 15) (q0 := 0) rfl rfl, fun U hU hW => ⟨rfl, by rw [hU], by rw [hU]; exact hPc, va_K.moved hW.alike hKc, hDc.weaken (fun _ _ _ _ => trivial)⟩⟩ rfl rfl hl.1 rfl (lv_room (Nat.le_of_ble_eq_true rfl)) dX13_run_29 ⟨(Nat.le_of_ble_eq_true rfl), (Nat.le_of_ble_eq_true rfl)⟩) hS (fun q _ h => hFc q h) hFc (fun r9 u t H1 locs ht hvm hw hB hz1 hk1 hS => ?_)
    obtain ⟨F_7, hf_8, hx_9, hP1, hK1, hD1⟩ := hB
    rw [ht] at hP1
    have hK1 := va_K.moved hvm.symm hK1
    have hfr_10 : ∀ j : Nat, j ≠ 0 → F_7 j = F j := fun j hj => (hx_9 j (by omega))
    have hk_11 : F_7 0 = .int 1 := hf_8
    have hk_12 : F_7 100 = .int 0 := ((hx_9 100 (by omega)).trans hq100)
    obtain ⟨hP, hD⟩ := va_join (wr := []) (w1 := [(h0, .inr (15, fl 134 F_7))]) hP hD [0] [] rfl rfl (by decide) (by decide) hk1 hFc hP1 hD1
    have hK := (hK.sub (tys' := []) [] rfl).app hK1
    generalize H1 = H at hP hS ⊢
    have hK : va_K (dC, dI) vwCl [] s := hK
    have hP : va_P (dC, dI) vwCl [(h0, .inr (15, fl 134 F_7))] H := hP
    have hD : va_D A [(h0, .inr (15, fl 134 F_7))] := hD
    refine W.widen (k := 0) (n := 0) (Nat.le_of_ble_eq_true rfl) (Nat.le_of_ble_eq_true rfl) ?_
    obtain rfl : r9 = 1 := hw
    refine lv_if_eq (tgt := 37) hx hb dX13_run_32 (by decide) (fun c9 => absurd c9 (by decide)) (fun c9 => ?_)
    clear c9
    refine lv_iconst (v := 0) hx hb dX13_run_35 (by decide) ?_
    have hP9 := hP.sub (ws' := [(h0, .inr (15, fl 134 F_7))]) [0] rfl
    have hD9 := hD.sub (ws' := [(h0, .inr (15, fl 134 F_7))]) [0] (by decide) rfl
    have hK9 := hK.sub (tys' := []) [] rfl
    refine W.widen (k := 0) (n := 0) (Nat.le_of_ble_eq_true rfl) (Nat.le_of_ble_eq_true rfl) ?_
    exact W.iret (v := 0) hx hb hr (fun t ht hW => ⟨⟨0, (), rfl, rfl, F_7, hk_11, hfr_10, by rw [ht]; exact hP9, va_K.moved hW.alike hK9, hD9⟩, hS.F ht⟩) hS.2.2 dX13_run_36
def ws_cm_run_none : List Cond := .code yX13_run cX13_run 5 (some .int) :: ([.fieldLink RX13 893 "LevelUnitsModel" "begun" "Z", .fieldLink RX13 251 "LevelUnitsModel" "thrown" "I", .code yX13_fails cX13_fails 3 (some .boolean), .methodLink RX13 1072 yX13_fails, .instanceMethod yX13_fails, .selects RX13 yX13_fails yX13_fails, .initialized RX13] ++ wsX130)
theorem in_cm_run_none_RX13 : ∀ w ∈ wsX130, w ∈ ws_cm_run_none := fun _ h => List.mem_cons_of_mem _ (List.mem_append_right _ h)
theorem g0_cm_run_none_cm_fails_2_1072 : GoodIn ws_cm_run_none ws_cm_fails_2 := goodIn_r _ [3, 2, 8, 9, 10, 11, 12, 13, 14, 15, 16, 17, 18, 19, 20, 21, 22, 23, 24, 25, 26, 27, 28, 29, 30, 31, 32, 33, 34, 35, 36, 37, 38, 39, 40, 41, 42, 43, 44, 45, 46, 47, 48, 49, 50, 51, 52, 53, 54, 55, 56, 57, 58, 59, 60, 61, 62, 63, 64, 65, 66, 67, 68, 69, 70, 71, 72, 73, 74, 75, 76, 77, 78, 79, 80, 81, 82, 83, 84, 85, 86, 87, 88, 89, 90, 91, 92, 93, 94, 95, 96, 97, 98, 99, 100, 101, 102, 103, 104, 105, 106, 107, 108, 109, 110, 111, 112, 113, 114, 115, 116, 117, 118, 119, 120, 121, 122, 123, 124, 125, 126, 127, 128, 129, 130, 131, 132, 133, 134, 135, 136, 137, 138, 139, 140, 141] (by decide +kernel) (by decide +kernel)
theorem gg_cm_run_none_cm_fails_2_1072 : GoodIn ws_cm_run_none (wsV RX13 1072 RX13 yX13_fails ws_cm_fails_2) := goodIn_app (goodIn_of _ (by decide +kernel)) g0_cm_run_none_cm_fails_2_1072
set_option maxHeartbeats 4000000 in
set_option maxRecDepth 100000 in
theorem cm_run_none (l : Launch) (dC : Nat → ClassId) (dI : Nat → Nat → Nat) (h0 : Nat) (F : Nat → Value) (i : Int32) (sz : Nat) (hq100 : F 100 = .int 0) (hlo : ¬ i < 0) (hhi : i ≤ 2000) : Met l yX13_run ws_cm_run_none ({ frames := 1, cells := 0, slots := 0, locals := 22 }) (va_Pc [.ref h0, .int i] (fun U => U.heap.size = sz ∧ va_P (dC, dI) vwCl [(h0, .inr (15, fl 134 F))] U.heap ∧ va_K (dC, dI) vwCl [] U ∧ va_D (fun _ => True) [(h0, .inr (15, fl 134 F))])) (va_Qi (fun (r : Int32) (_ : Unit) => r = 0) (fun _ t => ∃ F_a : Nat → Value, F_a 0 = .int 2 ∧ (∀ j : Nat, j ≠ 0 → F_a j = F j) ∧ va_P (dC, dI) vwCl [(h0, .inr (15, fl 134 F_a))] t.heap ∧ va_K (dC, dI) vwCl [] t ∧ va_D (va_A [(h0, .inr (15, fl 134 F))] sz) [(h0, .inr (15, fl 134 F_a))]) (va_A [(h0, .inr (15, fl 134 F))] sz)) 0 0 (va_A [(h0, .inr (15, fl 134 F))] sz) := by
  refine Met.ofW (cc := cX13_run) (maxL := 5) (ret := (some .int)) (by decide) rfl ?_
  intro p e s m args below meth c s₁ B hml hv
  obtain ⟨rfl, hsz, hP, hK, hD0⟩ := hv
  have hx := B.exec
  have hb := B.bytes
  have hr := B.returns
  have hts := atoms_spec (ws := ws_cm_run_none) B.pre
  have hown : s.vm.findClass RX13 = some m.cls := findClass_of_methodNamed B.named
  have hlocks := B.notSynchronized
  subst hsz
  have hD := hD0.self (sz := s.heap.size)
  generalize hAe : va_A [(h0, .inr (15, fl 134 F))] s.heap.size = A at hD ⊢
  have hA : ∀ q : Nat, s.heap.size ≤ q → A q := fun q h => by rw [← hAe]; exact Or.inr h
  have hS : va_S A s.heap s.heap [] := va_S.rf
  have hP : va_P (dC, dI) vwCl [(h0, .inr (15, fl 134 F))] s.heap := hP
  have hl := lv_entry ([.ref h0, .int i]) (n := 5) (Nat.le_of_ble_eq_true rfl)
  rw [lg_entry_eq]
  generalize (lg_sl ([.ref h0, .int i]) ++ List.replicate (5 - (lg_sl ([.ref h0, .int i])).length) Slot.unset).toArray = ls at hl ⊢
  have hl : lv_has ls 5 [(0, .ref h0), (1, .int i)] := hl
  refine lv_aload_n hx hb dX13_run_0 rfl (lv_at hl 0 rfl) ?_
  refine lv_iload_n hx hb dX13_run_1 rfl (lv_at hl 1 rfl) ?_
  refine lv_if_lt (tgt := 12) hx hb dX13_run_2 (by decide) (fun c9 => absurd c9 hlo) (fun c9 => ?_)
  refine lv_iload_n hx hb dX13_run_5 rfl (lv_at hl 1 rfl) ?_
  refine lv_sipush (v := 2000) hx hb dX13_run_6 (by decide) ?_
  refine lv_icmp_le (tgt := 16) hx hb dX13_run_9 (by decide) (fun c9 => ?_) (fun c9 => absurd hhi c9)
  refine lv_iconst (v := 0) hx hb dX13_run_16 (by decide) ?_
  refine lv_aload_n hx hb dX13_run_17 rfl (lv_at hl 0 rfl) ?_
  refine va_get (D := (dC, dI)) (ci := 15) (v := .int 0) (C := RX13) (T := TX13) (N := 134) hx hb hts in_cm_run_none_RX13 hown hK hP 0 rfl rfl 100 (by decide) (hts (.fieldLink RX13 893 "LevelUnitsModel" "begun" "Z") (List.mem_of_getElem? (i := 1) rfl)) (fun _ h9 => h9) (fl_get (by decide) hq100) dX13_run_18 ?_
  refine lv_if_ne (tgt := 28) hx hb dX13_run_21 (by decide) (fun c9 => absurd c9 (by decide)) (fun c9 => ?_)
  clear c9
  refine lv_iconst (v := 1) hx hb dX13_run_24 (by decide) ?_
  refine lv_goto (tgt := 29) hx hb dX13_run_25 (by decide) ?_
  have hPc := hP.sub (ws' := [(h0, .inr (15, fl 134 F))]) [0] rfl
  have hDc := hD.sub (ws' := [(h0, .inr (15, fl 134 F))]) [0] (by decide) rfl
  have hKc := hK.sub (tys' := []) [] rfl
  have hFc := va_free (wc := [(h0, .inr (15, fl 134 F))]) hD hS hA [0] rfl
  refine va_calli (va_runV (As := [.int 0, .int 1]) (rest := []) ⟨hx, hb, hml, hown, hts⟩ (cm_fails_2 l dC dI h0 F s.heap.size) (cwV 2 hts gg_cm_run_none_cm_fails_2_1072 rfl rfl rfl (by decide +kernel) ⟨(Nat.le_of_ble_eq_true rfl), (Nat.le_of_ble_eq_true rfl)⟩) ⟨fun a U g mk q => by obtain ⟨q0, q1, qP, qK, qD⟩ := q; exact ⟨q0, q1, qP, va_K.moved (u := U) (U := U.calling g mk a) (Vm.Alike.refl U.vm) qK, qD⟩, va_recv hKc hPc (ci := 15) (q0 := 0) rfl rfl, fun U hU hW => ⟨rfl, by rw [hU], by rw [hU]; exact hPc, va_K.moved hW.alike hKc, hDc.weaken (fun _ _ _ _ => trivial)⟩⟩ rfl rfl hl.1 rfl (lv_room (Nat.le_of_ble_eq_true rfl)) dX13_run_29 ⟨(Nat.le_of_ble_eq_true rfl), (Nat.le_of_ble_eq_true rfl)⟩) hS (fun q _ h => hFc q h) hFc (fun r9 u t H1 locs ht hvm hw hB hz1 hk1 hS => ?_)
  obtain ⟨F_1, hf_2, hx_3, hP1, hK1, hD1⟩ := hB
  rw [ht] at hP1
  have hK1 := va_K.moved hvm.symm hK1
  have hfr_4 : ∀ j : Nat, j ≠ 0 → F_1 j = F j := fun j hj => (hx_3 j (by omega))
  have hk_5 : F_1 0 = .int 2 := hf_2
  have hk_6 : F_1 100 = .int 0 := ((hx_3 100 (by omega)).trans hq100)
  obtain ⟨hP, hD⟩ := va_join (wr := []) (w1 := [(h0, .inr (15, fl 134 F_1))]) hP hD [0] [] rfl rfl (by decide) (by decide) hk1 hFc hP1 hD1
  have hK := (hK.sub (tys' := []) [] rfl).app hK1
  generalize H1 = H at hP hS ⊢
  have hK : va_K (dC, dI) vwCl [] s := hK
  have hP : va_P (dC, dI) vwCl [(h0, .inr (15, fl 134 F_1))] H := hP
  have hD : va_D A [(h0, .inr (15, fl 134 F_1))] := hD
  refine W.widen (k := 0) (n := 0) (Nat.le_of_ble_eq_true rfl) (Nat.le_of_ble_eq_true rfl) ?_
  obtain rfl : r9 = 1 := hw
  refine lv_if_eq (tgt := 37) hx hb dX13_run_32 (by decide) (fun c9 => absurd c9 (by decide)) (fun c9 => ?_)
  clear c9
  refine lv_iconst (v := 0) hx hb dX13_run_35 (by decide) ?_
  have hP9 := hP.sub (ws' := [(h0, .inr (15, fl 134 F_1))]) [0] rfl
  have hD9 := hD.sub (ws' := [(h0, .inr (15, fl 134 F_1))]) [0] (by decide) rfl
  have hK9 := hK.sub (tys' := []) [] rfl
  refine W.widen (k := 0) (n := 0) (Nat.le_of_ble_eq_true rfl) (Nat.le_of_ble_eq_true rfl) ?_
  exact W.iret (v := 0) hx hb hr (fun t ht hW => ⟨⟨0, (), rfl, rfl, F_1, hk_5, hfr_4, by rw [ht]; exact hP9, va_K.moved hW.alike hK9, hD9⟩, hS.F ht⟩) hS.2.2 dX13_run_36
def ws_cm_thrown_1 : List Cond := .code yX13_thrown cX13_thrown 1 (some .int) :: ([.fieldLink RX13 251 "LevelUnitsModel" "thrown" "I"] ++ wsX130)
theorem in_cm_thrown_1_RX13 : ∀ w ∈ wsX130, w ∈ ws_cm_thrown_1 := fun _ h => List.mem_cons_of_mem _ (List.mem_append_right _ h)
set_option maxHeartbeats 4000000 in
set_option maxRecDepth 100000 in
theorem cm_thrown_1 (l : Launch) (dC : Nat → ClassId) (dI : Nat → Nat → Nat) (h0 : Nat) (F : Nat → Value) (sz : Nat) (hq0 : F 0 = .int 1) : Met l yX13_thrown ws_cm_thrown_1 ({ frames := 0, cells := 0, slots := 0, locals := 0 }) (va_Pc [.ref h0] (fun U => U.heap.size = sz ∧ va_P (dC, dI) vwCl [(h0, .inr (15, fl 134 F))] U.heap ∧ va_K (dC, dI) vwCl [] U ∧ va_D (fun _ => True) [(h0, .inr (15, fl 134 F))])) (va_Qi (fun (r : Int32) (_ : Unit) => r = 1) (fun _ t => F 0 = .int 1 ∧ va_P (dC, dI) vwCl [(h0, .inr (15, fl 134 F))] t.heap ∧ va_K (dC, dI) vwCl [] t ∧ va_D (va_A [(h0, .inr (15, fl 134 F))] sz) [(h0, .inr (15, fl 134 F))]) (va_A [(h0, .inr (15, fl 134 F))] sz)) 0 0 (va_A [(h0, .inr (15, fl 134 F))] sz) := by
  refine Met.ofW (cc := cX13_thrown) (maxL := 1) (ret := (some .int)) (by decide) rfl ?_
  intro p e s m args below meth c s₁ B hml hv
  obtain ⟨rfl, hsz, hP, hK, hD0⟩ := hv
  have hx := B.exec
  have hb := B.bytes
  have hr := B.returns
  have hts := atoms_spec (ws := ws_cm_thrown_1) B.pre
  have hown : s.vm.findClass RX13 = some m.cls := findClass_of_methodNamed B.named
  have hlocks := B.notSynchronized
  subst hsz
  have hD := hD0.self (sz := s.heap.size)
  generalize hAe : va_A [(h0, .inr (15, fl 134 F))] s.heap.size = A at hD ⊢
  have hA : ∀ q : Nat, s.heap.size ≤ q → A q := fun q h => by rw [← hAe]; exact Or.inr h
  have hS : va_S A s.heap s.heap [] := va_S.rf
  have hP : va_P (dC, dI) vwCl [(h0, .inr (15, fl 134 F))] s.heap := hP
  have hl := lv_entry ([.ref h0]) (n := 1) (Nat.le_of_ble_eq_true rfl)
  rw [lg_entry_eq]
  generalize (lg_sl ([.ref h0]) ++ List.replicate (1 - (lg_sl ([.ref h0])).length) Slot.unset).toArray = ls at hl ⊢
  have hl : lv_has ls 1 [(0, .ref h0)] := hl
  refine lv_aload_n hx hb dX13_thrown_0 rfl (lv_at hl 0 rfl) ?_
  refine va_get (D := (dC, dI)) (ci := 15) (v := .int 1) (C := RX13) (T := TX13) (N := 134) hx hb hts in_cm_thrown_1_RX13 hown hK hP 0 rfl rfl 0 (by decide) (hts (.fieldLink RX13 251 "LevelUnitsModel" "thrown" "I") (List.mem_of_getElem? (i := 1) rfl)) (fun _ h9 => h9) (fl_get (by decide) hq0) dX13_thrown_1 ?_
  have hP9 := hP.sub (ws' := [(h0, .inr (15, fl 134 F))]) [0] rfl
  have hD9 := hD.sub (ws' := [(h0, .inr (15, fl 134 F))]) [0] (by decide) rfl
  have hK9 := hK.sub (tys' := []) [] rfl
  refine W.widen (k := 0) (n := 0) (Nat.le_of_ble_eq_true rfl) (Nat.le_of_ble_eq_true rfl) ?_
  exact W.iret (v := 1) hx hb hr (fun t ht hW => ⟨⟨1, (), rfl, rfl, hq0, by rw [ht]; exact hP9, va_K.moved hW.alike hK9, hD9⟩, hS.F ht⟩) hS.2.2 dX13_thrown_4
def ws_cm_thrown_2 : List Cond := .code yX13_thrown cX13_thrown 1 (some .int) :: ([.fieldLink RX13 251 "LevelUnitsModel" "thrown" "I"] ++ wsX130)
theorem in_cm_thrown_2_RX13 : ∀ w ∈ wsX130, w ∈ ws_cm_thrown_2 := fun _ h => List.mem_cons_of_mem _ (List.mem_append_right _ h)
set_option maxHeartbeats 4000000 in
set_option maxRecDepth 100000 in
theorem cm_thrown_2 (l : Launch) (dC : Nat → ClassId) (dI : Nat → Nat → Nat) (h0 : Nat) (F : Nat → Value) (sz : Nat) (hq0 : F 0 = .int 2) : Met l yX13_thrown ws_cm_thrown_2 ({ frames := 0, cells := 0, slots := 0, locals := 0 }) (va_Pc [.ref h0] (fun U => U.heap.size = sz ∧ va_P (dC, dI) vwCl [(h0, .inr (15, fl 134 F))] U.heap ∧ va_K (dC, dI) vwCl [] U ∧ va_D (fun _ => True) [(h0, .inr (15, fl 134 F))])) (va_Qi (fun (r : Int32) (_ : Unit) => r = 2) (fun _ t => F 0 = .int 2 ∧ va_P (dC, dI) vwCl [(h0, .inr (15, fl 134 F))] t.heap ∧ va_K (dC, dI) vwCl [] t ∧ va_D (va_A [(h0, .inr (15, fl 134 F))] sz) [(h0, .inr (15, fl 134 F))]) (va_A [(h0, .inr (15, fl 134 F))] sz)) 0 0 (va_A [(h0, .inr (15, fl 134 F))] sz) := by
  refine Met.ofW (cc := cX13_thrown) (maxL := 1) (ret := (some .int)) (by decide) rfl ?_
  intro p e s m args below meth c s₁ B hml hv
  obtain ⟨rfl, hsz, hP, hK, hD0⟩ := hv
  have hx := B.exec
  have hb := B.bytes
  have hr := B.returns
  have hts := atoms_spec (ws := ws_cm_thrown_2) B.pre
  have hown : s.vm.findClass RX13 = some m.cls := findClass_of_methodNamed B.named
  have hlocks := B.notSynchronized
  subst hsz
  have hD := hD0.self (sz := s.heap.size)
  generalize hAe : va_A [(h0, .inr (15, fl 134 F))] s.heap.size = A at hD ⊢
  have hA : ∀ q : Nat, s.heap.size ≤ q → A q := fun q h => by rw [← hAe]; exact Or.inr h
  have hS : va_S A s.heap s.heap [] := va_S.rf
  have hP : va_P (dC, dI) vwCl [(h0, .inr (15, fl 134 F))] s.heap := hP
  have hl := lv_entry ([.ref h0]) (n := 1) (Nat.le_of_ble_eq_true rfl)
  rw [lg_entry_eq]
  generalize (lg_sl ([.ref h0]) ++ List.replicate (1 - (lg_sl ([.ref h0])).length) Slot.unset).toArray = ls at hl ⊢
  have hl : lv_has ls 1 [(0, .ref h0)] := hl
  refine lv_aload_n hx hb dX13_thrown_0 rfl (lv_at hl 0 rfl) ?_
  refine va_get (D := (dC, dI)) (ci := 15) (v := .int 2) (C := RX13) (T := TX13) (N := 134) hx hb hts in_cm_thrown_2_RX13 hown hK hP 0 rfl rfl 0 (by decide) (hts (.fieldLink RX13 251 "LevelUnitsModel" "thrown" "I") (List.mem_of_getElem? (i := 1) rfl)) (fun _ h9 => h9) (fl_get (by decide) hq0) dX13_thrown_1 ?_
  have hP9 := hP.sub (ws' := [(h0, .inr (15, fl 134 F))]) [0] rfl
  have hD9 := hD.sub (ws' := [(h0, .inr (15, fl 134 F))]) [0] (by decide) rfl
  have hK9 := hK.sub (tys' := []) [] rfl
  refine W.widen (k := 0) (n := 0) (Nat.le_of_ble_eq_true rfl) (Nat.le_of_ble_eq_true rfl) ?_
  exact W.iret (v := 2) hx hb hr (fun t ht hW => ⟨⟨2, (), rfl, rfl, hq0, by rw [ht]; exact hP9, va_K.moved hW.alike hK9, hD9⟩, hS.F ht⟩) hS.2.2 dX13_thrown_4
