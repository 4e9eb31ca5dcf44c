def ws_cc_clear : List Cond := .code yX2_clear cX2_clear 1 none :: ([.fieldLink RX2 45 "LevelUnits$Machine" "types" "LLevelUnits$Types;", .fieldLink RX2 49 "LevelUnits$Machine" "made" "I"] ++ wsX20)
theorem in_cc_clear_RX2 : ∀ w ∈ wsX20, w ∈ ws_cc_clear := fun _ h => List.mem_cons_of_mem _ (List.mem_append_right _ h)
set_option maxHeartbeats 4000000 in
set_option maxRecDepth 100000 in
theorem cc_clear (l : Launch) (dC : Nat → ClassId) (dI : Nat → Nat → Nat) (h0 : Nat) (m1 : Nat) (m2 : Nat) (m3 : Nat) (m4 : Nat) (m5 : Nat) (m7 : Nat) (m11 : Nat) (m13 : Nat) (m15 : Nat) (sz : Nat) : Met l yX2_clear ws_cc_clear ({ frames := 0, cells := 0, slots := 0, locals := 0 }) (va_Pc [.ref h0] (fun U => U.heap.size = sz ∧ va_P (dC, dI) vwCl [(h0, .inr (4, [.null, .ref m1, .ref m2, .ref m3, .ref m4, .ref m5, .int 0, .ref m7, .int 0, .int 0, .int 0, .ref m11, .int 0, .ref m13, .int 0, .ref m15, .null, .int 0, .int 0]))] U.heap ∧ va_K (dC, dI) vwCl [] U ∧ va_D (fun _ => True) [(h0, .inr (4, [.null, .ref m1, .ref m2, .ref m3, .ref m4, .ref m5, .int 0, .ref m7, .int 0, .int 0, .int 0, .ref m11, .int 0, .ref m13, .int 0, .ref m15, .null, .int 0, .int 0]))])) (va_Qv (fun _ : Unit => True) (fun _ t => va_P (dC, dI) vwCl [(h0, .inr (4, [.null, .ref m1, .ref m2, .ref m3, .ref m4, .ref m5, .int 0, .ref m7, .int 0, .int 0, .int 0, .ref m11, .int 0, .ref m13, .int 0, .ref m15, .null, .int 0, .int 0]))] t.heap ∧ va_K (dC, dI) vwCl [] t ∧ va_D (va_A [(h0, .inr (4, [.null, .ref m1, .ref m2, .ref m3, .ref m4, .ref m5, .int 0, .ref m7, .int 0, .int 0, .int 0, .ref m11, .int 0, .ref m13, .int 0, .ref m15, .null, .int 0, .int 0]))] sz) [(h0, .inr (4, [.null, .ref m1, .ref m2, .ref m3, .ref m4, .ref m5, .int 0, .ref m7, .int 0, .int 0, .int 0, .ref m11, .int 0, .ref m13, .int 0, .ref m15, .null, .int 0, .int 0]))]) (va_A [(h0, .inr (4, [.null, .ref m1, .ref m2, .ref m3, .ref m4, .ref m5, .int 0, .ref m7, .int 0, .int 0, .int 0, .ref m11, .int 0, .ref m13, .int 0, .ref m15, .null, .int 0, .int 0]))] sz)) 0 0 (va_A [(h0, .inr (4, [.null, .ref m1, .ref m2, .ref m3, .ref m4, .ref m5, .int 0, .ref m7, .int 0, .int 0, .int 0, .ref m11, .int 0, .ref m13, .int 0, .ref m15, .null, .int 0, .int 0]))] sz) := by
  refine Met.ofW (cc := cX2_clear) (maxL := 1) (ret := none) (by decide) rfl ?_
  intro p e s m args below meth c s₁ B hml hv
  obtain ⟨rfl, hsz, hP, hK, hD0⟩ := hv
  have hx := B.exec
  have hb := B.bytes
  have hr := B.returns
  have hts := atoms_spec (ws := ws_cc_clear) B.pre
  have hown : s.vm.findClass RX2 = some m.cls := findClass_of_methodNamed B.named
  have hlocks := B.notSynchronized
  subst hsz
  have hD := hD0.self (sz := s.heap.size)
  generalize hAe : va_A [(h0, .inr (4, [.null, .ref m1, .ref m2, .ref m3, .ref m4, .ref m5, .int 0, .ref m7, .int 0, .int 0, .int 0, .ref m11, .int 0, .ref m13, .int 0, .ref m15, .null, .int 0, .int 0]))] s.heap.size = A at hD ⊢
  have hA : ∀ q : Nat, s.heap.size ≤ q → A q := fun q h => by rw [← hAe]; exact Or.inr h
  have hS : va_S A s.heap s.heap [] := va_S.rf
  have hP : va_P (dC, dI) vwCl [(h0, .inr (4, [.null, .ref m1, .ref m2, .ref m3, .ref m4, .ref m5, .int 0, .ref m7, .int 0, .int 0, .int 0, .ref m11, .int 0, .ref m13, .int 0, .ref m15, .null, .int 0, .int 0]))] s.heap := hP
  have hl := lv_entry ([.ref h0]) (n := 1) (Nat.le_of_ble_eq_true rfl)
  rw [lg_entry_eq]
  generalize (lg_sl ([.ref h0]) ++ List.replicate (1 - (lg_sl ([.ref h0])).length) Slot.unset).toArray = ls at hl ⊢
  have hl : lv_has ls 1 [(0, .ref h0)] := hl
  refine lv_aload_n hx hb dX2_clear_0 rfl (lv_at hl 0 rfl) ?_
  refine lv_null hx hb dX2_clear_1 ?_
  refine va_put (D := (dC, dI)) (ci := 4) (v := .null) (ty := .object "LevelUnits$Types") (C := RX2) (T := TX2) (N := 19) hx hb hts in_cc_clear_RX2 tyX2 tyX2_ok nmX2 hown hK hP hD hS 0 rfl rfl 0 (by decide) (hts (.fieldLink RX2 45 "LevelUnits$Machine" "types" "LLevelUnits$Types;") (List.mem_of_getElem? (i := 1) rfl)) (fun _ h9 => h9) rfl (by decide +kernel) rfl rfl (Nat.le_of_ble_eq_true rfl) dX2_clear_2 (fun H locs hP hD hS => ?_)
  have hP : va_P (dC, dI) vwCl [(h0, .inr (4, [.null, .ref m1, .ref m2, .ref m3, .ref m4, .ref m5, .int 0, .ref m7, .int 0, .int 0, .int 0, .ref m11, .int 0, .ref m13, .int 0, .ref m15, .null, .int 0, .int 0]))] H := hP
  have hD : va_D A [(h0, .inr (4, [.null, .ref m1, .ref m2, .ref m3, .ref m4, .ref m5, .int 0, .ref m7, .int 0, .int 0, .int 0, .ref m11, .int 0, .ref m13, .int 0, .ref m15, .null, .int 0, .int 0]))] := hD
  refine lv_aload_n hx hb dX2_clear_5 rfl (lv_at hl 0 rfl) ?_
  refine lv_iconst (v := 0) hx hb dX2_clear_6 (by decide) ?_
  refine va_put (D := (dC, dI)) (ci := 4) (v := .int 0) (ty := .int) (C := RX2) (T := TX2) (N := 19) hx hb hts in_cc_clear_RX2 tyX2 tyX2_ok nmX2 hown hK hP hD hS 0 rfl rfl 8 (by decide) (hts (.fieldLink RX2 49 "LevelUnits$Machine" "made" "I") (List.mem_of_getElem? (i := 2) rfl)) (fun _ h9 => h9) rfl (by decide +kernel) rfl rfl (Nat.le_of_ble_eq_true rfl) dX2_clear_7 (fun H locs hP hD hS => ?_)
  have hP : va_P (dC, dI) vwCl [(h0, .inr (4, [.null, .ref m1, .ref m2, .ref m3, .ref m4, .ref m5, .int 0, .ref m7, .int 0, .int 0, .int 0, .ref m11, .int 0, .ref m13, .int 0, .ref m15, .null, .int 0, .int 0]))] H := hP
  have hD : va_D A [(h0, .inr (4, [.null, .ref m1, .ref m2, .ref m3, .ref m4, .ref m5, .int 0, .ref m7, .int 0, .int 0, .int 0, .ref m11, .int 0, .ref m13, .int 0, .ref m15, .null, .int 0, .int 0]))] := hD
  have hP9 := hP.sub (ws' := [(h0, .inr (4, [.null, .ref m1, .ref m2, .ref m3, .ref m4, .ref m5, .int 0, .ref m7, .int 0, .int 0, .int 0, .ref m11, .int 0, .ref m13, .int 0, .ref m15, .null, .int 0, .int 0]))]) [0] rfl
  have hD9 := hD.sub (ws' := [(h0, .inr (4, [.null, .ref m1, .ref m2, .ref m3, .ref m4, .ref m5, .int 0, .ref m7, .int 0, .int 0, .int 0, .ref m11, .int 0, .ref m13, .int 0, .ref m15, .null, .int 0, .int 0]))]) [0] (by decide) rfl
  have hK9 := hK.sub (tys' := []) [] rfl
  refine W.widen (k := 0) (n := 0) (Nat.le_of_ble_eq_true rfl) (Nat.le_of_ble_eq_true rfl) ?_
  exact W.vret hx hb hr (fun t ht hW => ⟨⟨(), rfl, trivial, by rw [ht]; exact hP9, va_K.moved hW.alike hK9, hD9⟩, hS.F ht⟩) hS.2.2 dX2_clear_10
def ws_cc_skipBlanks : List Cond := .code yX7_skipBlanks cX7_skipBlanks 3 (some .int) :: ([.fieldLink RX7 47 "LevelUnits$Scanner" "at" "I", .fieldLink RX7 43 "LevelUnits$Scanner" "size" "I"] ++ wsX70)
theorem in_cc_skipBlanks_RX7 : ∀ w ∈ wsX70, w ∈ ws_cc_skipBlanks := fun _ h => List.mem_cons_of_mem _ (List.mem_append_right _ h)
set_option maxHeartbeats 4000000 in
set_option maxRecDepth 100000 in
theorem cc_skipBlanks (l : Launch) (dC : Nat → ClassId) (dI : Nat → Nat → Nat) (h0 : Nat) (qk : Nat) (qv : Nat) (ql : Nat) (qh : Nat) (qc : Nat) (qst : Nat) (qz : Nat) (qt : Nat) (sz : Nat) : Met l yX7_skipBlanks ws_cc_skipBlanks ({ frames := 0, cells := 0, slots := 0, locals := 0 }) (va_Pc [.ref h0] (fun U => U.heap.size = sz ∧ va_P (dC, dI) vwCl [(h0, .inr (9, [.ref qk, .ref qv, .ref ql, .int 0, .ref qt, .int 0, .int 0, .int 1, .ref qh, .ref qc, .ref qst, .ref qz, .int 0]))] U.heap ∧ va_K (dC, dI) vwCl [] U ∧ va_D (fun _ => True) [(h0, .inr (9, [.ref qk, .ref qv, .ref ql, .int 0, .ref qt, .int 0, .int 0, .int 1, .ref qh, .ref qc, .ref qst, .ref qz, .int 0]))])) (va_Qi (fun (r : Int32) (_ : Unit) => r = 0) (fun _ t => va_P (dC, dI) vwCl [(h0, .inr (9, [.ref qk, .ref qv, .ref ql, .int 0, .ref qt, .int 0, .int 0, .int 1, .ref qh, .ref qc, .ref qst, .ref qz, .int 0]))] t.heap ∧ va_K (dC, dI) vwCl [] t ∧ va_D (va_A [(h0, .inr (9, [.ref qk, .ref qv, .ref ql, .int 0, .ref qt, .int 0, .int 0, .int 1, .ref qh, .ref qc, .ref qst, .ref qz, .int 0]))] sz) [(h0, .inr (9, [.ref qk, .ref qv, .ref ql, .int 0, .ref qt, .int 0, .int 0, .int 1, .ref qh, .ref qc, .ref qst, .ref qz, .int 0]))]) (va_A [(h0, .inr (9, [.ref qk, .ref qv, .ref ql, .int 0, .ref qt, .int 0, .int 0, .int 1, .ref qh, .ref qc, .ref qst, .ref qz, .int 0]))] sz)) 0 0 (va_A [(h0, .inr (9, [.ref qk, .ref qv, .ref ql, .int 0, .ref qt, .int 0, .int 0, .int 1, .ref qh, .ref qc, .ref qst, .ref qz, .int 0]))] sz) := by
  refine Met.ofW (cc := cX7_skipBlanks) (maxL := 3) (ret := (some .int)) (by decide) rfl ?_
  intro p e s m args below meth c s₁ B hml hv
  obtain ⟨rfl, hsz, hP, hK, hD0⟩ := hv
  have hx := B.exec
  have hb := B.bytes
  have hr := B.returns
  have hts := atoms_spec (ws := ws_cc_skipBlanks) B.pre
  have hown : s.vm.findClass RX7 = some m.cls := findClass_of_methodNamed B.named
  have hlocks := B.notSynchronized
  subst hsz
  have hD := hD0.self (sz := s.heap.size)
  generalize hAe : va_A [(h0, .inr (9, [.ref qk, .ref qv, .ref ql, .int 0, .ref qt, .int 0, .int 0, .int 1, .ref qh, .ref qc, .ref qst, .ref qz, .int 0]))] s.heap.size = A at hD ⊢
  have hA : ∀ q : Nat, s.heap.size ≤ q → A q := fun q h => by rw [← hAe]; exact Or.inr h
  have hS : va_S A s.heap s.heap [] := va_S.rf
  have hP : va_P (dC, dI) vwCl [(h0, .inr (9, [.ref qk, .ref qv, .ref ql, .int 0, .ref qt, .int 0, .int 0, .int 1, .ref qh, .ref qc, .ref qst, .ref qz, .int 0]))] s.heap := hP
  have hl := lv_entry ([.ref h0]) (n := 3) (Nat.le_of_ble_eq_true rfl)
  rw [lg_entry_eq]
  generalize (lg_sl ([.ref h0]) ++ List.replicate (3 - (lg_sl ([.ref h0])).length) Slot.unset).toArray = ls at hl ⊢
  have hl : lv_has ls 3 [(0, .ref h0)] := hl
  refine lv_aload_n hx hb dX7_skipBlanks_0 rfl (lv_at hl 0 rfl) ?_
  refine va_get (D := (dC, dI)) (ci := 9) (v := .int 0) (C := RX7) (T := TX7) (N := 13) hx hb hts in_cc_skipBlanks_RX7 hown hK hP 0 rfl rfl 6 (by decide) (hts (.fieldLink RX7 47 "LevelUnits$Scanner" "at" "I") (List.mem_of_getElem? (i := 1) rfl)) (fun _ h9 => h9) rfl dX7_skipBlanks_1 ?_
  refine lv_aload_n hx hb dX7_skipBlanks_4 rfl (lv_at hl 0 rfl) ?_
  refine va_get (D := (dC, dI)) (ci := 9) (v := .int 0) (C := RX7) (T := TX7) (N := 13) hx hb hts in_cc_skipBlanks_RX7 hown hK hP 0 rfl rfl 5 (by decide) (hts (.fieldLink RX7 43 "LevelUnits$Scanner" "size" "I") (List.mem_of_getElem? (i := 2) rfl)) (fun _ h9 => h9) rfl dX7_skipBlanks_5 ?_
  refine lv_icmp_ge (tgt := 105) hx hb dX7_skipBlanks_8 (by decide) (fun c9 => ?_) (fun c9 => absurd (by decide) c9)
  clear c9
  refine lv_iconst (v := 0) hx hb dX7_skipBlanks_105 (by decide) ?_
  have hP9 := hP.sub (ws' := [(h0, .inr (9, [.ref qk, .ref qv, .ref ql, .int 0, .ref qt, .int 0, .int 0, .int 1, .ref qh, .ref qc, .ref qst, .ref qz, .int 0]))]) [0] rfl
  have hD9 := hD.sub (ws' := [(h0, .inr (9, [.ref qk, .ref qv, .ref ql, .int 0, .ref qt, .int 0, .int 0, .int 1, .ref qh, .ref qc, .ref qst, .ref qz, .int 0]))]) [0] (by decide) rfl
  have hK9 := hK.sub (tys' := []) [] rfl
  refine W.widen (k := 0) (n := 0) (Nat.le_of_ble_eq_true rfl) (Nat.le_of_ble_eq_true rfl) ?_
  exact W.iret (v := 0) hx hb hr (fun t ht hW => ⟨⟨0, (), rfl, rfl, by rw [ht]; exact hP9, va_K.moved hW.alike hK9, hD9⟩, hS.F ht⟩) hS.2.2 dX7_skipBlanks_106
def ws_cc_putToken : List Cond := .code yX7_putToken cX7_putToken 4 (some .boolean) :: ([.fieldLink RX7 53 "LevelUnits$Scanner" "tokens" "I", .fieldLink RX7 9 "LevelUnits$Scanner" "kinds" "[I", .fieldLink RX7 15 "LevelUnits$Scanner" "values" "[I", .fieldLink RX7 18 "LevelUnits$Scanner" "lines" "[I"] ++ wsX70)
theorem in_cc_putToken_RX7 : ∀ w ∈ wsX70, w ∈ ws_cc_putToken := fun _ h => List.mem_cons_of_mem _ (List.mem_append_right _ h)
set_option maxHeartbeats 4000000 in
set_option maxRecDepth 100000 in
theorem cc_putToken (l : Launch) (dC : Nat → ClassId) (dI : Nat → Nat → Nat) (h0 : Nat) (qk : Nat) (qv : Nat) (ql : Nat) (qh : Nat) (qc : Nat) (qst : Nat) (qz : Nat) (qt : Nat) (cqk : ClassId) (cqv : ClassId) (cql : ClassId) (fqk : Nat → Int32) (fqv : Nat → Int32) (fql : Nat → Int32) (sz : Nat) : Met l yX7_putToken ws_cc_putToken ({ frames := 0, cells := 0, slots := 0, locals := 0 }) (va_Pc [.ref h0, .int 0, .int 0, .int 1] (fun U => U.heap.size = sz ∧ va_P (dC, dI) vwCl [(h0, .inr (9, [.ref qk, .ref qv, .ref ql, .int 0, .ref qt, .int 0, .int 0, .int 1, .ref qh, .ref qc, .ref qst, .ref qz, .int 0])), (qk, .inl (cqk, 6001, .inl fqk)), (qv, .inl (cqv, 6001, .inl fqv)), (ql, .inl (cql, 6001, .inl fql))] U.heap ∧ va_K (dC, dI) vwCl [(cqk, .int), (cqv, .int), (cql, .int)] U ∧ va_D (fun _ => True) [(h0, .inr (9, [.ref qk, .ref qv, .ref ql, .int 0, .ref qt, .int 0, .int 0, .int 1, .ref qh, .ref qc, .ref qst, .ref qz, .int 0])), (qk, .inl (cqk, 6001, .inl fqk)), (qv, .inl (cqv, 6001, .inl fqv)), (ql, .inl (cql, 6001, .inl fql))])) (va_Qi (fun (r : Int32) (_ : Unit) => r = 0) (fun _ t => ∃ f_a : Nat → Int32, ∃ f_b : Nat → Int32, ∃ f_c : Nat → Int32, f_a 0 = 0 ∧ f_b 0 = 0 ∧ f_c 0 = 1 ∧ va_P (dC, dI) vwCl [(h0, .inr (9, [.ref qk, .ref qv, .ref ql, .int 0, .ref qt, .int 0, .int 0, .int 1, .ref qh, .ref qc, .ref qst, .ref qz, .int 0])), (qk, .inl (cqk, 6001, .inl f_a)), (qv, .inl (cqv, 6001, .inl f_b)), (ql, .inl (cql, 6001, .inl f_c))] t.heap ∧ va_K (dC, dI) vwCl [(cqk, .int), (cqv, .int), (cql, .int)] t ∧ va_D (va_A [(h0, .inr (9, [.ref qk, .ref qv, .ref ql, .int 0, .ref qt, .int 0, .int 0, .int 1, .ref qh, .ref qc, .ref qst, .ref qz, .int 0])), (qk, .inl (cqk, 6001, .inl fqk)), (qv, .inl (cqv, 6001, .inl fqv)), (ql, .inl (cql, 6001, .inl fql))] sz) [(h0, .inr (9, [.ref qk, .ref qv, .ref ql, .int 0, .ref qt, .int 0, .int 0, .int 1, .ref qh, .ref qc, .ref qst, .ref qz, .int 0])), (qk, .inl (cqk, 6001, .inl f_a)), (qv, .inl (cqv, 6001, .inl f_b)), (ql, .inl (cql, 6001, .inl f_c))]) (va_A [(h0, .inr (9, [.ref qk, .ref qv, .ref ql, .int 0, .ref qt, .int 0, .int 0, .int 1, .ref qh, .ref qc, .ref qst, .ref qz, .int 0])), (qk, .inl (cqk, 6001, .inl fqk)), (qv, .inl (cqv, 6001, .inl fqv)), (ql, .inl (cql, 6001, .inl fql))] sz)) 0 0 (va_A [(h0, .inr (9, [.ref qk, .ref qv, .ref ql, .int 0, .ref qt, .int 0, .int 0, .int 1, .ref qh, .ref qc, .ref qst, .ref qz, .int 0])), (qk, .inl (cqk, 6001, .inl fqk)), (qv, .inl (cqv, 6001, .inl fqv)), (ql, .inl (cql, 6001, .inl fql))] sz) := by
  refine Met.ofW (cc := cX7_putToken) (maxL := 4) (ret := (some .boolean)) (by decide) rfl ?_
  intro p e s m args below meth c s₁ B hml hv
  obtain ⟨rfl, hsz, hP, hK, hD0⟩ := hv
  have hx := B.exec
  have hb := B.bytes
  have hr := B.returns
  have hts := atoms_spec (ws := ws_cc_putToken) B.pre
  have hown : s.vm.findClass RX7 = some m.cls := findClass_of_methodNamed B.named
  have hlocks := B.notSynchronized
  subst hsz
  have hD := hD0.self (sz := s.heap.size)
  generalize hAe : va_A [(h0, .inr (9, [.ref qk, .ref qv, .ref ql, .int 0, .ref qt, .int 0, .int 0, .int 1, .ref qh, .ref qc, .ref qst, .ref qz, .int 0])), (qk, .inl (cqk, 6001, .inl fqk)), (qv, .inl (cqv, 6001, .inl fqv)), (ql, .inl (cql, 6001, .inl fql))] s.heap.size = A at hD ⊢
  have hA : ∀ q : Nat, s.heap.size ≤ q → A q := fun q h => by rw [← hAe]; exact Or.inr h
  have hS : va_S A s.heap s.heap [] := va_S.rf
  have hP : va_P (dC, dI) vwCl [(h0, .inr (9, [.ref qk, .ref qv, .ref ql, .int 0, .ref qt, .int 0, .int 0, .int 1, .ref qh, .ref qc, .ref qst, .ref qz, .int 0])), (qk, .inl (cqk, 6001, .inl fqk)), (qv, .inl (cqv, 6001, .inl fqv)), (ql, .inl (cql, 6001, .inl fql))] s.heap := hP
  have hl := lv_entry ([.ref h0, .int 0, .int 0, .int 1]) (n := 4) (Nat.le_of_ble_eq_true rfl)
  rw [lg_entry_eq]
  generalize (lg_sl ([.ref h0, .int 0, .int 0, .int 1]) ++ List.replicate (4 - (lg_sl ([.ref h0, .int 0, .int 0, .int 1])).length) Slot.unset).toArray = ls at hl ⊢
  have hl : lv_has ls 4 [(0, .ref h0), (1, .int 0), (2, .int 0), (3, .int 1)] := hl
  refine lv_aload_n hx hb dX7_putToken_0 rfl (lv_at hl 0 rfl) ?_
  refine va_get (D := (dC, dI)) (ci := 9) (v := .int 0) (C := RX7) (T := TX7) (N := 13) hx hb hts in_cc_putToken_RX7 hown hK hP 0 rfl rfl 3 (by decide) (hts (.fieldLink RX7 53 "LevelUnits$Scanner" "tokens" "I") (List.mem_of_getElem? (i := 1) rfl)) (fun _ h9 => h9) rfl dX7_putToken_1 ?_
  refine lv_sipush (v := 6000) hx hb dX7_putToken_4 (by decide) ?_
  refine lv_icmp_le (tgt := 12) hx hb dX7_putToken_7 (by decide) (fun c9 => ?_) (fun c9 => absurd (by decide) c9)
  clear c9
  refine lv_aload_n hx hb dX7_putToken_12 rfl (lv_at hl 0 rfl) ?_
  refine va_get (D := (dC, dI)) (ci := 9) (v := .ref qk) (C := RX7) (T := TX7) (N := 13) hx hb hts in_cc_putToken_RX7 hown hK hP 0 rfl rfl 0 (by decide) (hts (.fieldLink RX7 9 "LevelUnits$Scanner" "kinds" "[I") (List.mem_of_getElem? (i := 2) rfl)) (fun _ h9 => h9) rfl dX7_putToken_13 ?_
  refine lv_aload_n hx hb dX7_putToken_16 rfl (lv_at hl 0 rfl) ?_
  refine va_get (D := (dC, dI)) (ci := 9) (v := .int 0) (C := RX7) (T := TX7) (N := 13) hx hb hts in_cc_putToken_RX7 hown hK hP 0 rfl rfl 3 (by decide) (hts (.fieldLink RX7 53 "LevelUnits$Scanner" "tokens" "I") (List.mem_of_getElem? (i := 1) rfl)) (fun _ h9 => h9) rfl dX7_putToken_17 ?_
  refine lv_iload_n hx hb dX7_putToken_20 rfl (lv_at hl 1 rfl) ?_
  refine va_iast hx hb hK hP hD hS 1 0 rfl rfl (i := 0) (by unfold vp_in; decide) dX7_putToken_21 (fun H locs hP hD hS => ?_)
  obtain ⟨f_1, ef_1⟩ : ∃ z, z = upd fqk (Int32.toNatClampNeg 0) 0 := ⟨_, rfl⟩
  rw [← ef_1] at hP hD
  have hP : va_P (dC, dI) vwCl [(h0, .inr (9, [.ref qk, .ref qv, .ref ql, .int 0, .ref qt, .int 0, .int 0, .int 1, .ref qh, .ref qc, .ref qst, .ref qz, .int 0])), (qk, .inl (cqk, 6001, .inl f_1)), (qv, .inl (cqv, 6001, .inl fqv)), (ql, .inl (cql, 6001, .inl fql))] H := hP
  have hD : va_D A [(h0, .inr (9, [.ref qk, .ref qv, .ref ql, .int 0, .ref qt, .int 0, .int 0, .int 1, .ref qh, .ref qc, .ref qst, .ref qz, .int 0])), (qk, .inl (cqk, 6001, .inl f_1)), (qv, .inl (cqv, 6001, .inl fqv)), (ql, .inl (cql, 6001, .inl fql))] := hD
  refine lv_aload_n hx hb dX7_putToken_22 rfl (lv_at hl 0 rfl) ?_
  refine va_get (D := (dC, dI)) (ci := 9) (v := .ref qv) (C := RX7) (T := TX7) (N := 13) hx hb hts in_cc_putToken_RX7 hown hK hP 0 rfl rfl 1 (by decide) (hts (.fieldLink RX7 15 "LevelUnits$Scanner" "values" "[I") (List.mem_of_getElem? (i := 3) rfl)) (fun _ h9 => h9) rfl dX7_putToken_23 ?_
  refine lv_aload_n hx hb dX7_putToken_26 rfl (lv_at hl 0 rfl) ?_
  refine va_get (D := (dC, dI)) (ci := 9) (v := .int 0) (C := RX7) (T := TX7) (N := 13) hx hb hts in_cc_putToken_RX7 hown hK hP 0 rfl rfl 3 (by decide) (hts (.fieldLink RX7 53 "LevelUnits$Scanner" "tokens" "I") (List.mem_of_getElem? (i := 1) rfl)) (fun _ h9 => h9) rfl dX7_putToken_27 ?_
  refine lv_iload_n hx hb dX7_putToken_30 rfl (lv_at hl 2 rfl) ?_
  refine va_iast hx hb hK hP hD hS 2 1 rfl rfl (i := 0) (by unfold vp_in; decide) dX7_putToken_31 (fun H locs hP hD hS => ?_)
  obtain ⟨f_2, ef_2⟩ : ∃ z, z = upd fqv (Int32.toNatClampNeg 0) 0 := ⟨_, rfl⟩
  rw [← ef_2] at hP hD
  have hP : va_P (dC, dI) vwCl [(h0, .inr (9, [.ref qk, .ref qv, .ref ql, .int 0, .ref qt, .int 0, .int 0, .int 1, .ref qh, .ref qc, .ref qst, .ref qz, .int 0])), (qk, .inl (cqk, 6001, .inl f_1)), (qv, .inl (cqv, 6001, .inl f_2)), (ql, .inl (cql, 6001, .inl fql))] H := hP
  have hD : va_D A [(h0, .inr (9, [.ref qk, .ref qv, .ref ql, .int 0, .ref qt, .int 0, .int 0, .int 1, .ref qh, .ref qc, .ref qst, .ref qz, .int 0])), (qk, .inl (cqk, 6001, .inl f_1)), (qv, .inl (cqv, 6001, .inl f_2)), (ql, .inl (cql, 6001, .inl fql))] := hD
  refine lv_aload_n hx hb dX7_putToken_32 rfl (lv_at hl 0 rfl) ?_
  refine va_get (D := (dC, dI)) (ci := 9) (v := .ref ql) (C := RX7) (T := TX7) (N := 13) hx hb hts in_cc_putToken_RX7 hown hK hP 0 rfl rfl 2 (by decide) (hts (.fieldLink RX7 18 "LevelUnits$Scanner" "lines" "[I") (List.mem_of_getElem? (i := 4) rfl)) (fun _ h9 => h9) rfl dX7_putToken_33 ?_
  refine lv_aload_n hx hb dX7_putToken_36 rfl (lv_at hl 0 rfl) ?_
  refine va_get (D := (dC, dI)) (ci := 9) (v := .int 0) (C := RX7) (T := TX7) (N := 13) hx hb hts in_cc_putToken_RX7 hown hK hP 0 rfl rfl 3 (by decide) (hts (.fieldLink RX7 53 "LevelUnits$Scanner" "tokens" "I") (List.mem_of_getElem? (i := 1) rfl)) (fun _ h9 => h9) rfl dX7_putToken_37 ?_
  refine lv_iload_n hx hb dX7_putToken_40 rfl (lv_at hl 3 rfl) ?_
  refine va_iast hx hb hK hP hD hS 3 2 rfl rfl (i := 0) (by unfold vp_in; decide) dX7_putToken_41 (fun H locs hP hD hS => ?_)
  obtain ⟨f_3, ef_3⟩ : ∃ z, z = upd fql (Int32.toNatClampNeg 0) 1 := ⟨_, rfl⟩
  rw [← ef_3] at hP hD
  have hP : va_P (dC, dI) vwCl [(h0, .inr (9, [.ref qk, .ref qv, .ref ql, .int 0, .ref qt, .int 0, .int 0, .int 1, .ref qh, .ref qc, .ref qst, .ref qz, .int 0])), (qk, .inl (cqk, 6001, .inl f_1)), (qv, .inl (cqv, 6001, .inl f_2)), (ql, .inl (cql, 6001, .inl f_3))] H := hP
  have hD : va_D A [(h0, .inr (9, [.ref qk, .ref qv, .ref ql, .int 0, .ref qt, .int 0, .int 0, .int 1, .ref qh, .ref qc, .ref qst, .ref qz, .int 0])), (qk, .inl (cqk, 6001, .inl f_1)), (qv, .inl (cqv, 6001, .inl f_2)), (ql, .inl (cql, 6001, .inl f_3))] := hD
  refine lv_iload_n hx hb dX7_putToken_42 rfl (lv_at hl 1 rfl) ?_
  refine lv_iconst (v := 1) hx hb dX7_putToken_43 (by decide) ?_
  refine lv_icmp_eq (tgt := 51) hx hb dX7_putToken_44 (by decide) (fun c9 => absurd c9 (by decide)) (fun c9 => ?_)
  clear c9
  refine lv_iload_n hx hb dX7_putToken_47 rfl (lv_at hl 1 rfl) ?_
  refine lv_if_ne (tgt := 53) hx hb dX7_putToken_48 (by decide) (fun c9 => absurd c9 (by decide)) (fun c9 => ?_)
  clear c9
  refine lv_iconst (v := 0) hx hb dX7_putToken_51 (by decide) ?_
  have hP9 := hP.sub (ws' := [(h0, .inr (9, [.ref qk, .ref qv, .ref ql, .int 0, .ref qt, .int 0, .int 0, .int 1, .ref qh, .ref qc, .ref qst, .ref qz, .int 0])), (qk, .inl (cqk, 6001, .inl f_1)), (qv, .inl (cqv, 6001, .inl f_2)), (ql, .inl (cql, 6001, .inl f_3))]) [0, 1, 2, 3] rfl
  have hD9 := hD.sub (ws' := [(h0, .inr (9, [.ref qk, .ref qv, .ref ql, .int 0, .ref qt, .int 0, .int 0, .int 1, .ref qh, .ref qc, .ref qst, .ref qz, .int 0])), (qk, .inl (cqk, 6001, .inl f_1)), (qv, .inl (cqv, 6001, .inl f_2)), (ql, .inl (cql, 6001, .inl f_3))]) [0, 1, 2, 3] (by decide) rfl
  have hK9 := hK.sub (tys' := [(cqk, .int), (cqv, .int), (cql, .int)]) [0, 1, 2] rfl
  refine W.widen (k := 0) (n := 0) (Nat.le_of_ble_eq_true rfl) (Nat.le_of_ble_eq_true rfl) ?_
  exact W.zret (v := 0) hx hb hr rfl (fun t ht hW => ⟨⟨0, (), rfl, rfl, f_1, f_2, f_3, (up_eq ef_1 (by decide)), (up_eq ef_2 (by decide)), (up_eq ef_3 (by decide)), by rw [ht]; exact hP9, va_K.moved hW.alike hK9, hD9⟩, hS.F ht⟩) hS.2.2 dX7_putToken_52
def ws_cc_scanToken : List Cond := .code yX7_scanToken cX7_scanToken 3 (some .boolean) :: ([.fieldLink RX7 47 "LevelUnits$Scanner" "at" "I", .fieldLink RX7 43 "LevelUnits$Scanner" "size" "I", .code yX7_skipBlanks cX7_skipBlanks 3 (some .int), .methodLink RX7 69 yX7_skipBlanks, .instanceMethod yX7_skipBlanks, .selects RX7 yX7_skipBlanks yX7_skipBlanks, .initialized RX7, .fieldLink RX7 50 "LevelUnits$Scanner" "line" "I", .fieldLink RX7 53 "LevelUnits$Scanner" "tokens" "I", .fieldLink RX7 9 "LevelUnits$Scanner" "kinds" "[I", .fieldLink RX7 15 "LevelUnits$Scanner" "values" "[I", .fieldLink RX7 18 "LevelUnits$Scanner" "lines" "[I", .code yX7_putToken cX7_putToken 4 (some .boolean), .methodLink RX7 73 yX7_putToken, .instanceMethod yX7_putToken, .selects RX7 yX7_putToken yX7_putToken] ++ wsX70)
theorem in_cc_scanToken_RX7 : ∀ w ∈ wsX70, w ∈ ws_cc_scanToken := fun _ h => List.mem_cons_of_mem _ (List.mem_append_right _ h)
theorem g0_cc_scanToken_cc_skipBlanks_69 : GoodIn ws_cc_scanToken ws_cc_skipBlanks := goodIn_r _ [3, 1, 2, 17, 18, 19, 20, 21, 22, 23, 24, 25, 26, 27, 28, 29] (by decide +kernel) (by decide +kernel)
theorem gg_cc_scanToken_cc_skipBlanks_69 : GoodIn ws_cc_scanToken (wsV RX7 69 RX7 yX7_skipBlanks ws_cc_skipBlanks) := goodIn_app (goodIn_of _ (by decide +kernel)) g0_cc_scanToken_cc_skipBlanks_69
theorem g0_cc_scanToken_cc_putToken_73 : GoodIn ws_cc_scanToken ws_cc_putToken := goodIn_r _ [13, 9, 10, 11, 12, 17, 18, 19, 20, 21, 22, 23, 24, 25, 26, 27, 28, 29] (by decide +kernel) (by decide +kernel)
theorem gg_cc_scanToken_cc_putToken_73 : GoodIn ws_cc_scanToken (wsV RX7 73 RX7 yX7_putToken ws_cc_putToken) := goodIn_app (goodIn_of _ (by decide +kernel)) g0_cc_scanToken_cc_putToken_73
set_option maxHeartbeats 4000000 in
set_option maxRecDepth 100000 in
theorem cc_scanToken (l : Launch) (dC : Nat → ClassId) (dI : Nat → Nat → Nat) (h0 : Nat) (qk : Nat) (qv : Nat) (ql : Nat) (qh : Nat) (qc : Nat) (qst : Nat) (qz : Nat) (qt : Nat) (cqk : ClassId) (cqv : ClassId) (cql : ClassId) (fqk : Nat → Int32) (fqv : Nat → Int32) (fql : Nat → Int32) (sz : Nat) : Met l yX7_scanToken ws_cc_scanToken ({ frames := 1, cells := 0, slots := 0, locals := 23 }) (va_Pc [.ref h0] (fun U => U.heap.size = sz ∧ va_P (dC, dI) vwCl [(h0, .inr (9, [.ref qk, .ref qv, .ref ql, .int 0, .ref qt, .int 0, .int 0, .int 1, .ref qh, .ref qc, .ref qst, .ref qz, .int 0])), (qk, .inl (cqk, 6001, .inl fqk)), (qv, .inl (cqv, 6001, .inl fqv)), (ql, .inl (cql, 6001, .inl fql))] U.heap ∧ va_K (dC, dI) vwCl [(cqk, .int), (cqv, .int), (cql, .int)] U ∧ va_D (fun _ => True) [(h0, .inr (9, [.ref qk, .ref qv, .ref ql, .int 0, .ref qt, .int 0, .int 0, .int 1, .ref qh, .ref qc, .ref qst, .ref qz, .int 0])), (qk, .inl (cqk, 6001, .inl fqk)), (qv, .inl (cqv, 6001, .inl fqv)), (ql, .inl (cql, 6001, .inl fql))])) (va_Qi (fun (r : Int32) (_ : Unit) => r = 0) (fun _ t => ∃ f_a : Nat → Int32, ∃ f_b : Nat → Int32, ∃ f_c : Nat → Int32, f_a 0 = 0 ∧ f_b 0 = 0 ∧ f_c 0 = 1 ∧ va_P (dC, dI) vwCl [(h0, .inr (9, [.ref qk, .ref qv, .ref ql, .int 0, .ref qt, .int 0, .int 0, .int 1, .ref qh, .ref qc, .ref qst, .ref qz, .int 0])), (qk, .inl (cqk, 6001, .inl f_a)), (qv, .inl (cqv, 6001, .inl f_b)), (ql, .inl (cql, 6001, .inl f_c))] t.heap ∧ va_K (dC, dI) vwCl [(cqk, .int), (cqv, .int), (cql, .int)] t ∧ va_D (va_A [(h0, .inr (9, [.ref qk, .ref qv, .ref ql, .int 0, .ref qt, .int 0, .int 0, .int 1, .ref qh, .ref qc, .ref qst, .ref qz, .int 0])), (qk, .inl (cqk, 6001, .inl fqk)), (qv, .inl (cqv, 6001, .inl fqv)), (ql, .inl (cql, 6001, .inl fql))] sz) [(h0, .inr (9, [.ref qk, .ref qv, .ref ql, .int 0, .ref qt, .int 0, .int 0, .int 1, .ref qh, .ref qc, .ref qst, .ref qz, .int 0])), (qk, .inl (cqk, 6001, .inl f_a)), (qv, .inl (cqv, 6001, .inl f_b)), (ql, .inl (cql, 6001, .inl f_c))]) (va_A [(h0, .inr (9, [.ref qk, .ref qv, .ref ql, .int 0, .ref qt, .int 0, .int 0, .int 1, .ref qh, .ref qc, .ref qst, .ref qz, .int 0])), (qk, .inl (cqk, 6001, .inl fqk)), (qv, .inl (cqv, 6001, .inl fqv)), (ql, .inl (cql, 6001, .inl fql))] sz)) 0 0 (va_A [(h0, .inr (9, [.ref qk, .ref qv, .ref ql, .int 0, .ref qt, .int 0, .int 0, .int 1, .ref qh, .ref qc, .ref qst, .ref qz, .int 0])), (qk, .inl (cqk, 6001, .inl fqk)), (qv, .inl (cqv, 6001, .inl fqv)), (ql, .inl (cql, 6001, .inl fql))] sz) := by
  refine Met.ofW (cc := cX7_scanToken) (maxL := 3) (ret := (some .boolean)) (by decide) rfl ?_
  intro p e s m args below meth c s₁ B hml hv
  obtain ⟨rfl, hsz, hP, hK, hD0⟩ := hv
  have hx := B.exec
  have hb := B.bytes
  have hr := B.returns
  have hts := atoms_spec (ws := ws_cc_scanToken) B.pre
  have hown : s.vm.findClass RX7 = some m.cls := findClass_of_methodNamed B.named
  have hlocks := B.notSynchronized
  subst hsz
  have hD := hD0.self (sz := s.heap.size)
  generalize hAe : va_A [(h0, .inr (9, [.ref qk, .ref qv, .ref ql, .int 0, .ref qt, .int 0, .int 0, .int 1, .ref qh, .ref qc, .ref qst, .ref qz, .int 0])), (qk, .inl (cqk, 6001, .inl fqk)), (qv, .inl (cqv, 6001, .inl fqv)), (ql, .inl (cql, 6001, .inl fql))] s.heap.size = A at hD ⊢
  have hA : ∀ q : Nat, s.heap.size ≤ q → A q := fun q h => by rw [← hAe]; exact Or.inr h
  have hS : va_S A s.heap s.heap [] := va_S.rf
  have hP : va_P (dC, dI) vwCl [(h0, .inr (9, [.ref qk, .ref qv, .ref ql, .int 0, .ref qt, .int 0, .int 0, .int 1, .ref qh, .ref qc, .ref qst, .ref qz, .int 0])), (qk, .inl (cqk, 6001, .inl fqk)), (qv, .inl (cqv, 6001, .inl fqv)), (ql, .inl (cql, 6001, .inl fql))] s.heap := hP
  have hl := lv_entry ([.ref h0]) (n := 3) (Nat.le_of_ble_eq_true rfl)
  rw [lg_entry_eq]
  generalize (lg_sl ([.ref h0]) ++ List.replicate (3 - (lg_sl ([.ref h0])).length) Slot.unset).toArray = ls at hl ⊢
  have hl : lv_has ls 3 [(0, .ref h0)] := hl
  refine lv_aload_n hx hb dX7_scanToken_0 rfl (lv_at hl 0 rfl) ?_
  have hPc := hP.sub (ws' := [(h0, .inr (9, [.ref qk, .ref qv, .ref ql, .int 0, .ref qt, .int 0, .int 0, .int 1, .ref qh, .ref qc, .ref qst, .ref qz, .int 0]))]) [0] rfl
  have hDc := hD.sub (ws' := [(h0, .inr (9, [.ref qk, .ref qv, .ref ql, .int 0, .ref qt, .int 0, .int 0, .int 1, .ref qh, .ref qc, .ref qst, .ref qz, .int 0]))]) [0] (by decide) rfl
  have hKc := hK.sub (tys' := []) [] rfl
  have hFc := va_free (wc := [(h0, .inr (9, [.ref qk, .ref qv, .ref ql, .int 0, .ref qt, .int 0, .int 0, .int 1, .ref qh, .ref qc, .ref qst, .ref qz, .int 0]))]) hD hS hA [0] rfl
  refine va_calli (va_runV (As := []) (rest := []) ⟨hx, hb, hml, hown, hts⟩ (cc_skipBlanks l dC dI h0 qk qv ql qh qc qst qz qt s.heap.size) (cwV 0 hts gg_cc_scanToken_cc_skipBlanks_69 rfl rfl rfl (by decide +kernel) ⟨(Nat.le_of_ble_eq_true rfl), (Nat.le_of_ble_eq_true rfl)⟩) ⟨fun a U g mk q => by obtain ⟨q0, q1, qP, qK, qD⟩ := q; exact ⟨q0, q1, qP, va_K.moved (u := U) (U := U.calling g mk a) (Vm.Alike.refl U.vm) qK, qD⟩, va_recv hKc hPc (ci := 9) (q0 := 0) rfl rfl, fun U hU hW => ⟨rfl, by rw [hU], by rw [hU]; exact hPc, va_K.moved hW.alike hKc, hDc.weaken (fun _ _ _ _ => trivial)⟩⟩ rfl rfl hl.1 rfl (lv_room (Nat.le_of_ble_eq_true rfl)) dX7_scanToken_1 ⟨(Nat.le_of_ble_eq_true rfl), (Nat.le_of_ble_eq_true rfl)⟩) hS (fun q _ h => hFc q h) hFc (fun r9 u t H1 locs ht hvm hw hB hz1 hk1 hS => ?_)
  obtain ⟨hP1, hK1, hD1⟩ := hB
  rw [ht] at hP1
  have hK1 := va_K.moved hvm.symm hK1
  obtain ⟨hP, hD⟩ := va_join (wr := [(qk, .inl (cqk, 6001, .inl fqk)), (qv, .inl (cqv, 6001, .inl fqv)), (ql, .inl (cql, 6001, .inl fql))]) (w1 := [(h0, .inr (9, [.ref qk, .ref qv, .ref ql, .int 0, .ref qt, .int 0, .int 0, .int 1, .ref qh, .ref qc, .ref qst, .ref qz, .int 0]))]) hP hD [0] [1, 2, 3] rfl rfl (by decide) (by decide) hk1 hFc hP1 hD1
  have hK := (hK.sub (tys' := [(cqk, .int), (cqv, .int), (cql, .int)]) [0, 1, 2] rfl).app hK1
  generalize H1 = H at hP hS ⊢
  have hK : va_K (dC, dI) vwCl [(cqk, .int), (cqv, .int), (cql, .int)] s := hK
  have hP : va_P (dC, dI) vwCl [(qk, .inl (cqk, 6001, .inl fqk)), (qv, .inl (cqv, 6001, .inl fqv)), (ql, .inl (cql, 6001, .inl fql)), (h0, .inr (9, [.ref qk, .ref qv, .ref ql, .int 0, .ref qt, .int 0, .int 0, .int 1, .ref qh, .ref qc, .ref qst, .ref qz, .int 0]))] H := hP
  have hD : va_D A [(qk, .inl (cqk, 6001, .inl fqk)), (qv, .inl (cqv, 6001, .inl fqv)), (ql, .inl (cql, 6001, .inl fql)), (h0, .inr (9, [.ref qk, .ref qv, .ref ql, .int 0, .ref qt, .int 0, .int 0, .int 1, .ref qh, .ref qc, .ref qst, .ref qz, .int 0]))] := hD
  refine W.widen (k := 0) (n := 0) (Nat.le_of_ble_eq_true rfl) (Nat.le_of_ble_eq_true rfl) ?_
  obtain rfl : r9 = 0 := hw
  refine lv_istore_n (lv' := [(1, .int 0), (0, .ref h0)]) hx hb dX7_scanToken_4 rfl hl (by decide) rfl (fun ls hl => ?_)
  refine lv_iload_n hx hb dX7_scanToken_5 rfl (lv_at hl 0 rfl) ?_
  refine lv_if_le (tgt := 17) hx hb dX7_scanToken_6 (by decide) (fun c9 => ?_) (fun c9 => absurd (by decide) c9)
  clear c9
  refine lv_aload_n hx hb dX7_scanToken_17 rfl (lv_at hl 1 rfl) ?_
  refine va_get (D := (dC, dI)) (ci := 9) (v := .int 0) (C := RX7) (T := TX7) (N := 13) hx hb hts in_cc_scanToken_RX7 hown hK hP 3 rfl rfl 6 (by decide) (hts (.fieldLink RX7 47 "LevelUnits$Scanner" "at" "I") (List.mem_of_getElem? (i := 1) rfl)) (fun _ h9 => h9) rfl dX7_scanToken_18 ?_
  refine lv_aload_n hx hb dX7_scanToken_21 rfl (lv_at hl 1 rfl) ?_
  refine va_get (D := (dC, dI)) (ci := 9) (v := .int 0) (C := RX7) (T := TX7) (N := 13) hx hb hts in_cc_scanToken_RX7 hown hK hP 3 rfl rfl 5 (by decide) (hts (.fieldLink RX7 43 "LevelUnits$Scanner" "size" "I") (List.mem_of_getElem? (i := 2) rfl)) (fun _ h9 => h9) rfl dX7_scanToken_22 ?_
  refine lv_icmp_lt (tgt := 39) hx hb dX7_scanToken_25 (by decide) (fun c9 => absurd c9 (by decide)) (fun c9 => ?_)
  clear c9
  refine lv_aload_n hx hb dX7_scanToken_28 rfl (lv_at hl 1 rfl) ?_
  refine lv_iconst (v := 0) hx hb dX7_scanToken_29 (by decide) ?_
  refine lv_iconst (v := 0) hx hb dX7_scanToken_30 (by decide) ?_
  refine lv_aload_n hx hb dX7_scanToken_31 rfl (lv_at hl 1 rfl) ?_
  refine va_get (D := (dC, dI)) (ci := 9) (v := .int 1) (C := RX7) (T := TX7) (N := 13) hx hb hts in_cc_scanToken_RX7 hown hK hP 3 rfl rfl 7 (by decide) (hts (.fieldLink RX7 50 "LevelUnits$Scanner" "line" "I") (List.mem_of_getElem? (i := 8) rfl)) (fun _ h9 => h9) rfl dX7_scanToken_32 ?_
  have hPc := hP.sub (ws' := [(h0, .inr (9, [.ref qk, .ref qv, .ref ql, .int 0, .ref qt, .int 0, .int 0, .int 1, .ref qh, .ref qc, .ref qst, .ref qz, .int 0])), (qk, .inl (cqk, 6001, .inl fqk)), (qv, .inl (cqv, 6001, .inl fqv)), (ql, .inl (cql, 6001, .inl fql))]) [3, 0, 1, 2] rfl
  have hDc := hD.sub (ws' := [(h0, .inr (9, [.ref qk, .ref qv, .ref ql, .int 0, .ref qt, .int 0, .int 0, .int 1, .ref qh, .ref qc, .ref qst, .ref qz, .int 0])), (qk, .inl (cqk, 6001, .inl fqk)), (qv, .inl (cqv, 6001, .inl fqv)), (ql, .inl (cql, 6001, .inl fql))]) [3, 0, 1, 2] (by decide) rfl
  have hKc := hK.sub (tys' := [(cqk, .int), (cqv, .int), (cql, .int)]) [0, 1, 2] rfl
  have hFc := va_free (wc := [(h0, .inr (9, [.ref qk, .ref qv, .ref ql, .int 0, .ref qt, .int 0, .int 0, .int 1, .ref qh, .ref qc, .ref qst, .ref qz, .int 0])), (qk, .inl (cqk, 6001, .inl fqk)), (qv, .inl (cqv, 6001, .inl fqv)), (ql, .inl (cql, 6001, .inl fql))]) hD hS hA [3, 0, 1, 2] rfl
  refine va_calli (va_runV (As := [.int 0, .int 0, .int 1]) (rest := []) ⟨hx, hb, hml, hown, hts⟩ (cc_putToken l dC dI h0 qk qv ql qh qc qst qz qt cqk cqv cql fqk fqv fql H.size) (cwV 3 hts gg_cc_scanToken_cc_putToken_73 rfl rfl rfl (by decide +kernel) ⟨(Nat.le_of_ble_eq_true rfl), (Nat.le_of_ble_eq_true rfl)⟩) ⟨fun a U g mk q => by obtain ⟨q0, q1, qP, qK, qD⟩ := q; exact ⟨q0, q1, qP, va_K.moved (u := U) (U := U.calling g mk a) (Vm.Alike.refl U.vm) qK, qD⟩, va_recv hKc hPc (ci := 9) (q0 := 0) rfl rfl, fun U hU hW => ⟨rfl, by rw [hU], by rw [hU]; exact hPc, va_K.moved hW.alike hKc, hDc.weaken (fun _ _ _ _ => trivial)⟩⟩ rfl rfl hl.1 rfl (lv_room (Nat.le_of_ble_eq_true rfl)) dX7_scanToken_35 ⟨(Nat.le_of_ble_eq_true rfl), (Nat.le_of_ble_eq_true rfl)⟩) hS (fun q _ h => hFc q h) hFc (fun r9 u t H1 locs ht hvm hw hB hz1 hk1 hS => ?_)
  obtain ⟨f_1, f_2, f_3, hf_4, hf_5, hf_6, hP1, hK1, hD1⟩ := hB
  rw [ht] at hP1
  have hK1 := va_K.moved hvm.symm hK1
  obtain ⟨hP, hD⟩ := va_join (wr := []) (w1 := [(h0, .inr (9, [.ref qk, .ref qv, .ref ql, .int 0, .ref qt, .int 0, .int 0, .int 1, .ref qh, .ref qc, .ref qst, .ref qz, .int 0])), (qk, .inl (cqk, 6001, .inl f_1)), (qv, .inl (cqv, 6001, .inl f_2)), (ql, .inl (cql, 6001, .inl f_3))]) hP hD [3, 0, 1, 2] [] rfl rfl (by decide) (by decide) hk1 hFc hP1 hD1
  have hK := (hK.sub (tys' := []) [] rfl).app hK1
  generalize H1 = H at hP hS ⊢
  have hK : va_K (dC, dI) vwCl [(cqk, .int), (cqv, .int), (cql, .int)] s := hK
  have hP : va_P (dC, dI) vwCl [(h0, .inr (9, [.ref qk, .ref qv, .ref ql, .int 0, .ref qt, .int 0, .int 0, .int 1, .ref qh, .ref qc, .ref qst, .ref qz, .int 0])), (qk, .inl (cqk, 6001, .inl f_1)), (qv, .inl (cqv, 6001, .inl f_2)), (ql, .inl (cql, 6001, .inl f_3))] H := hP
  have hD : va_D A [(h0, .inr (9, [.ref qk, .ref qv, .ref ql, .int 0, .ref qt, .int 0, .int 0, .int 1, .ref qh, .ref qc, .ref qst, .ref qz, .int 0])), (qk, .inl (cqk, 6001, .inl f_1)), (qv, .inl (cqv, 6001, .inl f_2)), (ql, .inl (cql, 6001, .inl f_3))] := hD
  refine W.widen (k := 0) (n := 0) (Nat.le_of_ble_eq_true rfl) (Nat.le_of_ble_eq_true rfl) ?_
  obtain rfl : r9 = 0 := hw
  have hP9 := hP.sub (ws' := [(h0, .inr (9, [.ref qk, .ref qv, .ref ql, .int 0, .ref qt, .int 0, .int 0, .int 1, .ref qh, .ref qc, .ref qst, .ref qz, .int 0])), (qk, .inl (cqk, 6001, .inl f_1)), (qv, .inl (cqv, 6001, .inl f_2)), (ql, .inl (cql, 6001, .inl f_3))]) [0, 1, 2, 3] rfl
  have hD9 := hD.sub (ws' := [(h0, .inr (9, [.ref qk, .ref qv, .ref ql, .int 0, .ref qt, .int 0, .int 0, .int 1, .ref qh, .ref qc, .ref qst, .ref qz, .int 0])), (qk, .inl (cqk, 6001, .inl f_1)), (qv, .inl (cqv, 6001, .inl f_2)), (ql, .inl (cql, 6001, .inl f_3))]) [0, 1, 2, 3] (by decide) rfl
  have hK9 := hK.sub (tys' := [(cqk, .int), (cqv, .int), (cql, .int)]) [0, 1, 2] rfl
  refine W.widen (k := 0) (n := 0) (Nat.le_of_ble_eq_true rfl) (Nat.le_of_ble_eq_true rfl) ?_
  exact W.zret (v := 0) hx hb hr rfl (fun t ht hW => ⟨⟨0, (), rfl, rfl, f_1, f_2, f_3, hf_4, hf_5, hf_6, by rw [ht]; exact hP9, va_K.moved hW.alike hK9, hD9⟩, hS.F ht⟩) hS.2.2 dX7_scanToken_38
def ws_cc_fill : List Cond := .code yJ7_fill_53178 cJ7_fill_53178 4 none :: ([])
set_option maxHeartbeats 4000000 in
set_option maxRecDepth 100000 in
theorem cc_fill (l : Launch) (dC : Nat → ClassId) (dI : Nat → Nat → Nat) (h0 : Nat) (cqh : ClassId) (fqh : Nat → Int32) (v : Int32) (sz : Nat) : Met l yJ7_fill_53178 ws_cc_fill ({ frames := 0, cells := 0, slots := 0, locals := 0 }) (va_Pc [.ref h0, .int v] (fun U => U.heap.size = sz ∧ va_P (dC, dI) vwCl [(h0, .inl (cqh, 256, .inl fqh))] U.heap ∧ va_K (dC, dI) vwCl [(cqh, .int)] U ∧ va_D (fun _ => True) [(h0, .inl (cqh, 256, .inl fqh))])) (va_Qv (fun _ : Unit => True) (fun _ t => ∃ f_a : Nat → Int32, va_P (dC, dI) vwCl [(h0, .inl (cqh, 256, .inl f_a))] t.heap ∧ va_K (dC, dI) vwCl [(cqh, .int)] t ∧ va_D (va_A [(h0, .inl (cqh, 256, .inl fqh))] sz) [(h0, .inl (cqh, 256, .inl f_a))]) (va_A [(h0, .inl (cqh, 256, .inl fqh))] sz)) 0 0 (va_A [(h0, .inl (cqh, 256, .inl fqh))] sz) := by
  refine Met.ofW (cc := cJ7_fill_53178) (maxL := 4) (ret := none) (by decide) rfl ?_
  intro p e s m args below meth c s₁ B hml hv
  obtain ⟨rfl, hsz, hP, hK, hD0⟩ := hv
  have hx := B.exec
  have hb := B.bytes
  have hr := B.returns
  have hts := atoms_spec (ws := ws_cc_fill) B.pre
  have hown : s.vm.findClass RJ7 = some m.cls := findClass_of_methodNamed B.named
  have hlocks := B.notSynchronized
  subst hsz
  have hD := hD0.self (sz := s.heap.size)
  generalize hAe : va_A [(h0, .inl (cqh, 256, .inl fqh))] s.heap.size = A at hD ⊢
  have hA : ∀ q : Nat, s.heap.size ≤ q → A q := fun q h => by rw [← hAe]; exact Or.inr h
  have hS : va_S A s.heap s.heap [] := va_S.rf
  have hP : va_P (dC, dI) vwCl [(h0, .inl (cqh, 256, .inl fqh))] s.heap := hP
  have hl := lv_entry ([.ref h0, .int v]) (n := 4) (Nat.le_of_ble_eq_true rfl)
  rw [lg_entry_eq]
  generalize (lg_sl ([.ref h0, .int v]) ++ List.replicate (4 - (lg_sl ([.ref h0, .int v])).length) Slot.unset).toArray = ls at hl ⊢
  have hl : lv_has ls 4 [(0, .ref h0), (1, .int v)] := hl
  refine lv_iconst (v := 0) hx hb dJ7_fill_53178_0 (by decide) ?_
  refine lv_istore_n (lv' := [(2, .int 0), (0, .ref h0), (1, .int v)]) hx hb dJ7_fill_53178_1 rfl hl (by decide) rfl (fun ls hl => ?_)
  refine lv_aload_n hx hb dJ7_fill_53178_2 rfl (lv_at hl 1 rfl) ?_
  refine va_alen (v := 256) hx hb hK hP 0 0 rfl rfl rfl dJ7_fill_53178_3 ?_
  refine lv_istore_n (lv' := [(3, .int 256), (2, .int 0), (0, .ref h0), (1, .int v)]) hx hb dJ7_fill_53178_4 rfl hl (by decide) rfl (fun ls hl => ?_)
  refine w_loop (V := (Nat) × (Nat → Int32)) (P := (fun ⟨k9, f_900⟩ H locs ls => (k9 ≤ 256) ∧ va_P (dC, dI) vwCl [(h0, .inl (cqh, 256, .inl f_900))] H ∧ va_D A [(h0, .inl (cqh, 256, .inl f_900))] ∧ va_S A s.heap H locs ∧ lv_has ls 4 [(3, .int 256), (2, .int (nI k9)), (0, .ref h0), (1, .int v)])) (μ := fun ⟨k9, f_900⟩ => 256 - k9) ?_ (0, fqh) ⟨(by omega), hP, hD, hS, lv_sub hl [0, 1, 2, 3] rfl⟩
  rintro ⟨k9, f_900⟩ ih H locs ls ⟨h9k, hP, hD, hS, hl⟩
  have hP : va_P (dC, dI) vwCl [(h0, .inl (cqh, 256, .inl f_900))] H := hP
  have hD : va_D A [(h0, .inl (cqh, 256, .inl f_900))] := hD
  have hl : lv_has ls 4 [(3, .int 256), (2, .int (nI k9)), (0, .ref h0), (1, .int v)] := hl
  have ih_1 := ih
  refine lv_iload_n hx hb dJ7_fill_53178_5 rfl (lv_at hl 1 rfl) ?_
  refine lv_iload_n hx hb dJ7_fill_53178_6 rfl (lv_at hl 0 rfl) ?_
  refine lv_icmp_ge (tgt := 20) hx hb dJ7_fill_53178_7 (by decide) (fun c_2 => ?_) (fun c_2 => ?_)
  · skip
    have c_2 : 256 ≤ k9 := (nI_leI (a := 256) (b := k9) (by omega) (by omega)).mp c_2
    have hP9 := hP.sub (ws' := [(h0, .inl (cqh, 256, .inl f_900))]) [0] rfl
    have hD9 := hD.sub (ws' := [(h0, .inl (cqh, 256, .inl f_900))]) [0] (by decide) rfl
    have hK9 := hK.sub (tys' := [(cqh, .int)]) [0] rfl
    refine W.widen (k := 0) (n := 0) (Nat.le_of_ble_eq_true rfl) (Nat.le_of_ble_eq_true rfl) ?_
    exact W.vret hx hb hr (fun t ht hW => ⟨⟨(), rfl, trivial, f_900, by rw [ht]; exact hP9, va_K.moved hW.alike hK9, hD9⟩, hS.F ht⟩) hS.2.2 dJ7_fill_53178_20
  · skip
    have c_2 : ¬ (256 ≤ k9) := fun h9 => c_2 ((nI_leI (a := 256) (b := k9) (by omega) (by omega)).mpr h9)
    refine lv_aload_n hx hb dJ7_fill_53178_10 rfl (lv_at hl 2 rfl) ?_
    refine lv_iload_n hx hb dJ7_fill_53178_11 rfl (lv_at hl 1 rfl) ?_
    refine lv_iload_n hx hb dJ7_fill_53178_12 rfl (lv_at hl 3 rfl) ?_
    refine va_iast hx hb hK hP hD hS 0 0 rfl rfl (i := nI k9) (vp_in_nI (by omega) (by omega)) dJ7_fill_53178_13 (fun H locs hP hD hS => ?_)
    obtain ⟨f_3, ef_3⟩ : ∃ z, z = upd f_900 (Int32.toNatClampNeg (nI k9)) v := ⟨_, rfl⟩
    rw [← ef_3] at hP hD
    rw [nI_clamp (by omega)] at ef_3
    have hP : va_P (dC, dI) vwCl [(h0, .inl (cqh, 256, .inl f_3))] H := hP
    have hD : va_D A [(h0, .inl (cqh, 256, .inl f_3))] := hD
    refine lv_iinc (v := nI (k9 + 1)) (lv' := [(2, .int (nI (k9 + 1))), (3, .int 256), (0, .ref h0), (1, .int v)]) hx hb dJ7_fill_53178_14 hl (k := 1) rfl (nI_add k9 1) (by decide) rfl (fun ls hl => ?_)
    refine lv_goto (tgt := 5) hx hb dJ7_fill_53178_17 (by decide) ?_
    refine ih_1 ((k9 + 1), f_3) ?_ _ _ _ ⟨(by omega), hP, hD, hS, lv_sub hl [1, 0, 2, 3] rfl⟩
    show 256 - (k9 + 1) < 256 - k9
    omega
def ws_cc_scan : List Cond := .code yX7_scan cX7_scan 5 none :: ([.fieldLink RX7 33 "LevelUnits$Scanner" "text" "[B", .methodLink RX7 37 Lib.Math.min.name, .static Lib.Math.min.name, .initialized "java/lang/Math", .code Lib.Math.min.name Lib.Math.min.code 2 (some .int), .fieldLink RX7 43 "LevelUnits$Scanner" "size" "I", .fieldLink RX7 47 "LevelUnits$Scanner" "at" "I", .fieldLink RX7 50 "LevelUnits$Scanner" "line" "I", .fieldLink RX7 53 "LevelUnits$Scanner" "tokens" "I", .fieldLink RX7 56 "LevelUnits$Scanner" "names" "I", .fieldLink RX7 21 "LevelUnits$Scanner" "heads" "[I", .code yJ7_fill_53178 cJ7_fill_53178 4 none, .methodLink RX7 59 yJ7_fill_53178, .static yJ7_fill_53178, .initialized RJ7, .code yX7_skipBlanks cX7_skipBlanks 3 (some .int), .methodLink RX7 69 yX7_skipBlanks, .instanceMethod yX7_skipBlanks, .selects RX7 yX7_skipBlanks yX7_skipBlanks, .initialized RX7, .fieldLink RX7 9 "LevelUnits$Scanner" "kinds" "[I", .fieldLink RX7 15 "LevelUnits$Scanner" "values" "[I", .fieldLink RX7 18 "LevelUnits$Scanner" "lines" "[I", .code yX7_putToken cX7_putToken 4 (some .boolean), .methodLink RX7 73 yX7_putToken, .instanceMethod yX7_putToken, .selects RX7 yX7_putToken yX7_putToken, .code yX7_scanToken cX7_scanToken 3 (some .boolean), .methodLink RX7 65 yX7_scanToken, .instanceMethod yX7_scanToken, .selects RX7 yX7_scanToken yX7_scanToken] ++ wsX70)
theorem in_cc_scan_RX7 : ∀ w ∈ wsX70, w ∈ ws_cc_scan := fun _ h => List.mem_cons_of_mem _ (List.mem_append_right _ h)
theorem g0_cc_scan_cc_fill_59 : GoodIn ws_cc_scan ws_cc_fill := goodIn_r _ [12] (by decide +kernel) (by decide +kernel)
theorem gg_cc_scan_cc_fill_59 : GoodIn ws_cc_scan (va_wsS RX7 59 yJ7_fill_53178 ws_cc_fill) := goodIn_app (goodIn_of _ (by decide +kernel)) g0_cc_scan_cc_fill_59
theorem g0_cc_scan_cc_scanToken_65 : GoodIn ws_cc_scan ws_cc_scanToken := goodIn_r _ [28, 7, 6, 16, 17, 18, 19, 20, 8, 9, 21, 22, 23, 24, 25, 26, 27, 32, 33, 34, 35, 36, 37, 38, 39, 40, 41, 42, 43, 44] (by decide +kernel) (by decide +kernel)
theorem gg_cc_scan_cc_scanToken_65 : GoodIn ws_cc_scan (wsV RX7 65 RX7 yX7_scanToken ws_cc_scanToken) := goodIn_app (goodIn_of _ (by decide +kernel)) g0_cc_scan_cc_scanToken_65
set_option maxHeartbeats 4000000 in
set_option maxRecDepth 100000 in
theorem cc_scan (l : Launch) (dC : Nat → ClassId) (dI : Nat → Nat → Nat) (h0 : Nat) (qk : Nat) (qv : Nat) (ql : Nat) (qh : Nat) (qc : Nat) (qst : Nat) (qz : Nat) (qt : Nat) (cqk : ClassId) (cqv : ClassId) (cql : ClassId) (cqh : ClassId) (fqk : Nat → Int32) (fqv : Nat → Int32) (fql : Nat → Int32) (fqh : Nat → Int32) (cy : ClassId) (f : Nat → Int32) (sz : Nat) : Met l yX7_scan ws_cc_scan ({ frames := 2, cells := 0, slots := 0, locals := 45 }) (va_Pc [.ref h0, .ref qt, .int 0] (fun U => U.heap.size = sz ∧ va_P (dC, dI) vwCl [(h0, .inr (9, [.ref qk, .ref qv, .ref ql, .int 0, .null, .int 0, .int 0, .int 0, .ref qh, .ref qc, .ref qst, .ref qz, .int 0])), (qk, .inl (cqk, 6001, .inl fqk)), (qv, .inl (cqv, 6001, .inl fqv)), (ql, .inl (cql, 6001, .inl fql)), (qh, .inl (cqh, 256, .inl fqh)), (qt, .inl (cy, 6000, .inl f))] U.heap ∧ va_K (dC, dI) vwCl [(cqk, .int), (cqv, .int), (cql, .int), (cqh, .int), (cy, .byte)] U ∧ va_D (fun _ => True) [(h0, .inr (9, [.ref qk, .ref qv, .ref ql, .int 0, .null, .int 0, .int 0, .int 0, .ref qh, .ref qc, .ref qst, .ref qz, .int 0])), (qk, .inl (cqk, 6001, .inl fqk)), (qv, .inl (cqv, 6001, .inl fqv)), (ql, .inl (cql, 6001, .inl fql)), (qh, .inl (cqh, 256, .inl fqh)), (qt, .inl (cy, 6000, .inl f))])) (va_Qv (fun _ : Unit => True) (fun _ t => ∃ f_a : Nat → Int32, ∃ f_b : Nat → Int32, ∃ f_c : Nat → Int32, ∃ f_d : Nat → Int32, f_b 0 = 0 ∧ f_c 0 = 0 ∧ f_d 0 = 1 ∧ va_P (dC, dI) vwCl [(qt, .inl (cy, 6000, .inl f)), (qh, .inl (cqh, 256, .inl f_a)), (h0, .inr (9, [.ref qk, .ref qv, .ref ql, .int 0, .ref qt, .int 0, .int 0, .int 1, .ref qh, .ref qc, .ref qst, .ref qz, .int 0])), (qk, .inl (cqk, 6001, .inl f_b)), (qv, .inl (cqv, 6001, .inl f_c)), (ql, .inl (cql, 6001, .inl f_d))] t.heap ∧ va_K (dC, dI) vwCl [(cy, .byte), (cqh, .int), (cqk, .int), (cqv, .int), (cql, .int)] t ∧ va_D (va_A [(h0, .inr (9, [.ref qk, .ref qv, .ref ql, .int 0, .null, .int 0, .int 0, .int 0, .ref qh, .ref qc, .ref qst, .ref qz, .int 0])), (qk, .inl (cqk, 6001, .inl fqk)), (qv, .inl (cqv, 6001, .inl fqv)), (ql, .inl (cql, 6001, .inl fql)), (qh, .inl (cqh, 256, .inl fqh)), (qt, .inl (cy, 6000, .inl f))] sz) [(qt, .inl (cy, 6000, .inl f)), (qh, .inl (cqh, 256, .inl f_a)), (h0, .inr (9, [.ref qk, .ref qv, .ref ql, .int 0, .ref qt, .int 0, .int 0, .int 1, .ref qh, .ref qc, .ref qst, .ref qz, .int 0])), (qk, .inl (cqk, 6001, .inl f_b)), (qv, .inl (cqv, 6001, .inl f_c)), (ql, .inl (cql, 6001, .inl f_d))]) (va_A [(h0, .inr (9, [.ref qk, .ref qv, .ref ql, .int 0, .null, .int 0, .int 0, .int 0, .ref qh, .ref qc, .ref qst, .ref qz, .int 0])), (qk, .inl (cqk, 6001, .inl fqk)), (qv, .inl (cqv, 6001, .inl fqv)), (ql, .inl (cql, 6001, .inl fql)), (qh, .inl (cqh, 256, .inl fqh)), (qt, .inl (cy, 6000, .inl f))] sz)) 0 0 (va_A [(h0, .inr (9, [.ref qk, .ref qv, .ref ql, .int 0, .null, .int 0, .int 0, .int 0, .ref qh, .ref qc, .ref qst, .ref qz, .int 0])), (qk, .inl (cqk, 6001, .inl fqk)), (qv, .inl (cqv, 6001, .inl fqv)), (ql, .inl (cql, 6001, .inl fql)), (qh, .inl (cqh, 256, .inl fqh)), (qt, .inl (cy, 6000, .inl f))] sz) := by
  refine Met.ofW (cc := cX7_scan) (maxL := 5) (ret := none) (by decide) rfl ?_
  intro p e s m args below meth c s₁ B hml hv
  obtain ⟨rfl, hsz, hP, hK, hD0⟩ := hv
  have hx := B.exec
  have hb := B.bytes
  have hr := B.returns
  have hts := atoms_spec (ws := ws_cc_scan) B.pre
  have hown : s.vm.findClass RX7 = some m.cls := findClass_of_methodNamed B.named
  have hlocks := B.notSynchronized
  subst hsz
  have hD := hD0.self (sz := s.heap.size)
  generalize hAe : va_A [(h0, .inr (9, [.ref qk, .ref qv, .ref ql, .int 0, .null, .int 0, .int 0, .int 0, .ref qh, .ref qc, .ref qst, .ref qz, .int 0])), (qk, .inl (cqk, 6001, .inl fqk)), (qv, .inl (cqv, 6001, .inl fqv)), (ql, .inl (cql, 6001, .inl fql)), (qh, .inl (cqh, 256, .inl fqh)), (qt, .inl (cy, 6000, .inl f))] s.heap.size = A at hD ⊢
  have hA : ∀ q : Nat, s.heap.size ≤ q → A q := fun q h => by rw [← hAe]; exact Or.inr h
  have hS : va_S A s.heap s.heap [] := va_S.rf
  have hP : va_P (dC, dI) vwCl [(h0, .inr (9, [.ref qk, .ref qv, .ref ql, .int 0, .null, .int 0, .int 0, .int 0, .ref qh, .ref qc, .ref qst, .ref qz, .int 0])), (qk, .inl (cqk, 6001, .inl fqk)), (qv, .inl (cqv, 6001, .inl fqv)), (ql, .inl (cql, 6001, .inl fql)), (qh, .inl (cqh, 256, .inl fqh)), (qt, .inl (cy, 6000, .inl f))] s.heap := hP
  have hl := lv_entry ([.ref h0, .ref qt, .int 0]) (n := 5) (Nat.le_of_ble_eq_true rfl)
  rw [lg_entry_eq]
  generalize (lg_sl ([.ref h0, .ref qt, .int 0]) ++ List.replicate (5 - (lg_sl ([.ref h0, .ref qt, .int 0])).length) Slot.unset).toArray = ls at hl ⊢
  have hl : lv_has ls 5 [(0, .ref h0), (1, .ref qt), (2, .int 0)] := hl
  refine lv_aload_n hx hb dX7_scan_0 rfl (lv_at hl 0 rfl) ?_
  refine lv_aload_n hx hb dX7_scan_1 rfl (lv_at hl 1 rfl) ?_
  refine va_put (D := (dC, dI)) (ci := 9) (v := .ref qt) (ty := .array .byte) (C := RX7) (T := TX7) (N := 13) hx hb hts in_cc_scan_RX7 tyX7 tyX7_ok nmX7 hown hK hP hD hS 0 rfl rfl 4 (by decide) (hts (.fieldLink RX7 33 "LevelUnits$Scanner" "text" "[B") (List.mem_of_getElem? (i := 1) rfl)) (fun _ h9 => h9) rfl (by decide +kernel) rfl rfl (Nat.le_of_ble_eq_true rfl) dX7_scan_2 (fun H locs hP hD hS => ?_)
  have hP : va_P (dC, dI) vwCl [(h0, .inr (9, [.ref qk, .ref qv, .ref ql, .int 0, .ref qt, .int 0, .int 0, .int 0, .ref qh, .ref qc, .ref qst, .ref qz, .int 0])), (qk, .inl (cqk, 6001, .inl fqk)), (qv, .inl (cqv, 6001, .inl fqv)), (ql, .inl (cql, 6001, .inl fql)), (qh, .inl (cqh, 256, .inl fqh)), (qt, .inl (cy, 6000, .inl f))] H := hP
  have hD : va_D A [(h0, .inr (9, [.ref qk, .ref qv, .ref ql, .int 0, .ref qt, .int 0, .int 0, .int 0, .ref qh, .ref qc, .ref qst, .ref qz, .int 0])), (qk, .inl (cqk, 6001, .inl fqk)), (qv, .inl (cqv, 6001, .inl fqv)), (ql, .inl (cql, 6001, .inl fql)), (qh, .inl (cqh, 256, .inl fqh)), (qt, .inl (cy, 6000, .inl f))] := hD
  refine lv_aload_n hx hb dX7_scan_5 rfl (lv_at hl 0 rfl) ?_
  refine lv_iload_n hx hb dX7_scan_6 rfl (lv_at hl 2 rfl) ?_
  refine lv_aload_n hx hb dX7_scan_7 rfl (lv_at hl 1 rfl) ?_
  refine va_alen (v := 6000) hx hb hK hP 5 4 rfl rfl rfl dX7_scan_8 ?_
  refine va_mmin hx hb (hml.trans hl.1.symm) hown (hts (.methodLink RX7 37 Lib.Math.min.name) (List.mem_of_getElem? (i := 2) rfl)) (hts (.static Lib.Math.min.name) (List.mem_of_getElem? (i := 3) rfl)) (hts (.initialized "java/lang/Math") (List.mem_of_getElem? (i := 4) rfl)) (hts (.code Lib.Math.min.name Lib.Math.min.code 2 (some .int)) (List.mem_of_getElem? (i := 5) rfl)) (Nat.le_of_ble_eq_true rfl) (Nat.le_of_ble_eq_true rfl) (Nat.le_of_ble_eq_true rfl) (Nat.le_of_ble_eq_true rfl) dX7_scan_9 ?_
  refine lv_topi (fun y9 e9 => ?_)
  have e9 : y9 = 0 := by rw [e9]; decide
  subst e9
  refine va_put (D := (dC, dI)) (ci := 9) (v := .int 0) (ty := .int) (C := RX7) (T := TX7) (N := 13) hx hb hts in_cc_scan_RX7 tyX7 tyX7_ok nmX7 hown hK hP hD hS 0 rfl rfl 5 (by decide) (hts (.fieldLink RX7 43 "LevelUnits$Scanner" "size" "I") (List.mem_of_getElem? (i := 6) rfl)) (fun _ h9 => h9) rfl (by decide +kernel) rfl rfl (Nat.le_of_ble_eq_true rfl) dX7_scan_12 (fun H locs hP hD hS => ?_)
  have hP : va_P (dC, dI) vwCl [(h0, .inr (9, [.ref qk, .ref qv, .ref ql, .int 0, .ref qt, .int 0, .int 0, .int 0, .ref qh, .ref qc, .ref qst, .ref qz, .int 0])), (qk, .inl (cqk, 6001, .inl fqk)), (qv, .inl (cqv, 6001, .inl fqv)), (ql, .inl (cql, 6001, .inl fql)), (qh, .inl (cqh, 256, .inl fqh)), (qt, .inl (cy, 6000, .inl f))] H := hP
  have hD : va_D A [(h0, .inr (9, [.ref qk, .ref qv, .ref ql, .int 0, .ref qt, .int 0, .int 0, .int 0, .ref qh, .ref qc, .ref qst, .ref qz, .int 0])), (qk, .inl (cqk, 6001, .inl fqk)), (qv, .inl (cqv, 6001, .inl fqv)), (ql, .inl (cql, 6001, .inl fql)), (qh, .inl (cqh, 256, .inl fqh)), (qt, .inl (cy, 6000, .inl f))] := hD
  refine lv_aload_n hx hb dX7_scan_15 rfl (lv_at hl 0 rfl) ?_
  refine lv_iconst (v := 0) hx hb dX7_scan_16 (by decide) ?_
  refine va_put (D := (dC, dI)) (ci := 9) (v := .int 0) (ty := .int) (C := RX7) (T := TX7) (N := 13) hx hb hts in_cc_scan_RX7 tyX7 tyX7_ok nmX7 hown hK hP hD hS 0 rfl rfl 6 (by decide) (hts (.fieldLink RX7 47 "LevelUnits$Scanner" "at" "I") (List.mem_of_getElem? (i := 7) rfl)) (fun _ h9 => h9) rfl (by decide +kernel) rfl rfl (Nat.le_of_ble_eq_true rfl) dX7_scan_17 (fun H locs hP hD hS => ?_)
  have hP : va_P (dC, dI) vwCl [(h0, .inr (9, [.ref qk, .ref qv, .ref ql, .int 0, .ref qt, .int 0, .int 0, .int 0, .ref qh, .ref qc, .ref qst, .ref qz, .int 0])), (qk, .inl (cqk, 6001, .inl fqk)), (qv, .inl (cqv, 6001, .inl fqv)), (ql, .inl (cql, 6001, .inl fql)), (qh, .inl (cqh, 256, .inl fqh)), (qt, .inl (cy, 6000, .inl f))] H := hP
  have hD : va_D A [(h0, .inr (9, [.ref qk, .ref qv, .ref ql, .int 0, .ref qt, .int 0, .int 0, .int 0, .ref qh, .ref qc, .ref qst, .ref qz, .int 0])), (qk, .inl (cqk, 6001, .inl fqk)), (qv, .inl (cqv, 6001, .inl fqv)), (ql, .inl (cql, 6001, .inl fql)), (qh, .inl (cqh, 256, .inl fqh)), (qt, .inl (cy, 6000, .inl f))] := hD
  refine lv_aload_n hx hb dX7_scan_20 rfl (lv_at hl 0 rfl) ?_
  refine lv_iconst (v := 1) hx hb dX7_scan_21 (by decide) ?_
  refine va_put (D := (dC, dI)) (ci := 9) (v := .int 1) (ty := .int) (C := RX7) (T := TX7) (N := 13) hx hb hts in_cc_scan_RX7 tyX7 tyX7_ok nmX7 hown hK hP hD hS 0 rfl rfl 7 (by decide) (hts (.fieldLink RX7 50 "LevelUnits$Scanner" "line" "I") (List.mem_of_getElem? (i := 8) rfl)) (fun _ h9 => h9) rfl (by decide +kernel) rfl rfl (Nat.le_of_ble_eq_true rfl) dX7_scan_22 (fun H locs hP hD hS => ?_)
  have hP : va_P (dC, dI) vwCl [(h0, .inr (9, [.ref qk, .ref qv, .ref ql, .int 0, .ref qt, .int 0, .int 0, .int 1, .ref qh, .ref qc, .ref qst, .ref qz, .int 0])), (qk, .inl (cqk, 6001, .inl fqk)), (qv, .inl (cqv, 6001, .inl fqv)), (ql, .inl (cql, 6001, .inl fql)), (qh, .inl (cqh, 256, .inl fqh)), (qt, .inl (cy, 6000, .inl f))] H := hP
  have hD : va_D A [(h0, .inr (9, [.ref qk, .ref qv, .ref ql, .int 0, .ref qt, .int 0, .int 0, .int 1, .ref qh, .ref qc, .ref qst, .ref qz, .int 0])), (qk, .inl (cqk, 6001, .inl fqk)), (qv, .inl (cqv, 6001, .inl fqv)), (ql, .inl (cql, 6001, .inl fql)), (qh, .inl (cqh, 256, .inl fqh)), (qt, .inl (cy, 6000, .inl f))] := hD
  refine lv_aload_n hx hb dX7_scan_25 rfl (lv_at hl 0 rfl) ?_
  refine lv_iconst (v := 0) hx hb dX7_scan_26 (by decide) ?_
  refine va_put (D := (dC, dI)) (ci := 9) (v := .int 0) (ty := .int) (C := RX7) (T := TX7) (N := 13) hx hb hts in_cc_scan_RX7 tyX7 tyX7_ok nmX7 hown hK hP hD hS 0 rfl rfl 3 (by decide) (hts (.fieldLink RX7 53 "LevelUnits$Scanner" "tokens" "I") (List.mem_of_getElem? (i := 9) rfl)) (fun _ h9 => h9) rfl (by decide +kernel) rfl rfl (Nat.le_of_ble_eq_true rfl) dX7_scan_27 (fun H locs hP hD hS => ?_)
  have hP : va_P (dC, dI) vwCl [(h0, .inr (9, [.ref qk, .ref qv, .ref ql, .int 0, .ref qt, .int 0, .int 0, .int 1, .ref qh, .ref qc, .ref qst, .ref qz, .int 0])), (qk, .inl (cqk, 6001, .inl fqk)), (qv, .inl (cqv, 6001, .inl fqv)), (ql, .inl (cql, 6001, .inl fql)), (qh, .inl (cqh, 256, .inl fqh)), (qt, .inl (cy, 6000, .inl f))] H := hP
  have hD : va_D A [(h0, .inr (9, [.ref qk, .ref qv, .ref ql, .int 0, .ref qt, .int 0, .int 0, .int 1, .ref qh, .ref qc, .ref qst, .ref qz, .int 0])), (qk, .inl (cqk, 6001, .inl fqk)), (qv, .inl (cqv, 6001, .inl fqv)), (ql, .inl (cql, 6001, .inl fql)), (qh, .inl (cqh, 256, .inl fqh)), (qt, .inl (cy, 6000, .inl f))] := hD
  refine lv_aload_n hx hb dX7_scan_30 rfl (lv_at hl 0 rfl) ?_
  refine lv_iconst (v := 0) hx hb dX7_scan_31 (by decide) ?_
  refine va_put (D := (dC, dI)) (ci := 9) (v := .int 0) (ty := .int) (C := RX7) (T := TX7) (N := 13) hx hb hts in_cc_scan_RX7 tyX7 tyX7_ok nmX7 hown hK hP hD hS 0 rfl rfl 12 (by decide) (hts (.fieldLink RX7 56 "LevelUnits$Scanner" "names" "I") (List.mem_of_getElem? (i := 10) rfl)) (fun _ h9 => h9) rfl (by decide +kernel) rfl rfl (Nat.le_of_ble_eq_true rfl) dX7_scan_32 (fun H locs hP hD hS => ?_)
  have hP : va_P (dC, dI) vwCl [(h0, .inr (9, [.ref qk, .ref qv, .ref ql, .int 0, .ref qt, .int 0, .int 0, .int 1, .ref qh, .ref qc, .ref qst, .ref qz, .int 0])), (qk, .inl (cqk, 6001, .inl fqk)), (qv, .inl (cqv, 6001, .inl fqv)), (ql, .inl (cql, 6001, .inl fql)), (qh, .inl (cqh, 256, .inl fqh)), (qt, .inl (cy, 6000, .inl f))] H := hP
  have hD : va_D A [(h0, .inr (9, [.ref qk, .ref qv, .ref ql, .int 0, .ref qt, .int 0, .int 0, .int 1, .ref qh, .ref qc, .ref qst, .ref qz, .int 0])), (qk, .inl (cqk, 6001, .inl fqk)), (qv, .inl (cqv, 6001, .inl fqv)), (ql, .inl (cql, 6001, .inl fql)), (qh, .inl (cqh, 256, .inl fqh)), (qt, .inl (cy, 6000, .inl f))] := hD
  refine lv_aload_n hx hb dX7_scan_35 rfl (lv_at hl 0 rfl) ?_
  refine va_get (D := (dC, dI)) (ci := 9) (v := .ref qh) (C := RX7) (T := TX7) (N := 13) hx hb hts in_cc_scan_RX7 hown hK hP 0 rfl rfl 8 (by decide) (hts (.fieldLink RX7 21 "LevelUnits$Scanner" "heads" "[I") (List.mem_of_getElem? (i := 11) rfl)) (fun _ h9 => h9) rfl dX7_scan_36 ?_
  refine lv_iconst (v := (-1)) hx hb dX7_scan_39 (by decide) ?_
  have hPc := hP.sub (ws' := [(qh, .inl (cqh, 256, .inl fqh))]) [4] rfl
  have hDc := hD.sub (ws' := [(qh, .inl (cqh, 256, .inl fqh))]) [4] (by decide) rfl
  have hKc := hK.sub (tys' := [(cqh, .int)]) [3] rfl
  have hFc := va_free (wc := [(qh, .inl (cqh, 256, .inl fqh))]) hD hS hA [4] rfl
  refine va_callv (va_runS (As := [.ref qh, .int ((-1))]) (rest := []) ⟨hx, hb, hml, hown, hts⟩ (cc_fill l dC dI qh cqh fqh ((-1)) H.size) (va_cwS 2 hts gg_cc_scan_cc_fill_59 rfl rfl rfl (by decide +kernel) ⟨(Nat.le_of_ble_eq_true rfl), (Nat.le_of_ble_eq_true rfl)⟩) ⟨fun a U g mk q => by obtain ⟨q0, q1, qP, qK, qD⟩ := q; exact ⟨q0, q1, qP, va_K.moved (u := U) (U := U.calling g mk a) (Vm.Alike.refl U.vm) qK, qD⟩, fun U hU hW => ⟨rfl, by rw [hU], by rw [hU]; exact hPc, va_K.moved hW.alike hKc, hDc.weaken (fun _ _ _ _ => trivial)⟩⟩ rfl rfl hl.1 rfl (lv_room (Nat.le_of_ble_eq_true rfl)) dX7_scan_40 ⟨(Nat.le_of_ble_eq_true rfl), (Nat.le_of_ble_eq_true rfl)⟩) hS (fun q _ h => hFc q h) hFc (fun u t H1 locs ht hvm hw hB hz1 hk1 hS => ?_)
  obtain ⟨f_1, hP1, hK1, hD1⟩ := hB
  rw [ht] at hP1
  have hK1 := va_K.moved hvm.symm hK1
  obtain ⟨hP, hD⟩ := va_join (wr := [(h0, .inr (9, [.ref qk, .ref qv, .ref ql, .int 0, .ref qt, .int 0, .int 0, .int 1, .ref qh, .ref qc, .ref qst, .ref qz, .int 0])), (qk, .inl (cqk, 6001, .inl fqk)), (qv, .inl (cqv, 6001, .inl fqv)), (ql, .inl (cql, 6001, .inl fql)), (qt, .inl (cy, 6000, .inl f))]) (w1 := [(qh, .inl (cqh, 256, .inl f_1))]) hP hD [4] [0, 1, 2, 3, 5] rfl rfl (by decide) (by decide) hk1 hFc hP1 hD1
  have hK := (hK.sub (tys' := [(cqk, .int), (cqv, .int), (cql, .int), (cy, .byte)]) [0, 1, 2, 4] rfl).app hK1
  generalize H1 = H at hP hS ⊢
  have hK : va_K (dC, dI) vwCl [(cqk, .int), (cqv, .int), (cql, .int), (cy, .byte), (cqh, .int)] s := hK
  have hP : va_P (dC, dI) vwCl [(h0, .inr (9, [.ref qk, .ref qv, .ref ql, .int 0, .ref qt, .int 0, .int 0, .int 1, .ref qh, .ref qc, .ref qst, .ref qz, .int 0])), (qk, .inl (cqk, 6001, .inl fqk)), (qv, .inl (cqv, 6001, .inl fqv)), (ql, .inl (cql, 6001, .inl fql)), (qt, .inl (cy, 6000, .inl f)), (qh, .inl (cqh, 256, .inl f_1))] H := hP
  have hD : va_D A [(h0, .inr (9, [.ref qk, .ref qv, .ref ql, .int 0, .ref qt, .int 0, .int 0, .int 1, .ref qh, .ref qc, .ref qst, .ref qz, .int 0])), (qk, .inl (cqk, 6001, .inl fqk)), (qv, .inl (cqv, 6001, .inl fqv)), (ql, .inl (cql, 6001, .inl fql)), (qt, .inl (cy, 6000, .inl f)), (qh, .inl (cqh, 256, .inl f_1))] := hD
  refine W.widen (k := 0) (n := 0) (Nat.le_of_ble_eq_true rfl) (Nat.le_of_ble_eq_true rfl) ?_
  refine lv_iconst (v := 1) hx hb dX7_scan_43 (by decide) ?_
  refine lv_istore_n (lv' := [(3, .int 1), (0, .ref h0), (1, .ref qt), (2, .int 0)]) hx hb dX7_scan_44 rfl hl (by decide) rfl (fun ls hl => ?_)
  refine lv_iconst (v := 0) hx hb dX7_scan_45 (by decide) ?_
  refine lv_istore (lv' := [(4, .int 0), (3, .int 1), (0, .ref h0), (1, .ref qt), (2, .int 0)]) hx hb dX7_scan_46 hl (by decide) rfl (fun ls hl => ?_)
  refine lv_iload hx hb dX7_scan_48 (lv_at hl 0 rfl) ?_
  refine lv_sipush (v := 6000) hx hb dX7_scan_50 (by decide) ?_
  refine lv_icmp_gt (tgt := 71) hx hb dX7_scan_53 (by decide) (fun c9 => absurd c9 (by decide)) (fun c9 => ?_)
  clear c9
  refine lv_iload_n hx hb dX7_scan_56 rfl (lv_at hl 1 rfl) ?_
  refine lv_if_eq (tgt := 71) hx hb dX7_scan_57 (by decide) (fun c9 => absurd c9 (by decide)) (fun c9 => ?_)
  clear c9
  refine lv_aload_n hx hb dX7_scan_60 rfl (lv_at hl 2 rfl) ?_
  have hPc := hP.sub (ws' := [(h0, .inr (9, [.ref qk, .ref qv, .ref ql, .int 0, .ref qt, .int 0, .int 0, .int 1, .ref qh, .ref qc, .ref qst, .ref qz, .int 0])), (qk, .inl (cqk, 6001, .inl fqk)), (qv, .inl (cqv, 6001, .inl fqv)), (ql, .inl (cql, 6001, .inl fql))]) [0, 1, 2, 3] rfl
  have hDc := hD.sub (ws' := [(h0, .inr (9, [.ref qk, .ref qv, .ref ql, .int 0, .ref qt, .int 0, .int 0, .int 1, .ref qh, .ref qc, .ref qst, .ref qz, .int 0])), (qk, .inl (cqk, 6001, .inl fqk)), (qv, .inl (cqv, 6001, .inl fqv)), (ql, .inl (cql, 6001, .inl fql))]) [0, 1, 2, 3] (by decide) rfl
  have hKc := hK.sub (tys' := [(cqk, .int), (cqv, .int), (cql, .int)]) [0, 1, 2] rfl
  have hFc := va_free (wc := [(h0, .inr (9, [.ref qk, .ref qv, .ref ql, .int 0, .ref qt, .int 0, .int 0, .int 1, .ref qh, .ref qc, .ref qst, .ref qz, .int 0])), (qk, .inl (cqk, 6001, .inl fqk)), (qv, .inl (cqv, 6001, .inl fqv)), (ql, .inl (cql, 6001, .inl fql))]) hD hS hA [0, 1, 2, 3] rfl
  refine va_calli (va_runV (As := []) (rest := []) ⟨hx, hb, hml, hown, hts⟩ (cc_scanToken l dC dI h0 qk qv ql qh qc qst qz qt cqk cqv cql fqk fqv fql H.size) (cwV 0 hts gg_cc_scan_cc_scanToken_65 rfl rfl rfl (by decide +kernel) ⟨(Nat.le_of_ble_eq_true rfl), (Nat.le_of_ble_eq_true rfl)⟩) ⟨fun a U g mk q => by obtain ⟨q0, q1, qP, qK, qD⟩ := q; exact ⟨q0, q1, qP, va_K.moved (u := U) (U := U.calling g mk a) (Vm.Alike.refl U.vm) qK, qD⟩, va_recv hKc hPc (ci := 9) (q0 := 0) rfl rfl, fun U hU hW => ⟨rfl, by rw [hU], by rw [hU]; exact hPc, va_K.moved hW.alike hKc, hDc.weaken (fun _ _ _ _ => trivial)⟩⟩ rfl rfl hl.1 rfl (lv_room (Nat.le_of_ble_eq_true rfl)) dX7_scan_61 ⟨(Nat.le_of_ble_eq_true rfl), (Nat.le_of_ble_eq_true rfl)⟩) hS (fun q _ h => hFc q h) hFc (fun r9 u t H1 locs ht hvm hw hB hz1 hk1 hS => ?_)
  obtain ⟨f_2, f_3, f_4, hf_5, hf_6, hf_7, hP1, hK1, hD1⟩ := hB
  rw [ht] at hP1
  have hK1 := va_K.moved hvm.symm hK1
  obtain ⟨hP, hD⟩ := va_join (wr := [(qt, .inl (cy, 6000, .inl f)), (qh, .inl (cqh, 256, .inl f_1))]) (w1 := [(h0, .inr (9, [.ref qk, .ref qv, .ref ql, .int 0, .ref qt, .int 0, .int 0, .int 1, .ref qh, .ref qc, .ref qst, .ref qz, .int 0])), (qk, .inl (cqk, 6001, .inl f_2)), (qv, .inl (cqv, 6001, .inl f_3)), (ql, .inl (cql, 6001, .inl f_4))]) hP hD [0, 1, 2, 3] [4, 5] rfl rfl (by decide) (by decide) hk1 hFc hP1 hD1
  have hK := (hK.sub (tys' := [(cy, .byte), (cqh, .int)]) [3, 4] rfl).app hK1
  generalize H1 = H at hP hS ⊢
  have hK : va_K (dC, dI) vwCl [(cy, .byte), (cqh, .int), (cqk, .int), (cqv, .int), (cql, .int)] s := hK
  have hP : va_P (dC, dI) vwCl [(qt, .inl (cy, 6000, .inl f)), (qh, .inl (cqh, 256, .inl f_1)), (h0, .inr (9, [.ref qk, .ref qv, .ref ql, .int 0, .ref qt, .int 0, .int 0, .int 1, .ref qh, .ref qc, .ref qst, .ref qz, .int 0])), (qk, .inl (cqk, 6001, .inl f_2)), (qv, .inl (cqv, 6001, .inl f_3)), (ql, .inl (cql, 6001, .inl f_4))] H := hP
  have hD : va_D A [(qt, .inl (cy, 6000, .inl f)), (qh, .inl (cqh, 256, .inl f_1)), (h0, .inr (9, [.ref qk, .ref qv, .ref ql, .int 0, .ref qt, .int 0, .int 0, .int 1, .ref qh, .ref qc, .ref qst, .ref qz, .int 0])), (qk, .inl (cqk, 6001, .inl f_2)), (qv, .inl (cqv, 6001, .inl f_3)), (ql, .inl (cql, 6001, .inl f_4))] := hD
  refine W.widen (k := 0) (n := 0) (Nat.le_of_ble_eq_true rfl) (Nat.le_of_ble_eq_true rfl) ?_
  obtain rfl : r9 = 0 := hw
  refine lv_istore_n (lv' := [(3, .int 0), (4, .int 0), (0, .ref h0), (1, .ref qt), (2, .int 0)]) hx hb dX7_scan_64 rfl hl (by decide) rfl (fun ls hl => ?_)
  refine lv_iinc (v := 1) (lv' := [(4, .int 1), (3, .int 0), (0, .ref h0), (1, .ref qt), (2, .int 0)]) hx hb dX7_scan_65 hl (k := 1) rfl (by decide) (by decide) rfl (fun ls hl => ?_)
  refine lv_goto (tgt := 48) hx hb dX7_scan_68 (by decide) ?_
  refine lv_iload hx hb dX7_scan_48 (lv_at hl 0 rfl) ?_
  refine lv_sipush (v := 6000) hx hb dX7_scan_50 (by decide) ?_
  refine lv_icmp_gt (tgt := 71) hx hb dX7_scan_53 (by decide) (fun c9 => absurd c9 (by decide)) (fun c9 => ?_)
  clear c9
  refine lv_iload_n hx hb dX7_scan_56 rfl (lv_at hl 1 rfl) ?_
  refine lv_if_eq (tgt := 71) hx hb dX7_scan_57 (by decide) (fun c9 => ?_) (fun c9 => absurd (by decide) c9)
  clear c9
  have hP9 := hP.sub (ws' := [(qt, .inl (cy, 6000, .inl f)), (qh, .inl (cqh, 256, .inl f_1)), (h0, .inr (9, [.ref qk, .ref qv, .ref ql, .int 0, .ref qt, .int 0, .int 0, .int 1, .ref qh, .ref qc, .ref qst, .ref qz, .int 0])), (qk, .inl (cqk, 6001, .inl f_2)), (qv, .inl (cqv, 6001, .inl f_3)), (ql, .inl (cql, 6001, .inl f_4))]) [0, 1, 2, 3, 4, 5] rfl
  have hD9 := hD.sub (ws' := [(qt, .inl (cy, 6000, .inl f)), (qh, .inl (cqh, 256, .inl f_1)), (h0, .inr (9, [.ref qk, .ref qv, .ref ql, .int 0, .ref qt, .int 0, .int 0, .int 1, .ref qh, .ref qc, .ref qst, .ref qz, .int 0])), (qk, .inl (cqk, 6001, .inl f_2)), (qv, .inl (cqv, 6001, .inl f_3)), (ql, .inl (cql, 6001, .inl f_4))]) [0, 1, 2, 3, 4, 5] (by decide) rfl
  have hK9 := hK.sub (tys' := [(cy, .byte), (cqh, .int), (cqk, .int), (cqv, .int), (cql, .int)]) [0, 1, 2, 3, 4] rfl
  refine W.widen (k := 0) (n := 0) (Nat.le_of_ble_eq_true rfl) (Nat.le_of_ble_eq_true rfl) ?_
  exact W.vret hx hb hr (fun t ht hW => ⟨⟨(), rfl, trivial, f_1, f_2, f_3, f_4, hf_5, hf_6, hf_7, by rw [ht]; exact hP9, va_K.moved hW.alike hK9, hD9⟩, hS.F ht⟩) hS.2.2 dX7_scan_71
