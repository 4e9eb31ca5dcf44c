set_option maxHeartbeats 1000000 in
/-- a row of its own for a field of the model, which is not looked at again -/
theorem mstep {p : Program} {l : Launch} {e : Env} {R : Room} {s : State} {m : MethodId} {args : Array Value} {below : List Frame} {meth : Method} {c : Code} {H H0 : Heap} {locs : List Loc} {cells slots : Nat} {Q : State → Prop} {ls : Array Slot} {rest : List Value} {dC : Nat → ClassId} {dI : Nat → Nat → Nat} {A : Nat → Prop} {tys : List (ClassId × FieldType)} {X : va_W} {F : Nat → Value} {h0 pc : Nat} {Ts : List Cond}
    (hx : p.tables.exec = Jvm.exec) (hb : c.code = cX13_init) (hts : ∀ w ∈ Ts, w.before args s = true) (hin : ∀ w ∈ wsX130, w ∈ Ts) (hown : s.vm.findClass RX13 = some m.cls) (hi : meth.name = "<init>") (hK : va_K (dC, dI) vwCl tys s) (hP : va_P (dC, dI) vwCl ((h0, .inr (15, fl 134 F)) :: X) H) (hD : va_D A ((h0, .inr (15, fl 134 F)) :: X)) (hS : va_S A H0 H locs) (hA : ∀ q, H0.size ≤ q → A q)
    {atype : ArrayType} {ty : FieldType} {n : Int32} {N' : Nat} {a0 : vp_A} (harr : (Cond.arrayClass (newarray.typeOf atype)).before args s = true) (hty : newarray.typeOf atype = ty) (ha : ∀ cA : ClassId, vp_cell cA a0 = arrV cA N' (fun _ => defaultValue ty)) (hn : ¬ n < 0) (hN : n.toNatClampNeg = N') (hbytes : N' * componentBytes ty ≤ 536870912) (hcells : cells + 1 ≤ R.cells) (hslots : slots + N' ≤ R.slots) (d0 : decode cX13_init pc = .ok (.newarray atype, 2))
    (k : Nat) (hk : k < 134) {index : Nat} (hlink : (Cond.fieldLink RX13 index "LevelUnitsModel" (TX13 k).2.1 (TX13 k).2.2.1).before args s = true) (hsame : ∀ x, s.fieldFound? (TX13 k).1 (TX13 k).2.1 (TX13 k).2.2.1 = some x → s.fieldFound? "LevelUnitsModel" (TX13 k).2.1 (TX13 k).2.2.1 = some x) (hfin : (TX13 k).2.2.2 = true) (hdecl : (TX13 k).1 = RX13) (hd : parseFieldDescriptor (TX13 k).2.2.1 = some (.array ty)) (d1 : decode cX13_init (pc + 2) = .ok (.putfield index, 3))
    (kk : ∀ (q : Nat) (F2 : Nat → Value) (H2 : Heap) (locs2 : List Loc), F2 = fu F k (.ref q) → va_P (dC, dI) vwCl ((h0, .inr (15, fl 134 F2)) :: X) H2 → va_D A ((h0, .inr (15, fl 134 F2)) :: X) → va_S A H0 H2 locs2 → W p l e R s m args below meth c H2 locs2 (cells + 1) (slots + N') Q (F0 m (pc + 5) ls rest)) :
    W p l e R s m args below meth c H locs cells slots Q (F0 m pc ls (.int n :: .ref h0 :: rest)) := by
  refine va_newa hx hb harr hty hK hP hD hS hA ha hn hN hbytes hcells hslots d0 (fun q cA H1 hK1 hP1 hD1 hS1 => ?_)
  refine va_putF (D := (dC, dI)) (ci := 15) (v := .ref q) (ty := .array ty) (C := RX13) (T := TX13) (N := 134) (fs := fl 134 F) hx hb hts hin tyX13 tyX13_ok nmX13 hown hK1 hP1 hD1 hS1 0 rfl rfl k hk hlink hsame hfin hi hdecl hd rfl rfl (fl_lt hk) d1 (fun H2 locs2 hP2 hD2 hS2 => ?_)
  refine kk q (fu F k (.ref q)) H2 locs2 rfl ?_ ?_ hS2
  · rw [← fl_set hk]; exact va_P_pre (w2 := [(q, .inl (cA, a0))]) hP2
  · rw [← fl_set hk]; exact va_D_pre (w2 := [(q, .inl (cA, a0))]) hD2
set_option maxHeartbeats 1000000 in
theorem mkeep {p : Program} {l : Launch} {e : Env} {R : Room} {s : State} {m : MethodId} {args : Array Value} {below : List Frame} {meth : Method} {c : Code} {H H0 : Heap} {locs : List Loc} {cells slots : Nat} {Q : State → Prop} {ls : Array Slot} {rest : List Value} {dC : Nat → ClassId} {dI : Nat → Nat → Nat} {A : Nat → Prop} {tys : List (ClassId × FieldType)} {X : va_W} {F : Nat → Value} {h0 pc : Nat} {Ts : List Cond}
    (hx : p.tables.exec = Jvm.exec) (hb : c.code = cX13_init) (hts : ∀ w ∈ Ts, w.before args s = true) (hin : ∀ w ∈ wsX130, w ∈ Ts) (hown : s.vm.findClass RX13 = some m.cls) (hi : meth.name = "<init>") (hK : va_K (dC, dI) vwCl tys s) (hP : va_P (dC, dI) vwCl ((h0, .inr (15, fl 134 F)) :: X) H) (hD : va_D A ((h0, .inr (15, fl 134 F)) :: X)) (hS : va_S A H0 H locs) (hA : ∀ q, H0.size ≤ q → A q)
    {atype : ArrayType} {ty : FieldType} {n : Int32} {N' : Nat} {a0 : vp_A} (harr : (Cond.arrayClass (newarray.typeOf atype)).before args s = true) (hty : newarray.typeOf atype = ty) (ha : ∀ cA : ClassId, vp_cell cA a0 = arrV cA N' (fun _ => defaultValue ty)) (hn : ¬ n < 0) (hN : n.toNatClampNeg = N') (hbytes : N' * componentBytes ty ≤ 536870912) (hcells : cells + 1 ≤ R.cells) (hslots : slots + N' ≤ R.slots) (d0 : decode cX13_init pc = .ok (.newarray atype, 2))
    (k : Nat) (hk : k < 134) {index : Nat} (hlink : (Cond.fieldLink RX13 index "LevelUnitsModel" (TX13 k).2.1 (TX13 k).2.2.1).before args s = true) (hsame : ∀ x, s.fieldFound? (TX13 k).1 (TX13 k).2.1 (TX13 k).2.2.1 = some x → s.fieldFound? "LevelUnitsModel" (TX13 k).2.1 (TX13 k).2.2.1 = some x) (hfin : (TX13 k).2.2.2 = true) (hdecl : (TX13 k).1 = RX13) (hd : parseFieldDescriptor (TX13 k).2.2.1 = some (.array ty)) (d1 : decode cX13_init (pc + 2) = .ok (.putfield index, 3))
    (kk : ∀ (q : Nat) (cA : ClassId) (F2 : Nat → Value) (H2 : Heap) (locs2 : List Loc), F2 = fu F k (.ref q) → va_K (dC, dI) vwCl (tys ++ [(cA, ty)]) s → va_P (dC, dI) vwCl ((h0, .inr (15, fl 134 F2)) :: (X ++ [(q, .inl (cA, a0))])) H2 → va_D A ((h0, .inr (15, fl 134 F2)) :: (X ++ [(q, .inl (cA, a0))])) → va_S A H0 H2 locs2 → W p l e R s m args below meth c H2 locs2 (cells + 1) (slots + N') Q (F0 m (pc + 5) ls rest)) :
    W p l e R s m args below meth c H locs cells slots Q (F0 m pc ls (.int n :: .ref h0 :: rest)) := by
  refine va_newa hx hb harr hty hK hP hD hS hA ha hn hN hbytes hcells hslots d0 (fun q cA H1 hK1 hP1 hD1 hS1 => ?_)
  refine va_putF (D := (dC, dI)) (ci := 15) (v := .ref q) (ty := .array ty) (C := RX13) (T := TX13) (N := 134) (fs := fl 134 F) hx hb hts hin tyX13 tyX13_ok nmX13 hown hK1 hP1 hD1 hS1 0 rfl rfl k hk hlink hsame hfin hi hdecl hd rfl rfl (fl_lt hk) d1 (fun H2 locs2 hP2 hD2 hS2 => ?_)
  refine kk q cA (fu F k (.ref q)) H2 locs2 rfl hK1 ?_ ?_ hS2
  · rw [← fl_set hk]; exact hP2
  · rw [← fl_set hk]; exact hD2
def ws_cc_Model_init : List Cond := .code yX13_init cX13_init 1 none :: ([.methodLink RX13 1 objectInit, .instanceMethod objectInit, .code objectInit ⟨#[0xb1]⟩ 1 none, .classLink RX13 7 RX12, .instantiable RX12 6, .initialized RX12, .methodLink RTh 1 objectInit, .fieldLink RTh 7 "java/lang/Throwable" "cause" "Ljava/lang/Throwable;", .fieldLink RTh 13 "java/lang/Throwable" "UNASSIGNED_STACK" "[Ljava/lang/StackTraceElement;", .fieldLink RTh 17 "java/lang/Throwable" "stackTrace" "[Ljava/lang/StackTraceElement;", .fieldLink RTh 20 "java/lang/Throwable" "SUPPRESSED_SENTINEL" "Ljava/util/List;", .fieldLink RTh 24 "java/lang/Throwable" "suppressedExceptions" "Ljava/util/List;", .fieldLink RTh 31 "java/lang/Throwable" "detailMessage" "Ljava/lang/String;", .code yTh_init cTh_init 5 none, .initialized RTh, .methodLink REx 16 yTh_init, .instanceMethod yTh_init, .code yEx_init cEx_init 5 none, .initialized REx, .methodLink RRt 16 yEx_init, .instanceMethod yEx_init, .code yRt_init cRt_init 5 none, .initialized RRt, .methodLink RX12 1 yRt_init, .instanceMethod yRt_init, .code yX12_init cX12_init 1 none, .methodLink RX13 9 yX12_init, .instanceMethod yX12_init, .fieldLink RX13 10 "LevelUnitsModel" "stop" "LLevelUnitsModel$Stop;", .arrayClass .byte, .fieldLink RX13 16 "LevelUnitsModel" "tape" "[B", .fieldLink RX13 20 "LevelUnitsModel" "text" "[B", .arrayClass .int, .fieldLink RX13 23 "LevelUnitsModel" "tSort" "[I", .fieldLink RX13 27 "LevelUnitsModel" "tValue" "[I", .fieldLink RX13 30 "LevelUnitsModel" "tLine" "[I", .fieldLink RX13 33 "LevelUnitsModel" "nameFrom" "[I", .fieldLink RX13 36 "LevelUnitsModel" "nameSize" "[I", .fieldLink RX13 39 "LevelUnitsModel" "letters" "[B", .fieldLink RX13 42 "LevelUnitsModel" "nk" "[I", .fieldLink RX13 45 "LevelUnitsModel" "nl" "[I", .fieldLink RX13 48 "LevelUnitsModel" "na" "[I", .fieldLink RX13 51 "LevelUnitsModel" "nb" "[I", .fieldLink RX13 54 "LevelUnitsModel" "nc" "[I", .fieldLink RX13 57 "LevelUnitsModel" "nd" "[I", .fieldLink RX13 60 "LevelUnitsModel" "ne" "[I", .fieldLink RX13 63 "LevelUnitsModel" "nn" "[I", .fieldLink RX13 66 "LevelUnitsModel" "ns" "[I", .fieldLink RX13 69 "LevelUnitsModel" "nu" "[I", .fieldLink RX13 72 "LevelUnitsModel" "nf" "[I", .fieldLink RX13 75 "LevelUnitsModel" "nm" "[I", .fieldLink RX13 78 "LevelUnitsModel" "unitNode" "[I", .fieldLink RX13 81 "LevelUnitsModel" "yName" "[I", .fieldLink RX13 84 "LevelUnitsModel" "yKind" "[I", .fieldLink RX13 87 "LevelUnitsModel" "yNode" "[I", .fieldLink RX13 90 "LevelUnitsModel" "yWhat" "[I", .fieldLink RX13 93 "LevelUnitsModel" "yFrom" "[I", .fieldLink RX13 96 "LevelUnitsModel" "yUntil" "[I", .fieldLink RX13 99 "LevelUnitsModel" "face" "[I", .arrayClass .boolean, .fieldLink RX13 102 "LevelUnitsModel" "isModule" "[Z", .fieldLink RX13 106 "LevelUnitsModel" "vKind" "[I", .fieldLink RX13 109 "LevelUnitsModel" "vType" "[I", .fieldLink RX13 112 "LevelUnitsModel" "vAt" "[I", .fieldLink RX13 115 "LevelUnitsModel" "pTold" "[I", .fieldLink RX13 118 "LevelUnitsModel" "pMade" "[I", .fieldLink RX13 121 "LevelUnitsModel" "typeNode" "[I", .fieldLink RX13 124 "LevelUnitsModel" "seenName" "[I", .fieldLink RX13 127 "LevelUnitsModel" "seenVariable" "[I", .fieldLink RX13 130 "LevelUnitsModel" "joined" "[I", .fieldLink RX13 133 "LevelUnitsModel" "trailed" "[I", .constant RX13 136 (64000), .fieldLink RX13 137 "LevelUnitsModel" "pairA" "[I", .fieldLink RX13 140 "LevelUnitsModel" "pairB" "[I", .fieldLink RX13 143 "LevelUnitsModel" "reveal" "[I", .fieldLink RX13 146 "LevelUnitsModel" "ownType" "[I", .fieldLink RX13 149 "LevelUnitsModel" "chain" "[I", .fieldLink RX13 152 "LevelUnitsModel" "inChain" "[I", .fieldLink RX13 155 "LevelUnitsModel" "onWay" "[I", .fieldLink RX13 158 "LevelUnitsModel" "cellsKnown" "[I", .fieldLink RX13 161 "LevelUnitsModel" "holdsItself" "[Z", .fieldLink RX13 164 "LevelUnitsModel" "isMet" "[Z", .fieldLink RX13 167 "LevelUnitsModel" "procedureType" "[I", .fieldLink RX13 170 "LevelUnitsModel" "et" "[I", .fieldLink RX13 173 "LevelUnitsModel" "tryNode" "[I", .fieldLink RX13 176 "LevelUnitsModel" "pCells" "[I", .fieldLink RX13 179 "LevelUnitsModel" "pAll" "[I", .fieldLink RX13 182 "LevelUnitsModel" "mem" "[I", .fieldLink RX13 185 "LevelUnitsModel" "thingType" "[I", .fieldLink RX13 188 "LevelUnitsModel" "thingAt" "[I", .fieldLink RX13 191 "LevelUnitsModel" "thingCells" "[I", .fieldLink RX13 194 "LevelUnitsModel" "holder" "[I", .fieldLink RX13 197 "LevelUnitsModel" "isCondition" "[Z", .fieldLink RX13 200 "LevelUnitsModel" "wants" "[I", .fieldLink RX13 203 "LevelUnitsModel" "wantsOf" "[I", .fieldLink RX13 206 "LevelUnitsModel" "wantsHow" "[I", .fieldLink RX13 209 "LevelUnitsModel" "ticket" "[I", .fieldLink RX13 212 "LevelUnitsModel" "over" "[I", .fieldLink RX13 215 "LevelUnitsModel" "overLine" "[I", .fieldLink RX13 218 "LevelUnitsModel" "overWhat" "[I", .fieldLink RX13 221 "LevelUnitsModel" "overNumber" "[I", .fieldLink RX13 224 "LevelUnitsModel" "openCalls" "[I", .fieldLink RX13 227 "LevelUnitsModel" "openCells" "[I", .fieldLink RX13 230 "LevelUnitsModel" "base" "[I", .fieldLink RX13 233 "LevelUnitsModel" "stackTop" "[I", .fieldLink RX13 236 "LevelUnitsModel" "entries" "[I", .fieldLink RX13 239 "LevelUnitsModel" "todo" "[I", .fieldLink RX13 242 "LevelUnitsModel" "out" "[I", .fieldLink RX13 245 "LevelUnitsModel" "failure" "LLevelUnitsModel$Stop;", .fieldLink RX13 248 "LevelUnitsModel" "argument" "[I"] ++ wsX120 ++ wsX130)
theorem in_cc_Model_init_RX12 : ∀ w ∈ wsX120, w ∈ ws_cc_Model_init := fun _ h => List.mem_cons_of_mem _ (List.mem_append_left _ (List.mem_append_right _ h))
theorem in_cc_Model_init_RX13 : ∀ w ∈ wsX130, w ∈ ws_cc_Model_init := fun _ h => List.mem_cons_of_mem _ (List.mem_append_right _ h)
theorem g0_cc_Model_init_cc_Stop_init_9 : GoodIn ws_cc_Model_init ws_cc_Stop_init := goodIn_r _ [26, 7, 2, 3, 8, 9, 10, 11, 12, 13, 14, 15, 16, 17, 18, 19, 20, 21, 22, 23, 24, 25, 111, 112, 113, 114, 115, 116] (by decide +kernel) (by decide +kernel)
theorem gg_cc_Model_init_cc_Stop_init_9 : GoodIn ws_cc_Model_init ws_cc_Stop_init := g0_cc_Model_init_cc_Stop_init_9
set_option maxHeartbeats 4000000 in
set_option maxRecDepth 100000 in
/-- LevelUnitsModel() -/
theorem cc_Model_init (l : Launch) (dC : Nat → ClassId) (dI : Nat → Nat → Nat) (h0 : Nat) (F : Nat → Value) (sz : Nat) (hk0 : F 0 = .int 0) (hk3 : F 3 = .int 0) (hk98 : F 98 = .int 0) (hk100 : F 100 = .int 0) : Met l yX13_init ws_cc_Model_init ({ frames := 5, cells := 78, slots := 638712, locals := 104 }) (va_Pc [.ref h0] (fun U => U.heap.size = sz ∧ va_P (dC, dI) vwCl [(h0, .inr (15, fl 134 F))] U.heap ∧ va_K (dC, dI) vwCl [] U ∧ va_D (fun _ => True) [(h0, .inr (15, fl 134 F))] ∧ vx_Zq "java/lang/Throwable" "UNASSIGNED_STACK" "[Ljava/lang/StackTraceElement;" (va_A [(h0, .inr (15, fl 134 F))] sz) U U.heap ∧ vx_Zq "java/lang/Throwable" "SUPPRESSED_SENTINEL" "Ljava/util/List;" (va_A [(h0, .inr (15, fl 134 F))] sz) U U.heap)) (va_Qv (fun _ : Unit => True) (fun _ t => ∃ F_a : Nat → Value, ∃ q_a : Nat, ∃ q_b : Nat, ∃ q_c : Nat, ∃ q_d : Nat, ∃ q_e : Nat, ∃ q_f : Nat, ∃ q_g : Nat, ∃ q_h : Nat, ∃ cy_a : ClassId, ∃ cy_b : ClassId, ∃ cy_c : ClassId, ∃ cy_d : ClassId, ∃ cy_e : ClassId, ∃ cy_f : ClassId, ∃ cy_g : ClassId, F_a 0 = .int 0 ∧ F_a 3 = .int 0 ∧ F_a 98 = .int 0 ∧ F_a 100 = .int 0 ∧ F_a 2 = .ref q_a ∧ F_a 15 = .ref q_b ∧ F_a 13 = .ref q_c ∧ F_a 14 = .ref q_d ∧ F_a 9 = .ref q_e ∧ F_a 10 = .ref q_f ∧ F_a 11 = .ref q_g ∧ F_a 1 = .ref q_h ∧ va_P (dC, dI) vwCl [(h0, .inr (15, fl 134 F_a)), (q_h, .inr (14, [.null, .null, .null, .null, .null, .int 0])), (q_a, .inl (cy_a, 6000, .inl (fun _ => 0))), (q_e, .inl (cy_b, 6002, .inl (fun _ => 0))), (q_f, .inl (cy_c, 6002, .inl (fun _ => 0))), (q_g, .inl (cy_d, 6002, .inl (fun _ => 0))), (q_c, .inl (cy_e, 6000, .inl (fun _ => 0))), (q_d, .inl (cy_f, 6000, .inl (fun _ => 0))), (q_b, .inl (cy_g, 6600, .inl (fun _ => 0)))] t.heap ∧ va_K (dC, dI) vwCl [(cy_a, .byte), (cy_b, .int), (cy_c, .int), (cy_d, .int), (cy_e, .int), (cy_f, .int), (cy_g, .byte)] t ∧ va_D (va_A [(h0, .inr (15, fl 134 F))] sz) [(h0, .inr (15, fl 134 F_a)), (q_h, .inr (14, [.null, .null, .null, .null, .null, .int 0])), (q_a, .inl (cy_a, 6000, .inl (fun _ => 0))), (q_e, .inl (cy_b, 6002, .inl (fun _ => 0))), (q_f, .inl (cy_c, 6002, .inl (fun _ => 0))), (q_g, .inl (cy_d, 6002, .inl (fun _ => 0))), (q_c, .inl (cy_e, 6000, .inl (fun _ => 0))), (q_d, .inl (cy_f, 6000, .inl (fun _ => 0))), (q_b, .inl (cy_g, 6600, .inl (fun _ => 0)))]) (va_A [(h0, .inr (15, fl 134 F))] sz)) 78 638712 (va_A [(h0, .inr (15, fl 134 F))] sz) := by
  refine Met.ofW (cc := cX13_init) (maxL := 1) (ret := none) (by decide) rfl ?_
  intro p e s m args below meth c s₁ B hml hv
  obtain ⟨rfl, hsz, hP, hK, hD0, hN0, hN1⟩ := hv
  have hx := B.exec
  have hb := B.bytes
  have hr := B.returns
  have hts := atoms_spec (ws := ws_cc_Model_init) B.pre
  have hown : s.vm.findClass RX13 = some m.cls := findClass_of_methodNamed B.named
  have hlocks := B.notSynchronized
  have hin : meth.name = "<init>" := (name_of_methodNamed B.named B.method).1
  subst hsz
  have hD := hD0.self (sz := s.heap.size)
  generalize hAe : va_A [(h0, .inr (15, fl 134 F))] s.heap.size = A at hD hN0 hN1 ⊢
  have hA : ∀ q : Nat, s.heap.size ≤ q → A q := fun q h => by rw [← hAe]; exact Or.inr h
  have hS : va_S A s.heap s.heap [] := va_S.rf
  have hP : va_P (dC, dI) vwCl [(h0, .inr (15, fl 134 F))] s.heap := hP
  have hl := lv_entry ([.ref h0]) (n := 1) (Nat.le_of_ble_eq_true rfl)
  rw [lg_entry_eq]
  generalize (lg_sl ([.ref h0]) ++ List.replicate (1 - (lg_sl ([.ref h0])).length) Slot.unset).toArray = ls at hl ⊢
  have hl : lv_has ls 1 [(0, .ref h0)] := hl
  refine lv_aload_n hx hb dX13_init_0 rfl (lv_at hl 0 rfl) ?_
  refine W.objInit hx hb hown (hts (.methodLink RX13 1 objectInit) (List.mem_of_getElem? (i := 1) rfl)) (hts (.instanceMethod objectInit) (List.mem_of_getElem? (i := 2) rfl)) (hts (.code objectInit ⟨#[0xb1]⟩ 1 none) (List.mem_of_getElem? (i := 3) rfl)) rfl (by rw [hml]; exact hl.1) rfl dX13_init_1 (Nat.le_of_ble_eq_true rfl) (Nat.le_of_ble_eq_true rfl) ?_
  refine W.eq (g2 := F0 m 4 ls []) rfl ?_
  refine lv_aload_n hx hb dX13_init_4 rfl (lv_at hl 0 rfl) ?_
  refine va_new (ci := 14) (fs := [.null, .null, .null, .null, .null, .int 0]) (C := RX12) (T := TX12) (N := 6) hx hb hts in_cc_Model_init_RX12 tyX12 tyX12_ok hown (hts (.classLink RX13 7 RX12) (List.mem_of_getElem? (i := 4) rfl)) (hts (.instantiable RX12 6) (List.mem_of_getElem? (i := 5) rfl)) (hts (.initialized RX12) (List.mem_of_getElem? (i := 6) rfl)) hK hP hD hS hA rfl (fun j hj => by rcases (show j = 0 ∨ j = 1 ∨ j = 2 ∨ j = 3 ∨ j = 4 ∨ j = 5 by omega) with rfl | rfl | rfl | rfl | rfl | rfl <;> rfl) (Nat.le_of_ble_eq_true rfl) (Nat.le_of_ble_eq_true rfl) dX13_init_5 (fun q_1 H hP hD hS => ?_)
  have hP : va_P (dC, dI) vwCl [(h0, .inr (15, fl 134 F)), (q_1, .inr (14, [.null, .null, .null, .null, .null, .int 0]))] H := hP
  have hD : va_D A [(h0, .inr (15, fl 134 F)), (q_1, .inr (14, [.null, .null, .null, .null, .null, .int 0]))] := hD
  refine W.widen (k := 1) (n := 6) (Nat.le_of_ble_eq_true rfl) (Nat.le_of_ble_eq_true rfl) ?_
  refine lv_dup hx hb dX13_init_8 rfl ?_
  have hPc := hP.sub (ws' := [(q_1, .inr (14, [.null, .null, .null, .null, .null, .int 0]))]) [1] rfl
  have hDc := hD.sub (ws' := [(q_1, .inr (14, [.null, .null, .null, .null, .null, .int 0]))]) [1] (by decide) rfl
  have hKc := hK.sub (tys' := []) [] rfl
  have hFc := va_free (wc := [(q_1, .inr (14, [.null, .null, .null, .null, .null, .int 0]))]) hD hS hA [1] rfl
  refine va_callv (va_runI (As := []) (rest := [.ref q_1, .ref h0]) ⟨hx, hb, hml, hown, hts⟩ (cc_Stop_init l dC dI q_1 H.size) (cwI 0 hts gg_cc_Model_init_cc_Stop_init_9 rfl rfl rfl (hts (.initialized RX12) (List.mem_of_getElem? (i := 6) rfl)) (hts (.methodLink RX13 9 yX12_init) (List.mem_of_getElem? (i := 27) rfl)) (hts (.instanceMethod yX12_init) (List.mem_of_getElem? (i := 28) rfl)) rfl (by decide +kernel) ⟨(Nat.le_of_ble_eq_true rfl), (Nat.le_of_ble_eq_true rfl)⟩) ⟨fun a U g mk q => by obtain ⟨q0, q1, qP, qK, qD, qN0, qN1⟩ := q; exact ⟨q0, q1, qP, va_K.moved (u := U) (U := U.calling g mk a) (Vm.Alike.refl U.vm) qK, qD, vx_Zq.moved (u := U) (U := U.calling g mk a) (Vm.Alike.refl U.vm) qN0, vx_Zq.moved (u := U) (U := U.calling g mk a) (Vm.Alike.refl U.vm) qN1⟩, fun U hU hW => ⟨rfl, by rw [hU], by rw [hU]; exact hPc, va_K.moved hW.alike hKc, hDc.weaken (fun _ _ _ _ => trivial), (by rw [hU]; exact vx_Zq.moved hW.alike ((hN0.kept (fun a h1 h2 => hS.2.1 a h1 h2)).narrow hFc)), (by rw [hU]; exact vx_Zq.moved hW.alike ((hN1.kept (fun a h1 h2 => hS.2.1 a h1 h2)).narrow hFc))⟩⟩ rfl rfl hl.1 rfl (lv_room (Nat.le_of_ble_eq_true rfl)) dX13_init_9 ⟨(Nat.le_of_ble_eq_true rfl), (Nat.le_of_ble_eq_true rfl)⟩) hS (fun q _ h => hFc q h) hFc (fun u t H1 locs ht hvm hw hB hz1 hk1 hS => ?_)
  obtain ⟨hP1, hK1, hD1⟩ := hB
  rw [ht] at hP1
  have hK1 := va_K.moved hvm.symm hK1
  obtain ⟨hP, hD⟩ := va_join (wr := [(h0, .inr (15, fl 134 F))]) (w1 := [(q_1, .inr (14, [.null, .null, .null, .null, .null, .int 0]))]) hP hD [1] [0] rfl rfl (by decide) (by decide) hk1 hFc hP1 hD1
  have hK := (hK.sub (tys' := []) [] rfl).app hK1
  generalize H1 = H at hP hS ⊢
  have hK : va_K (dC, dI) vwCl [] s := hK
  have hP : va_P (dC, dI) vwCl [(h0, .inr (15, fl 134 F)), (q_1, .inr (14, [.null, .null, .null, .null, .null, .int 0]))] H := hP
  have hD : va_D A [(h0, .inr (15, fl 134 F)), (q_1, .inr (14, [.null, .null, .null, .null, .null, .int 0]))] := hD
  refine W.widen (k := 1) (n := 6) (Nat.le_of_ble_eq_true rfl) (Nat.le_of_ble_eq_true rfl) ?_
  refine va_putF (D := (dC, dI)) (ci := 15) (v := .ref q_1) (ty := .object "LevelUnitsModel$Stop") (C := RX13) (T := TX13) (N := 134) hx hb hts in_cc_Model_init_RX13 tyX13 tyX13_ok nmX13 hown hK hP hD hS 0 rfl rfl 1 (by decide) (hts (.fieldLink RX13 10 "LevelUnitsModel" "stop" "LLevelUnitsModel$Stop;") (List.mem_of_getElem? (i := 29) rfl)) (fun _ h9 => h9) rfl hin rfl (by decide +kernel) rfl rfl (fl_lt (by decide)) dX13_init_12 (fun H locs hP hD hS => ?_)
  obtain ⟨F_2, eF_2⟩ : ∃ z, z = fu F 1 (.ref q_1) := ⟨_, rfl⟩
  have hP : va_P (dC, dI) vwCl [(h0, .inr (15, fl 134 F_2)), (q_1, .inr (14, [.null, .null, .null, .null, .null, .int 0]))] H := by rw [eF_2, ← fl_set (n := 134) (k := 1) (by decide)]; exact hP
  have hD : va_D A [(h0, .inr (15, fl 134 F_2)), (q_1, .inr (14, [.null, .null, .null, .null, .null, .int 0]))] := by rw [eF_2, ← fl_set (n := 134) (k := 1) (by decide)]; exact hD
  refine lv_aload_n hx hb dX13_init_15 rfl (lv_at hl 0 rfl) ?_
  refine lv_sipush (v := 6000) hx hb dX13_init_16 (by decide) ?_
  refine mkeep (X := [(q_1, .inr (14, [.null, .null, .null, .null, .null, .int 0]))]) (F := F_2) (atype := .byte) (ty := .byte) (a0 := (6000, .inl (fun _ => 0))) (N' := 6000) hx hb hts in_cc_Model_init_RX13 hown hin hK hP hD hS hA (hts (.arrayClass .byte) (List.mem_of_getElem? (i := 30) rfl)) rfl (fun _ => rfl) (by decide) (by decide) (Nat.le_of_ble_eq_true rfl) (Nat.le_of_ble_eq_true rfl) (Nat.le_of_ble_eq_true rfl) dX13_init_19 2 (by decide) (hts (.fieldLink RX13 16 "LevelUnitsModel" "tape" "[B") (List.mem_of_getElem? (i := 31) rfl)) (fun _ h9 => h9) rfl rfl (by decide +kernel) dX13_init_21 (fun q_3 cy_4 F_5 H_j_6 locs_j_6 eF_5 hK_j_6 hP_j_6 hD_j_6 hS_j_6 => ?_)
  have k0_j_6 : F_5 0 = .int 0 := fu_ne eF_5 (by decide) (fu_ne eF_2 (by decide) hk0)
  have k3_j_6 : F_5 3 = .int 0 := fu_ne eF_5 (by decide) (fu_ne eF_2 (by decide) hk3)
  have k98_j_6 : F_5 98 = .int 0 := fu_ne eF_5 (by decide) (fu_ne eF_2 (by decide) hk98)
  have k100_j_6 : F_5 100 = .int 0 := fu_ne eF_5 (by decide) (fu_ne eF_2 (by decide) hk100)
  have k1_j_6 : F_5 1 = .ref q_1 := fu_ne eF_5 (by decide) (fu_eq eF_2)
  have k2_j_6 : F_5 2 = .ref q_3 := fu_eq eF_5
  clear eF_5  hP hD hS hK
  have hP : va_P (dC, dI) vwCl [(h0, .inr (15, fl 134 F_5)), (q_1, .inr (14, [.null, .null, .null, .null, .null, .int 0])), (q_3, .inl (cy_4, 6000, .inl (fun _ => 0)))] H_j_6 := hP_j_6
  have hD : va_D A [(h0, .inr (15, fl 134 F_5)), (q_1, .inr (14, [.null, .null, .null, .null, .null, .int 0])), (q_3, .inl (cy_4, 6000, .inl (fun _ => 0)))] := hD_j_6
  have hS := hS_j_6
  have hK : va_K (dC, dI) vwCl [(cy_4, .byte)] s := hK_j_6
  clear hP_j_6 hD_j_6 hS_j_6 hK_j_6
  refine W.widen (k := 2) (n := 6006) (Nat.le_of_ble_eq_true rfl) (Nat.le_of_ble_eq_true rfl) ?_
  refine lv_aload_n hx hb dX13_init_24 rfl (lv_at hl 0 rfl) ?_
  refine lv_sipush (v := 6000) hx hb dX13_init_25 (by decide) ?_
  refine mstep (X := [(q_1, .inr (14, [.null, .null, .null, .null, .null, .int 0])), (q_3, .inl (cy_4, 6000, .inl (fun _ => 0)))]) (F := F_5) (atype := .byte) (ty := .byte) (a0 := (6000, .inl (fun _ => 0))) (N' := 6000) hx hb hts in_cc_Model_init_RX13 hown hin hK hP hD hS hA (hts (.arrayClass .byte) (List.mem_of_getElem? (i := 30) rfl)) rfl (fun _ => rfl) (by decide) (by decide) (Nat.le_of_ble_eq_true rfl) (Nat.le_of_ble_eq_true rfl) (Nat.le_of_ble_eq_true rfl) dX13_init_28 4 (by decide) (hts (.fieldLink RX13 20 "LevelUnitsModel" "text" "[B") (List.mem_of_getElem? (i := 32) rfl)) (fun _ h9 => h9) rfl rfl (by decide +kernel) dX13_init_30 (fun q_7 F_9 H_j_10 locs_j_10 eF_9 hP_j_10 hD_j_10 hS_j_10 => ?_)
  have k0_j_10 : F_9 0 = .int 0 := fu_ne eF_9 (by decide) k0_j_6
  have k3_j_10 : F_9 3 = .int 0 := fu_ne eF_9 (by decide) k3_j_6
  have k98_j_10 : F_9 98 = .int 0 := fu_ne eF_9 (by decide) k98_j_6
  have k100_j_10 : F_9 100 = .int 0 := fu_ne eF_9 (by decide) k100_j_6
  have k1_j_10 : F_9 1 = .ref q_1 := fu_ne eF_9 (by decide) k1_j_6
  have k2_j_10 : F_9 2 = .ref q_3 := fu_ne eF_9 (by decide) k2_j_6
  clear eF_9 k0_j_6 k3_j_6 k98_j_6 k100_j_6 k1_j_6 k2_j_6 hP hD hS
  have hP : va_P (dC, dI) vwCl [(h0, .inr (15, fl 134 F_9)), (q_1, .inr (14, [.null, .null, .null, .null, .null, .int 0])), (q_3, .inl (cy_4, 6000, .inl (fun _ => 0)))] H_j_10 := hP_j_10
  have hD : va_D A [(h0, .inr (15, fl 134 F_9)), (q_1, .inr (14, [.null, .null, .null, .null, .null, .int 0])), (q_3, .inl (cy_4, 6000, .inl (fun _ => 0)))] := hD_j_10
  have hS := hS_j_10
  clear hP_j_10 hD_j_10 hS_j_10
  refine W.widen (k := 3) (n := 12006) (Nat.le_of_ble_eq_true rfl) (Nat.le_of_ble_eq_true rfl) ?_
  refine lv_aload_n hx hb dX13_init_33 rfl (lv_at hl 0 rfl) ?_
  refine lv_sipush (v := 6002) hx hb dX13_init_34 (by decide) ?_
  refine mkeep (X := [(q_1, .inr (14, [.null, .null, .null, .null, .null, .int 0])), (q_3, .inl (cy_4, 6000, .inl (fun _ => 0)))]) (F := F_9) (atype := .int) (ty := .int) (a0 := (6002, .inl (fun _ => 0))) (N' := 6002) hx hb hts in_cc_Model_init_RX13 hown hin hK hP hD hS hA (hts (.arrayClass .int) (List.mem_of_getElem? (i := 33) rfl)) rfl (fun _ => rfl) (by decide) (by decide) (Nat.le_of_ble_eq_true rfl) (Nat.le_of_ble_eq_true rfl) (Nat.le_of_ble_eq_true rfl) dX13_init_37 9 (by decide) (hts (.fieldLink RX13 23 "LevelUnitsModel" "tSort" "[I") (List.mem_of_getElem? (i := 34) rfl)) (fun _ h9 => h9) rfl rfl (by decide +kernel) dX13_init_39 (fun q_11 cy_12 F_13 H_j_14 locs_j_14 eF_13 hK_j_14 hP_j_14 hD_j_14 hS_j_14 => ?_)
  have k0_j_14 : F_13 0 = .int 0 := fu_ne eF_13 (by decide) k0_j_10
  have k3_j_14 : F_13 3 = .int 0 := fu_ne eF_13 (by decide) k3_j_10
  have k98_j_14 : F_13 98 = .int 0 := fu_ne eF_13 (by decide) k98_j_10
  have k100_j_14 : F_13 100 = .int 0 := fu_ne eF_13 (by decide) k100_j_10
  have k1_j_14 : F_13 1 = .ref q_1 := fu_ne eF_13 (by decide) k1_j_10
  have k2_j_14 : F_13 2 = .ref q_3 := fu_ne eF_13 (by decide) k2_j_10
  have k9_j_14 : F_13 9 = .ref q_11 := fu_eq eF_13
  clear eF_13 k0_j_10 k3_j_10 k98_j_10 k100_j_10 k1_j_10 k2_j_10 hP hD hS hK
  have hP : va_P (dC, dI) vwCl [(h0, .inr (15, fl 134 F_13)), (q_1, .inr (14, [.null, .null, .null, .null, .null, .int 0])), (q_3, .inl (cy_4, 6000, .inl (fun _ => 0))), (q_11, .inl (cy_12, 6002, .inl (fun _ => 0)))] H_j_14 := hP_j_14
  have hD : va_D A [(h0, .inr (15, fl 134 F_13)), (q_1, .inr (14, [.null, .null, .null, .null, .null, .int 0])), (q_3, .inl (cy_4, 6000, .inl (fun _ => 0))), (q_11, .inl (cy_12, 6002, .inl (fun _ => 0)))] := hD_j_14
  have hS := hS_j_14
  have hK : va_K (dC, dI) vwCl [(cy_4, .byte), (cy_12, .int)] s := hK_j_14
  clear hP_j_14 hD_j_14 hS_j_14 hK_j_14
  refine W.widen (k := 4) (n := 18008) (Nat.le_of_ble_eq_true rfl) (Nat.le_of_ble_eq_true rfl) ?_
  refine lv_aload_n hx hb dX13_init_42 rfl (lv_at hl 0 rfl) ?_
  refine lv_sipush (v := 6002) hx hb dX13_init_43 (by decide) ?_
  refine mkeep (X := [(q_1, .inr (14, [.null, .null, .null, .null, .null, .int 0])), (q_3, .inl (cy_4, 6000, .inl (fun _ => 0))), (q_11, .inl (cy_12, 6002, .inl (fun _ => 0)))]) (F := F_13) (atype := .int) (ty := .int) (a0 := (6002, .inl (fun _ => 0))) (N' := 6002) hx hb hts in_cc_Model_init_RX13 hown hin hK hP hD hS hA (hts (.arrayClass .int) (List.mem_of_getElem? (i := 33) rfl)) rfl (fun _ => rfl) (by decide) (by decide) (Nat.le_of_ble_eq_true rfl) (Nat.le_of_ble_eq_true rfl) (Nat.le_of_ble_eq_true rfl) dX13_init_46 10 (by decide) (hts (.fieldLink RX13 27 "LevelUnitsModel" "tValue" "[I") (List.mem_of_getElem? (i := 35) rfl)) (fun _ h9 => h9) rfl rfl (by decide +kernel) dX13_init_48 (fun q_15 cy_16 F_17 H_j_18 locs_j_18 eF_17 hK_j_18 hP_j_18 hD_j_18 hS_j_18 => ?_)
  have k0_j_18 : F_17 0 = .int 0 := fu_ne eF_17 (by decide) k0_j_14
  have k3_j_18 : F_17 3 = .int 0 := fu_ne eF_17 (by decide) k3_j_14
  have k98_j_18 : F_17 98 = .int 0 := fu_ne eF_17 (by decide) k98_j_14
  have k100_j_18 : F_17 100 = .int 0 := fu_ne eF_17 (by decide) k100_j_14
  have k1_j_18 : F_17 1 = .ref q_1 := fu_ne eF_17 (by decide) k1_j_14
  have k2_j_18 : F_17 2 = .ref q_3 := fu_ne eF_17 (by decide) k2_j_14
  have k9_j_18 : F_17 9 = .ref q_11 := fu_ne eF_17 (by decide) k9_j_14
  have k10_j_18 : F_17 10 = .ref q_15 := fu_eq eF_17
  clear eF_17 k0_j_14 k3_j_14 k98_j_14 k100_j_14 k1_j_14 k2_j_14 k9_j_14 hP hD hS hK
  have hP : va_P (dC, dI) vwCl [(h0, .inr (15, fl 134 F_17)), (q_1, .inr (14, [.null, .null, .null, .null, .null, .int 0])), (q_3, .inl (cy_4, 6000, .inl (fun _ => 0))), (q_11, .inl (cy_12, 6002, .inl (fun _ => 0))), (q_15, .inl (cy_16, 6002, .inl (fun _ => 0)))] H_j_18 := hP_j_18
  have hD : va_D A [(h0, .inr (15, fl 134 F_17)), (q_1, .inr (14, [.null, .null, .null, .null, .null, .int 0])), (q_3, .inl (cy_4, 6000, .inl (fun _ => 0))), (q_11, .inl (cy_12, 6002, .inl (fun _ => 0))), (q_15, .inl (cy_16, 6002, .inl (fun _ => 0)))] := hD_j_18
  have hS := hS_j_18
  have hK : va_K (dC, dI) vwCl [(cy_4, .byte), (cy_12, .int), (cy_16, .int)] s := hK_j_18
  clear hP_j_18 hD_j_18 hS_j_18 hK_j_18
  refine W.widen (k := 5) (n := 24010) (Nat.le_of_ble_eq_true rfl) (Nat.le_of_ble_eq_true rfl) ?_
  refine lv_aload_n hx hb dX13_init_51 rfl (lv_at hl 0 rfl) ?_
  refine lv_sipush (v := 6002) hx hb dX13_init_52 (by decide) ?_
  refine mkeep (X := [(q_1, .inr (14, [.null, .null, .null, .null, .null, .int 0])), (q_3, .inl (cy_4, 6000, .inl (fun _ => 0))), (q_11, .inl (cy_12, 6002, .inl (fun _ => 0))), (q_15, .inl (cy_16, 6002, .inl (fun _ => 0)))]) (F := F_17) (atype := .int) (ty := .int) (a0 := (6002, .inl (fun _ => 0))) (N' := 6002) hx hb hts in_cc_Model_init_RX13 hown hin hK hP hD hS hA (hts (.arrayClass .int) (List.mem_of_getElem? (i := 33) rfl)) rfl (fun _ => rfl) (by decide) (by decide) (Nat.le_of_ble_eq_true rfl) (Nat.le_of_ble_eq_true rfl) (Nat.le_of_ble_eq_true rfl) dX13_init_55 11 (by decide) (hts (.fieldLink RX13 30 "LevelUnitsModel" "tLine" "[I") (List.mem_of_getElem? (i := 36) rfl)) (fun _ h9 => h9) rfl rfl (by decide +kernel) dX13_init_57 (fun q_19 cy_20 F_21 H_j_22 locs_j_22 eF_21 hK_j_22 hP_j_22 hD_j_22 hS_j_22 => ?_)
  have k0_j_22 : F_21 0 = .int 0 := fu_ne eF_21 (by decide) k0_j_18
  have k3_j_22 : F_21 3 = .int 0 := fu_ne eF_21 (by decide) k3_j_18
  have k98_j_22 : F_21 98 = .int 0 := fu_ne eF_21 (by decide) k98_j_18
  have k100_j_22 : F_21 100 = .int 0 := fu_ne eF_21 (by decide) k100_j_18
  have k1_j_22 : F_21 1 = .ref q_1 := fu_ne eF_21 (by decide) k1_j_18
  have k2_j_22 : F_21 2 = .ref q_3 := fu_ne eF_21 (by decide) k2_j_18
  have k9_j_22 : F_21 9 = .ref q_11 := fu_ne eF_21 (by decide) k9_j_18
  have k10_j_22 : F_21 10 = .ref q_15 := fu_ne eF_21 (by decide) k10_j_18
  have k11_j_22 : F_21 11 = .ref q_19 := fu_eq eF_21
  clear eF_21 k0_j_18 k3_j_18 k98_j_18 k100_j_18 k1_j_18 k2_j_18 k9_j_18 k10_j_18 hP hD hS hK
  have hP : va_P (dC, dI) vwCl [(h0, .inr (15, fl 134 F_21)), (q_1, .inr (14, [.null, .null, .null, .null, .null, .int 0])), (q_3, .inl (cy_4, 6000, .inl (fun _ => 0))), (q_11, .inl (cy_12, 6002, .inl (fun _ => 0))), (q_15, .inl (cy_16, 6002, .inl (fun _ => 0))), (q_19, .inl (cy_20, 6002, .inl (fun _ => 0)))] H_j_22 := hP_j_22
  have hD : va_D A [(h0, .inr (15, fl 134 F_21)), (q_1, .inr (14, [.null, .null, .null, .null, .null, .int 0])), (q_3, .inl (cy_4, 6000, .inl (fun _ => 0))), (q_11, .inl (cy_12, 6002, .inl (fun _ => 0))), (q_15, .inl (cy_16, 6002, .inl (fun _ => 0))), (q_19, .inl (cy_20, 6002, .inl (fun _ => 0)))] := hD_j_22
  have hS := hS_j_22
  have hK : va_K (dC, dI) vwCl [(cy_4, .byte), (cy_12, .int), (cy_16, .int), (cy_20, .int)] s := hK_j_22
  clear hP_j_22 hD_j_22 hS_j_22 hK_j_22
  refine W.widen (k := 6) (n := 30012) (Nat.le_of_ble_eq_true rfl) (Nat.le_of_ble_eq_true rfl) ?_
  refine lv_aload_n hx hb dX13_init_60 rfl (lv_at hl 0 rfl) ?_
  refine lv_sipush (v := 6000) hx hb dX13_init_61 (by decide) ?_
  refine mkeep (X := [(q_1, .inr (14, [.null, .null, .null, .null, .null, .int 0])), (q_3, .inl (cy_4, 6000, .inl (fun _ => 0))), (q_11, .inl (cy_12, 6002, .inl (fun _ => 0))), (q_15, .inl (cy_16, 6002, .inl (fun _ => 0))), (q_19, .inl (cy_20, 6002, .inl (fun _ => 0)))]) (F := F_21) (atype := .int) (ty := .int) (a0 := (6000, .inl (fun _ => 0))) (N' := 6000) hx hb hts in_cc_Model_init_RX13 hown hin hK hP hD hS hA (hts (.arrayClass .int) (List.mem_of_getElem? (i := 33) rfl)) rfl (fun _ => rfl) (by decide) (by decide) (Nat.le_of_ble_eq_true rfl) (Nat.le_of_ble_eq_true rfl) (Nat.le_of_ble_eq_true rfl) dX13_init_64 13 (by decide) (hts (.fieldLink RX13 33 "LevelUnitsModel" "nameFrom" "[I") (List.mem_of_getElem? (i := 37) rfl)) (fun _ h9 => h9) rfl rfl (by decide +kernel) dX13_init_66 (fun q_23 cy_24 F_25 H_j_26 locs_j_26 eF_25 hK_j_26 hP_j_26 hD_j_26 hS_j_26 => ?_)
  have k0_j_26 : F_25 0 = .int 0 := fu_ne eF_25 (by decide) k0_j_22
  have k3_j_26 : F_25 3 = .int 0 := fu_ne eF_25 (by decide) k3_j_22
  have k98_j_26 : F_25 98 = .int 0 := fu_ne eF_25 (by decide) k98_j_22
  have k100_j_26 : F_25 100 = .int 0 := fu_ne eF_25 (by decide) k100_j_22
  have k1_j_26 : F_25 1 = .ref q_1 := fu_ne eF_25 (by decide) k1_j_22
  have k2_j_26 : F_25 2 = .ref q_3 := fu_ne eF_25 (by decide) k2_j_22
  have k9_j_26 : F_25 9 = .ref q_11 := fu_ne eF_25 (by decide) k9_j_22
  have k10_j_26 : F_25 10 = .ref q_15 := fu_ne eF_25 (by decide) k10_j_22
  have k11_j_26 : F_25 11 = .ref q_19 := fu_ne eF_25 (by decide) k11_j_22
  have k13_j_26 : F_25 13 = .ref q_23 := fu_eq eF_25
  clear eF_25 k0_j_22 k3_j_22 k98_j_22 k100_j_22 k1_j_22 k2_j_22 k9_j_22 k10_j_22 k11_j_22 hP hD hS hK
  have hP : va_P (dC, dI) vwCl [(h0, .inr (15, fl 134 F_25)), (q_1, .inr (14, [.null, .null, .null, .null, .null, .int 0])), (q_3, .inl (cy_4, 6000, .inl (fun _ => 0))), (q_11, .inl (cy_12, 6002, .inl (fun _ => 0))), (q_15, .inl (cy_16, 6002, .inl (fun _ => 0))), (q_19, .inl (cy_20, 6002, .inl (fun _ => 0))), (q_23, .inl (cy_24, 6000, .inl (fun _ => 0)))] H_j_26 := hP_j_26
  have hD : va_D A [(h0, .inr (15, fl 134 F_25)), (q_1, .inr (14, [.null, .null, .null, .null, .null, .int 0])), (q_3, .inl (cy_4, 6000, .inl (fun _ => 0))), (q_11, .inl (cy_12, 6002, .inl (fun _ => 0))), (q_15, .inl (cy_16, 6002, .inl (fun _ => 0))), (q_19, .inl (cy_20, 6002, .inl (fun _ => 0))), (q_23, .inl (cy_24, 6000, .inl (fun _ => 0)))] := hD_j_26
  have hS := hS_j_26
  have hK : va_K (dC, dI) vwCl [(cy_4, .byte), (cy_12, .int), (cy_16, .int), (cy_20, .int), (cy_24, .int)] s := hK_j_26
  clear hP_j_26 hD_j_26 hS_j_26 hK_j_26
  refine W.widen (k := 7) (n := 36012) (Nat.le_of_ble_eq_true rfl) (Nat.le_of_ble_eq_true rfl) ?_
  refine lv_aload_n hx hb dX13_init_69 rfl (lv_at hl 0 rfl) ?_
  refine lv_sipush (v := 6000) hx hb dX13_init_70 (by decide) ?_
  refine mkeep (X := [(q_1, .inr (14, [.null, .null, .null, .null, .null, .int 0])), (q_3, .inl (cy_4, 6000, .inl (fun _ => 0))), (q_11, .inl (cy_12, 6002, .inl (fun _ => 0))), (q_15, .inl (cy_16, 6002, .inl (fun _ => 0))), (q_19, .inl (cy_20, 6002, .inl (fun _ => 0))), (q_23, .inl (cy_24, 6000, .inl (fun _ => 0)))]) (F := F_25) (atype := .int) (ty := .int) (a0 := (6000, .inl (fun _ => 0))) (N' := 6000) hx hb hts in_cc_Model_init_RX13 hown hin hK hP hD hS hA (hts (.arrayClass .int) (List.mem_of_getElem? (i := 33) rfl)) rfl (fun _ => rfl) (by decide) (by decide) (Nat.le_of_ble_eq_true rfl) (Nat.le_of_ble_eq_true rfl) (Nat.le_of_ble_eq_true rfl) dX13_init_73 14 (by decide) (hts (.fieldLink RX13 36 "LevelUnitsModel" "nameSize" "[I") (List.mem_of_getElem? (i := 38) rfl)) (fun _ h9 => h9) rfl rfl (by decide +kernel) dX13_init_75 (fun q_27 cy_28 F_29 H_j_30 locs_j_30 eF_29 hK_j_30 hP_j_30 hD_j_30 hS_j_30 => ?_)
  have k0_j_30 : F_29 0 = .int 0 := fu_ne eF_29 (by decide) k0_j_26
  have k3_j_30 : F_29 3 = .int 0 := fu_ne eF_29 (by decide) k3_j_26
  have k98_j_30 : F_29 98 = .int 0 := fu_ne eF_29 (by decide) k98_j_26
  have k100_j_30 : F_29 100 = .int 0 := fu_ne eF_29 (by decide) k100_j_26
  have k1_j_30 : F_29 1 = .ref q_1 := fu_ne eF_29 (by decide) k1_j_26
  have k2_j_30 : F_29 2 = .ref q_3 := fu_ne eF_29 (by decide) k2_j_26
  have k9_j_30 : F_29 9 = .ref q_11 := fu_ne eF_29 (by decide) k9_j_26
  have k10_j_30 : F_29 10 = .ref q_15 := fu_ne eF_29 (by decide) k10_j_26
  have k11_j_30 : F_29 11 = .ref q_19 := fu_ne eF_29 (by decide) k11_j_26
  have k13_j_30 : F_29 13 = .ref q_23 := fu_ne eF_29 (by decide) k13_j_26
  have k14_j_30 : F_29 14 = .ref q_27 := fu_eq eF_29
  clear eF_29 k0_j_26 k3_j_26 k98_j_26 k100_j_26 k1_j_26 k2_j_26 k9_j_26 k10_j_26 k11_j_26 k13_j_26 hP hD hS hK
  have hP : va_P (dC, dI) vwCl [(h0, .inr (15, fl 134 F_29)), (q_1, .inr (14, [.null, .null, .null, .null, .null, .int 0])), (q_3, .inl (cy_4, 6000, .inl (fun _ => 0))), (q_11, .inl (cy_12, 6002, .inl (fun _ => 0))), (q_15, .inl (cy_16, 6002, .inl (fun _ => 0))), (q_19, .inl (cy_20, 6002, .inl (fun _ => 0))), (q_23, .inl (cy_24, 6000, .inl (fun _ => 0))), (q_27, .inl (cy_28, 6000, .inl (fun _ => 0)))] H_j_30 := hP_j_30
  have hD : va_D A [(h0, .inr (15, fl 134 F_29)), (q_1, .inr (14, [.null, .null, .null, .null, .null, .int 0])), (q_3, .inl (cy_4, 6000, .inl (fun _ => 0))), (q_11, .inl (cy_12, 6002, .inl (fun _ => 0))), (q_15, .inl (cy_16, 6002, .inl (fun _ => 0))), (q_19, .inl (cy_20, 6002, .inl (fun _ => 0))), (q_23, .inl (cy_24, 6000, .inl (fun _ => 0))), (q_27, .inl (cy_28, 6000, .inl (fun _ => 0)))] := hD_j_30
  have hS := hS_j_30
  have hK : va_K (dC, dI) vwCl [(cy_4, .byte), (cy_12, .int), (cy_16, .int), (cy_20, .int), (cy_24, .int), (cy_28, .int)] s := hK_j_30
  clear hP_j_30 hD_j_30 hS_j_30 hK_j_30
  refine W.widen (k := 8) (n := 42012) (Nat.le_of_ble_eq_true rfl) (Nat.le_of_ble_eq_true rfl) ?_
  refine lv_aload_n hx hb dX13_init_78 rfl (lv_at hl 0 rfl) ?_
  refine lv_sipush (v := 6600) hx hb dX13_init_79 (by decide) ?_
  refine mkeep (X := [(q_1, .inr (14, [.null, .null, .null, .null, .null, .int 0])), (q_3, .inl (cy_4, 6000, .inl (fun _ => 0))), (q_11, .inl (cy_12, 6002, .inl (fun _ => 0))), (q_15, .inl (cy_16, 6002, .inl (fun _ => 0))), (q_19, .inl (cy_20, 6002, .inl (fun _ => 0))), (q_23, .inl (cy_24, 6000, .inl (fun _ => 0))), (q_27, .inl (cy_28, 6000, .inl (fun _ => 0)))]) (F := F_29) (atype := .byte) (ty := .byte) (a0 := (6600, .inl (fun _ => 0))) (N' := 6600) hx hb hts in_cc_Model_init_RX13 hown hin hK hP hD hS hA (hts (.arrayClass .byte) (List.mem_of_getElem? (i := 30) rfl)) rfl (fun _ => rfl) (by decide) (by decide) (Nat.le_of_ble_eq_true rfl) (Nat.le_of_ble_eq_true rfl) (Nat.le_of_ble_eq_true rfl) dX13_init_82 15 (by decide) (hts (.fieldLink RX13 39 "LevelUnitsModel" "letters" "[B") (List.mem_of_getElem? (i := 39) rfl)) (fun _ h9 => h9) rfl rfl (by decide +kernel) dX13_init_84 (fun q_31 cy_32 F_33 H_j_34 locs_j_34 eF_33 hK_j_34 hP_j_34 hD_j_34 hS_j_34 => ?_)
  have k0_j_34 : F_33 0 = .int 0 := fu_ne eF_33 (by decide) k0_j_30
  have k3_j_34 : F_33 3 = .int 0 := fu_ne eF_33 (by decide) k3_j_30
  have k98_j_34 : F_33 98 = .int 0 := fu_ne eF_33 (by decide) k98_j_30
  have k100_j_34 : F_33 100 = .int 0 := fu_ne eF_33 (by decide) k100_j_30
  have k1_j_34 : F_33 1 = .ref q_1 := fu_ne eF_33 (by decide) k1_j_30
  have k2_j_34 : F_33 2 = .ref q_3 := fu_ne eF_33 (by decide) k2_j_30
  have k9_j_34 : F_33 9 = .ref q_11 := fu_ne eF_33 (by decide) k9_j_30
  have k10_j_34 : F_33 10 = .ref q_15 := fu_ne eF_33 (by decide) k10_j_30
  have k11_j_34 : F_33 11 = .ref q_19 := fu_ne eF_33 (by decide) k11_j_30
  have k13_j_34 : F_33 13 = .ref q_23 := fu_ne eF_33 (by decide) k13_j_30
  have k14_j_34 : F_33 14 = .ref q_27 := fu_ne eF_33 (by decide) k14_j_30
  have k15_j_34 : F_33 15 = .ref q_31 := fu_eq eF_33
  clear eF_33 k0_j_30 k3_j_30 k98_j_30 k100_j_30 k1_j_30 k2_j_30 k9_j_30 k10_j_30 k11_j_30 k13_j_30 k14_j_30 hP hD hS hK
  have hP : va_P (dC, dI) vwCl [(h0, .inr (15, fl 134 F_33)), (q_1, .inr (14, [.null, .null, .null, .null, .null, .int 0])), (q_3, .inl (cy_4, 6000, .inl (fun _ => 0))), (q_11, .inl (cy_12, 6002, .inl (fun _ => 0))), (q_15, .inl (cy_16, 6002, .inl (fun _ => 0))), (q_19, .inl (cy_20, 6002, .inl (fun _ => 0))), (q_23, .inl (cy_24, 6000, .inl (fun _ => 0))), (q_27, .inl (cy_28, 6000, .inl (fun _ => 0))), (q_31, .inl (cy_32, 6600, .inl (fun _ => 0)))] H_j_34 := hP_j_34
  have hD : va_D A [(h0, .inr (15, fl 134 F_33)), (q_1, .inr (14, [.null, .null, .null, .null, .null, .int 0])), (q_3, .inl (cy_4, 6000, .inl (fun _ => 0))), (q_11, .inl (cy_12, 6002, .inl (fun _ => 0))), (q_15, .inl (cy_16, 6002, .inl (fun _ => 0))), (q_19, .inl (cy_20, 6002, .inl (fun _ => 0))), (q_23, .inl (cy_24, 6000, .inl (fun _ => 0))), (q_27, .inl (cy_28, 6000, .inl (fun _ => 0))), (q_31, .inl (cy_32, 6600, .inl (fun _ => 0)))] := hD_j_34
  have hS := hS_j_34
  have hK : va_K (dC, dI) vwCl [(cy_4, .byte), (cy_12, .int), (cy_16, .int), (cy_20, .int), (cy_24, .int), (cy_28, .int), (cy_32, .byte)] s := hK_j_34
  clear hP_j_34 hD_j_34 hS_j_34 hK_j_34
  refine W.widen (k := 9) (n := 48612) (Nat.le_of_ble_eq_true rfl) (Nat.le_of_ble_eq_true rfl) ?_
  refine lv_aload_n hx hb dX13_init_87 rfl (lv_at hl 0 rfl) ?_
  refine lv_sipush (v := 16000) hx hb dX13_init_88 (by decide) ?_
  refine mstep (X := [(q_1, .inr (14, [.null, .null, .null, .null, .null, .int 0])), (q_3, .inl (cy_4, 6000, .inl (fun _ => 0))), (q_11, .inl (cy_12, 6002, .inl (fun _ => 0))), (q_15, .inl (cy_16, 6002, .inl (fun _ => 0))), (q_19, .inl (cy_20, 6002, .inl (fun _ => 0))), (q_23, .inl (cy_24, 6000, .inl (fun _ => 0))), (q_27, .inl (cy_28, 6000, .inl (fun _ => 0))), (q_31, .inl (cy_32, 6600, .inl (fun _ => 0)))]) (F := F_33) (atype := .int) (ty := .int) (a0 := (16000, .inl (fun _ => 0))) (N' := 16000) hx hb hts in_cc_Model_init_RX13 hown hin hK hP hD hS hA (hts (.arrayClass .int) (List.mem_of_getElem? (i := 33) rfl)) rfl (fun _ => rfl) (by decide) (by decide) (Nat.le_of_ble_eq_true rfl) (Nat.le_of_ble_eq_true rfl) (Nat.le_of_ble_eq_true rfl) dX13_init_91 20 (by decide) (hts (.fieldLink RX13 42 "LevelUnitsModel" "nk" "[I") (List.mem_of_getElem? (i := 40) rfl)) (fun _ h9 => h9) rfl rfl (by decide +kernel) dX13_init_93 (fun q_35 F_37 H_j_38 locs_j_38 eF_37 hP_j_38 hD_j_38 hS_j_38 => ?_)
  have k0_j_38 : F_37 0 = .int 0 := fu_ne eF_37 (by decide) k0_j_34
  have k3_j_38 : F_37 3 = .int 0 := fu_ne eF_37 (by decide) k3_j_34
  have k98_j_38 : F_37 98 = .int 0 := fu_ne eF_37 (by decide) k98_j_34
  have k100_j_38 : F_37 100 = .int 0 := fu_ne eF_37 (by decide) k100_j_34
  have k1_j_38 : F_37 1 = .ref q_1 := fu_ne eF_37 (by decide) k1_j_34
  have k2_j_38 : F_37 2 = .ref q_3 := fu_ne eF_37 (by decide) k2_j_34
  have k9_j_38 : F_37 9 = .ref q_11 := fu_ne eF_37 (by decide) k9_j_34
  have k10_j_38 : F_37 10 = .ref q_15 := fu_ne eF_37 (by decide) k10_j_34
  have k11_j_38 : F_37 11 = .ref q_19 := fu_ne eF_37 (by decide) k11_j_34
  have k13_j_38 : F_37 13 = .ref q_23 := fu_ne eF_37 (by decide) k13_j_34
  have k14_j_38 : F_37 14 = .ref q_27 := fu_ne eF_37 (by decide) k14_j_34
  have k15_j_38 : F_37 15 = .ref q_31 := fu_ne eF_37 (by decide) k15_j_34
  clear eF_37 k0_j_34 k3_j_34 k98_j_34 k100_j_34 k1_j_34 k2_j_34 k9_j_34 k10_j_34 k11_j_34 k13_j_34 k14_j_34 k15_j_34 hP hD hS
  have hP : va_P (dC, dI) vwCl [(h0, .inr (15, fl 134 F_37)), (q_1, .inr (14, [.null, .null, .null, .null, .null, .int 0])), (q_3, .inl (cy_4, 6000, .inl (fun _ => 0))), (q_11, .inl (cy_12, 6002, .inl (fun _ => 0))), (q_15, .inl (cy_16, 6002, .inl (fun _ => 0))), (q_19, .inl (cy_20, 6002, .inl (fun _ => 0))), (q_23, .inl (cy_24, 6000, .inl (fun _ => 0))), (q_27, .inl (cy_28, 6000, .inl (fun _ => 0))), (q_31, .inl (cy_32, 6600, .inl (fun _ => 0)))] H_j_38 := hP_j_38
  have hD : va_D A [(h0, .inr (15, fl 134 F_37)), (q_1, .inr (14, [.null, .null, .null, .null, .null, .int 0])), (q_3, .inl (cy_4, 6000, .inl (fun _ => 0))), (q_11, .inl (cy_12, 6002, .inl (fun _ => 0))), (q_15, .inl (cy_16, 6002, .inl (fun _ => 0))), (q_19, .inl (cy_20, 6002, .inl (fun _ => 0))), (q_23, .inl (cy_24, 6000, .inl (fun _ => 0))), (q_27, .inl (cy_28, 6000, .inl (fun _ => 0))), (q_31, .inl (cy_32, 6600, .inl (fun _ => 0)))] := hD_j_38
  have hS := hS_j_38
  clear hP_j_38 hD_j_38 hS_j_38
  refine W.widen (k := 10) (n := 64612) (Nat.le_of_ble_eq_true rfl) (Nat.le_of_ble_eq_true rfl) ?_
  refine lv_aload_n hx hb dX13_init_96 rfl (lv_at hl 0 rfl) ?_
  refine lv_sipush (v := 16000) hx hb dX13_init_97 (by decide) ?_
  refine mstep (X := [(q_1, .inr (14, [.null, .null, .null, .null, .null, .int 0])), (q_3, .inl (cy_4, 6000, .inl (fun _ => 0))), (q_11, .inl (cy_12, 6002, .inl (fun _ => 0))), (q_15, .inl (cy_16, 6002, .inl (fun _ => 0))), (q_19, .inl (cy_20, 6002, .inl (fun _ => 0))), (q_23, .inl (cy_24, 6000, .inl (fun _ => 0))), (q_27, .inl (cy_28, 6000, .inl (fun _ => 0))), (q_31, .inl (cy_32, 6600, .inl (fun _ => 0)))]) (F := F_37) (atype := .int) (ty := .int) (a0 := (16000, .inl (fun _ => 0))) (N' := 16000) hx hb hts in_cc_Model_init_RX13 hown hin hK hP hD hS hA (hts (.arrayClass .int) (List.mem_of_getElem? (i := 33) rfl)) rfl (fun _ => rfl) (by decide) (by decide) (Nat.le_of_ble_eq_true rfl) (Nat.le_of_ble_eq_true rfl) (Nat.le_of_ble_eq_true rfl) dX13_init_100 21 (by decide) (hts (.fieldLink RX13 45 "LevelUnitsModel" "nl" "[I") (List.mem_of_getElem? (i := 41) rfl)) (fun _ h9 => h9) rfl rfl (by decide +kernel) dX13_init_102 (fun q_39 F_41 H_j_42 locs_j_42 eF_41 hP_j_42 hD_j_42 hS_j_42 => ?_)
  have k0_j_42 : F_41 0 = .int 0 := fu_ne eF_41 (by decide) k0_j_38
  have k3_j_42 : F_41 3 = .int 0 := fu_ne eF_41 (by decide) k3_j_38
  have k98_j_42 : F_41 98 = .int 0 := fu_ne eF_41 (by decide) k98_j_38
  have k100_j_42 : F_41 100 = .int 0 := fu_ne eF_41 (by decide) k100_j_38
  have k1_j_42 : F_41 1 = .ref q_1 := fu_ne eF_41 (by decide) k1_j_38
  have k2_j_42 : F_41 2 = .ref q_3 := fu_ne eF_41 (by decide) k2_j_38
  have k9_j_42 : F_41 9 = .ref q_11 := fu_ne eF_41 (by decide) k9_j_38
  have k10_j_42 : F_41 10 = .ref q_15 := fu_ne eF_41 (by decide) k10_j_38
  have k11_j_42 : F_41 11 = .ref q_19 := fu_ne eF_41 (by decide) k11_j_38
  have k13_j_42 : F_41 13 = .ref q_23 := fu_ne eF_41 (by decide) k13_j_38
  have k14_j_42 : F_41 14 = .ref q_27 := fu_ne eF_41 (by decide) k14_j_38
  have k15_j_42 : F_41 15 = .ref q_31 := fu_ne eF_41 (by decide) k15_j_38
  clear eF_41 k0_j_38 k3_j_38 k98_j_38 k100_j_38 k1_j_38 k2_j_38 k9_j_38 k10_j_38 k11_j_38 k13_j_38 k14_j_38 k15_j_38 hP hD hS
  have hP : va_P (dC, dI) vwCl [(h0, .inr (15, fl 134 F_41)), (q_1, .inr (14, [.null, .null, .null, .null, .null, .int 0])), (q_3, .inl (cy_4, 6000, .inl (fun _ => 0))), (q_11, .inl (cy_12, 6002, .inl (fun _ => 0))), (q_15, .inl (cy_16, 6002, .inl (fun _ => 0))), (q_19, .inl (cy_20, 6002, .inl (fun _ => 0))), (q_23, .inl (cy_24, 6000, .inl (fun _ => 0))), (q_27, .inl (cy_28, 6000, .inl (fun _ => 0))), (q_31, .inl (cy_32, 6600, .inl (fun _ => 0)))] H_j_42 := hP_j_42
  have hD : va_D A [(h0, .inr (15, fl 134 F_41)), (q_1, .inr (14, [.null, .null, .null, .null, .null, .int 0])), (q_3, .inl (cy_4, 6000, .inl (fun _ => 0))), (q_11, .inl (cy_12, 6002, .inl (fun _ => 0))), (q_15, .inl (cy_16, 6002, .inl (fun _ => 0))), (q_19, .inl (cy_20, 6002, .inl (fun _ => 0))), (q_23, .inl (cy_24, 6000, .inl (fun _ => 0))), (q_27, .inl (cy_28, 6000, .inl (fun _ => 0))), (q_31, .inl (cy_32, 6600, .inl (fun _ => 0)))] := hD_j_42
  have hS := hS_j_42
  clear hP_j_42 hD_j_42 hS_j_42
  refine W.widen (k := 11) (n := 80612) (Nat.le_of_ble_eq_true rfl) (Nat.le_of_ble_eq_true rfl) ?_
  refine lv_aload_n hx hb dX13_init_105 rfl (lv_at hl 0 rfl) ?_
  refine lv_sipush (v := 16000) hx hb dX13_init_106 (by decide) ?_
  refine mstep (X := [(q_1, .inr (14, [.null, .null, .null, .null, .null, .int 0])), (q_3, .inl (cy_4, 6000, .inl (fun _ => 0))), (q_11, .inl (cy_12, 6002, .inl (fun _ => 0))), (q_15, .inl (cy_16, 6002, .inl (fun _ => 0))), (q_19, .inl (cy_20, 6002, .inl (fun _ => 0))), (q_23, .inl (cy_24, 6000, .inl (fun _ => 0))), (q_27, .inl (cy_28, 6000, .inl (fun _ => 0))), (q_31, .inl (cy_32, 6600, .inl (fun _ => 0)))]) (F := F_41) (atype := .int) (ty := .int) (a0 := (16000, .inl (fun _ => 0))) (N' := 16000) hx hb hts in_cc_Model_init_RX13 hown hin hK hP hD hS hA (hts (.arrayClass .int) (List.mem_of_getElem? (i := 33) rfl)) rfl (fun _ => rfl) (by decide) (by decide) (Nat.le_of_ble_eq_true rfl) (Nat.le_of_ble_eq_true rfl) (Nat.le_of_ble_eq_true rfl) dX13_init_109 22 (by decide) (hts (.fieldLink RX13 48 "LevelUnitsModel" "na" "[I") (List.mem_of_getElem? (i := 42) rfl)) (fun _ h9 => h9) rfl rfl (by decide +kernel) dX13_init_111 (fun q_43 F_45 H_j_46 locs_j_46 eF_45 hP_j_46 hD_j_46 hS_j_46 => ?_)
  have k0_j_46 : F_45 0 = .int 0 := fu_ne eF_45 (by decide) k0_j_42
  have k3_j_46 : F_45 3 = .int 0 := fu_ne eF_45 (by decide) k3_j_42
  have k98_j_46 : F_45 98 = .int 0 := fu_ne eF_45 (by decide) k98_j_42
  have k100_j_46 : F_45 100 = .int 0 := fu_ne eF_45 (by decide) k100_j_42
  have k1_j_46 : F_45 1 = .ref q_1 := fu_ne eF_45 (by decide) k1_j_42
  have k2_j_46 : F_45 2 = .ref q_3 := fu_ne eF_45 (by decide) k2_j_42
  have k9_j_46 : F_45 9 = .ref q_11 := fu_ne eF_45 (by decide) k9_j_42
  have k10_j_46 : F_45 10 = .ref q_15 := fu_ne eF_45 (by decide) k10_j_42
  have k11_j_46 : F_45 11 = .ref q_19 := fu_ne eF_45 (by decide) k11_j_42
  have k13_j_46 : F_45 13 = .ref q_23 := fu_ne eF_45 (by decide) k13_j_42
  have k14_j_46 : F_45 14 = .ref q_27 := fu_ne eF_45 (by decide) k14_j_42
  have k15_j_46 : F_45 15 = .ref q_31 := fu_ne eF_45 (by decide) k15_j_42
  clear eF_45 k0_j_42 k3_j_42 k98_j_42 k100_j_42 k1_j_42 k2_j_42 k9_j_42 k10_j_42 k11_j_42 k13_j_42 k14_j_42 k15_j_42 hP hD hS
  have hP : va_P (dC, dI) vwCl [(h0, .inr (15, fl 134 F_45)), (q_1, .inr (14, [.null, .null, .null, .null, .null, .int 0])), (q_3, .inl (cy_4, 6000, .inl (fun _ => 0))), (q_11, .inl (cy_12, 6002, .inl (fun _ => 0))), (q_15, .inl (cy_16, 6002, .inl (fun _ => 0))), (q_19, .inl (cy_20, 6002, .inl (fun _ => 0))), (q_23, .inl (cy_24, 6000, .inl (fun _ => 0))), (q_27, .inl (cy_28, 6000, .inl (fun _ => 0))), (q_31, .inl (cy_32, 6600, .inl (fun _ => 0)))] H_j_46 := hP_j_46
  have hD : va_D A [(h0, .inr (15, fl 134 F_45)), (q_1, .inr (14, [.null, .null, .null, .null, .null, .int 0])), (q_3, .inl (cy_4, 6000, .inl (fun _ => 0))), (q_11, .inl (cy_12, 6002, .inl (fun _ => 0))), (q_15, .inl (cy_16, 6002, .inl (fun _ => 0))), (q_19, .inl (cy_20, 6002, .inl (fun _ => 0))), (q_23, .inl (cy_24, 6000, .inl (fun _ => 0))), (q_27, .inl (cy_28, 6000, .inl (fun _ => 0))), (q_31, .inl (cy_32, 6600, .inl (fun _ => 0)))] := hD_j_46
  have hS := hS_j_46
  clear hP_j_46 hD_j_46 hS_j_46
  refine W.widen (k := 12) (n := 96612) (Nat.le_of_ble_eq_true rfl) (Nat.le_of_ble_eq_true rfl) ?_
  refine lv_aload_n hx hb dX13_init_114 rfl (lv_at hl 0 rfl) ?_
  refine lv_sipush (v := 16000) hx hb dX13_init_115 (by decide) ?_
  refine mstep (X := [(q_1, .inr (14, [.null, .null, .null, .null, .null, .int 0])), (q_3, .inl (cy_4, 6000, .inl (fun _ => 0))), (q_11, .inl (cy_12, 6002, .inl (fun _ => 0))), (q_15, .inl (cy_16, 6002, .inl (fun _ => 0))), (q_19, .inl (cy_20, 6002, .inl (fun _ => 0))), (q_23, .inl (cy_24, 6000, .inl (fun _ => 0))), (q_27, .inl (cy_28, 6000, .inl (fun _ => 0))), (q_31, .inl (cy_32, 6600, .inl (fun _ => 0)))]) (F := F_45) (atype := .int) (ty := .int) (a0 := (16000, .inl (fun _ => 0))) (N' := 16000) hx hb hts in_cc_Model_init_RX13 hown hin hK hP hD hS hA (hts (.arrayClass .int) (List.mem_of_getElem? (i := 33) rfl)) rfl (fun _ => rfl) (by decide) (by decide) (Nat.le_of_ble_eq_true rfl) (Nat.le_of_ble_eq_true rfl) (Nat.le_of_ble_eq_true rfl) dX13_init_118 23 (by decide) (hts (.fieldLink RX13 51 "LevelUnitsModel" "nb" "[I") (List.mem_of_getElem? (i := 43) rfl)) (fun _ h9 => h9) rfl rfl (by decide +kernel) dX13_init_120 (fun q_47 F_49 H_j_50 locs_j_50 eF_49 hP_j_50 hD_j_50 hS_j_50 => ?_)
  have k0_j_50 : F_49 0 = .int 0 := fu_ne eF_49 (by decide) k0_j_46
  have k3_j_50 : F_49 3 = .int 0 := fu_ne eF_49 (by decide) k3_j_46
  have k98_j_50 : F_49 98 = .int 0 := fu_ne eF_49 (by decide) k98_j_46
  have k100_j_50 : F_49 100 = .int 0 := fu_ne eF_49 (by decide) k100_j_46
  have k1_j_50 : F_49 1 = .ref q_1 := fu_ne eF_49 (by decide) k1_j_46
  have k2_j_50 : F_49 2 = .ref q_3 := fu_ne eF_49 (by decide) k2_j_46
  have k9_j_50 : F_49 9 = .ref q_11 := fu_ne eF_49 (by decide) k9_j_46
  have k10_j_50 : F_49 10 = .ref q_15 := fu_ne eF_49 (by decide) k10_j_46
  have k11_j_50 : F_49 11 = .ref q_19 := fu_ne eF_49 (by decide) k11_j_46
  have k13_j_50 : F_49 13 = .ref q_23 := fu_ne eF_49 (by decide) k13_j_46
  have k14_j_50 : F_49 14 = .ref q_27 := fu_ne eF_49 (by decide) k14_j_46
  have k15_j_50 : F_49 15 = .ref q_31 := fu_ne eF_49 (by decide) k15_j_46
  clear eF_49 k0_j_46 k3_j_46 k98_j_46 k100_j_46 k1_j_46 k2_j_46 k9_j_46 k10_j_46 k11_j_46 k13_j_46 k14_j_46 k15_j_46 hP hD hS
  have hP : va_P (dC, dI) vwCl [(h0, .inr (15, fl 134 F_49)), (q_1, .inr (14, [.null, .null, .null, .null, .null, .int 0])), (q_3, .inl (cy_4, 6000, .inl (fun _ => 0))), (q_11, .inl (cy_12, 6002, .inl (fun _ => 0))), (q_15, .inl (cy_16, 6002, .inl (fun _ => 0))), (q_19, .inl (cy_20, 6002, .inl (fun _ => 0))), (q_23, .inl (cy_24, 6000, .inl (fun _ => 0))), (q_27, .inl (cy_28, 6000, .inl (fun _ => 0))), (q_31, .inl (cy_32, 6600, .inl (fun _ => 0)))] H_j_50 := hP_j_50
  have hD : va_D A [(h0, .inr (15, fl 134 F_49)), (q_1, .inr (14, [.null, .null, .null, .null, .null, .int 0])), (q_3, .inl (cy_4, 6000, .inl (fun _ => 0))), (q_11, .inl (cy_12, 6002, .inl (fun _ => 0))), (q_15, .inl (cy_16, 6002, .inl (fun _ => 0))), (q_19, .inl (cy_20, 6002, .inl (fun _ => 0))), (q_23, .inl (cy_24, 6000, .inl (fun _ => 0))), (q_27, .inl (cy_28, 6000, .inl (fun _ => 0))), (q_31, .inl (cy_32, 6600, .inl (fun _ => 0)))] := hD_j_50
  have hS := hS_j_50
  clear hP_j_50 hD_j_50 hS_j_50
  refine W.widen (k := 13) (n := 112612) (Nat.le_of_ble_eq_true rfl) (Nat.le_of_ble_eq_true rfl) ?_
  refine lv_aload_n hx hb dX13_init_123 rfl (lv_at hl 0 rfl) ?_
  refine lv_sipush (v := 16000) hx hb dX13_init_124 (by decide) ?_
  refine mstep (X := [(q_1, .inr (14, [.null, .null, .null, .null, .null, .int 0])), (q_3, .inl (cy_4, 6000, .inl (fun _ => 0))), (q_11, .inl (cy_12, 6002, .inl (fun _ => 0))), (q_15, .inl (cy_16, 6002, .inl (fun _ => 0))), (q_19, .inl (cy_20, 6002, .inl (fun _ => 0))), (q_23, .inl (cy_24, 6000, .inl (fun _ => 0))), (q_27, .inl (cy_28, 6000, .inl (fun _ => 0))), (q_31, .inl (cy_32, 6600, .inl (fun _ => 0)))]) (F := F_49) (atype := .int) (ty := .int) (a0 := (16000, .inl (fun _ => 0))) (N' := 16000) hx hb hts in_cc_Model_init_RX13 hown hin hK hP hD hS hA (hts (.arrayClass .int) (List.mem_of_getElem? (i := 33) rfl)) rfl (fun _ => rfl) (by decide) (by decide) (Nat.le_of_ble_eq_true rfl) (Nat.le_of_ble_eq_true rfl) (Nat.le_of_ble_eq_true rfl) dX13_init_127 24 (by decide) (hts (.fieldLink RX13 54 "LevelUnitsModel" "nc" "[I") (List.mem_of_getElem? (i := 44) rfl)) (fun _ h9 => h9) rfl rfl (by decide +kernel) dX13_init_129 (fun q_51 F_53 H_j_54 locs_j_54 eF_53 hP_j_54 hD_j_54 hS_j_54 => ?_)
  have k0_j_54 : F_53 0 = .int 0 := fu_ne eF_53 (by decide) k0_j_50
  have k3_j_54 : F_53 3 = .int 0 := fu_ne eF_53 (by decide) k3_j_50
  have k98_j_54 : F_53 98 = .int 0 := fu_ne eF_53 (by decide) k98_j_50
  have k100_j_54 : F_53 100 = .int 0 := fu_ne eF_53 (by decide) k100_j_50
  have k1_j_54 : F_53 1 = .ref q_1 := fu_ne eF_53 (by decide) k1_j_50
  have k2_j_54 : F_53 2 = .ref q_3 := fu_ne eF_53 (by decide) k2_j_50
  have k9_j_54 : F_53 9 = .ref q_11 := fu_ne eF_53 (by decide) k9_j_50
  have k10_j_54 : F_53 10 = .ref q_15 := fu_ne eF_53 (by decide) k10_j_50
  have k11_j_54 : F_53 11 = .ref q_19 := fu_ne eF_53 (by decide) k11_j_50
  have k13_j_54 : F_53 13 = .ref q_23 := fu_ne eF_53 (by decide) k13_j_50
  have k14_j_54 : F_53 14 = .ref q_27 := fu_ne eF_53 (by decide) k14_j_50
  have k15_j_54 : F_53 15 = .ref q_31 := fu_ne eF_53 (by decide) k15_j_50
  clear eF_53 k0_j_50 k3_j_50 k98_j_50 k100_j_50 k1_j_50 k2_j_50 k9_j_50 k10_j_50 k11_j_50 k13_j_50 k14_j_50 k15_j_50 hP hD hS
  have hP : va_P (dC, dI) vwCl [(h0, .inr (15, fl 134 F_53)), (q_1, .inr (14, [.null, .null, .null, .null, .null, .int 0])), (q_3, .inl (cy_4, 6000, .inl (fun _ => 0))), (q_11, .inl (cy_12, 6002, .inl (fun _ => 0))), (q_15, .inl (cy_16, 6002, .inl (fun _ => 0))), (q_19, .inl (cy_20, 6002, .inl (fun _ => 0))), (q_23, .inl (cy_24, 6000, .inl (fun _ => 0))), (q_27, .inl (cy_28, 6000, .inl (fun _ => 0))), (q_31, .inl (cy_32, 6600, .inl (fun _ => 0)))] H_j_54 := hP_j_54
  have hD : va_D A [(h0, .inr (15, fl 134 F_53)), (q_1, .inr (14, [.null, .null, .null, .null, .null, .int 0])), (q_3, .inl (cy_4, 6000, .inl (fun _ => 0))), (q_11, .inl (cy_12, 6002, .inl (fun _ => 0))), (q_15, .inl (cy_16, 6002, .inl (fun _ => 0))), (q_19, .inl (cy_20, 6002, .inl (fun _ => 0))), (q_23, .inl (cy_24, 6000, .inl (fun _ => 0))), (q_27, .inl (cy_28, 6000, .inl (fun _ => 0))), (q_31, .inl (cy_32, 6600, .inl (fun _ => 0)))] := hD_j_54
  have hS := hS_j_54
  clear hP_j_54 hD_j_54 hS_j_54
  refine W.widen (k := 14) (n := 128612) (Nat.le_of_ble_eq_true rfl) (Nat.le_of_ble_eq_true rfl) ?_
  refine lv_aload_n hx hb dX13_init_132 rfl (lv_at hl 0 rfl) ?_
  refine lv_sipush (v := 16000) hx hb dX13_init_133 (by decide) ?_
  refine mstep (X := [(q_1, .inr (14, [.null, .null, .null, .null, .null, .int 0])), (q_3, .inl (cy_4, 6000, .inl (fun _ => 0))), (q_11, .inl (cy_12, 6002, .inl (fun _ => 0))), (q_15, .inl (cy_16, 6002, .inl (fun _ => 0))), (q_19, .inl (cy_20, 6002, .inl (fun _ => 0))), (q_23, .inl (cy_24, 6000, .inl (fun _ => 0))), (q_27, .inl (cy_28, 6000, .inl (fun _ => 0))), (q_31, .inl (cy_32, 6600, .inl (fun _ => 0)))]) (F := F_53) (atype := .int) (ty := .int) (a0 := (16000, .inl (fun _ => 0))) (N' := 16000) hx hb hts in_cc_Model_init_RX13 hown hin hK hP hD hS hA (hts (.arrayClass .int) (List.mem_of_getElem? (i := 33) rfl)) rfl (fun _ => rfl) (by decide) (by decide) (Nat.le_of_ble_eq_true rfl) (Nat.le_of_ble_eq_true rfl) (Nat.le_of_ble_eq_true rfl) dX13_init_136 25 (by decide) (hts (.fieldLink RX13 57 "LevelUnitsModel" "nd" "[I") (List.mem_of_getElem? (i := 45) rfl)) (fun _ h9 => h9) rfl rfl (by decide +kernel) dX13_init_138 (fun q_55 F_57 H_j_58 locs_j_58 eF_57 hP_j_58 hD_j_58 hS_j_58 => ?_)
  have k0_j_58 : F_57 0 = .int 0 := fu_ne eF_57 (by decide) k0_j_54
  have k3_j_58 : F_57 3 = .int 0 := fu_ne eF_57 (by decide) k3_j_54
  have k98_j_58 : F_57 98 = .int 0 := fu_ne eF_57 (by decide) k98_j_54
  have k100_j_58 : F_57 100 = .int 0 := fu_ne eF_57 (by decide) k100_j_54
  have k1_j_58 : F_57 1 = .ref q_1 := fu_ne eF_57 (by decide) k1_j_54
  have k2_j_58 : F_57 2 = .ref q_3 := fu_ne eF_57 (by decide) k2_j_54
  have k9_j_58 : F_57 9 = .ref q_11 := fu_ne eF_57 (by decide) k9_j_54
  have k10_j_58 : F_57 10 = .ref q_15 := fu_ne eF_57 (by decide) k10_j_54
  have k11_j_58 : F_57 11 = .ref q_19 := fu_ne eF_57 (by decide) k11_j_54
  have k13_j_58 : F_57 13 = .ref q_23 := fu_ne eF_57 (by decide) k13_j_54
  have k14_j_58 : F_57 14 = .ref q_27 := fu_ne eF_57 (by decide) k14_j_54
  have k15_j_58 : F_57 15 = .ref q_31 := fu_ne eF_57 (by decide) k15_j_54
  clear eF_57 k0_j_54 k3_j_54 k98_j_54 k100_j_54 k1_j_54 k2_j_54 k9_j_54 k10_j_54 k11_j_54 k13_j_54 k14_j_54 k15_j_54 hP hD hS
  have hP : va_P (dC, dI) vwCl [(h0, .inr (15, fl 134 F_57)), (q_1, .inr (14, [.null, .null, .null, .null, .null, .int 0])), (q_3, .inl (cy_4, 6000, .inl (fun _ => 0))), (q_11, .inl (cy_12, 6002, .inl (fun _ => 0))), (q_15, .inl (cy_16, 6002, .inl (fun _ => 0))), (q_19, .inl (cy_20, 6002, .inl (fun _ => 0))), (q_23, .inl (cy_24, 6000, .inl (fun _ => 0))), (q_27, .inl (cy_28, 6000, .inl (fun _ => 0))), (q_31, .inl (cy_32, 6600, .inl (fun _ => 0)))] H_j_58 := hP_j_58
  have hD : va_D A [(h0, .inr (15, fl 134 F_57)), (q_1, .inr (14, [.null, .null, .null, .null, .null, .int 0])), (q_3, .inl (cy_4, 6000, .inl (fun _ => 0))), (q_11, .inl (cy_12, 6002, .inl (fun _ => 0))), (q_15, .inl (cy_16, 6002, .inl (fun _ => 0))), (q_19, .inl (cy_20, 6002, .inl (fun _ => 0))), (q_23, .inl (cy_24, 6000, .inl (fun _ => 0))), (q_27, .inl (cy_28, 6000, .inl (fun _ => 0))), (q_31, .inl (cy_32, 6600, .inl (fun _ => 0)))] := hD_j_58
  have hS := hS_j_58
  clear hP_j_58 hD_j_58 hS_j_58
  refine W.widen (k := 15) (n := 144612) (Nat.le_of_ble_eq_true rfl) (Nat.le_of_ble_eq_true rfl) ?_
  refine lv_aload_n hx hb dX13_init_141 rfl (lv_at hl 0 rfl) ?_
  refine lv_sipush (v := 16000) hx hb dX13_init_142 (by decide) ?_
  refine mstep (X := [(q_1, .inr (14, [.null, .null, .null, .null, .null, .int 0])), (q_3, .inl (cy_4, 6000, .inl (fun _ => 0))), (q_11, .inl (cy_12, 6002, .inl (fun _ => 0))), (q_15, .inl (cy_16, 6002, .inl (fun _ => 0))), (q_19, .inl (cy_20, 6002, .inl (fun _ => 0))), (q_23, .inl (cy_24, 6000, .inl (fun _ => 0))), (q_27, .inl (cy_28, 6000, .inl (fun _ => 0))), (q_31, .inl (cy_32, 6600, .inl (fun _ => 0)))]) (F := F_57) (atype := .int) (ty := .int) (a0 := (16000, .inl (fun _ => 0))) (N' := 16000) hx hb hts in_cc_Model_init_RX13 hown hin hK hP hD hS hA (hts (.arrayClass .int) (List.mem_of_getElem? (i := 33) rfl)) rfl (fun _ => rfl) (by decide) (by decide) (Nat.le_of_ble_eq_true rfl) (Nat.le_of_ble_eq_true rfl) (Nat.le_of_ble_eq_true rfl) dX13_init_145 26 (by decide) (hts (.fieldLink RX13 60 "LevelUnitsModel" "ne" "[I") (List.mem_of_getElem? (i := 46) rfl)) (fun _ h9 => h9) rfl rfl (by decide +kernel) dX13_init_147 (fun q_59 F_61 H_j_62 locs_j_62 eF_61 hP_j_62 hD_j_62 hS_j_62 => ?_)
  have k0_j_62 : F_61 0 = .int 0 := fu_ne eF_61 (by decide) k0_j_58
  have k3_j_62 : F_61 3 = .int 0 := fu_ne eF_61 (by decide) k3_j_58
  have k98_j_62 : F_61 98 = .int 0 := fu_ne eF_61 (by decide) k98_j_58
  have k100_j_62 : F_61 100 = .int 0 := fu_ne eF_61 (by decide) k100_j_58
  have k1_j_62 : F_61 1 = .ref q_1 := fu_ne eF_61 (by decide) k1_j_58
  have k2_j_62 : F_61 2 = .ref q_3 := fu_ne eF_61 (by decide) k2_j_58
  have k9_j_62 : F_61 9 = .ref q_11 := fu_ne eF_61 (by decide) k9_j_58
  have k10_j_62 : F_61 10 = .ref q_15 := fu_ne eF_61 (by decide) k10_j_58
  have k11_j_62 : F_61 11 = .ref q_19 := fu_ne eF_61 (by decide) k11_j_58
  have k13_j_62 : F_61 13 = .ref q_23 := fu_ne eF_61 (by decide) k13_j_58
  have k14_j_62 : F_61 14 = .ref q_27 := fu_ne eF_61 (by decide) k14_j_58
  have k15_j_62 : F_61 15 = .ref q_31 := fu_ne eF_61 (by decide) k15_j_58
  clear eF_61 k0_j_58 k3_j_58 k98_j_58 k100_j_58 k1_j_58 k2_j_58 k9_j_58 k10_j_58 k11_j_58 k13_j_58 k14_j_58 k15_j_58 hP hD hS
  have hP : va_P (dC, dI) vwCl [(h0, .inr (15, fl 134 F_61)), (q_1, .inr (14, [.null, .null, .null, .null, .null, .int 0])), (q_3, .inl (cy_4, 6000, .inl (fun _ => 0))), (q_11, .inl (cy_12, 6002, .inl (fun _ => 0))), (q_15, .inl (cy_16, 6002, .inl (fun _ => 0))), (q_19, .inl (cy_20, 6002, .inl (fun _ => 0))), (q_23, .inl (cy_24, 6000, .inl (fun _ => 0))), (q_27, .inl (cy_28, 6000, .inl (fun _ => 0))), (q_31, .inl (cy_32, 6600, .inl (fun _ => 0)))] H_j_62 := hP_j_62
  have hD : va_D A [(h0, .inr (15, fl 134 F_61)), (q_1, .inr (14, [.null, .null, .null, .null, .null, .int 0])), (q_3, .inl (cy_4, 6000, .inl (fun _ => 0))), (q_11, .inl (cy_12, 6002, .inl (fun _ => 0))), (q_15, .inl (cy_16, 6002, .inl (fun _ => 0))), (q_19, .inl (cy_20, 6002, .inl (fun _ => 0))), (q_23, .inl (cy_24, 6000, .inl (fun _ => 0))), (q_27, .inl (cy_28, 6000, .inl (fun _ => 0))), (q_31, .inl (cy_32, 6600, .inl (fun _ => 0)))] := hD_j_62
  have hS := hS_j_62
  clear hP_j_62 hD_j_62 hS_j_62
  refine W.widen (k := 16) (n := 160612) (Nat.le_of_ble_eq_true rfl) (Nat.le_of_ble_eq_true rfl) ?_
  refine lv_aload_n hx hb dX13_init_150 rfl (lv_at hl 0 rfl) ?_
  refine lv_sipush (v := 16000) hx hb dX13_init_151 (by decide) ?_
  refine mstep (X := [(q_1, .inr (14, [.null, .null, .null, .null, .null, .int 0])), (q_3, .inl (cy_4, 6000, .inl (fun _ => 0))), (q_11, .inl (cy_12, 6002, .inl (fun _ => 0))), (q_15, .inl (cy_16, 6002, .inl (fun _ => 0))), (q_19, .inl (cy_20, 6002, .inl (fun _ => 0))), (q_23, .inl (cy_24, 6000, .inl (fun _ => 0))), (q_27, .inl (cy_28, 6000, .inl (fun _ => 0))), (q_31, .inl (cy_32, 6600, .inl (fun _ => 0)))]) (F := F_61) (atype := .int) (ty := .int) (a0 := (16000, .inl (fun _ => 0))) (N' := 16000) hx hb hts in_cc_Model_init_RX13 hown hin hK hP hD hS hA (hts (.arrayClass .int) (List.mem_of_getElem? (i := 33) rfl)) rfl (fun _ => rfl) (by decide) (by decide) (Nat.le_of_ble_eq_true rfl) (Nat.le_of_ble_eq_true rfl) (Nat.le_of_ble_eq_true rfl) dX13_init_154 27 (by decide) (hts (.fieldLink RX13 63 "LevelUnitsModel" "nn" "[I") (List.mem_of_getElem? (i := 47) rfl)) (fun _ h9 => h9) rfl rfl (by decide +kernel) dX13_init_156 (fun q_63 F_65 H_j_66 locs_j_66 eF_65 hP_j_66 hD_j_66 hS_j_66 => ?_)
  have k0_j_66 : F_65 0 = .int 0 := fu_ne eF_65 (by decide) k0_j_62
  have k3_j_66 : F_65 3 = .int 0 := fu_ne eF_65 (by decide) k3_j_62
  have k98_j_66 : F_65 98 = .int 0 := fu_ne eF_65 (by decide) k98_j_62
  have k100_j_66 : F_65 100 = .int 0 := fu_ne eF_65 (by decide) k100_j_62
  have k1_j_66 : F_65 1 = .ref q_1 := fu_ne eF_65 (by decide) k1_j_62
  have k2_j_66 : F_65 2 = .ref q_3 := fu_ne eF_65 (by decide) k2_j_62
  have k9_j_66 : F_65 9 = .ref q_11 := fu_ne eF_65 (by decide) k9_j_62
  have k10_j_66 : F_65 10 = .ref q_15 := fu_ne eF_65 (by decide) k10_j_62
  have k11_j_66 : F_65 11 = .ref q_19 := fu_ne eF_65 (by decide) k11_j_62
  have k13_j_66 : F_65 13 = .ref q_23 := fu_ne eF_65 (by decide) k13_j_62
  have k14_j_66 : F_65 14 = .ref q_27 := fu_ne eF_65 (by decide) k14_j_62
  have k15_j_66 : F_65 15 = .ref q_31 := fu_ne eF_65 (by decide) k15_j_62
  clear eF_65 k0_j_62 k3_j_62 k98_j_62 k100_j_62 k1_j_62 k2_j_62 k9_j_62 k10_j_62 k11_j_62 k13_j_62 k14_j_62 k15_j_62 hP hD hS
  have hP : va_P (dC, dI) vwCl [(h0, .inr (15, fl 134 F_65)), (q_1, .inr (14, [.null, .null, .null, .null, .null, .int 0])), (q_3, .inl (cy_4, 6000, .inl (fun _ => 0))), (q_11, .inl (cy_12, 6002, .inl (fun _ => 0))), (q_15, .inl (cy_16, 6002, .inl (fun _ => 0))), (q_19, .inl (cy_20, 6002, .inl (fun _ => 0))), (q_23, .inl (cy_24, 6000, .inl (fun _ => 0))), (q_27, .inl (cy_28, 6000, .inl (fun _ => 0))), (q_31, .inl (cy_32, 6600, .inl (fun _ => 0)))] H_j_66 := hP_j_66
  have hD : va_D A [(h0, .inr (15, fl 134 F_65)), (q_1, .inr (14, [.null, .null, .null, .null, .null, .int 0])), (q_3, .inl (cy_4, 6000, .inl (fun _ => 0))), (q_11, .inl (cy_12, 6002, .inl (fun _ => 0))), (q_15, .inl (cy_16, 6002, .inl (fun _ => 0))), (q_19, .inl (cy_20, 6002, .inl (fun _ => 0))), (q_23, .inl (cy_24, 6000, .inl (fun _ => 0))), (q_27, .inl (cy_28, 6000, .inl (fun _ => 0))), (q_31, .inl (cy_32, 6600, .inl (fun _ => 0)))] := hD_j_66
  have hS := hS_j_66
  clear hP_j_66 hD_j_66 hS_j_66
  refine W.widen (k := 17) (n := 176612) (Nat.le_of_ble_eq_true rfl) (Nat.le_of_ble_eq_true rfl) ?_
  refine lv_aload_n hx hb dX13_init_159 rfl (lv_at hl 0 rfl) ?_
  refine lv_sipush (v := 16000) hx hb dX13_init_160 (by decide) ?_
  refine mstep (X := [(q_1, .inr (14, [.null, .null, .null, .null, .null, .int 0])), (q_3, .inl (cy_4, 6000, .inl (fun _ => 0))), (q_11, .inl (cy_12, 6002, .inl (fun _ => 0))), (q_15, .inl (cy_16, 6002, .inl (fun _ => 0))), (q_19, .inl (cy_20, 6002, .inl (fun _ => 0))), (q_23, .inl (cy_24, 6000, .inl (fun _ => 0))), (q_27, .inl (cy_28, 6000, .inl (fun _ => 0))), (q_31, .inl (cy_32, 6600, .inl (fun _ => 0)))]) (F := F_65) (atype := .int) (ty := .int) (a0 := (16000, .inl (fun _ => 0))) (N' := 16000) hx hb hts in_cc_Model_init_RX13 hown hin hK hP hD hS hA (hts (.arrayClass .int) (List.mem_of_getElem? (i := 33) rfl)) rfl (fun _ => rfl) (by decide) (by decide) (Nat.le_of_ble_eq_true rfl) (Nat.le_of_ble_eq_true rfl) (Nat.le_of_ble_eq_true rfl) dX13_init_163 28 (by decide) (hts (.fieldLink RX13 66 "LevelUnitsModel" "ns" "[I") (List.mem_of_getElem? (i := 48) rfl)) (fun _ h9 => h9) rfl rfl (by decide +kernel) dX13_init_165 (fun q_67 F_69 H_j_70 locs_j_70 eF_69 hP_j_70 hD_j_70 hS_j_70 => ?_)
  have k0_j_70 : F_69 0 = .int 0 := fu_ne eF_69 (by decide) k0_j_66
  have k3_j_70 : F_69 3 = .int 0 := fu_ne eF_69 (by decide) k3_j_66
  have k98_j_70 : F_69 98 = .int 0 := fu_ne eF_69 (by decide) k98_j_66
  have k100_j_70 : F_69 100 = .int 0 := fu_ne eF_69 (by decide) k100_j_66
  have k1_j_70 : F_69 1 = .ref q_1 := fu_ne eF_69 (by decide) k1_j_66
  have k2_j_70 : F_69 2 = .ref q_3 := fu_ne eF_69 (by decide) k2_j_66
  have k9_j_70 : F_69 9 = .ref q_11 := fu_ne eF_69 (by decide) k9_j_66
  have k10_j_70 : F_69 10 = .ref q_15 := fu_ne eF_69 (by decide) k10_j_66
  have k11_j_70 : F_69 11 = .ref q_19 := fu_ne eF_69 (by decide) k11_j_66
  have k13_j_70 : F_69 13 = .ref q_23 := fu_ne eF_69 (by decide) k13_j_66
  have k14_j_70 : F_69 14 = .ref q_27 := fu_ne eF_69 (by decide) k14_j_66
  have k15_j_70 : F_69 15 = .ref q_31 := fu_ne eF_69 (by decide) k15_j_66
  clear eF_69 k0_j_66 k3_j_66 k98_j_66 k100_j_66 k1_j_66 k2_j_66 k9_j_66 k10_j_66 k11_j_66 k13_j_66 k14_j_66 k15_j_66 hP hD hS
  have hP : va_P (dC, dI) vwCl [(h0, .inr (15, fl 134 F_69)), (q_1, .inr (14, [.null, .null, .null, .null, .null, .int 0])), (q_3, .inl (cy_4, 6000, .inl (fun _ => 0))), (q_11, .inl (cy_12, 6002, .inl (fun _ => 0))), (q_15, .inl (cy_16, 6002, .inl (fun _ => 0))), (q_19, .inl (cy_20, 6002, .inl (fun _ => 0))), (q_23, .inl (cy_24, 6000, .inl (fun _ => 0))), (q_27, .inl (cy_28, 6000, .inl (fun _ => 0))), (q_31, .inl (cy_32, 6600, .inl (fun _ => 0)))] H_j_70 := hP_j_70
  have hD : va_D A [(h0, .inr (15, fl 134 F_69)), (q_1, .inr (14, [.null, .null, .null, .null, .null, .int 0])), (q_3, .inl (cy_4, 6000, .inl (fun _ => 0))), (q_11, .inl (cy_12, 6002, .inl (fun _ => 0))), (q_15, .inl (cy_16, 6002, .inl (fun _ => 0))), (q_19, .inl (cy_20, 6002, .inl (fun _ => 0))), (q_23, .inl (cy_24, 6000, .inl (fun _ => 0))), (q_27, .inl (cy_28, 6000, .inl (fun _ => 0))), (q_31, .inl (cy_32, 6600, .inl (fun _ => 0)))] := hD_j_70
  have hS := hS_j_70
  clear hP_j_70 hD_j_70 hS_j_70
  refine W.widen (k := 18) (n := 192612) (Nat.le_of_ble_eq_true rfl) (Nat.le_of_ble_eq_true rfl) ?_
  refine lv_aload_n hx hb dX13_init_168 rfl (lv_at hl 0 rfl) ?_
  refine lv_sipush (v := 16000) hx hb dX13_init_169 (by decide) ?_
  refine mstep (X := [(q_1, .inr (14, [.null, .null, .null, .null, .null, .int 0])), (q_3, .inl (cy_4, 6000, .inl (fun _ => 0))), (q_11, .inl (cy_12, 6002, .inl (fun _ => 0))), (q_15, .inl (cy_16, 6002, .inl (fun _ => 0))), (q_19, .inl (cy_20, 6002, .inl (fun _ => 0))), (q_23, .inl (cy_24, 6000, .inl (fun _ => 0))), (q_27, .inl (cy_28, 6000, .inl (fun _ => 0))), (q_31, .inl (cy_32, 6600, .inl (fun _ => 0)))]) (F := F_69) (atype := .int) (ty := .int) (a0 := (16000, .inl (fun _ => 0))) (N' := 16000) hx hb hts in_cc_Model_init_RX13 hown hin hK hP hD hS hA (hts (.arrayClass .int) (List.mem_of_getElem? (i := 33) rfl)) rfl (fun _ => rfl) (by decide) (by decide) (Nat.le_of_ble_eq_true rfl) (Nat.le_of_ble_eq_true rfl) (Nat.le_of_ble_eq_true rfl) dX13_init_172 29 (by decide) (hts (.fieldLink RX13 69 "LevelUnitsModel" "nu" "[I") (List.mem_of_getElem? (i := 49) rfl)) (fun _ h9 => h9) rfl rfl (by decide +kernel) dX13_init_174 (fun q_71 F_73 H_j_74 locs_j_74 eF_73 hP_j_74 hD_j_74 hS_j_74 => ?_)
  have k0_j_74 : F_73 0 = .int 0 := fu_ne eF_73 (by decide) k0_j_70
  have k3_j_74 : F_73 3 = .int 0 := fu_ne eF_73 (by decide) k3_j_70
  have k98_j_74 : F_73 98 = .int 0 := fu_ne eF_73 (by decide) k98_j_70
  have k100_j_74 : F_73 100 = .int 0 := fu_ne eF_73 (by decide) k100_j_70
  have k1_j_74 : F_73 1 = .ref q_1 := fu_ne eF_73 (by decide) k1_j_70
  have k2_j_74 : F_73 2 = .ref q_3 := fu_ne eF_73 (by decide) k2_j_70
  have k9_j_74 : F_73 9 = .ref q_11 := fu_ne eF_73 (by decide) k9_j_70
  have k10_j_74 : F_73 10 = .ref q_15 := fu_ne eF_73 (by decide) k10_j_70
  have k11_j_74 : F_73 11 = .ref q_19 := fu_ne eF_73 (by decide) k11_j_70
  have k13_j_74 : F_73 13 = .ref q_23 := fu_ne eF_73 (by decide) k13_j_70
  have k14_j_74 : F_73 14 = .ref q_27 := fu_ne eF_73 (by decide) k14_j_70
  have k15_j_74 : F_73 15 = .ref q_31 := fu_ne eF_73 (by decide) k15_j_70
  clear eF_73 k0_j_70 k3_j_70 k98_j_70 k100_j_70 k1_j_70 k2_j_70 k9_j_70 k10_j_70 k11_j_70 k13_j_70 k14_j_70 k15_j_70 hP hD hS
  have hP : va_P (dC, dI) vwCl [(h0, .inr (15, fl 134 F_73)), (q_1, .inr (14, [.null, .null, .null, .null, .null, .int 0])), (q_3, .inl (cy_4, 6000, .inl (fun _ => 0))), (q_11, .inl (cy_12, 6002, .inl (fun _ => 0))), (q_15, .inl (cy_16, 6002, .inl (fun _ => 0))), (q_19, .inl (cy_20, 6002, .inl (fun _ => 0))), (q_23, .inl (cy_24, 6000, .inl (fun _ => 0))), (q_27, .inl (cy_28, 6000, .inl (fun _ => 0))), (q_31, .inl (cy_32, 6600, .inl (fun _ => 0)))] H_j_74 := hP_j_74
  have hD : va_D A [(h0, .inr (15, fl 134 F_73)), (q_1, .inr (14, [.null, .null, .null, .null, .null, .int 0])), (q_3, .inl (cy_4, 6000, .inl (fun _ => 0))), (q_11, .inl (cy_12, 6002, .inl (fun _ => 0))), (q_15, .inl (cy_16, 6002, .inl (fun _ => 0))), (q_19, .inl (cy_20, 6002, .inl (fun _ => 0))), (q_23, .inl (cy_24, 6000, .inl (fun _ => 0))), (q_27, .inl (cy_28, 6000, .inl (fun _ => 0))), (q_31, .inl (cy_32, 6600, .inl (fun _ => 0)))] := hD_j_74
  have hS := hS_j_74
  clear hP_j_74 hD_j_74 hS_j_74
  refine W.widen (k := 19) (n := 208612) (Nat.le_of_ble_eq_true rfl) (Nat.le_of_ble_eq_true rfl) ?_
  refine lv_aload_n hx hb dX13_init_177 rfl (lv_at hl 0 rfl) ?_
  refine lv_sipush (v := 16000) hx hb dX13_init_178 (by decide) ?_
  refine mstep (X := [(q_1, .inr (14, [.null, .null, .null, .null, .null, .int 0])), (q_3, .inl (cy_4, 6000, .inl (fun _ => 0))), (q_11, .inl (cy_12, 6002, .inl (fun _ => 0))), (q_15, .inl (cy_16, 6002, .inl (fun _ => 0))), (q_19, .inl (cy_20, 6002, .inl (fun _ => 0))), (q_23, .inl (cy_24, 6000, .inl (fun _ => 0))), (q_27, .inl (cy_28, 6000, .inl (fun _ => 0))), (q_31, .inl (cy_32, 6600, .inl (fun _ => 0)))]) (F := F_73) (atype := .int) (ty := .int) (a0 := (16000, .inl (fun _ => 0))) (N' := 16000) hx hb hts in_cc_Model_init_RX13 hown hin hK hP hD hS hA (hts (.arrayClass .int) (List.mem_of_getElem? (i := 33) rfl)) rfl (fun _ => rfl) (by decide) (by decide) (Nat.le_of_ble_eq_true rfl) (Nat.le_of_ble_eq_true rfl) (Nat.le_of_ble_eq_true rfl) dX13_init_181 30 (by decide) (hts (.fieldLink RX13 72 "LevelUnitsModel" "nf" "[I") (List.mem_of_getElem? (i := 50) rfl)) (fun _ h9 => h9) rfl rfl (by decide +kernel) dX13_init_183 (fun q_75 F_77 H_j_78 locs_j_78 eF_77 hP_j_78 hD_j_78 hS_j_78 => ?_)
  have k0_j_78 : F_77 0 = .int 0 := fu_ne eF_77 (by decide) k0_j_74
  have k3_j_78 : F_77 3 = .int 0 := fu_ne eF_77 (by decide) k3_j_74
  have k98_j_78 : F_77 98 = .int 0 := fu_ne eF_77 (by decide) k98_j_74
  have k100_j_78 : F_77 100 = .int 0 := fu_ne eF_77 (by decide) k100_j_74
  have k1_j_78 : F_77 1 = .ref q_1 := fu_ne eF_77 (by decide) k1_j_74
  have k2_j_78 : F_77 2 = .ref q_3 := fu_ne eF_77 (by decide) k2_j_74
  have k9_j_78 : F_77 9 = .ref q_11 := fu_ne eF_77 (by decide) k9_j_74
  have k10_j_78 : F_77 10 = .ref q_15 := fu_ne eF_77 (by decide) k10_j_74
  have k11_j_78 : F_77 11 = .ref q_19 := fu_ne eF_77 (by decide) k11_j_74
  have k13_j_78 : F_77 13 = .ref q_23 := fu_ne eF_77 (by decide) k13_j_74
  have k14_j_78 : F_77 14 = .ref q_27 := fu_ne eF_77 (by decide) k14_j_74
  have k15_j_78 : F_77 15 = .ref q_31 := fu_ne eF_77 (by decide) k15_j_74
  clear eF_77 k0_j_74 k3_j_74 k98_j_74 k100_j_74 k1_j_74 k2_j_74 k9_j_74 k10_j_74 k11_j_74 k13_j_74 k14_j_74 k15_j_74 hP hD hS
  have hP : va_P (dC, dI) vwCl [(h0, .inr (15, fl 134 F_77)), (q_1, .inr (14, [.null, .null, .null, .null, .null, .int 0])), (q_3, .inl (cy_4, 6000, .inl (fun _ => 0))), (q_11, .inl (cy_12, 6002, .inl (fun _ => 0))), (q_15, .inl (cy_16, 6002, .inl (fun _ => 0))), (q_19, .inl (cy_20, 6002, .inl (fun _ => 0))), (q_23, .inl (cy_24, 6000, .inl (fun _ => 0))), (q_27, .inl (cy_28, 6000, .inl (fun _ => 0))), (q_31, .inl (cy_32, 6600, .inl (fun _ => 0)))] H_j_78 := hP_j_78
  have hD : va_D A [(h0, .inr (15, fl 134 F_77)), (q_1, .inr (14, [.null, .null, .null, .null, .null, .int 0])), (q_3, .inl (cy_4, 6000, .inl (fun _ => 0))), (q_11, .inl (cy_12, 6002, .inl (fun _ => 0))), (q_15, .inl (cy_16, 6002, .inl (fun _ => 0))), (q_19, .inl (cy_20, 6002, .inl (fun _ => 0))), (q_23, .inl (cy_24, 6000, .inl (fun _ => 0))), (q_27, .inl (cy_28, 6000, .inl (fun _ => 0))), (q_31, .inl (cy_32, 6600, .inl (fun _ => 0)))] := hD_j_78
  have hS := hS_j_78
  clear hP_j_78 hD_j_78 hS_j_78
  refine W.widen (k := 20) (n := 224612) (Nat.le_of_ble_eq_true rfl) (Nat.le_of_ble_eq_true rfl) ?_
  refine lv_aload_n hx hb dX13_init_186 rfl (lv_at hl 0 rfl) ?_
  refine lv_sipush (v := 16000) hx hb dX13_init_187 (by decide) ?_
  refine mstep (X := [(q_1, .inr (14, [.null, .null, .null, .null, .null, .int 0])), (q_3, .inl (cy_4, 6000, .inl (fun _ => 0))), (q_11, .inl (cy_12, 6002, .inl (fun _ => 0))), (q_15, .inl (cy_16, 6002, .inl (fun _ => 0))), (q_19, .inl (cy_20, 6002, .inl (fun _ => 0))), (q_23, .inl (cy_24, 6000, .inl (fun _ => 0))), (q_27, .inl (cy_28, 6000, .inl (fun _ => 0))), (q_31, .inl (cy_32, 6600, .inl (fun _ => 0)))]) (F := F_77) (atype := .int) (ty := .int) (a0 := (16000, .inl (fun _ => 0))) (N' := 16000) hx hb hts in_cc_Model_init_RX13 hown hin hK hP hD hS hA (hts (.arrayClass .int) (List.mem_of_getElem? (i := 33) rfl)) rfl (fun _ => rfl) (by decide) (by decide) (Nat.le_of_ble_eq_true rfl) (Nat.le_of_ble_eq_true rfl) (Nat.le_of_ble_eq_true rfl) dX13_init_190 31 (by decide) (hts (.fieldLink RX13 75 "LevelUnitsModel" "nm" "[I") (List.mem_of_getElem? (i := 51) rfl)) (fun _ h9 => h9) rfl rfl (by decide +kernel) dX13_init_192 (fun q_79 F_81 H_j_82 locs_j_82 eF_81 hP_j_82 hD_j_82 hS_j_82 => ?_)
  have k0_j_82 : F_81 0 = .int 0 := fu_ne eF_81 (by decide) k0_j_78
  have k3_j_82 : F_81 3 = .int 0 := fu_ne eF_81 (by decide) k3_j_78
  have k98_j_82 : F_81 98 = .int 0 := fu_ne eF_81 (by decide) k98_j_78
  have k100_j_82 : F_81 100 = .int 0 := fu_ne eF_81 (by decide) k100_j_78
  have k1_j_82 : F_81 1 = .ref q_1 := fu_ne eF_81 (by decide) k1_j_78
  have k2_j_82 : F_81 2 = .ref q_3 := fu_ne eF_81 (by decide) k2_j_78
  have k9_j_82 : F_81 9 = .ref q_11 := fu_ne eF_81 (by decide) k9_j_78
  have k10_j_82 : F_81 10 = .ref q_15 := fu_ne eF_81 (by decide) k10_j_78
  have k11_j_82 : F_81 11 = .ref q_19 := fu_ne eF_81 (by decide) k11_j_78
  have k13_j_82 : F_81 13 = .ref q_23 := fu_ne eF_81 (by decide) k13_j_78
  have k14_j_82 : F_81 14 = .ref q_27 := fu_ne eF_81 (by decide) k14_j_78
  have k15_j_82 : F_81 15 = .ref q_31 := fu_ne eF_81 (by decide) k15_j_78
  clear eF_81 k0_j_78 k3_j_78 k98_j_78 k100_j_78 k1_j_78 k2_j_78 k9_j_78 k10_j_78 k11_j_78 k13_j_78 k14_j_78 k15_j_78 hP hD hS
  have hP : va_P (dC, dI) vwCl [(h0, .inr (15, fl 134 F_81)), (q_1, .inr (14, [.null, .null, .null, .null, .null, .int 0])), (q_3, .inl (cy_4, 6000, .inl (fun _ => 0))), (q_11, .inl (cy_12, 6002, .inl (fun _ => 0))), (q_15, .inl (cy_16, 6002, .inl (fun _ => 0))), (q_19, .inl (cy_20, 6002, .inl (fun _ => 0))), (q_23, .inl (cy_24, 6000, .inl (fun _ => 0))), (q_27, .inl (cy_28, 6000, .inl (fun _ => 0))), (q_31, .inl (cy_32, 6600, .inl (fun _ => 0)))] H_j_82 := hP_j_82
  have hD : va_D A [(h0, .inr (15, fl 134 F_81)), (q_1, .inr (14, [.null, .null, .null, .null, .null, .int 0])), (q_3, .inl (cy_4, 6000, .inl (fun _ => 0))), (q_11, .inl (cy_12, 6002, .inl (fun _ => 0))), (q_15, .inl (cy_16, 6002, .inl (fun _ => 0))), (q_19, .inl (cy_20, 6002, .inl (fun _ => 0))), (q_23, .inl (cy_24, 6000, .inl (fun _ => 0))), (q_27, .inl (cy_28, 6000, .inl (fun _ => 0))), (q_31, .inl (cy_32, 6600, .inl (fun _ => 0)))] := hD_j_82
  have hS := hS_j_82
  clear hP_j_82 hD_j_82 hS_j_82
  refine W.widen (k := 21) (n := 240612) (Nat.le_of_ble_eq_true rfl) (Nat.le_of_ble_eq_true rfl) ?_
  refine lv_aload_n hx hb dX13_init_195 rfl (lv_at hl 0 rfl) ?_
  refine lv_bipush (v := 14) hx hb dX13_init_196 (by decide) ?_
  refine mstep (X := [(q_1, .inr (14, [.null, .null, .null, .null, .null, .int 0])), (q_3, .inl (cy_4, 6000, .inl (fun _ => 0))), (q_11, .inl (cy_12, 6002, .inl (fun _ => 0))), (q_15, .inl (cy_16, 6002, .inl (fun _ => 0))), (q_19, .inl (cy_20, 6002, .inl (fun _ => 0))), (q_23, .inl (cy_24, 6000, .inl (fun _ => 0))), (q_27, .inl (cy_28, 6000, .inl (fun _ => 0))), (q_31, .inl (cy_32, 6600, .inl (fun _ => 0)))]) (F := F_81) (atype := .int) (ty := .int) (a0 := (14, .inl (fun _ => 0))) (N' := 14) hx hb hts in_cc_Model_init_RX13 hown hin hK hP hD hS hA (hts (.arrayClass .int) (List.mem_of_getElem? (i := 33) rfl)) rfl (fun _ => rfl) (by decide) (by decide) (Nat.le_of_ble_eq_true rfl) (Nat.le_of_ble_eq_true rfl) (Nat.le_of_ble_eq_true rfl) dX13_init_198 42 (by decide) (hts (.fieldLink RX13 78 "LevelUnitsModel" "unitNode" "[I") (List.mem_of_getElem? (i := 52) rfl)) (fun _ h9 => h9) rfl rfl (by decide +kernel) dX13_init_200 (fun q_83 F_85 H_j_86 locs_j_86 eF_85 hP_j_86 hD_j_86 hS_j_86 => ?_)
  have k0_j_86 : F_85 0 = .int 0 := fu_ne eF_85 (by decide) k0_j_82
  have k3_j_86 : F_85 3 = .int 0 := fu_ne eF_85 (by decide) k3_j_82
  have k98_j_86 : F_85 98 = .int 0 := fu_ne eF_85 (by decide) k98_j_82
  have k100_j_86 : F_85 100 = .int 0 := fu_ne eF_85 (by decide) k100_j_82
  have k1_j_86 : F_85 1 = .ref q_1 := fu_ne eF_85 (by decide) k1_j_82
  have k2_j_86 : F_85 2 = .ref q_3 := fu_ne eF_85 (by decide) k2_j_82
  have k9_j_86 : F_85 9 = .ref q_11 := fu_ne eF_85 (by decide) k9_j_82
  have k10_j_86 : F_85 10 = .ref q_15 := fu_ne eF_85 (by decide) k10_j_82
  have k11_j_86 : F_85 11 = .ref q_19 := fu_ne eF_85 (by decide) k11_j_82
  have k13_j_86 : F_85 13 = .ref q_23 := fu_ne eF_85 (by decide) k13_j_82
  have k14_j_86 : F_85 14 = .ref q_27 := fu_ne eF_85 (by decide) k14_j_82
  have k15_j_86 : F_85 15 = .ref q_31 := fu_ne eF_85 (by decide) k15_j_82
  clear eF_85 k0_j_82 k3_j_82 k98_j_82 k100_j_82 k1_j_82 k2_j_82 k9_j_82 k10_j_82 k11_j_82 k13_j_82 k14_j_82 k15_j_82 hP hD hS
  have hP : va_P (dC, dI) vwCl [(h0, .inr (15, fl 134 F_85)), (q_1, .inr (14, [.null, .null, .null, .null, .null, .int 0])), (q_3, .inl (cy_4, 6000, .inl (fun _ => 0))), (q_11, .inl (cy_12, 6002, .inl (fun _ => 0))), (q_15, .inl (cy_16, 6002, .inl (fun _ => 0))), (q_19, .inl (cy_20, 6002, .inl (fun _ => 0))), (q_23, .inl (cy_24, 6000, .inl (fun _ => 0))), (q_27, .inl (cy_28, 6000, .inl (fun _ => 0))), (q_31, .inl (cy_32, 6600, .inl (fun _ => 0)))] H_j_86 := hP_j_86
  have hD : va_D A [(h0, .inr (15, fl 134 F_85)), (q_1, .inr (14, [.null, .null, .null, .null, .null, .int 0])), (q_3, .inl (cy_4, 6000, .inl (fun _ => 0))), (q_11, .inl (cy_12, 6002, .inl (fun _ => 0))), (q_15, .inl (cy_16, 6002, .inl (fun _ => 0))), (q_19, .inl (cy_20, 6002, .inl (fun _ => 0))), (q_23, .inl (cy_24, 6000, .inl (fun _ => 0))), (q_27, .inl (cy_28, 6000, .inl (fun _ => 0))), (q_31, .inl (cy_32, 6600, .inl (fun _ => 0)))] := hD_j_86
  have hS := hS_j_86
  clear hP_j_86 hD_j_86 hS_j_86
  refine W.widen (k := 22) (n := 240626) (Nat.le_of_ble_eq_true rfl) (Nat.le_of_ble_eq_true rfl) ?_
  refine lv_aload_n hx hb dX13_init_203 rfl (lv_at hl 0 rfl) ?_
  refine lv_sipush (v := 3200) hx hb dX13_init_204 (by decide) ?_
  refine mstep (X := [(q_1, .inr (14, [.null, .null, .null, .null, .null, .int 0])), (q_3, .inl (cy_4, 6000, .inl (fun _ => 0))), (q_11, .inl (cy_12, 6002, .inl (fun _ => 0))), (q_15, .inl (cy_16, 6002, .inl (fun _ => 0))), (q_19, .inl (cy_20, 6002, .inl (fun _ => 0))), (q_23, .inl (cy_24, 6000, .inl (fun _ => 0))), (q_27, .inl (cy_28, 6000, .inl (fun _ => 0))), (q_31, .inl (cy_32, 6600, .inl (fun _ => 0)))]) (F := F_85) (atype := .int) (ty := .int) (a0 := (3200, .inl (fun _ => 0))) (N' := 3200) hx hb hts in_cc_Model_init_RX13 hown hin hK hP hD hS hA (hts (.arrayClass .int) (List.mem_of_getElem? (i := 33) rfl)) rfl (fun _ => rfl) (by decide) (by decide) (Nat.le_of_ble_eq_true rfl) (Nat.le_of_ble_eq_true rfl) (Nat.le_of_ble_eq_true rfl) dX13_init_207 44 (by decide) (hts (.fieldLink RX13 81 "LevelUnitsModel" "yName" "[I") (List.mem_of_getElem? (i := 53) rfl)) (fun _ h9 => h9) rfl rfl (by decide +kernel) dX13_init_209 (fun q_87 F_89 H_j_90 locs_j_90 eF_89 hP_j_90 hD_j_90 hS_j_90 => ?_)
  have k0_j_90 : F_89 0 = .int 0 := fu_ne eF_89 (by decide) k0_j_86
  have k3_j_90 : F_89 3 = .int 0 := fu_ne eF_89 (by decide) k3_j_86
  have k98_j_90 : F_89 98 = .int 0 := fu_ne eF_89 (by decide) k98_j_86
  have k100_j_90 : F_89 100 = .int 0 := fu_ne eF_89 (by decide) k100_j_86
  have k1_j_90 : F_89 1 = .ref q_1 := fu_ne eF_89 (by decide) k1_j_86
  have k2_j_90 : F_89 2 = .ref q_3 := fu_ne eF_89 (by decide) k2_j_86
  have k9_j_90 : F_89 9 = .ref q_11 := fu_ne eF_89 (by decide) k9_j_86
  have k10_j_90 : F_89 10 = .ref q_15 := fu_ne eF_89 (by decide) k10_j_86
  have k11_j_90 : F_89 11 = .ref q_19 := fu_ne eF_89 (by decide) k11_j_86
  have k13_j_90 : F_89 13 = .ref q_23 := fu_ne eF_89 (by decide) k13_j_86
  have k14_j_90 : F_89 14 = .ref q_27 := fu_ne eF_89 (by decide) k14_j_86
  have k15_j_90 : F_89 15 = .ref q_31 := fu_ne eF_89 (by decide) k15_j_86
  clear eF_89 k0_j_86 k3_j_86 k98_j_86 k100_j_86 k1_j_86 k2_j_86 k9_j_86 k10_j_86 k11_j_86 k13_j_86 k14_j_86 k15_j_86 hP hD hS
  have hP : va_P (dC, dI) vwCl [(h0, .inr (15, fl 134 F_89)), (q_1, .inr (14, [.null, .null, .null, .null, .null, .int 0])), (q_3, .inl (cy_4, 6000, .inl (fun _ => 0))), (q_11, .inl (cy_12, 6002, .inl (fun _ => 0))), (q_15, .inl (cy_16, 6002, .inl (fun _ => 0))), (q_19, .inl (cy_20, 6002, .inl (fun _ => 0))), (q_23, .inl (cy_24, 6000, .inl (fun _ => 0))), (q_27, .inl (cy_28, 6000, .inl (fun _ => 0))), (q_31, .inl (cy_32, 6600, .inl (fun _ => 0)))] H_j_90 := hP_j_90
  have hD : va_D A [(h0, .inr (15, fl 134 F_89)), (q_1, .inr (14, [.null, .null, .null, .null, .null, .int 0])), (q_3, .inl (cy_4, 6000, .inl (fun _ => 0))), (q_11, .inl (cy_12, 6002, .inl (fun _ => 0))), (q_15, .inl (cy_16, 6002, .inl (fun _ => 0))), (q_19, .inl (cy_20, 6002, .inl (fun _ => 0))), (q_23, .inl (cy_24, 6000, .inl (fun _ => 0))), (q_27, .inl (cy_28, 6000, .inl (fun _ => 0))), (q_31, .inl (cy_32, 6600, .inl (fun _ => 0)))] := hD_j_90
  have hS := hS_j_90
  clear hP_j_90 hD_j_90 hS_j_90
  refine W.widen (k := 23) (n := 243826) (Nat.le_of_ble_eq_true rfl) (Nat.le_of_ble_eq_true rfl) ?_
  refine lv_aload_n hx hb dX13_init_212 rfl (lv_at hl 0 rfl) ?_
  refine lv_sipush (v := 3200) hx hb dX13_init_213 (by decide) ?_
  refine mstep (X := [(q_1, .inr (14, [.null, .null, .null, .null, .null, .int 0])), (q_3, .inl (cy_4, 6000, .inl (fun _ => 0))), (q_11, .inl (cy_12, 6002, .inl (fun _ => 0))), (q_15, .inl (cy_16, 6002, .inl (fun _ => 0))), (q_19, .inl (cy_20, 6002, .inl (fun _ => 0))), (q_23, .inl (cy_24, 6000, .inl (fun _ => 0))), (q_27, .inl (cy_28, 6000, .inl (fun _ => 0))), (q_31, .inl (cy_32, 6600, .inl (fun _ => 0)))]) (F := F_89) (atype := .int) (ty := .int) (a0 := (3200, .inl (fun _ => 0))) (N' := 3200) hx hb hts in_cc_Model_init_RX13 hown hin hK hP hD hS hA (hts (.arrayClass .int) (List.mem_of_getElem? (i := 33) rfl)) rfl (fun _ => rfl) (by decide) (by decide) (Nat.le_of_ble_eq_true rfl) (Nat.le_of_ble_eq_true rfl) (Nat.le_of_ble_eq_true rfl) dX13_init_216 45 (by decide) (hts (.fieldLink RX13 84 "LevelUnitsModel" "yKind" "[I") (List.mem_of_getElem? (i := 54) rfl)) (fun _ h9 => h9) rfl rfl (by decide +kernel) dX13_init_218 (fun q_91 F_93 H_j_94 locs_j_94 eF_93 hP_j_94 hD_j_94 hS_j_94 => ?_)
  have k0_j_94 : F_93 0 = .int 0 := fu_ne eF_93 (by decide) k0_j_90
  have k3_j_94 : F_93 3 = .int 0 := fu_ne eF_93 (by decide) k3_j_90
  have k98_j_94 : F_93 98 = .int 0 := fu_ne eF_93 (by decide) k98_j_90
  have k100_j_94 : F_93 100 = .int 0 := fu_ne eF_93 (by decide) k100_j_90
  have k1_j_94 : F_93 1 = .ref q_1 := fu_ne eF_93 (by decide) k1_j_90
  have k2_j_94 : F_93 2 = .ref q_3 := fu_ne eF_93 (by decide) k2_j_90
  have k9_j_94 : F_93 9 = .ref q_11 := fu_ne eF_93 (by decide) k9_j_90
  have k10_j_94 : F_93 10 = .ref q_15 := fu_ne eF_93 (by decide) k10_j_90
  have k11_j_94 : F_93 11 = .ref q_19 := fu_ne eF_93 (by decide) k11_j_90
  have k13_j_94 : F_93 13 = .ref q_23 := fu_ne eF_93 (by decide) k13_j_90
  have k14_j_94 : F_93 14 = .ref q_27 := fu_ne eF_93 (by decide) k14_j_90
  have k15_j_94 : F_93 15 = .ref q_31 := fu_ne eF_93 (by decide) k15_j_90
  clear eF_93 k0_j_90 k3_j_90 k98_j_90 k100_j_90 k1_j_90 k2_j_90 k9_j_90 k10_j_90 k11_j_90 k13_j_90 k14_j_90 k15_j_90 hP hD hS
  have hP : va_P (dC, dI) vwCl [(h0, .inr (15, fl 134 F_93)), (q_1, .inr (14, [.null, .null, .null, .null, .null, .int 0])), (q_3, .inl (cy_4, 6000, .inl (fun _ => 0))), (q_11, .inl (cy_12, 6002, .inl (fun _ => 0))), (q_15, .inl (cy_16, 6002, .inl (fun _ => 0))), (q_19, .inl (cy_20, 6002, .inl (fun _ => 0))), (q_23, .inl (cy_24, 6000, .inl (fun _ => 0))), (q_27, .inl (cy_28, 6000, .inl (fun _ => 0))), (q_31, .inl (cy_32, 6600, .inl (fun _ => 0)))] H_j_94 := hP_j_94
  have hD : va_D A [(h0, .inr (15, fl 134 F_93)), (q_1, .inr (14, [.null, .null, .null, .null, .null, .int 0])), (q_3, .inl (cy_4, 6000, .inl (fun _ => 0))), (q_11, .inl (cy_12, 6002, .inl (fun _ => 0))), (q_15, .inl (cy_16, 6002, .inl (fun _ => 0))), (q_19, .inl (cy_20, 6002, .inl (fun _ => 0))), (q_23, .inl (cy_24, 6000, .inl (fun _ => 0))), (q_27, .inl (cy_28, 6000, .inl (fun _ => 0))), (q_31, .inl (cy_32, 6600, .inl (fun _ => 0)))] := hD_j_94
  have hS := hS_j_94
  clear hP_j_94 hD_j_94 hS_j_94
  refine W.widen (k := 24) (n := 247026) (Nat.le_of_ble_eq_true rfl) (Nat.le_of_ble_eq_true rfl) ?_
  refine lv_aload_n hx hb dX13_init_221 rfl (lv_at hl 0 rfl) ?_
  refine lv_sipush (v := 3200) hx hb dX13_init_222 (by decide) ?_
  refine mstep (X := [(q_1, .inr (14, [.null, .null, .null, .null, .null, .int 0])), (q_3, .inl (cy_4, 6000, .inl (fun _ => 0))), (q_11, .inl (cy_12, 6002, .inl (fun _ => 0))), (q_15, .inl (cy_16, 6002, .inl (fun _ => 0))), (q_19, .inl (cy_20, 6002, .inl (fun _ => 0))), (q_23, .inl (cy_24, 6000, .inl (fun _ => 0))), (q_27, .inl (cy_28, 6000, .inl (fun _ => 0))), (q_31, .inl (cy_32, 6600, .inl (fun _ => 0)))]) (F := F_93) (atype := .int) (ty := .int) (a0 := (3200, .inl (fun _ => 0))) (N' := 3200) hx hb hts in_cc_Model_init_RX13 hown hin hK hP hD hS hA (hts (.arrayClass .int) (List.mem_of_getElem? (i := 33) rfl)) rfl (fun _ => rfl) (by decide) (by decide) (Nat.le_of_ble_eq_true rfl) (Nat.le_of_ble_eq_true rfl) (Nat.le_of_ble_eq_true rfl) dX13_init_225 46 (by decide) (hts (.fieldLink RX13 87 "LevelUnitsModel" "yNode" "[I") (List.mem_of_getElem? (i := 55) rfl)) (fun _ h9 => h9) rfl rfl (by decide +kernel) dX13_init_227 (fun q_95 F_97 H_j_98 locs_j_98 eF_97 hP_j_98 hD_j_98 hS_j_98 => ?_)
  have k0_j_98 : F_97 0 = .int 0 := fu_ne eF_97 (by decide) k0_j_94
  have k3_j_98 : F_97 3 = .int 0 := fu_ne eF_97 (by decide) k3_j_94
  have k98_j_98 : F_97 98 = .int 0 := fu_ne eF_97 (by decide) k98_j_94
  have k100_j_98 : F_97 100 = .int 0 := fu_ne eF_97 (by decide) k100_j_94
  have k1_j_98 : F_97 1 = .ref q_1 := fu_ne eF_97 (by decide) k1_j_94
  have k2_j_98 : F_97 2 = .ref q_3 := fu_ne eF_97 (by decide) k2_j_94
  have k9_j_98 : F_97 9 = .ref q_11 := fu_ne eF_97 (by decide) k9_j_94
  have k10_j_98 : F_97 10 = .ref q_15 := fu_ne eF_97 (by decide) k10_j_94
  have k11_j_98 : F_97 11 = .ref q_19 := fu_ne eF_97 (by decide) k11_j_94
  have k13_j_98 : F_97 13 = .ref q_23 := fu_ne eF_97 (by decide) k13_j_94
  have k14_j_98 : F_97 14 = .ref q_27 := fu_ne eF_97 (by decide) k14_j_94
  have k15_j_98 : F_97 15 = .ref q_31 := fu_ne eF_97 (by decide) k15_j_94
  clear eF_97 k0_j_94 k3_j_94 k98_j_94 k100_j_94 k1_j_94 k2_j_94 k9_j_94 k10_j_94 k11_j_94 k13_j_94 k14_j_94 k15_j_94 hP hD hS
  have hP : va_P (dC, dI) vwCl [(h0, .inr (15, fl 134 F_97)), (q_1, .inr (14, [.null, .null, .null, .null, .null, .int 0])), (q_3, .inl (cy_4, 6000, .inl (fun _ => 0))), (q_11, .inl (cy_12, 6002, .inl (fun _ => 0))), (q_15, .inl (cy_16, 6002, .inl (fun _ => 0))), (q_19, .inl (cy_20, 6002, .inl (fun _ => 0))), (q_23, .inl (cy_24, 6000, .inl (fun _ => 0))), (q_27, .inl (cy_28, 6000, .inl (fun _ => 0))), (q_31, .inl (cy_32, 6600, .inl (fun _ => 0)))] H_j_98 := hP_j_98
  have hD : va_D A [(h0, .inr (15, fl 134 F_97)), (q_1, .inr (14, [.null, .null, .null, .null, .null, .int 0])), (q_3, .inl (cy_4, 6000, .inl (fun _ => 0))), (q_11, .inl (cy_12, 6002, .inl (fun _ => 0))), (q_15, .inl (cy_16, 6002, .inl (fun _ => 0))), (q_19, .inl (cy_20, 6002, .inl (fun _ => 0))), (q_23, .inl (cy_24, 6000, .inl (fun _ => 0))), (q_27, .inl (cy_28, 6000, .inl (fun _ => 0))), (q_31, .inl (cy_32, 6600, .inl (fun _ => 0)))] := hD_j_98
  have hS := hS_j_98
  clear hP_j_98 hD_j_98 hS_j_98
  refine W.widen (k := 25) (n := 250226) (Nat.le_of_ble_eq_true rfl) (Nat.le_of_ble_eq_true rfl) ?_
  refine lv_aload_n hx hb dX13_init_230 rfl (lv_at hl 0 rfl) ?_
  refine lv_sipush (v := 3200) hx hb dX13_init_231 (by decide) ?_
  refine mstep (X := [(q_1, .inr (14, [.null, .null, .null, .null, .null, .int 0])), (q_3, .inl (cy_4, 6000, .inl (fun _ => 0))), (q_11, .inl (cy_12, 6002, .inl (fun _ => 0))), (q_15, .inl (cy_16, 6002, .inl (fun _ => 0))), (q_19, .inl (cy_20, 6002, .inl (fun _ => 0))), (q_23, .inl (cy_24, 6000, .inl (fun _ => 0))), (q_27, .inl (cy_28, 6000, .inl (fun _ => 0))), (q_31, .inl (cy_32, 6600, .inl (fun _ => 0)))]) (F := F_97) (atype := .int) (ty := .int) (a0 := (3200, .inl (fun _ => 0))) (N' := 3200) hx hb hts in_cc_Model_init_RX13 hown hin hK hP hD hS hA (hts (.arrayClass .int) (List.mem_of_getElem? (i := 33) rfl)) rfl (fun _ => rfl) (by decide) (by decide) (Nat.le_of_ble_eq_true rfl) (Nat.le_of_ble_eq_true rfl) (Nat.le_of_ble_eq_true rfl) dX13_init_234 47 (by decide) (hts (.fieldLink RX13 90 "LevelUnitsModel" "yWhat" "[I") (List.mem_of_getElem? (i := 56) rfl)) (fun _ h9 => h9) rfl rfl (by decide +kernel) dX13_init_236 (fun q_99 F_101 H_j_102 locs_j_102 eF_101 hP_j_102 hD_j_102 hS_j_102 => ?_)
  have k0_j_102 : F_101 0 = .int 0 := fu_ne eF_101 (by decide) k0_j_98
  have k3_j_102 : F_101 3 = .int 0 := fu_ne eF_101 (by decide) k3_j_98
  have k98_j_102 : F_101 98 = .int 0 := fu_ne eF_101 (by decide) k98_j_98
  have k100_j_102 : F_101 100 = .int 0 := fu_ne eF_101 (by decide) k100_j_98
  have k1_j_102 : F_101 1 = .ref q_1 := fu_ne eF_101 (by decide) k1_j_98
  have k2_j_102 : F_101 2 = .ref q_3 := fu_ne eF_101 (by decide) k2_j_98
  have k9_j_102 : F_101 9 = .ref q_11 := fu_ne eF_101 (by decide) k9_j_98
  have k10_j_102 : F_101 10 = .ref q_15 := fu_ne eF_101 (by decide) k10_j_98
  have k11_j_102 : F_101 11 = .ref q_19 := fu_ne eF_101 (by decide) k11_j_98
  have k13_j_102 : F_101 13 = .ref q_23 := fu_ne eF_101 (by decide) k13_j_98
  have k14_j_102 : F_101 14 = .ref q_27 := fu_ne eF_101 (by decide) k14_j_98
  have k15_j_102 : F_101 15 = .ref q_31 := fu_ne eF_101 (by decide) k15_j_98
  clear eF_101 k0_j_98 k3_j_98 k98_j_98 k100_j_98 k1_j_98 k2_j_98 k9_j_98 k10_j_98 k11_j_98 k13_j_98 k14_j_98 k15_j_98 hP hD hS
  have hP : va_P (dC, dI) vwCl [(h0, .inr (15, fl 134 F_101)), (q_1, .inr (14, [.null, .null, .null, .null, .null, .int 0])), (q_3, .inl (cy_4, 6000, .inl (fun _ => 0))), (q_11, .inl (cy_12, 6002, .inl (fun _ => 0))), (q_15, .inl (cy_16, 6002, .inl (fun _ => 0))), (q_19, .inl (cy_20, 6002, .inl (fun _ => 0))), (q_23, .inl (cy_24, 6000, .inl (fun _ => 0))), (q_27, .inl (cy_28, 6000, .inl (fun _ => 0))), (q_31, .inl (cy_32, 6600, .inl (fun _ => 0)))] H_j_102 := hP_j_102
  have hD : va_D A [(h0, .inr (15, fl 134 F_101)), (q_1, .inr (14, [.null, .null, .null, .null, .null, .int 0])), (q_3, .inl (cy_4, 6000, .inl (fun _ => 0))), (q_11, .inl (cy_12, 6002, .inl (fun _ => 0))), (q_15, .inl (cy_16, 6002, .inl (fun _ => 0))), (q_19, .inl (cy_20, 6002, .inl (fun _ => 0))), (q_23, .inl (cy_24, 6000, .inl (fun _ => 0))), (q_27, .inl (cy_28, 6000, .inl (fun _ => 0))), (q_31, .inl (cy_32, 6600, .inl (fun _ => 0)))] := hD_j_102
  have hS := hS_j_102
  clear hP_j_102 hD_j_102 hS_j_102
  refine W.widen (k := 26) (n := 253426) (Nat.le_of_ble_eq_true rfl) (Nat.le_of_ble_eq_true rfl) ?_
  refine lv_aload_n hx hb dX13_init_239 rfl (lv_at hl 0 rfl) ?_
  refine lv_bipush (v := 14) hx hb dX13_init_240 (by decide) ?_
  refine mstep (X := [(q_1, .inr (14, [.null, .null, .null, .null, .null, .int 0])), (q_3, .inl (cy_4, 6000, .inl (fun _ => 0))), (q_11, .inl (cy_12, 6002, .inl (fun _ => 0))), (q_15, .inl (cy_16, 6002, .inl (fun _ => 0))), (q_19, .inl (cy_20, 6002, .inl (fun _ => 0))), (q_23, .inl (cy_24, 6000, .inl (fun _ => 0))), (q_27, .inl (cy_28, 6000, .inl (fun _ => 0))), (q_31, .inl (cy_32, 6600, .inl (fun _ => 0)))]) (F := F_101) (atype := .int) (ty := .int) (a0 := (14, .inl (fun _ => 0))) (N' := 14) hx hb hts in_cc_Model_init_RX13 hown hin hK hP hD hS hA (hts (.arrayClass .int) (List.mem_of_getElem? (i := 33) rfl)) rfl (fun _ => rfl) (by decide) (by decide) (Nat.le_of_ble_eq_true rfl) (Nat.le_of_ble_eq_true rfl) (Nat.le_of_ble_eq_true rfl) dX13_init_242 48 (by decide) (hts (.fieldLink RX13 93 "LevelUnitsModel" "yFrom" "[I") (List.mem_of_getElem? (i := 57) rfl)) (fun _ h9 => h9) rfl rfl (by decide +kernel) dX13_init_244 (fun q_103 F_105 H_j_106 locs_j_106 eF_105 hP_j_106 hD_j_106 hS_j_106 => ?_)
  have k0_j_106 : F_105 0 = .int 0 := fu_ne eF_105 (by decide) k0_j_102
  have k3_j_106 : F_105 3 = .int 0 := fu_ne eF_105 (by decide) k3_j_102
  have k98_j_106 : F_105 98 = .int 0 := fu_ne eF_105 (by decide) k98_j_102
  have k100_j_106 : F_105 100 = .int 0 := fu_ne eF_105 (by decide) k100_j_102
  have k1_j_106 : F_105 1 = .ref q_1 := fu_ne eF_105 (by decide) k1_j_102
  have k2_j_106 : F_105 2 = .ref q_3 := fu_ne eF_105 (by decide) k2_j_102
  have k9_j_106 : F_105 9 = .ref q_11 := fu_ne eF_105 (by decide) k9_j_102
  have k10_j_106 : F_105 10 = .ref q_15 := fu_ne eF_105 (by decide) k10_j_102
  have k11_j_106 : F_105 11 = .ref q_19 := fu_ne eF_105 (by decide) k11_j_102
  have k13_j_106 : F_105 13 = .ref q_23 := fu_ne eF_105 (by decide) k13_j_102
  have k14_j_106 : F_105 14 = .ref q_27 := fu_ne eF_105 (by decide) k14_j_102
  have k15_j_106 : F_105 15 = .ref q_31 := fu_ne eF_105 (by decide) k15_j_102
  clear eF_105 k0_j_102 k3_j_102 k98_j_102 k100_j_102 k1_j_102 k2_j_102 k9_j_102 k10_j_102 k11_j_102 k13_j_102 k14_j_102 k15_j_102 hP hD hS
  have hP : va_P (dC, dI) vwCl [(h0, .inr (15, fl 134 F_105)), (q_1, .inr (14, [.null, .null, .null, .null, .null, .int 0])), (q_3, .inl (cy_4, 6000, .inl (fun _ => 0))), (q_11, .inl (cy_12, 6002, .inl (fun _ => 0))), (q_15, .inl (cy_16, 6002, .inl (fun _ => 0))), (q_19, .inl (cy_20, 6002, .inl (fun _ => 0))), (q_23, .inl (cy_24, 6000, .inl (fun _ => 0))), (q_27, .inl (cy_28, 6000, .inl (fun _ => 0))), (q_31, .inl (cy_32, 6600, .inl (fun _ => 0)))] H_j_106 := hP_j_106
  have hD : va_D A [(h0, .inr (15, fl 134 F_105)), (q_1, .inr (14, [.null, .null, .null, .null, .null, .int 0])), (q_3, .inl (cy_4, 6000, .inl (fun _ => 0))), (q_11, .inl (cy_12, 6002, .inl (fun _ => 0))), (q_15, .inl (cy_16, 6002, .inl (fun _ => 0))), (q_19, .inl (cy_20, 6002, .inl (fun _ => 0))), (q_23, .inl (cy_24, 6000, .inl (fun _ => 0))), (q_27, .inl (cy_28, 6000, .inl (fun _ => 0))), (q_31, .inl (cy_32, 6600, .inl (fun _ => 0)))] := hD_j_106
  have hS := hS_j_106
  clear hP_j_106 hD_j_106 hS_j_106
  refine W.widen (k := 27) (n := 253440) (Nat.le_of_ble_eq_true rfl) (Nat.le_of_ble_eq_true rfl) ?_
  refine lv_aload_n hx hb dX13_init_247 rfl (lv_at hl 0 rfl) ?_
  refine lv_bipush (v := 14) hx hb dX13_init_248 (by decide) ?_
  refine mstep (X := [(q_1, .inr (14, [.null, .null, .null, .null, .null, .int 0])), (q_3, .inl (cy_4, 6000, .inl (fun _ => 0))), (q_11, .inl (cy_12, 6002, .inl (fun _ => 0))), (q_15, .inl (cy_16, 6002, .inl (fun _ => 0))), (q_19, .inl (cy_20, 6002, .inl (fun _ => 0))), (q_23, .inl (cy_24, 6000, .inl (fun _ => 0))), (q_27, .inl (cy_28, 6000, .inl (fun _ => 0))), (q_31, .inl (cy_32, 6600, .inl (fun _ => 0)))]) (F := F_105) (atype := .int) (ty := .int) (a0 := (14, .inl (fun _ => 0))) (N' := 14) hx hb hts in_cc_Model_init_RX13 hown hin hK hP hD hS hA (hts (.arrayClass .int) (List.mem_of_getElem? (i := 33) rfl)) rfl (fun _ => rfl) (by decide) (by decide) (Nat.le_of_ble_eq_true rfl) (Nat.le_of_ble_eq_true rfl) (Nat.le_of_ble_eq_true rfl) dX13_init_250 49 (by decide) (hts (.fieldLink RX13 96 "LevelUnitsModel" "yUntil" "[I") (List.mem_of_getElem? (i := 58) rfl)) (fun _ h9 => h9) rfl rfl (by decide +kernel) dX13_init_252 (fun q_107 F_109 H_j_110 locs_j_110 eF_109 hP_j_110 hD_j_110 hS_j_110 => ?_)
  have k0_j_110 : F_109 0 = .int 0 := fu_ne eF_109 (by decide) k0_j_106
  have k3_j_110 : F_109 3 = .int 0 := fu_ne eF_109 (by decide) k3_j_106
  have k98_j_110 : F_109 98 = .int 0 := fu_ne eF_109 (by decide) k98_j_106
  have k100_j_110 : F_109 100 = .int 0 := fu_ne eF_109 (by decide) k100_j_106
  have k1_j_110 : F_109 1 = .ref q_1 := fu_ne eF_109 (by decide) k1_j_106
  have k2_j_110 : F_109 2 = .ref q_3 := fu_ne eF_109 (by decide) k2_j_106
  have k9_j_110 : F_109 9 = .ref q_11 := fu_ne eF_109 (by decide) k9_j_106
  have k10_j_110 : F_109 10 = .ref q_15 := fu_ne eF_109 (by decide) k10_j_106
  have k11_j_110 : F_109 11 = .ref q_19 := fu_ne eF_109 (by decide) k11_j_106
  have k13_j_110 : F_109 13 = .ref q_23 := fu_ne eF_109 (by decide) k13_j_106
  have k14_j_110 : F_109 14 = .ref q_27 := fu_ne eF_109 (by decide) k14_j_106
  have k15_j_110 : F_109 15 = .ref q_31 := fu_ne eF_109 (by decide) k15_j_106
  clear eF_109 k0_j_106 k3_j_106 k98_j_106 k100_j_106 k1_j_106 k2_j_106 k9_j_106 k10_j_106 k11_j_106 k13_j_106 k14_j_106 k15_j_106 hP hD hS
  have hP : va_P (dC, dI) vwCl [(h0, .inr (15, fl 134 F_109)), (q_1, .inr (14, [.null, .null, .null, .null, .null, .int 0])), (q_3, .inl (cy_4, 6000, .inl (fun _ => 0))), (q_11, .inl (cy_12, 6002, .inl (fun _ => 0))), (q_15, .inl (cy_16, 6002, .inl (fun _ => 0))), (q_19, .inl (cy_20, 6002, .inl (fun _ => 0))), (q_23, .inl (cy_24, 6000, .inl (fun _ => 0))), (q_27, .inl (cy_28, 6000, .inl (fun _ => 0))), (q_31, .inl (cy_32, 6600, .inl (fun _ => 0)))] H_j_110 := hP_j_110
  have hD : va_D A [(h0, .inr (15, fl 134 F_109)), (q_1, .inr (14, [.null, .null, .null, .null, .null, .int 0])), (q_3, .inl (cy_4, 6000, .inl (fun _ => 0))), (q_11, .inl (cy_12, 6002, .inl (fun _ => 0))), (q_15, .inl (cy_16, 6002, .inl (fun _ => 0))), (q_19, .inl (cy_20, 6002, .inl (fun _ => 0))), (q_23, .inl (cy_24, 6000, .inl (fun _ => 0))), (q_27, .inl (cy_28, 6000, .inl (fun _ => 0))), (q_31, .inl (cy_32, 6600, .inl (fun _ => 0)))] := hD_j_110
  have hS := hS_j_110
  clear hP_j_110 hD_j_110 hS_j_110
  refine W.widen (k := 28) (n := 253454) (Nat.le_of_ble_eq_true rfl) (Nat.le_of_ble_eq_true rfl) ?_
  refine lv_aload_n hx hb dX13_init_255 rfl (lv_at hl 0 rfl) ?_
  refine lv_bipush (v := 14) hx hb dX13_init_256 (by decide) ?_
  refine mstep (X := [(q_1, .inr (14, [.null, .null, .null, .null, .null, .int 0])), (q_3, .inl (cy_4, 6000, .inl (fun _ => 0))), (q_11, .inl (cy_12, 6002, .inl (fun _ => 0))), (q_15, .inl (cy_16, 6002, .inl (fun _ => 0))), (q_19, .inl (cy_20, 6002, .inl (fun _ => 0))), (q_23, .inl (cy_24, 6000, .inl (fun _ => 0))), (q_27, .inl (cy_28, 6000, .inl (fun _ => 0))), (q_31, .inl (cy_32, 6600, .inl (fun _ => 0)))]) (F := F_109) (atype := .int) (ty := .int) (a0 := (14, .inl (fun _ => 0))) (N' := 14) hx hb hts in_cc_Model_init_RX13 hown hin hK hP hD hS hA (hts (.arrayClass .int) (List.mem_of_getElem? (i := 33) rfl)) rfl (fun _ => rfl) (by decide) (by decide) (Nat.le_of_ble_eq_true rfl) (Nat.le_of_ble_eq_true rfl) (Nat.le_of_ble_eq_true rfl) dX13_init_258 50 (by decide) (hts (.fieldLink RX13 99 "LevelUnitsModel" "face" "[I") (List.mem_of_getElem? (i := 59) rfl)) (fun _ h9 => h9) rfl rfl (by decide +kernel) dX13_init_260 (fun q_111 F_113 H_j_114 locs_j_114 eF_113 hP_j_114 hD_j_114 hS_j_114 => ?_)
  have k0_j_114 : F_113 0 = .int 0 := fu_ne eF_113 (by decide) k0_j_110
  have k3_j_114 : F_113 3 = .int 0 := fu_ne eF_113 (by decide) k3_j_110
  have k98_j_114 : F_113 98 = .int 0 := fu_ne eF_113 (by decide) k98_j_110
  have k100_j_114 : F_113 100 = .int 0 := fu_ne eF_113 (by decide) k100_j_110
  have k1_j_114 : F_113 1 = .ref q_1 := fu_ne eF_113 (by decide) k1_j_110
  have k2_j_114 : F_113 2 = .ref q_3 := fu_ne eF_113 (by decide) k2_j_110
  have k9_j_114 : F_113 9 = .ref q_11 := fu_ne eF_113 (by decide) k9_j_110
  have k10_j_114 : F_113 10 = .ref q_15 := fu_ne eF_113 (by decide) k10_j_110
  have k11_j_114 : F_113 11 = .ref q_19 := fu_ne eF_113 (by decide) k11_j_110
  have k13_j_114 : F_113 13 = .ref q_23 := fu_ne eF_113 (by decide) k13_j_110
  have k14_j_114 : F_113 14 = .ref q_27 := fu_ne eF_113 (by decide) k14_j_110
  have k15_j_114 : F_113 15 = .ref q_31 := fu_ne eF_113 (by decide) k15_j_110
  clear eF_113 k0_j_110 k3_j_110 k98_j_110 k100_j_110 k1_j_110 k2_j_110 k9_j_110 k10_j_110 k11_j_110 k13_j_110 k14_j_110 k15_j_110 hP hD hS
  have hP : va_P (dC, dI) vwCl [(h0, .inr (15, fl 134 F_113)), (q_1, .inr (14, [.null, .null, .null, .null, .null, .int 0])), (q_3, .inl (cy_4, 6000, .inl (fun _ => 0))), (q_11, .inl (cy_12, 6002, .inl (fun _ => 0))), (q_15, .inl (cy_16, 6002, .inl (fun _ => 0))), (q_19, .inl (cy_20, 6002, .inl (fun _ => 0))), (q_23, .inl (cy_24, 6000, .inl (fun _ => 0))), (q_27, .inl (cy_28, 6000, .inl (fun _ => 0))), (q_31, .inl (cy_32, 6600, .inl (fun _ => 0)))] H_j_114 := hP_j_114
  have hD : va_D A [(h0, .inr (15, fl 134 F_113)), (q_1, .inr (14, [.null, .null, .null, .null, .null, .int 0])), (q_3, .inl (cy_4, 6000, .inl (fun _ => 0))), (q_11, .inl (cy_12, 6002, .inl (fun _ => 0))), (q_15, .inl (cy_16, 6002, .inl (fun _ => 0))), (q_19, .inl (cy_20, 6002, .inl (fun _ => 0))), (q_23, .inl (cy_24, 6000, .inl (fun _ => 0))), (q_27, .inl (cy_28, 6000, .inl (fun _ => 0))), (q_31, .inl (cy_32, 6600, .inl (fun _ => 0)))] := hD_j_114
  have hS := hS_j_114
  clear hP_j_114 hD_j_114 hS_j_114
  refine W.widen (k := 29) (n := 253468) (Nat.le_of_ble_eq_true rfl) (Nat.le_of_ble_eq_true rfl) ?_
  refine lv_aload_n hx hb dX13_init_263 rfl (lv_at hl 0 rfl) ?_
  refine lv_bipush (v := 14) hx hb dX13_init_264 (by decide) ?_
  refine mstep (X := [(q_1, .inr (14, [.null, .null, .null, .null, .null, .int 0])), (q_3, .inl (cy_4, 6000, .inl (fun _ => 0))), (q_11, .inl (cy_12, 6002, .inl (fun _ => 0))), (q_15, .inl (cy_16, 6002, .inl (fun _ => 0))), (q_19, .inl (cy_20, 6002, .inl (fun _ => 0))), (q_23, .inl (cy_24, 6000, .inl (fun _ => 0))), (q_27, .inl (cy_28, 6000, .inl (fun _ => 0))), (q_31, .inl (cy_32, 6600, .inl (fun _ => 0)))]) (F := F_113) (atype := .boolean) (ty := .boolean) (a0 := (14, .inl (fun _ => 0))) (N' := 14) hx hb hts in_cc_Model_init_RX13 hown hin hK hP hD hS hA (hts (.arrayClass .boolean) (List.mem_of_getElem? (i := 60) rfl)) rfl (fun _ => rfl) (by decide) (by decide) (Nat.le_of_ble_eq_true rfl) (Nat.le_of_ble_eq_true rfl) (Nat.le_of_ble_eq_true rfl) dX13_init_266 51 (by decide) (hts (.fieldLink RX13 102 "LevelUnitsModel" "isModule" "[Z") (List.mem_of_getElem? (i := 61) rfl)) (fun _ h9 => h9) rfl rfl (by decide +kernel) dX13_init_268 (fun q_115 F_117 H_j_118 locs_j_118 eF_117 hP_j_118 hD_j_118 hS_j_118 => ?_)
  have k0_j_118 : F_117 0 = .int 0 := fu_ne eF_117 (by decide) k0_j_114
  have k3_j_118 : F_117 3 = .int 0 := fu_ne eF_117 (by decide) k3_j_114
  have k98_j_118 : F_117 98 = .int 0 := fu_ne eF_117 (by decide) k98_j_114
  have k100_j_118 : F_117 100 = .int 0 := fu_ne eF_117 (by decide) k100_j_114
  have k1_j_118 : F_117 1 = .ref q_1 := fu_ne eF_117 (by decide) k1_j_114
  have k2_j_118 : F_117 2 = .ref q_3 := fu_ne eF_117 (by decide) k2_j_114
  have k9_j_118 : F_117 9 = .ref q_11 := fu_ne eF_117 (by decide) k9_j_114
  have k10_j_118 : F_117 10 = .ref q_15 := fu_ne eF_117 (by decide) k10_j_114
  have k11_j_118 : F_117 11 = .ref q_19 := fu_ne eF_117 (by decide) k11_j_114
  have k13_j_118 : F_117 13 = .ref q_23 := fu_ne eF_117 (by decide) k13_j_114
  have k14_j_118 : F_117 14 = .ref q_27 := fu_ne eF_117 (by decide) k14_j_114
  have k15_j_118 : F_117 15 = .ref q_31 := fu_ne eF_117 (by decide) k15_j_114
  clear eF_117 k0_j_114 k3_j_114 k98_j_114 k100_j_114 k1_j_114 k2_j_114 k9_j_114 k10_j_114 k11_j_114 k13_j_114 k14_j_114 k15_j_114 hP hD hS
  have hP : va_P (dC, dI) vwCl [(h0, .inr (15, fl 134 F_117)), (q_1, .inr (14, [.null, .null, .null, .null, .null, .int 0])), (q_3, .inl (cy_4, 6000, .inl (fun _ => 0))), (q_11, .inl (cy_12, 6002, .inl (fun _ => 0))), (q_15, .inl (cy_16, 6002, .inl (fun _ => 0))), (q_19, .inl (cy_20, 6002, .inl (fun _ => 0))), (q_23, .inl (cy_24, 6000, .inl (fun _ => 0))), (q_27, .inl (cy_28, 6000, .inl (fun _ => 0))), (q_31, .inl (cy_32, 6600, .inl (fun _ => 0)))] H_j_118 := hP_j_118
  have hD : va_D A [(h0, .inr (15, fl 134 F_117)), (q_1, .inr (14, [.null, .null, .null, .null, .null, .int 0])), (q_3, .inl (cy_4, 6000, .inl (fun _ => 0))), (q_11, .inl (cy_12, 6002, .inl (fun _ => 0))), (q_15, .inl (cy_16, 6002, .inl (fun _ => 0))), (q_19, .inl (cy_20, 6002, .inl (fun _ => 0))), (q_23, .inl (cy_24, 6000, .inl (fun _ => 0))), (q_27, .inl (cy_28, 6000, .inl (fun _ => 0))), (q_31, .inl (cy_32, 6600, .inl (fun _ => 0)))] := hD_j_118
  have hS := hS_j_118
  clear hP_j_118 hD_j_118 hS_j_118
  refine W.widen (k := 30) (n := 253482) (Nat.le_of_ble_eq_true rfl) (Nat.le_of_ble_eq_true rfl) ?_
  refine lv_aload_n hx hb dX13_init_271 rfl (lv_at hl 0 rfl) ?_
  refine lv_sipush (v := 3200) hx hb dX13_init_272 (by decide) ?_
  refine mstep (X := [(q_1, .inr (14, [.null, .null, .null, .null, .null, .int 0])), (q_3, .inl (cy_4, 6000, .inl (fun _ => 0))), (q_11, .inl (cy_12, 6002, .inl (fun _ => 0))), (q_15, .inl (cy_16, 6002, .inl (fun _ => 0))), (q_19, .inl (cy_20, 6002, .inl (fun _ => 0))), (q_23, .inl (cy_24, 6000, .inl (fun _ => 0))), (q_27, .inl (cy_28, 6000, .inl (fun _ => 0))), (q_31, .inl (cy_32, 6600, .inl (fun _ => 0)))]) (F := F_117) (atype := .int) (ty := .int) (a0 := (3200, .inl (fun _ => 0))) (N' := 3200) hx hb hts in_cc_Model_init_RX13 hown hin hK hP hD hS hA (hts (.arrayClass .int) (List.mem_of_getElem? (i := 33) rfl)) rfl (fun _ => rfl) (by decide) (by decide) (Nat.le_of_ble_eq_true rfl) (Nat.le_of_ble_eq_true rfl) (Nat.le_of_ble_eq_true rfl) dX13_init_275 53 (by decide) (hts (.fieldLink RX13 106 "LevelUnitsModel" "vKind" "[I") (List.mem_of_getElem? (i := 62) rfl)) (fun _ h9 => h9) rfl rfl (by decide +kernel) dX13_init_277 (fun q_119 F_121 H_j_122 locs_j_122 eF_121 hP_j_122 hD_j_122 hS_j_122 => ?_)
  have k0_j_122 : F_121 0 = .int 0 := fu_ne eF_121 (by decide) k0_j_118
  have k3_j_122 : F_121 3 = .int 0 := fu_ne eF_121 (by decide) k3_j_118
  have k98_j_122 : F_121 98 = .int 0 := fu_ne eF_121 (by decide) k98_j_118
  have k100_j_122 : F_121 100 = .int 0 := fu_ne eF_121 (by decide) k100_j_118
  have k1_j_122 : F_121 1 = .ref q_1 := fu_ne eF_121 (by decide) k1_j_118
  have k2_j_122 : F_121 2 = .ref q_3 := fu_ne eF_121 (by decide) k2_j_118
  have k9_j_122 : F_121 9 = .ref q_11 := fu_ne eF_121 (by decide) k9_j_118
  have k10_j_122 : F_121 10 = .ref q_15 := fu_ne eF_121 (by decide) k10_j_118
  have k11_j_122 : F_121 11 = .ref q_19 := fu_ne eF_121 (by decide) k11_j_118
  have k13_j_122 : F_121 13 = .ref q_23 := fu_ne eF_121 (by decide) k13_j_118
  have k14_j_122 : F_121 14 = .ref q_27 := fu_ne eF_121 (by decide) k14_j_118
  have k15_j_122 : F_121 15 = .ref q_31 := fu_ne eF_121 (by decide) k15_j_118
  clear eF_121 k0_j_118 k3_j_118 k98_j_118 k100_j_118 k1_j_118 k2_j_118 k9_j_118 k10_j_118 k11_j_118 k13_j_118 k14_j_118 k15_j_118 hP hD hS
  have hP : va_P (dC, dI) vwCl [(h0, .inr (15, fl 134 F_121)), (q_1, .inr (14, [.null, .null, .null, .null, .null, .int 0])), (q_3, .inl (cy_4, 6000, .inl (fun _ => 0))), (q_11, .inl (cy_12, 6002, .inl (fun _ => 0))), (q_15, .inl (cy_16, 6002, .inl (fun _ => 0))), (q_19, .inl (cy_20, 6002, .inl (fun _ => 0))), (q_23, .inl (cy_24, 6000, .inl (fun _ => 0))), (q_27, .inl (cy_28, 6000, .inl (fun _ => 0))), (q_31, .inl (cy_32, 6600, .inl (fun _ => 0)))] H_j_122 := hP_j_122
  have hD : va_D A [(h0, .inr (15, fl 134 F_121)), (q_1, .inr (14, [.null, .null, .null, .null, .null, .int 0])), (q_3, .inl (cy_4, 6000, .inl (fun _ => 0))), (q_11, .inl (cy_12, 6002, .inl (fun _ => 0))), (q_15, .inl (cy_16, 6002, .inl (fun _ => 0))), (q_19, .inl (cy_20, 6002, .inl (fun _ => 0))), (q_23, .inl (cy_24, 6000, .inl (fun _ => 0))), (q_27, .inl (cy_28, 6000, .inl (fun _ => 0))), (q_31, .inl (cy_32, 6600, .inl (fun _ => 0)))] := hD_j_122
  have hS := hS_j_122
  clear hP_j_122 hD_j_122 hS_j_122
  refine W.widen (k := 31) (n := 256682) (Nat.le_of_ble_eq_true rfl) (Nat.le_of_ble_eq_true rfl) ?_
  refine lv_aload_n hx hb dX13_init_280 rfl (lv_at hl 0 rfl) ?_
  refine lv_sipush (v := 3200) hx hb dX13_init_281 (by decide) ?_
  refine mstep (X := [(q_1, .inr (14, [.null, .null, .null, .null, .null, .int 0])), (q_3, .inl (cy_4, 6000, .inl (fun _ => 0))), (q_11, .inl (cy_12, 6002, .inl (fun _ => 0))), (q_15, .inl (cy_16, 6002, .inl (fun _ => 0))), (q_19, .inl (cy_20, 6002, .inl (fun _ => 0))), (q_23, .inl (cy_24, 6000, .inl (fun _ => 0))), (q_27, .inl (cy_28, 6000, .inl (fun _ => 0))), (q_31, .inl (cy_32, 6600, .inl (fun _ => 0)))]) (F := F_121) (atype := .int) (ty := .int) (a0 := (3200, .inl (fun _ => 0))) (N' := 3200) hx hb hts in_cc_Model_init_RX13 hown hin hK hP hD hS hA (hts (.arrayClass .int) (List.mem_of_getElem? (i := 33) rfl)) rfl (fun _ => rfl) (by decide) (by decide) (Nat.le_of_ble_eq_true rfl) (Nat.le_of_ble_eq_true rfl) (Nat.le_of_ble_eq_true rfl) dX13_init_284 54 (by decide) (hts (.fieldLink RX13 109 "LevelUnitsModel" "vType" "[I") (List.mem_of_getElem? (i := 63) rfl)) (fun _ h9 => h9) rfl rfl (by decide +kernel) dX13_init_286 (fun q_123 F_125 H_j_126 locs_j_126 eF_125 hP_j_126 hD_j_126 hS_j_126 => ?_)
  have k0_j_126 : F_125 0 = .int 0 := fu_ne eF_125 (by decide) k0_j_122
  have k3_j_126 : F_125 3 = .int 0 := fu_ne eF_125 (by decide) k3_j_122
  have k98_j_126 : F_125 98 = .int 0 := fu_ne eF_125 (by decide) k98_j_122
  have k100_j_126 : F_125 100 = .int 0 := fu_ne eF_125 (by decide) k100_j_122
  have k1_j_126 : F_125 1 = .ref q_1 := fu_ne eF_125 (by decide) k1_j_122
  have k2_j_126 : F_125 2 = .ref q_3 := fu_ne eF_125 (by decide) k2_j_122
  have k9_j_126 : F_125 9 = .ref q_11 := fu_ne eF_125 (by decide) k9_j_122
  have k10_j_126 : F_125 10 = .ref q_15 := fu_ne eF_125 (by decide) k10_j_122
  have k11_j_126 : F_125 11 = .ref q_19 := fu_ne eF_125 (by decide) k11_j_122
  have k13_j_126 : F_125 13 = .ref q_23 := fu_ne eF_125 (by decide) k13_j_122
  have k14_j_126 : F_125 14 = .ref q_27 := fu_ne eF_125 (by decide) k14_j_122
  have k15_j_126 : F_125 15 = .ref q_31 := fu_ne eF_125 (by decide) k15_j_122
  clear eF_125 k0_j_122 k3_j_122 k98_j_122 k100_j_122 k1_j_122 k2_j_122 k9_j_122 k10_j_122 k11_j_122 k13_j_122 k14_j_122 k15_j_122 hP hD hS
  have hP : va_P (dC, dI) vwCl [(h0, .inr (15, fl 134 F_125)), (q_1, .inr (14, [.null, .null, .null, .null, .null, .int 0])), (q_3, .inl (cy_4, 6000, .inl (fun _ => 0))), (q_11, .inl (cy_12, 6002, .inl (fun _ => 0))), (q_15, .inl (cy_16, 6002, .inl (fun _ => 0))), (q_19, .inl (cy_20, 6002, .inl (fun _ => 0))), (q_23, .inl (cy_24, 6000, .inl (fun _ => 0))), (q_27, .inl (cy_28, 6000, .inl (fun _ => 0))), (q_31, .inl (cy_32, 6600, .inl (fun _ => 0)))] H_j_126 := hP_j_126
  have hD : va_D A [(h0, .inr (15, fl 134 F_125)), (q_1, .inr (14, [.null, .null, .null, .null, .null, .int 0])), (q_3, .inl (cy_4, 6000, .inl (fun _ => 0))), (q_11, .inl (cy_12, 6002, .inl (fun _ => 0))), (q_15, .inl (cy_16, 6002, .inl (fun _ => 0))), (q_19, .inl (cy_20, 6002, .inl (fun _ => 0))), (q_23, .inl (cy_24, 6000, .inl (fun _ => 0))), (q_27, .inl (cy_28, 6000, .inl (fun _ => 0))), (q_31, .inl (cy_32, 6600, .inl (fun _ => 0)))] := hD_j_126
  have hS := hS_j_126
  clear hP_j_126 hD_j_126 hS_j_126
  refine W.widen (k := 32) (n := 259882) (Nat.le_of_ble_eq_true rfl) (Nat.le_of_ble_eq_true rfl) ?_
  refine lv_aload_n hx hb dX13_init_289 rfl (lv_at hl 0 rfl) ?_
  refine lv_sipush (v := 3200) hx hb dX13_init_290 (by decide) ?_
  refine mstep (X := [(q_1, .inr (14, [.null, .null, .null, .null, .null, .int 0])), (q_3, .inl (cy_4, 6000, .inl (fun _ => 0))), (q_11, .inl (cy_12, 6002, .inl (fun _ => 0))), (q_15, .inl (cy_16, 6002, .inl (fun _ => 0))), (q_19, .inl (cy_20, 6002, .inl (fun _ => 0))), (q_23, .inl (cy_24, 6000, .inl (fun _ => 0))), (q_27, .inl (cy_28, 6000, .inl (fun _ => 0))), (q_31, .inl (cy_32, 6600, .inl (fun _ => 0)))]) (F := F_125) (atype := .int) (ty := .int) (a0 := (3200, .inl (fun _ => 0))) (N' := 3200) hx hb hts in_cc_Model_init_RX13 hown hin hK hP hD hS hA (hts (.arrayClass .int) (List.mem_of_getElem? (i := 33) rfl)) rfl (fun _ => rfl) (by decide) (by decide) (Nat.le_of_ble_eq_true rfl) (Nat.le_of_ble_eq_true rfl) (Nat.le_of_ble_eq_true rfl) dX13_init_293 55 (by decide) (hts (.fieldLink RX13 112 "LevelUnitsModel" "vAt" "[I") (List.mem_of_getElem? (i := 64) rfl)) (fun _ h9 => h9) rfl rfl (by decide +kernel) dX13_init_295 (fun q_127 F_129 H_j_130 locs_j_130 eF_129 hP_j_130 hD_j_130 hS_j_130 => ?_)
  have k0_j_130 : F_129 0 = .int 0 := fu_ne eF_129 (by decide) k0_j_126
  have k3_j_130 : F_129 3 = .int 0 := fu_ne eF_129 (by decide) k3_j_126
  have k98_j_130 : F_129 98 = .int 0 := fu_ne eF_129 (by decide) k98_j_126
  have k100_j_130 : F_129 100 = .int 0 := fu_ne eF_129 (by decide) k100_j_126
  have k1_j_130 : F_129 1 = .ref q_1 := fu_ne eF_129 (by decide) k1_j_126
  have k2_j_130 : F_129 2 = .ref q_3 := fu_ne eF_129 (by decide) k2_j_126
  have k9_j_130 : F_129 9 = .ref q_11 := fu_ne eF_129 (by decide) k9_j_126
  have k10_j_130 : F_129 10 = .ref q_15 := fu_ne eF_129 (by decide) k10_j_126
  have k11_j_130 : F_129 11 = .ref q_19 := fu_ne eF_129 (by decide) k11_j_126
  have k13_j_130 : F_129 13 = .ref q_23 := fu_ne eF_129 (by decide) k13_j_126
  have k14_j_130 : F_129 14 = .ref q_27 := fu_ne eF_129 (by decide) k14_j_126
  have k15_j_130 : F_129 15 = .ref q_31 := fu_ne eF_129 (by decide) k15_j_126
  clear eF_129 k0_j_126 k3_j_126 k98_j_126 k100_j_126 k1_j_126 k2_j_126 k9_j_126 k10_j_126 k11_j_126 k13_j_126 k14_j_126 k15_j_126 hP hD hS
  have hP : va_P (dC, dI) vwCl [(h0, .inr (15, fl 134 F_129)), (q_1, .inr (14, [.null, .null, .null, .null, .null, .int 0])), (q_3, .inl (cy_4, 6000, .inl (fun _ => 0))), (q_11, .inl (cy_12, 6002, .inl (fun _ => 0))), (q_15, .inl (cy_16, 6002, .inl (fun _ => 0))), (q_19, .inl (cy_20, 6002, .inl (fun _ => 0))), (q_23, .inl (cy_24, 6000, .inl (fun _ => 0))), (q_27, .inl (cy_28, 6000, .inl (fun _ => 0))), (q_31, .inl (cy_32, 6600, .inl (fun _ => 0)))] H_j_130 := hP_j_130
  have hD : va_D A [(h0, .inr (15, fl 134 F_129)), (q_1, .inr (14, [.null, .null, .null, .null, .null, .int 0])), (q_3, .inl (cy_4, 6000, .inl (fun _ => 0))), (q_11, .inl (cy_12, 6002, .inl (fun _ => 0))), (q_15, .inl (cy_16, 6002, .inl (fun _ => 0))), (q_19, .inl (cy_20, 6002, .inl (fun _ => 0))), (q_23, .inl (cy_24, 6000, .inl (fun _ => 0))), (q_27, .inl (cy_28, 6000, .inl (fun _ => 0))), (q_31, .inl (cy_32, 6600, .inl (fun _ => 0)))] := hD_j_130
  have hS := hS_j_130
  clear hP_j_130 hD_j_130 hS_j_130
  refine W.widen (k := 33) (n := 263082) (Nat.le_of_ble_eq_true rfl) (Nat.le_of_ble_eq_true rfl) ?_
  refine lv_aload_n hx hb dX13_init_298 rfl (lv_at hl 0 rfl) ?_
  refine lv_sipush (v := 3200) hx hb dX13_init_299 (by decide) ?_
  refine mstep (X := [(q_1, .inr (14, [.null, .null, .null, .null, .null, .int 0])), (q_3, .inl (cy_4, 6000, .inl (fun _ => 0))), (q_11, .inl (cy_12, 6002, .inl (fun _ => 0))), (q_15, .inl (cy_16, 6002, .inl (fun _ => 0))), (q_19, .inl (cy_20, 6002, .inl (fun _ => 0))), (q_23, .inl (cy_24, 6000, .inl (fun _ => 0))), (q_27, .inl (cy_28, 6000, .inl (fun _ => 0))), (q_31, .inl (cy_32, 6600, .inl (fun _ => 0)))]) (F := F_129) (atype := .int) (ty := .int) (a0 := (3200, .inl (fun _ => 0))) (N' := 3200) hx hb hts in_cc_Model_init_RX13 hown hin hK hP hD hS hA (hts (.arrayClass .int) (List.mem_of_getElem? (i := 33) rfl)) rfl (fun _ => rfl) (by decide) (by decide) (Nat.le_of_ble_eq_true rfl) (Nat.le_of_ble_eq_true rfl) (Nat.le_of_ble_eq_true rfl) dX13_init_302 57 (by decide) (hts (.fieldLink RX13 115 "LevelUnitsModel" "pTold" "[I") (List.mem_of_getElem? (i := 65) rfl)) (fun _ h9 => h9) rfl rfl (by decide +kernel) dX13_init_304 (fun q_131 F_133 H_j_134 locs_j_134 eF_133 hP_j_134 hD_j_134 hS_j_134 => ?_)
  have k0_j_134 : F_133 0 = .int 0 := fu_ne eF_133 (by decide) k0_j_130
  have k3_j_134 : F_133 3 = .int 0 := fu_ne eF_133 (by decide) k3_j_130
  have k98_j_134 : F_133 98 = .int 0 := fu_ne eF_133 (by decide) k98_j_130
  have k100_j_134 : F_133 100 = .int 0 := fu_ne eF_133 (by decide) k100_j_130
  have k1_j_134 : F_133 1 = .ref q_1 := fu_ne eF_133 (by decide) k1_j_130
  have k2_j_134 : F_133 2 = .ref q_3 := fu_ne eF_133 (by decide) k2_j_130
  have k9_j_134 : F_133 9 = .ref q_11 := fu_ne eF_133 (by decide) k9_j_130
  have k10_j_134 : F_133 10 = .ref q_15 := fu_ne eF_133 (by decide) k10_j_130
  have k11_j_134 : F_133 11 = .ref q_19 := fu_ne eF_133 (by decide) k11_j_130
  have k13_j_134 : F_133 13 = .ref q_23 := fu_ne eF_133 (by decide) k13_j_130
  have k14_j_134 : F_133 14 = .ref q_27 := fu_ne eF_133 (by decide) k14_j_130
  have k15_j_134 : F_133 15 = .ref q_31 := fu_ne eF_133 (by decide) k15_j_130
  clear eF_133 k0_j_130 k3_j_130 k98_j_130 k100_j_130 k1_j_130 k2_j_130 k9_j_130 k10_j_130 k11_j_130 k13_j_130 k14_j_130 k15_j_130 hP hD hS
  have hP : va_P (dC, dI) vwCl [(h0, .inr (15, fl 134 F_133)), (q_1, .inr (14, [.null, .null, .null, .null, .null, .int 0])), (q_3, .inl (cy_4, 6000, .inl (fun _ => 0))), (q_11, .inl (cy_12, 6002, .inl (fun _ => 0))), (q_15, .inl (cy_16, 6002, .inl (fun _ => 0))), (q_19, .inl (cy_20, 6002, .inl (fun _ => 0))), (q_23, .inl (cy_24, 6000, .inl (fun _ => 0))), (q_27, .inl (cy_28, 6000, .inl (fun _ => 0))), (q_31, .inl (cy_32, 6600, .inl (fun _ => 0)))] H_j_134 := hP_j_134
  have hD : va_D A [(h0, .inr (15, fl 134 F_133)), (q_1, .inr (14, [.null, .null, .null, .null, .null, .int 0])), (q_3, .inl (cy_4, 6000, .inl (fun _ => 0))), (q_11, .inl (cy_12, 6002, .inl (fun _ => 0))), (q_15, .inl (cy_16, 6002, .inl (fun _ => 0))), (q_19, .inl (cy_20, 6002, .inl (fun _ => 0))), (q_23, .inl (cy_24, 6000, .inl (fun _ => 0))), (q_27, .inl (cy_28, 6000, .inl (fun _ => 0))), (q_31, .inl (cy_32, 6600, .inl (fun _ => 0)))] := hD_j_134
  have hS := hS_j_134
  clear hP_j_134 hD_j_134 hS_j_134
  refine W.widen (k := 34) (n := 266282) (Nat.le_of_ble_eq_true rfl) (Nat.le_of_ble_eq_true rfl) ?_
  refine lv_aload_n hx hb dX13_init_307 rfl (lv_at hl 0 rfl) ?_
  refine lv_sipush (v := 3200) hx hb dX13_init_308 (by decide) ?_
  refine mstep (X := [(q_1, .inr (14, [.null, .null, .null, .null, .null, .int 0])), (q_3, .inl (cy_4, 6000, .inl (fun _ => 0))), (q_11, .inl (cy_12, 6002, .inl (fun _ => 0))), (q_15, .inl (cy_16, 6002, .inl (fun _ => 0))), (q_19, .inl (cy_20, 6002, .inl (fun _ => 0))), (q_23, .inl (cy_24, 6000, .inl (fun _ => 0))), (q_27, .inl (cy_28, 6000, .inl (fun _ => 0))), (q_31, .inl (cy_32, 6600, .inl (fun _ => 0)))]) (F := F_133) (atype := .int) (ty := .int) (a0 := (3200, .inl (fun _ => 0))) (N' := 3200) hx hb hts in_cc_Model_init_RX13 hown hin hK hP hD hS hA (hts (.arrayClass .int) (List.mem_of_getElem? (i := 33) rfl)) rfl (fun _ => rfl) (by decide) (by decide) (Nat.le_of_ble_eq_true rfl) (Nat.le_of_ble_eq_true rfl) (Nat.le_of_ble_eq_true rfl) dX13_init_311 58 (by decide) (hts (.fieldLink RX13 118 "LevelUnitsModel" "pMade" "[I") (List.mem_of_getElem? (i := 66) rfl)) (fun _ h9 => h9) rfl rfl (by decide +kernel) dX13_init_313 (fun q_135 F_137 H_j_138 locs_j_138 eF_137 hP_j_138 hD_j_138 hS_j_138 => ?_)
  have k0_j_138 : F_137 0 = .int 0 := fu_ne eF_137 (by decide) k0_j_134
  have k3_j_138 : F_137 3 = .int 0 := fu_ne eF_137 (by decide) k3_j_134
  have k98_j_138 : F_137 98 = .int 0 := fu_ne eF_137 (by decide) k98_j_134
  have k100_j_138 : F_137 100 = .int 0 := fu_ne eF_137 (by decide) k100_j_134
  have k1_j_138 : F_137 1 = .ref q_1 := fu_ne eF_137 (by decide) k1_j_134
  have k2_j_138 : F_137 2 = .ref q_3 := fu_ne eF_137 (by decide) k2_j_134
  have k9_j_138 : F_137 9 = .ref q_11 := fu_ne eF_137 (by decide) k9_j_134
  have k10_j_138 : F_137 10 = .ref q_15 := fu_ne eF_137 (by decide) k10_j_134
  have k11_j_138 : F_137 11 = .ref q_19 := fu_ne eF_137 (by decide) k11_j_134
  have k13_j_138 : F_137 13 = .ref q_23 := fu_ne eF_137 (by decide) k13_j_134
  have k14_j_138 : F_137 14 = .ref q_27 := fu_ne eF_137 (by decide) k14_j_134
  have k15_j_138 : F_137 15 = .ref q_31 := fu_ne eF_137 (by decide) k15_j_134
  clear eF_137 k0_j_134 k3_j_134 k98_j_134 k100_j_134 k1_j_134 k2_j_134 k9_j_134 k10_j_134 k11_j_134 k13_j_134 k14_j_134 k15_j_134 hP hD hS
  have hP : va_P (dC, dI) vwCl [(h0, .inr (15, fl 134 F_137)), (q_1, .inr (14, [.null, .null, .null, .null, .null, .int 0])), (q_3, .inl (cy_4, 6000, .inl (fun _ => 0))), (q_11, .inl (cy_12, 6002, .inl (fun _ => 0))), (q_15, .inl (cy_16, 6002, .inl (fun _ => 0))), (q_19, .inl (cy_20, 6002, .inl (fun _ => 0))), (q_23, .inl (cy_24, 6000, .inl (fun _ => 0))), (q_27, .inl (cy_28, 6000, .inl (fun _ => 0))), (q_31, .inl (cy_32, 6600, .inl (fun _ => 0)))] H_j_138 := hP_j_138
  have hD : va_D A [(h0, .inr (15, fl 134 F_137)), (q_1, .inr (14, [.null, .null, .null, .null, .null, .int 0])), (q_3, .inl (cy_4, 6000, .inl (fun _ => 0))), (q_11, .inl (cy_12, 6002, .inl (fun _ => 0))), (q_15, .inl (cy_16, 6002, .inl (fun _ => 0))), (q_19, .inl (cy_20, 6002, .inl (fun _ => 0))), (q_23, .inl (cy_24, 6000, .inl (fun _ => 0))), (q_27, .inl (cy_28, 6000, .inl (fun _ => 0))), (q_31, .inl (cy_32, 6600, .inl (fun _ => 0)))] := hD_j_138
  have hS := hS_j_138
  clear hP_j_138 hD_j_138 hS_j_138
  refine W.widen (k := 35) (n := 269482) (Nat.le_of_ble_eq_true rfl) (Nat.le_of_ble_eq_true rfl) ?_
  refine lv_aload_n hx hb dX13_init_316 rfl (lv_at hl 0 rfl) ?_
  refine lv_sipush (v := 3200) hx hb dX13_init_317 (by decide) ?_
  refine mstep (X := [(q_1, .inr (14, [.null, .null, .null, .null, .null, .int 0])), (q_3, .inl (cy_4, 6000, .inl (fun _ => 0))), (q_11, .inl (cy_12, 6002, .inl (fun _ => 0))), (q_15, .inl (cy_16, 6002, .inl (fun _ => 0))), (q_19, .inl (cy_20, 6002, .inl (fun _ => 0))), (q_23, .inl (cy_24, 6000, .inl (fun _ => 0))), (q_27, .inl (cy_28, 6000, .inl (fun _ => 0))), (q_31, .inl (cy_32, 6600, .inl (fun _ => 0)))]) (F := F_137) (atype := .int) (ty := .int) (a0 := (3200, .inl (fun _ => 0))) (N' := 3200) hx hb hts in_cc_Model_init_RX13 hown hin hK hP hD hS hA (hts (.arrayClass .int) (List.mem_of_getElem? (i := 33) rfl)) rfl (fun _ => rfl) (by decide) (by decide) (Nat.le_of_ble_eq_true rfl) (Nat.le_of_ble_eq_true rfl) (Nat.le_of_ble_eq_true rfl) dX13_init_320 61 (by decide) (hts (.fieldLink RX13 121 "LevelUnitsModel" "typeNode" "[I") (List.mem_of_getElem? (i := 67) rfl)) (fun _ h9 => h9) rfl rfl (by decide +kernel) dX13_init_322 (fun q_139 F_141 H_j_142 locs_j_142 eF_141 hP_j_142 hD_j_142 hS_j_142 => ?_)
  have k0_j_142 : F_141 0 = .int 0 := fu_ne eF_141 (by decide) k0_j_138
  have k3_j_142 : F_141 3 = .int 0 := fu_ne eF_141 (by decide) k3_j_138
  have k98_j_142 : F_141 98 = .int 0 := fu_ne eF_141 (by decide) k98_j_138
  have k100_j_142 : F_141 100 = .int 0 := fu_ne eF_141 (by decide) k100_j_138
  have k1_j_142 : F_141 1 = .ref q_1 := fu_ne eF_141 (by decide) k1_j_138
  have k2_j_142 : F_141 2 = .ref q_3 := fu_ne eF_141 (by decide) k2_j_138
  have k9_j_142 : F_141 9 = .ref q_11 := fu_ne eF_141 (by decide) k9_j_138
  have k10_j_142 : F_141 10 = .ref q_15 := fu_ne eF_141 (by decide) k10_j_138
  have k11_j_142 : F_141 11 = .ref q_19 := fu_ne eF_141 (by decide) k11_j_138
  have k13_j_142 : F_141 13 = .ref q_23 := fu_ne eF_141 (by decide) k13_j_138
  have k14_j_142 : F_141 14 = .ref q_27 := fu_ne eF_141 (by decide) k14_j_138
  have k15_j_142 : F_141 15 = .ref q_31 := fu_ne eF_141 (by decide) k15_j_138
  clear eF_141 k0_j_138 k3_j_138 k98_j_138 k100_j_138 k1_j_138 k2_j_138 k9_j_138 k10_j_138 k11_j_138 k13_j_138 k14_j_138 k15_j_138 hP hD hS
  have hP : va_P (dC, dI) vwCl [(h0, .inr (15, fl 134 F_141)), (q_1, .inr (14, [.null, .null, .null, .null, .null, .int 0])), (q_3, .inl (cy_4, 6000, .inl (fun _ => 0))), (q_11, .inl (cy_12, 6002, .inl (fun _ => 0))), (q_15, .inl (cy_16, 6002, .inl (fun _ => 0))), (q_19, .inl (cy_20, 6002, .inl (fun _ => 0))), (q_23, .inl (cy_24, 6000, .inl (fun _ => 0))), (q_27, .inl (cy_28, 6000, .inl (fun _ => 0))), (q_31, .inl (cy_32, 6600, .inl (fun _ => 0)))] H_j_142 := hP_j_142
  have hD : va_D A [(h0, .inr (15, fl 134 F_141)), (q_1, .inr (14, [.null, .null, .null, .null, .null, .int 0])), (q_3, .inl (cy_4, 6000, .inl (fun _ => 0))), (q_11, .inl (cy_12, 6002, .inl (fun _ => 0))), (q_15, .inl (cy_16, 6002, .inl (fun _ => 0))), (q_19, .inl (cy_20, 6002, .inl (fun _ => 0))), (q_23, .inl (cy_24, 6000, .inl (fun _ => 0))), (q_27, .inl (cy_28, 6000, .inl (fun _ => 0))), (q_31, .inl (cy_32, 6600, .inl (fun _ => 0)))] := hD_j_142
  have hS := hS_j_142
  clear hP_j_142 hD_j_142 hS_j_142
  refine W.widen (k := 36) (n := 272682) (Nat.le_of_ble_eq_true rfl) (Nat.le_of_ble_eq_true rfl) ?_
  refine lv_aload_n hx hb dX13_init_325 rfl (lv_at hl 0 rfl) ?_
  refine lv_sipush (v := 3200) hx hb dX13_init_326 (by decide) ?_
  refine mstep (X := [(q_1, .inr (14, [.null, .null, .null, .null, .null, .int 0])), (q_3, .inl (cy_4, 6000, .inl (fun _ => 0))), (q_11, .inl (cy_12, 6002, .inl (fun _ => 0))), (q_15, .inl (cy_16, 6002, .inl (fun _ => 0))), (q_19, .inl (cy_20, 6002, .inl (fun _ => 0))), (q_23, .inl (cy_24, 6000, .inl (fun _ => 0))), (q_27, .inl (cy_28, 6000, .inl (fun _ => 0))), (q_31, .inl (cy_32, 6600, .inl (fun _ => 0)))]) (F := F_141) (atype := .int) (ty := .int) (a0 := (3200, .inl (fun _ => 0))) (N' := 3200) hx hb hts in_cc_Model_init_RX13 hown hin hK hP hD hS hA (hts (.arrayClass .int) (List.mem_of_getElem? (i := 33) rfl)) rfl (fun _ => rfl) (by decide) (by decide) (Nat.le_of_ble_eq_true rfl) (Nat.le_of_ble_eq_true rfl) (Nat.le_of_ble_eq_true rfl) dX13_init_329 63 (by decide) (hts (.fieldLink RX13 124 "LevelUnitsModel" "seenName" "[I") (List.mem_of_getElem? (i := 68) rfl)) (fun _ h9 => h9) rfl rfl (by decide +kernel) dX13_init_331 (fun q_143 F_145 H_j_146 locs_j_146 eF_145 hP_j_146 hD_j_146 hS_j_146 => ?_)
  have k0_j_146 : F_145 0 = .int 0 := fu_ne eF_145 (by decide) k0_j_142
  have k3_j_146 : F_145 3 = .int 0 := fu_ne eF_145 (by decide) k3_j_142
  have k98_j_146 : F_145 98 = .int 0 := fu_ne eF_145 (by decide) k98_j_142
  have k100_j_146 : F_145 100 = .int 0 := fu_ne eF_145 (by decide) k100_j_142
  have k1_j_146 : F_145 1 = .ref q_1 := fu_ne eF_145 (by decide) k1_j_142
  have k2_j_146 : F_145 2 = .ref q_3 := fu_ne eF_145 (by decide) k2_j_142
  have k9_j_146 : F_145 9 = .ref q_11 := fu_ne eF_145 (by decide) k9_j_142
  have k10_j_146 : F_145 10 = .ref q_15 := fu_ne eF_145 (by decide) k10_j_142
  have k11_j_146 : F_145 11 = .ref q_19 := fu_ne eF_145 (by decide) k11_j_142
  have k13_j_146 : F_145 13 = .ref q_23 := fu_ne eF_145 (by decide) k13_j_142
  have k14_j_146 : F_145 14 = .ref q_27 := fu_ne eF_145 (by decide) k14_j_142
  have k15_j_146 : F_145 15 = .ref q_31 := fu_ne eF_145 (by decide) k15_j_142
  clear eF_145 k0_j_142 k3_j_142 k98_j_142 k100_j_142 k1_j_142 k2_j_142 k9_j_142 k10_j_142 k11_j_142 k13_j_142 k14_j_142 k15_j_142 hP hD hS
  have hP : va_P (dC, dI) vwCl [(h0, .inr (15, fl 134 F_145)), (q_1, .inr (14, [.null, .null, .null, .null, .null, .int 0])), (q_3, .inl (cy_4, 6000, .inl (fun _ => 0))), (q_11, .inl (cy_12, 6002, .inl (fun _ => 0))), (q_15, .inl (cy_16, 6002, .inl (fun _ => 0))), (q_19, .inl (cy_20, 6002, .inl (fun _ => 0))), (q_23, .inl (cy_24, 6000, .inl (fun _ => 0))), (q_27, .inl (cy_28, 6000, .inl (fun _ => 0))), (q_31, .inl (cy_32, 6600, .inl (fun _ => 0)))] H_j_146 := hP_j_146
  have hD : va_D A [(h0, .inr (15, fl 134 F_145)), (q_1, .inr (14, [.null, .null, .null, .null, .null, .int 0])), (q_3, .inl (cy_4, 6000, .inl (fun _ => 0))), (q_11, .inl (cy_12, 6002, .inl (fun _ => 0))), (q_15, .inl (cy_16, 6002, .inl (fun _ => 0))), (q_19, .inl (cy_20, 6002, .inl (fun _ => 0))), (q_23, .inl (cy_24, 6000, .inl (fun _ => 0))), (q_27, .inl (cy_28, 6000, .inl (fun _ => 0))), (q_31, .inl (cy_32, 6600, .inl (fun _ => 0)))] := hD_j_146
  have hS := hS_j_146
  clear hP_j_146 hD_j_146 hS_j_146
  refine W.widen (k := 37) (n := 275882) (Nat.le_of_ble_eq_true rfl) (Nat.le_of_ble_eq_true rfl) ?_
  refine lv_aload_n hx hb dX13_init_334 rfl (lv_at hl 0 rfl) ?_
  refine lv_sipush (v := 3200) hx hb dX13_init_335 (by decide) ?_
  refine mstep (X := [(q_1, .inr (14, [.null, .null, .null, .null, .null, .int 0])), (q_3, .inl (cy_4, 6000, .inl (fun _ => 0))), (q_11, .inl (cy_12, 6002, .inl (fun _ => 0))), (q_15, .inl (cy_16, 6002, .inl (fun _ => 0))), (q_19, .inl (cy_20, 6002, .inl (fun _ => 0))), (q_23, .inl (cy_24, 6000, .inl (fun _ => 0))), (q_27, .inl (cy_28, 6000, .inl (fun _ => 0))), (q_31, .inl (cy_32, 6600, .inl (fun _ => 0)))]) (F := F_145) (atype := .int) (ty := .int) (a0 := (3200, .inl (fun _ => 0))) (N' := 3200) hx hb hts in_cc_Model_init_RX13 hown hin hK hP hD hS hA (hts (.arrayClass .int) (List.mem_of_getElem? (i := 33) rfl)) rfl (fun _ => rfl) (by decide) (by decide) (Nat.le_of_ble_eq_true rfl) (Nat.le_of_ble_eq_true rfl) (Nat.le_of_ble_eq_true rfl) dX13_init_338 64 (by decide) (hts (.fieldLink RX13 127 "LevelUnitsModel" "seenVariable" "[I") (List.mem_of_getElem? (i := 69) rfl)) (fun _ h9 => h9) rfl rfl (by decide +kernel) dX13_init_340 (fun q_147 F_149 H_j_150 locs_j_150 eF_149 hP_j_150 hD_j_150 hS_j_150 => ?_)
  have k0_j_150 : F_149 0 = .int 0 := fu_ne eF_149 (by decide) k0_j_146
  have k3_j_150 : F_149 3 = .int 0 := fu_ne eF_149 (by decide) k3_j_146
  have k98_j_150 : F_149 98 = .int 0 := fu_ne eF_149 (by decide) k98_j_146
  have k100_j_150 : F_149 100 = .int 0 := fu_ne eF_149 (by decide) k100_j_146
  have k1_j_150 : F_149 1 = .ref q_1 := fu_ne eF_149 (by decide) k1_j_146
  have k2_j_150 : F_149 2 = .ref q_3 := fu_ne eF_149 (by decide) k2_j_146
  have k9_j_150 : F_149 9 = .ref q_11 := fu_ne eF_149 (by decide) k9_j_146
  have k10_j_150 : F_149 10 = .ref q_15 := fu_ne eF_149 (by decide) k10_j_146
  have k11_j_150 : F_149 11 = .ref q_19 := fu_ne eF_149 (by decide) k11_j_146
  have k13_j_150 : F_149 13 = .ref q_23 := fu_ne eF_149 (by decide) k13_j_146
  have k14_j_150 : F_149 14 = .ref q_27 := fu_ne eF_149 (by decide) k14_j_146
  have k15_j_150 : F_149 15 = .ref q_31 := fu_ne eF_149 (by decide) k15_j_146
  clear eF_149 k0_j_146 k3_j_146 k98_j_146 k100_j_146 k1_j_146 k2_j_146 k9_j_146 k10_j_146 k11_j_146 k13_j_146 k14_j_146 k15_j_146 hP hD hS
  have hP : va_P (dC, dI) vwCl [(h0, .inr (15, fl 134 F_149)), (q_1, .inr (14, [.null, .null, .null, .null, .null, .int 0])), (q_3, .inl (cy_4, 6000, .inl (fun _ => 0))), (q_11, .inl (cy_12, 6002, .inl (fun _ => 0))), (q_15, .inl (cy_16, 6002, .inl (fun _ => 0))), (q_19, .inl (cy_20, 6002, .inl (fun _ => 0))), (q_23, .inl (cy_24, 6000, .inl (fun _ => 0))), (q_27, .inl (cy_28, 6000, .inl (fun _ => 0))), (q_31, .inl (cy_32, 6600, .inl (fun _ => 0)))] H_j_150 := hP_j_150
  have hD : va_D A [(h0, .inr (15, fl 134 F_149)), (q_1, .inr (14, [.null, .null, .null, .null, .null, .int 0])), (q_3, .inl (cy_4, 6000, .inl (fun _ => 0))), (q_11, .inl (cy_12, 6002, .inl (fun _ => 0))), (q_15, .inl (cy_16, 6002, .inl (fun _ => 0))), (q_19, .inl (cy_20, 6002, .inl (fun _ => 0))), (q_23, .inl (cy_24, 6000, .inl (fun _ => 0))), (q_27, .inl (cy_28, 6000, .inl (fun _ => 0))), (q_31, .inl (cy_32, 6600, .inl (fun _ => 0)))] := hD_j_150
  have hS := hS_j_150
  clear hP_j_150 hD_j_150 hS_j_150
  refine W.widen (k := 38) (n := 279082) (Nat.le_of_ble_eq_true rfl) (Nat.le_of_ble_eq_true rfl) ?_
  refine lv_aload_n hx hb dX13_init_343 rfl (lv_at hl 0 rfl) ?_
  refine lv_sipush (v := 16000) hx hb dX13_init_344 (by decide) ?_
  refine mstep (X := [(q_1, .inr (14, [.null, .null, .null, .null, .null, .int 0])), (q_3, .inl (cy_4, 6000, .inl (fun _ => 0))), (q_11, .inl (cy_12, 6002, .inl (fun _ => 0))), (q_15, .inl (cy_16, 6002, .inl (fun _ => 0))), (q_19, .inl (cy_20, 6002, .inl (fun _ => 0))), (q_23, .inl (cy_24, 6000, .inl (fun _ => 0))), (q_27, .inl (cy_28, 6000, .inl (fun _ => 0))), (q_31, .inl (cy_32, 6600, .inl (fun _ => 0)))]) (F := F_149) (atype := .int) (ty := .int) (a0 := (16000, .inl (fun _ => 0))) (N' := 16000) hx hb hts in_cc_Model_init_RX13 hown hin hK hP hD hS hA (hts (.arrayClass .int) (List.mem_of_getElem? (i := 33) rfl)) rfl (fun _ => rfl) (by decide) (by decide) (Nat.le_of_ble_eq_true rfl) (Nat.le_of_ble_eq_true rfl) (Nat.le_of_ble_eq_true rfl) dX13_init_347 66 (by decide) (hts (.fieldLink RX13 130 "LevelUnitsModel" "joined" "[I") (List.mem_of_getElem? (i := 70) rfl)) (fun _ h9 => h9) rfl rfl (by decide +kernel) dX13_init_349 (fun q_151 F_153 H_j_154 locs_j_154 eF_153 hP_j_154 hD_j_154 hS_j_154 => ?_)
  have k0_j_154 : F_153 0 = .int 0 := fu_ne eF_153 (by decide) k0_j_150
  have k3_j_154 : F_153 3 = .int 0 := fu_ne eF_153 (by decide) k3_j_150
  have k98_j_154 : F_153 98 = .int 0 := fu_ne eF_153 (by decide) k98_j_150
  have k100_j_154 : F_153 100 = .int 0 := fu_ne eF_153 (by decide) k100_j_150
  have k1_j_154 : F_153 1 = .ref q_1 := fu_ne eF_153 (by decide) k1_j_150
  have k2_j_154 : F_153 2 = .ref q_3 := fu_ne eF_153 (by decide) k2_j_150
  have k9_j_154 : F_153 9 = .ref q_11 := fu_ne eF_153 (by decide) k9_j_150
  have k10_j_154 : F_153 10 = .ref q_15 := fu_ne eF_153 (by decide) k10_j_150
  have k11_j_154 : F_153 11 = .ref q_19 := fu_ne eF_153 (by decide) k11_j_150
  have k13_j_154 : F_153 13 = .ref q_23 := fu_ne eF_153 (by decide) k13_j_150
  have k14_j_154 : F_153 14 = .ref q_27 := fu_ne eF_153 (by decide) k14_j_150
  have k15_j_154 : F_153 15 = .ref q_31 := fu_ne eF_153 (by decide) k15_j_150
  clear eF_153 k0_j_150 k3_j_150 k98_j_150 k100_j_150 k1_j_150 k2_j_150 k9_j_150 k10_j_150 k11_j_150 k13_j_150 k14_j_150 k15_j_150 hP hD hS
  have hP : va_P (dC, dI) vwCl [(h0, .inr (15, fl 134 F_153)), (q_1, .inr (14, [.null, .null, .null, .null, .null, .int 0])), (q_3, .inl (cy_4, 6000, .inl (fun _ => 0))), (q_11, .inl (cy_12, 6002, .inl (fun _ => 0))), (q_15, .inl (cy_16, 6002, .inl (fun _ => 0))), (q_19, .inl (cy_20, 6002, .inl (fun _ => 0))), (q_23, .inl (cy_24, 6000, .inl (fun _ => 0))), (q_27, .inl (cy_28, 6000, .inl (fun _ => 0))), (q_31, .inl (cy_32, 6600, .inl (fun _ => 0)))] H_j_154 := hP_j_154
  have hD : va_D A [(h0, .inr (15, fl 134 F_153)), (q_1, .inr (14, [.null, .null, .null, .null, .null, .int 0])), (q_3, .inl (cy_4, 6000, .inl (fun _ => 0))), (q_11, .inl (cy_12, 6002, .inl (fun _ => 0))), (q_15, .inl (cy_16, 6002, .inl (fun _ => 0))), (q_19, .inl (cy_20, 6002, .inl (fun _ => 0))), (q_23, .inl (cy_24, 6000, .inl (fun _ => 0))), (q_27, .inl (cy_28, 6000, .inl (fun _ => 0))), (q_31, .inl (cy_32, 6600, .inl (fun _ => 0)))] := hD_j_154
  have hS := hS_j_154
  clear hP_j_154 hD_j_154 hS_j_154
  refine W.widen (k := 39) (n := 295082) (Nat.le_of_ble_eq_true rfl) (Nat.le_of_ble_eq_true rfl) ?_
  refine lv_aload_n hx hb dX13_init_352 rfl (lv_at hl 0 rfl) ?_
  refine lv_sipush (v := 16000) hx hb dX13_init_353 (by decide) ?_
  refine mstep (X := [(q_1, .inr (14, [.null, .null, .null, .null, .null, .int 0])), (q_3, .inl (cy_4, 6000, .inl (fun _ => 0))), (q_11, .inl (cy_12, 6002, .inl (fun _ => 0))), (q_15, .inl (cy_16, 6002, .inl (fun _ => 0))), (q_19, .inl (cy_20, 6002, .inl (fun _ => 0))), (q_23, .inl (cy_24, 6000, .inl (fun _ => 0))), (q_27, .inl (cy_28, 6000, .inl (fun _ => 0))), (q_31, .inl (cy_32, 6600, .inl (fun _ => 0)))]) (F := F_153) (atype := .int) (ty := .int) (a0 := (16000, .inl (fun _ => 0))) (N' := 16000) hx hb hts in_cc_Model_init_RX13 hown hin hK hP hD hS hA (hts (.arrayClass .int) (List.mem_of_getElem? (i := 33) rfl)) rfl (fun _ => rfl) (by decide) (by decide) (Nat.le_of_ble_eq_true rfl) (Nat.le_of_ble_eq_true rfl) (Nat.le_of_ble_eq_true rfl) dX13_init_356 68 (by decide) (hts (.fieldLink RX13 133 "LevelUnitsModel" "trailed" "[I") (List.mem_of_getElem? (i := 71) rfl)) (fun _ h9 => h9) rfl rfl (by decide +kernel) dX13_init_358 (fun q_155 F_157 H_j_158 locs_j_158 eF_157 hP_j_158 hD_j_158 hS_j_158 => ?_)
  have k0_j_158 : F_157 0 = .int 0 := fu_ne eF_157 (by decide) k0_j_154
  have k3_j_158 : F_157 3 = .int 0 := fu_ne eF_157 (by decide) k3_j_154
  have k98_j_158 : F_157 98 = .int 0 := fu_ne eF_157 (by decide) k98_j_154
  have k100_j_158 : F_157 100 = .int 0 := fu_ne eF_157 (by decide) k100_j_154
  have k1_j_158 : F_157 1 = .ref q_1 := fu_ne eF_157 (by decide) k1_j_154
  have k2_j_158 : F_157 2 = .ref q_3 := fu_ne eF_157 (by decide) k2_j_154
  have k9_j_158 : F_157 9 = .ref q_11 := fu_ne eF_157 (by decide) k9_j_154
  have k10_j_158 : F_157 10 = .ref q_15 := fu_ne eF_157 (by decide) k10_j_154
  have k11_j_158 : F_157 11 = .ref q_19 := fu_ne eF_157 (by decide) k11_j_154
  have k13_j_158 : F_157 13 = .ref q_23 := fu_ne eF_157 (by decide) k13_j_154
  have k14_j_158 : F_157 14 = .ref q_27 := fu_ne eF_157 (by decide) k14_j_154
  have k15_j_158 : F_157 15 = .ref q_31 := fu_ne eF_157 (by decide) k15_j_154
  clear eF_157 k0_j_154 k3_j_154 k98_j_154 k100_j_154 k1_j_154 k2_j_154 k9_j_154 k10_j_154 k11_j_154 k13_j_154 k14_j_154 k15_j_154 hP hD hS
  have hP : va_P (dC, dI) vwCl [(h0, .inr (15, fl 134 F_157)), (q_1, .inr (14, [.null, .null, .null, .null, .null, .int 0])), (q_3, .inl (cy_4, 6000, .inl (fun _ => 0))), (q_11, .inl (cy_12, 6002, .inl (fun _ => 0))), (q_15, .inl (cy_16, 6002, .inl (fun _ => 0))), (q_19, .inl (cy_20, 6002, .inl (fun _ => 0))), (q_23, .inl (cy_24, 6000, .inl (fun _ => 0))), (q_27, .inl (cy_28, 6000, .inl (fun _ => 0))), (q_31, .inl (cy_32, 6600, .inl (fun _ => 0)))] H_j_158 := hP_j_158
  have hD : va_D A [(h0, .inr (15, fl 134 F_157)), (q_1, .inr (14, [.null, .null, .null, .null, .null, .int 0])), (q_3, .inl (cy_4, 6000, .inl (fun _ => 0))), (q_11, .inl (cy_12, 6002, .inl (fun _ => 0))), (q_15, .inl (cy_16, 6002, .inl (fun _ => 0))), (q_19, .inl (cy_20, 6002, .inl (fun _ => 0))), (q_23, .inl (cy_24, 6000, .inl (fun _ => 0))), (q_27, .inl (cy_28, 6000, .inl (fun _ => 0))), (q_31, .inl (cy_32, 6600, .inl (fun _ => 0)))] := hD_j_158
  have hS := hS_j_158
  clear hP_j_158 hD_j_158 hS_j_158
  refine W.widen (k := 40) (n := 311082) (Nat.le_of_ble_eq_true rfl) (Nat.le_of_ble_eq_true rfl) ?_
  refine lv_aload_n hx hb dX13_init_361 rfl (lv_at hl 0 rfl) ?_
  refine lv_ldc (v := 64000) hx hb hown (hts (.constant RX13 136 (64000)) (List.mem_of_getElem? (i := 72) rfl)) dX13_init_362 ?_
  refine mstep (X := [(q_1, .inr (14, [.null, .null, .null, .null, .null, .int 0])), (q_3, .inl (cy_4, 6000, .inl (fun _ => 0))), (q_11, .inl (cy_12, 6002, .inl (fun _ => 0))), (q_15, .inl (cy_16, 6002, .inl (fun _ => 0))), (q_19, .inl (cy_20, 6002, .inl (fun _ => 0))), (q_23, .inl (cy_24, 6000, .inl (fun _ => 0))), (q_27, .inl (cy_28, 6000, .inl (fun _ => 0))), (q_31, .inl (cy_32, 6600, .inl (fun _ => 0)))]) (F := F_157) (atype := .int) (ty := .int) (a0 := (64000, .inl (fun _ => 0))) (N' := 64000) hx hb hts in_cc_Model_init_RX13 hown hin hK hP hD hS hA (hts (.arrayClass .int) (List.mem_of_getElem? (i := 33) rfl)) rfl (fun _ => rfl) (by decide) (by decide) (Nat.le_of_ble_eq_true rfl) (Nat.le_of_ble_eq_true rfl) (Nat.le_of_ble_eq_true rfl) dX13_init_364 70 (by decide) (hts (.fieldLink RX13 137 "LevelUnitsModel" "pairA" "[I") (List.mem_of_getElem? (i := 73) rfl)) (fun _ h9 => h9) rfl rfl (by decide +kernel) dX13_init_366 (fun q_159 F_161 H_j_162 locs_j_162 eF_161 hP_j_162 hD_j_162 hS_j_162 => ?_)
  have k0_j_162 : F_161 0 = .int 0 := fu_ne eF_161 (by decide) k0_j_158
  have k3_j_162 : F_161 3 = .int 0 := fu_ne eF_161 (by decide) k3_j_158
  have k98_j_162 : F_161 98 = .int 0 := fu_ne eF_161 (by decide) k98_j_158
  have k100_j_162 : F_161 100 = .int 0 := fu_ne eF_161 (by decide) k100_j_158
  have k1_j_162 : F_161 1 = .ref q_1 := fu_ne eF_161 (by decide) k1_j_158
  have k2_j_162 : F_161 2 = .ref q_3 := fu_ne eF_161 (by decide) k2_j_158
  have k9_j_162 : F_161 9 = .ref q_11 := fu_ne eF_161 (by decide) k9_j_158
  have k10_j_162 : F_161 10 = .ref q_15 := fu_ne eF_161 (by decide) k10_j_158
  have k11_j_162 : F_161 11 = .ref q_19 := fu_ne eF_161 (by decide) k11_j_158
  have k13_j_162 : F_161 13 = .ref q_23 := fu_ne eF_161 (by decide) k13_j_158
  have k14_j_162 : F_161 14 = .ref q_27 := fu_ne eF_161 (by decide) k14_j_158
  have k15_j_162 : F_161 15 = .ref q_31 := fu_ne eF_161 (by decide) k15_j_158
  clear eF_161 k0_j_158 k3_j_158 k98_j_158 k100_j_158 k1_j_158 k2_j_158 k9_j_158 k10_j_158 k11_j_158 k13_j_158 k14_j_158 k15_j_158 hP hD hS
  have hP : va_P (dC, dI) vwCl [(h0, .inr (15, fl 134 F_161)), (q_1, .inr (14, [.null, .null, .null, .null, .null, .int 0])), (q_3, .inl (cy_4, 6000, .inl (fun _ => 0))), (q_11, .inl (cy_12, 6002, .inl (fun _ => 0))), (q_15, .inl (cy_16, 6002, .inl (fun _ => 0))), (q_19, .inl (cy_20, 6002, .inl (fun _ => 0))), (q_23, .inl (cy_24, 6000, .inl (fun _ => 0))), (q_27, .inl (cy_28, 6000, .inl (fun _ => 0))), (q_31, .inl (cy_32, 6600, .inl (fun _ => 0)))] H_j_162 := hP_j_162
  have hD : va_D A [(h0, .inr (15, fl 134 F_161)), (q_1, .inr (14, [.null, .null, .null, .null, .null, .int 0])), (q_3, .inl (cy_4, 6000, .inl (fun _ => 0))), (q_11, .inl (cy_12, 6002, .inl (fun _ => 0))), (q_15, .inl (cy_16, 6002, .inl (fun _ => 0))), (q_19, .inl (cy_20, 6002, .inl (fun _ => 0))), (q_23, .inl (cy_24, 6000, .inl (fun _ => 0))), (q_27, .inl (cy_28, 6000, .inl (fun _ => 0))), (q_31, .inl (cy_32, 6600, .inl (fun _ => 0)))] := hD_j_162
  have hS := hS_j_162
  clear hP_j_162 hD_j_162 hS_j_162
  refine W.widen (k := 41) (n := 375082) (Nat.le_of_ble_eq_true rfl) (Nat.le_of_ble_eq_true rfl) ?_
  refine lv_aload_n hx hb dX13_init_369 rfl (lv_at hl 0 rfl) ?_
  refine lv_ldc (v := 64000) hx hb hown (hts (.constant RX13 136 (64000)) (List.mem_of_getElem? (i := 72) rfl)) dX13_init_370 ?_
  refine mstep (X := [(q_1, .inr (14, [.null, .null, .null, .null, .null, .int 0])), (q_3, .inl (cy_4, 6000, .inl (fun _ => 0))), (q_11, .inl (cy_12, 6002, .inl (fun _ => 0))), (q_15, .inl (cy_16, 6002, .inl (fun _ => 0))), (q_19, .inl (cy_20, 6002, .inl (fun _ => 0))), (q_23, .inl (cy_24, 6000, .inl (fun _ => 0))), (q_27, .inl (cy_28, 6000, .inl (fun _ => 0))), (q_31, .inl (cy_32, 6600, .inl (fun _ => 0)))]) (F := F_161) (atype := .int) (ty := .int) (a0 := (64000, .inl (fun _ => 0))) (N' := 64000) hx hb hts in_cc_Model_init_RX13 hown hin hK hP hD hS hA (hts (.arrayClass .int) (List.mem_of_getElem? (i := 33) rfl)) rfl (fun _ => rfl) (by decide) (by decide) (Nat.le_of_ble_eq_true rfl) (Nat.le_of_ble_eq_true rfl) (Nat.le_of_ble_eq_true rfl) dX13_init_372 71 (by decide) (hts (.fieldLink RX13 140 "LevelUnitsModel" "pairB" "[I") (List.mem_of_getElem? (i := 74) rfl)) (fun _ h9 => h9) rfl rfl (by decide +kernel) dX13_init_374 (fun q_163 F_165 H_j_166 locs_j_166 eF_165 hP_j_166 hD_j_166 hS_j_166 => ?_)
  have k0_j_166 : F_165 0 = .int 0 := fu_ne eF_165 (by decide) k0_j_162
  have k3_j_166 : F_165 3 = .int 0 := fu_ne eF_165 (by decide) k3_j_162
  have k98_j_166 : F_165 98 = .int 0 := fu_ne eF_165 (by decide) k98_j_162
  have k100_j_166 : F_165 100 = .int 0 := fu_ne eF_165 (by decide) k100_j_162
  have k1_j_166 : F_165 1 = .ref q_1 := fu_ne eF_165 (by decide) k1_j_162
  have k2_j_166 : F_165 2 = .ref q_3 := fu_ne eF_165 (by decide) k2_j_162
  have k9_j_166 : F_165 9 = .ref q_11 := fu_ne eF_165 (by decide) k9_j_162
  have k10_j_166 : F_165 10 = .ref q_15 := fu_ne eF_165 (by decide) k10_j_162
  have k11_j_166 : F_165 11 = .ref q_19 := fu_ne eF_165 (by decide) k11_j_162
  have k13_j_166 : F_165 13 = .ref q_23 := fu_ne eF_165 (by decide) k13_j_162
  have k14_j_166 : F_165 14 = .ref q_27 := fu_ne eF_165 (by decide) k14_j_162
  have k15_j_166 : F_165 15 = .ref q_31 := fu_ne eF_165 (by decide) k15_j_162
  clear eF_165 k0_j_162 k3_j_162 k98_j_162 k100_j_162 k1_j_162 k2_j_162 k9_j_162 k10_j_162 k11_j_162 k13_j_162 k14_j_162 k15_j_162 hP hD hS
  have hP : va_P (dC, dI) vwCl [(h0, .inr (15, fl 134 F_165)), (q_1, .inr (14, [.null, .null, .null, .null, .null, .int 0])), (q_3, .inl (cy_4, 6000, .inl (fun _ => 0))), (q_11, .inl (cy_12, 6002, .inl (fun _ => 0))), (q_15, .inl (cy_16, 6002, .inl (fun _ => 0))), (q_19, .inl (cy_20, 6002, .inl (fun _ => 0))), (q_23, .inl (cy_24, 6000, .inl (fun _ => 0))), (q_27, .inl (cy_28, 6000, .inl (fun _ => 0))), (q_31, .inl (cy_32, 6600, .inl (fun _ => 0)))] H_j_166 := hP_j_166
  have hD : va_D A [(h0, .inr (15, fl 134 F_165)), (q_1, .inr (14, [.null, .null, .null, .null, .null, .int 0])), (q_3, .inl (cy_4, 6000, .inl (fun _ => 0))), (q_11, .inl (cy_12, 6002, .inl (fun _ => 0))), (q_15, .inl (cy_16, 6002, .inl (fun _ => 0))), (q_19, .inl (cy_20, 6002, .inl (fun _ => 0))), (q_23, .inl (cy_24, 6000, .inl (fun _ => 0))), (q_27, .inl (cy_28, 6000, .inl (fun _ => 0))), (q_31, .inl (cy_32, 6600, .inl (fun _ => 0)))] := hD_j_166
  have hS := hS_j_166
  clear hP_j_166 hD_j_166 hS_j_166
  refine W.widen (k := 42) (n := 439082) (Nat.le_of_ble_eq_true rfl) (Nat.le_of_ble_eq_true rfl) ?_
  refine lv_aload_n hx hb dX13_init_377 rfl (lv_at hl 0 rfl) ?_
  refine lv_sipush (v := 16000) hx hb dX13_init_378 (by decide) ?_
  refine mstep (X := [(q_1, .inr (14, [.null, .null, .null, .null, .null, .int 0])), (q_3, .inl (cy_4, 6000, .inl (fun _ => 0))), (q_11, .inl (cy_12, 6002, .inl (fun _ => 0))), (q_15, .inl (cy_16, 6002, .inl (fun _ => 0))), (q_19, .inl (cy_20, 6002, .inl (fun _ => 0))), (q_23, .inl (cy_24, 6000, .inl (fun _ => 0))), (q_27, .inl (cy_28, 6000, .inl (fun _ => 0))), (q_31, .inl (cy_32, 6600, .inl (fun _ => 0)))]) (F := F_165) (atype := .int) (ty := .int) (a0 := (16000, .inl (fun _ => 0))) (N' := 16000) hx hb hts in_cc_Model_init_RX13 hown hin hK hP hD hS hA (hts (.arrayClass .int) (List.mem_of_getElem? (i := 33) rfl)) rfl (fun _ => rfl) (by decide) (by decide) (Nat.le_of_ble_eq_true rfl) (Nat.le_of_ble_eq_true rfl) (Nat.le_of_ble_eq_true rfl) dX13_init_381 72 (by decide) (hts (.fieldLink RX13 143 "LevelUnitsModel" "reveal" "[I") (List.mem_of_getElem? (i := 75) rfl)) (fun _ h9 => h9) rfl rfl (by decide +kernel) dX13_init_383 (fun q_167 F_169 H_j_170 locs_j_170 eF_169 hP_j_170 hD_j_170 hS_j_170 => ?_)
  have k0_j_170 : F_169 0 = .int 0 := fu_ne eF_169 (by decide) k0_j_166
  have k3_j_170 : F_169 3 = .int 0 := fu_ne eF_169 (by decide) k3_j_166
  have k98_j_170 : F_169 98 = .int 0 := fu_ne eF_169 (by decide) k98_j_166
  have k100_j_170 : F_169 100 = .int 0 := fu_ne eF_169 (by decide) k100_j_166
  have k1_j_170 : F_169 1 = .ref q_1 := fu_ne eF_169 (by decide) k1_j_166
  have k2_j_170 : F_169 2 = .ref q_3 := fu_ne eF_169 (by decide) k2_j_166
  have k9_j_170 : F_169 9 = .ref q_11 := fu_ne eF_169 (by decide) k9_j_166
  have k10_j_170 : F_169 10 = .ref q_15 := fu_ne eF_169 (by decide) k10_j_166
  have k11_j_170 : F_169 11 = .ref q_19 := fu_ne eF_169 (by decide) k11_j_166
  have k13_j_170 : F_169 13 = .ref q_23 := fu_ne eF_169 (by decide) k13_j_166
  have k14_j_170 : F_169 14 = .ref q_27 := fu_ne eF_169 (by decide) k14_j_166
  have k15_j_170 : F_169 15 = .ref q_31 := fu_ne eF_169 (by decide) k15_j_166
  clear eF_169 k0_j_166 k3_j_166 k98_j_166 k100_j_166 k1_j_166 k2_j_166 k9_j_166 k10_j_166 k11_j_166 k13_j_166 k14_j_166 k15_j_166 hP hD hS
  have hP : va_P (dC, dI) vwCl [(h0, .inr (15, fl 134 F_169)), (q_1, .inr (14, [.null, .null, .null, .null, .null, .int 0])), (q_3, .inl (cy_4, 6000, .inl (fun _ => 0))), (q_11, .inl (cy_12, 6002, .inl (fun _ => 0))), (q_15, .inl (cy_16, 6002, .inl (fun _ => 0))), (q_19, .inl (cy_20, 6002, .inl (fun _ => 0))), (q_23, .inl (cy_24, 6000, .inl (fun _ => 0))), (q_27, .inl (cy_28, 6000, .inl (fun _ => 0))), (q_31, .inl (cy_32, 6600, .inl (fun _ => 0)))] H_j_170 := hP_j_170
  have hD : va_D A [(h0, .inr (15, fl 134 F_169)), (q_1, .inr (14, [.null, .null, .null, .null, .null, .int 0])), (q_3, .inl (cy_4, 6000, .inl (fun _ => 0))), (q_11, .inl (cy_12, 6002, .inl (fun _ => 0))), (q_15, .inl (cy_16, 6002, .inl (fun _ => 0))), (q_19, .inl (cy_20, 6002, .inl (fun _ => 0))), (q_23, .inl (cy_24, 6000, .inl (fun _ => 0))), (q_27, .inl (cy_28, 6000, .inl (fun _ => 0))), (q_31, .inl (cy_32, 6600, .inl (fun _ => 0)))] := hD_j_170
  have hS := hS_j_170
  clear hP_j_170 hD_j_170 hS_j_170
  refine W.widen (k := 43) (n := 455082) (Nat.le_of_ble_eq_true rfl) (Nat.le_of_ble_eq_true rfl) ?_
  refine lv_aload_n hx hb dX13_init_386 rfl (lv_at hl 0 rfl) ?_
  refine lv_sipush (v := 16000) hx hb dX13_init_387 (by decide) ?_
  refine mstep (X := [(q_1, .inr (14, [.null, .null, .null, .null, .null, .int 0])), (q_3, .inl (cy_4, 6000, .inl (fun _ => 0))), (q_11, .inl (cy_12, 6002, .inl (fun _ => 0))), (q_15, .inl (cy_16, 6002, .inl (fun _ => 0))), (q_19, .inl (cy_20, 6002, .inl (fun _ => 0))), (q_23, .inl (cy_24, 6000, .inl (fun _ => 0))), (q_27, .inl (cy_28, 6000, .inl (fun _ => 0))), (q_31, .inl (cy_32, 6600, .inl (fun _ => 0)))]) (F := F_169) (atype := .int) (ty := .int) (a0 := (16000, .inl (fun _ => 0))) (N' := 16000) hx hb hts in_cc_Model_init_RX13 hown hin hK hP hD hS hA (hts (.arrayClass .int) (List.mem_of_getElem? (i := 33) rfl)) rfl (fun _ => rfl) (by decide) (by decide) (Nat.le_of_ble_eq_true rfl) (Nat.le_of_ble_eq_true rfl) (Nat.le_of_ble_eq_true rfl) dX13_init_390 73 (by decide) (hts (.fieldLink RX13 146 "LevelUnitsModel" "ownType" "[I") (List.mem_of_getElem? (i := 76) rfl)) (fun _ h9 => h9) rfl rfl (by decide +kernel) dX13_init_392 (fun q_171 F_173 H_j_174 locs_j_174 eF_173 hP_j_174 hD_j_174 hS_j_174 => ?_)
  have k0_j_174 : F_173 0 = .int 0 := fu_ne eF_173 (by decide) k0_j_170
  have k3_j_174 : F_173 3 = .int 0 := fu_ne eF_173 (by decide) k3_j_170
  have k98_j_174 : F_173 98 = .int 0 := fu_ne eF_173 (by decide) k98_j_170
  have k100_j_174 : F_173 100 = .int 0 := fu_ne eF_173 (by decide) k100_j_170
  have k1_j_174 : F_173 1 = .ref q_1 := fu_ne eF_173 (by decide) k1_j_170
  have k2_j_174 : F_173 2 = .ref q_3 := fu_ne eF_173 (by decide) k2_j_170
  have k9_j_174 : F_173 9 = .ref q_11 := fu_ne eF_173 (by decide) k9_j_170
  have k10_j_174 : F_173 10 = .ref q_15 := fu_ne eF_173 (by decide) k10_j_170
  have k11_j_174 : F_173 11 = .ref q_19 := fu_ne eF_173 (by decide) k11_j_170
  have k13_j_174 : F_173 13 = .ref q_23 := fu_ne eF_173 (by decide) k13_j_170
  have k14_j_174 : F_173 14 = .ref q_27 := fu_ne eF_173 (by decide) k14_j_170
  have k15_j_174 : F_173 15 = .ref q_31 := fu_ne eF_173 (by decide) k15_j_170
  clear eF_173 k0_j_170 k3_j_170 k98_j_170 k100_j_170 k1_j_170 k2_j_170 k9_j_170 k10_j_170 k11_j_170 k13_j_170 k14_j_170 k15_j_170 hP hD hS
  have hP : va_P (dC, dI) vwCl [(h0, .inr (15, fl 134 F_173)), (q_1, .inr (14, [.null, .null, .null, .null, .null, .int 0])), (q_3, .inl (cy_4, 6000, .inl (fun _ => 0))), (q_11, .inl (cy_12, 6002, .inl (fun _ => 0))), (q_15, .inl (cy_16, 6002, .inl (fun _ => 0))), (q_19, .inl (cy_20, 6002, .inl (fun _ => 0))), (q_23, .inl (cy_24, 6000, .inl (fun _ => 0))), (q_27, .inl (cy_28, 6000, .inl (fun _ => 0))), (q_31, .inl (cy_32, 6600, .inl (fun _ => 0)))] H_j_174 := hP_j_174
  have hD : va_D A [(h0, .inr (15, fl 134 F_173)), (q_1, .inr (14, [.null, .null, .null, .null, .null, .int 0])), (q_3, .inl (cy_4, 6000, .inl (fun _ => 0))), (q_11, .inl (cy_12, 6002, .inl (fun _ => 0))), (q_15, .inl (cy_16, 6002, .inl (fun _ => 0))), (q_19, .inl (cy_20, 6002, .inl (fun _ => 0))), (q_23, .inl (cy_24, 6000, .inl (fun _ => 0))), (q_27, .inl (cy_28, 6000, .inl (fun _ => 0))), (q_31, .inl (cy_32, 6600, .inl (fun _ => 0)))] := hD_j_174
  have hS := hS_j_174
  clear hP_j_174 hD_j_174 hS_j_174
  refine W.widen (k := 44) (n := 471082) (Nat.le_of_ble_eq_true rfl) (Nat.le_of_ble_eq_true rfl) ?_
  refine lv_aload_n hx hb dX13_init_395 rfl (lv_at hl 0 rfl) ?_
  refine lv_sipush (v := 3200) hx hb dX13_init_396 (by decide) ?_
  refine mstep (X := [(q_1, .inr (14, [.null, .null, .null, .null, .null, .int 0])), (q_3, .inl (cy_4, 6000, .inl (fun _ => 0))), (q_11, .inl (cy_12, 6002, .inl (fun _ => 0))), (q_15, .inl (cy_16, 6002, .inl (fun _ => 0))), (q_19, .inl (cy_20, 6002, .inl (fun _ => 0))), (q_23, .inl (cy_24, 6000, .inl (fun _ => 0))), (q_27, .inl (cy_28, 6000, .inl (fun _ => 0))), (q_31, .inl (cy_32, 6600, .inl (fun _ => 0)))]) (F := F_173) (atype := .int) (ty := .int) (a0 := (3200, .inl (fun _ => 0))) (N' := 3200) hx hb hts in_cc_Model_init_RX13 hown hin hK hP hD hS hA (hts (.arrayClass .int) (List.mem_of_getElem? (i := 33) rfl)) rfl (fun _ => rfl) (by decide) (by decide) (Nat.le_of_ble_eq_true rfl) (Nat.le_of_ble_eq_true rfl) (Nat.le_of_ble_eq_true rfl) dX13_init_399 75 (by decide) (hts (.fieldLink RX13 149 "LevelUnitsModel" "chain" "[I") (List.mem_of_getElem? (i := 77) rfl)) (fun _ h9 => h9) rfl rfl (by decide +kernel) dX13_init_401 (fun q_175 F_177 H_j_178 locs_j_178 eF_177 hP_j_178 hD_j_178 hS_j_178 => ?_)
  have k0_j_178 : F_177 0 = .int 0 := fu_ne eF_177 (by decide) k0_j_174
  have k3_j_178 : F_177 3 = .int 0 := fu_ne eF_177 (by decide) k3_j_174
  have k98_j_178 : F_177 98 = .int 0 := fu_ne eF_177 (by decide) k98_j_174
  have k100_j_178 : F_177 100 = .int 0 := fu_ne eF_177 (by decide) k100_j_174
  have k1_j_178 : F_177 1 = .ref q_1 := fu_ne eF_177 (by decide) k1_j_174
  have k2_j_178 : F_177 2 = .ref q_3 := fu_ne eF_177 (by decide) k2_j_174
  have k9_j_178 : F_177 9 = .ref q_11 := fu_ne eF_177 (by decide) k9_j_174
  have k10_j_178 : F_177 10 = .ref q_15 := fu_ne eF_177 (by decide) k10_j_174
  have k11_j_178 : F_177 11 = .ref q_19 := fu_ne eF_177 (by decide) k11_j_174
  have k13_j_178 : F_177 13 = .ref q_23 := fu_ne eF_177 (by decide) k13_j_174
  have k14_j_178 : F_177 14 = .ref q_27 := fu_ne eF_177 (by decide) k14_j_174
  have k15_j_178 : F_177 15 = .ref q_31 := fu_ne eF_177 (by decide) k15_j_174
  clear eF_177 k0_j_174 k3_j_174 k98_j_174 k100_j_174 k1_j_174 k2_j_174 k9_j_174 k10_j_174 k11_j_174 k13_j_174 k14_j_174 k15_j_174 hP hD hS
  have hP : va_P (dC, dI) vwCl [(h0, .inr (15, fl 134 F_177)), (q_1, .inr (14, [.null, .null, .null, .null, .null, .int 0])), (q_3, .inl (cy_4, 6000, .inl (fun _ => 0))), (q_11, .inl (cy_12, 6002, .inl (fun _ => 0))), (q_15, .inl (cy_16, 6002, .inl (fun _ => 0))), (q_19, .inl (cy_20, 6002, .inl (fun _ => 0))), (q_23, .inl (cy_24, 6000, .inl (fun _ => 0))), (q_27, .inl (cy_28, 6000, .inl (fun _ => 0))), (q_31, .inl (cy_32, 6600, .inl (fun _ => 0)))] H_j_178 := hP_j_178
  have hD : va_D A [(h0, .inr (15, fl 134 F_177)), (q_1, .inr (14, [.null, .null, .null, .null, .null, .int 0])), (q_3, .inl (cy_4, 6000, .inl (fun _ => 0))), (q_11, .inl (cy_12, 6002, .inl (fun _ => 0))), (q_15, .inl (cy_16, 6002, .inl (fun _ => 0))), (q_19, .inl (cy_20, 6002, .inl (fun _ => 0))), (q_23, .inl (cy_24, 6000, .inl (fun _ => 0))), (q_27, .inl (cy_28, 6000, .inl (fun _ => 0))), (q_31, .inl (cy_32, 6600, .inl (fun _ => 0)))] := hD_j_178
  have hS := hS_j_178
  clear hP_j_178 hD_j_178 hS_j_178
  refine W.widen (k := 45) (n := 474282) (Nat.le_of_ble_eq_true rfl) (Nat.le_of_ble_eq_true rfl) ?_
  refine lv_aload_n hx hb dX13_init_404 rfl (lv_at hl 0 rfl) ?_
  refine lv_sipush (v := 16000) hx hb dX13_init_405 (by decide) ?_
  refine mstep (X := [(q_1, .inr (14, [.null, .null, .null, .null, .null, .int 0])), (q_3, .inl (cy_4, 6000, .inl (fun _ => 0))), (q_11, .inl (cy_12, 6002, .inl (fun _ => 0))), (q_15, .inl (cy_16, 6002, .inl (fun _ => 0))), (q_19, .inl (cy_20, 6002, .inl (fun _ => 0))), (q_23, .inl (cy_24, 6000, .inl (fun _ => 0))), (q_27, .inl (cy_28, 6000, .inl (fun _ => 0))), (q_31, .inl (cy_32, 6600, .inl (fun _ => 0)))]) (F := F_177) (atype := .int) (ty := .int) (a0 := (16000, .inl (fun _ => 0))) (N' := 16000) hx hb hts in_cc_Model_init_RX13 hown hin hK hP hD hS hA (hts (.arrayClass .int) (List.mem_of_getElem? (i := 33) rfl)) rfl (fun _ => rfl) (by decide) (by decide) (Nat.le_of_ble_eq_true rfl) (Nat.le_of_ble_eq_true rfl) (Nat.le_of_ble_eq_true rfl) dX13_init_408 78 (by decide) (hts (.fieldLink RX13 152 "LevelUnitsModel" "inChain" "[I") (List.mem_of_getElem? (i := 78) rfl)) (fun _ h9 => h9) rfl rfl (by decide +kernel) dX13_init_410 (fun q_179 F_181 H_j_182 locs_j_182 eF_181 hP_j_182 hD_j_182 hS_j_182 => ?_)
  have k0_j_182 : F_181 0 = .int 0 := fu_ne eF_181 (by decide) k0_j_178
  have k3_j_182 : F_181 3 = .int 0 := fu_ne eF_181 (by decide) k3_j_178
  have k98_j_182 : F_181 98 = .int 0 := fu_ne eF_181 (by decide) k98_j_178
  have k100_j_182 : F_181 100 = .int 0 := fu_ne eF_181 (by decide) k100_j_178
  have k1_j_182 : F_181 1 = .ref q_1 := fu_ne eF_181 (by decide) k1_j_178
  have k2_j_182 : F_181 2 = .ref q_3 := fu_ne eF_181 (by decide) k2_j_178
  have k9_j_182 : F_181 9 = .ref q_11 := fu_ne eF_181 (by decide) k9_j_178
  have k10_j_182 : F_181 10 = .ref q_15 := fu_ne eF_181 (by decide) k10_j_178
  have k11_j_182 : F_181 11 = .ref q_19 := fu_ne eF_181 (by decide) k11_j_178
  have k13_j_182 : F_181 13 = .ref q_23 := fu_ne eF_181 (by decide) k13_j_178
  have k14_j_182 : F_181 14 = .ref q_27 := fu_ne eF_181 (by decide) k14_j_178
  have k15_j_182 : F_181 15 = .ref q_31 := fu_ne eF_181 (by decide) k15_j_178
  clear eF_181 k0_j_178 k3_j_178 k98_j_178 k100_j_178 k1_j_178 k2_j_178 k9_j_178 k10_j_178 k11_j_178 k13_j_178 k14_j_178 k15_j_178 hP hD hS
  have hP : va_P (dC, dI) vwCl [(h0, .inr (15, fl 134 F_181)), (q_1, .inr (14, [.null, .null, .null, .null, .null, .int 0])), (q_3, .inl (cy_4, 6000, .inl (fun _ => 0))), (q_11, .inl (cy_12, 6002, .inl (fun _ => 0))), (q_15, .inl (cy_16, 6002, .inl (fun _ => 0))), (q_19, .inl (cy_20, 6002, .inl (fun _ => 0))), (q_23, .inl (cy_24, 6000, .inl (fun _ => 0))), (q_27, .inl (cy_28, 6000, .inl (fun _ => 0))), (q_31, .inl (cy_32, 6600, .inl (fun _ => 0)))] H_j_182 := hP_j_182
  have hD : va_D A [(h0, .inr (15, fl 134 F_181)), (q_1, .inr (14, [.null, .null, .null, .null, .null, .int 0])), (q_3, .inl (cy_4, 6000, .inl (fun _ => 0))), (q_11, .inl (cy_12, 6002, .inl (fun _ => 0))), (q_15, .inl (cy_16, 6002, .inl (fun _ => 0))), (q_19, .inl (cy_20, 6002, .inl (fun _ => 0))), (q_23, .inl (cy_24, 6000, .inl (fun _ => 0))), (q_27, .inl (cy_28, 6000, .inl (fun _ => 0))), (q_31, .inl (cy_32, 6600, .inl (fun _ => 0)))] := hD_j_182
  have hS := hS_j_182
  clear hP_j_182 hD_j_182 hS_j_182
  refine W.widen (k := 46) (n := 490282) (Nat.le_of_ble_eq_true rfl) (Nat.le_of_ble_eq_true rfl) ?_
  refine lv_aload_n hx hb dX13_init_413 rfl (lv_at hl 0 rfl) ?_
  refine lv_sipush (v := 16000) hx hb dX13_init_414 (by decide) ?_
  refine mstep (X := [(q_1, .inr (14, [.null, .null, .null, .null, .null, .int 0])), (q_3, .inl (cy_4, 6000, .inl (fun _ => 0))), (q_11, .inl (cy_12, 6002, .inl (fun _ => 0))), (q_15, .inl (cy_16, 6002, .inl (fun _ => 0))), (q_19, .inl (cy_20, 6002, .inl (fun _ => 0))), (q_23, .inl (cy_24, 6000, .inl (fun _ => 0))), (q_27, .inl (cy_28, 6000, .inl (fun _ => 0))), (q_31, .inl (cy_32, 6600, .inl (fun _ => 0)))]) (F := F_181) (atype := .int) (ty := .int) (a0 := (16000, .inl (fun _ => 0))) (N' := 16000) hx hb hts in_cc_Model_init_RX13 hown hin hK hP hD hS hA (hts (.arrayClass .int) (List.mem_of_getElem? (i := 33) rfl)) rfl (fun _ => rfl) (by decide) (by decide) (Nat.le_of_ble_eq_true rfl) (Nat.le_of_ble_eq_true rfl) (Nat.le_of_ble_eq_true rfl) dX13_init_417 79 (by decide) (hts (.fieldLink RX13 155 "LevelUnitsModel" "onWay" "[I") (List.mem_of_getElem? (i := 79) rfl)) (fun _ h9 => h9) rfl rfl (by decide +kernel) dX13_init_419 (fun q_183 F_185 H_j_186 locs_j_186 eF_185 hP_j_186 hD_j_186 hS_j_186 => ?_)
  have k0_j_186 : F_185 0 = .int 0 := fu_ne eF_185 (by decide) k0_j_182
  have k3_j_186 : F_185 3 = .int 0 := fu_ne eF_185 (by decide) k3_j_182
  have k98_j_186 : F_185 98 = .int 0 := fu_ne eF_185 (by decide) k98_j_182
  have k100_j_186 : F_185 100 = .int 0 := fu_ne eF_185 (by decide) k100_j_182
  have k1_j_186 : F_185 1 = .ref q_1 := fu_ne eF_185 (by decide) k1_j_182
  have k2_j_186 : F_185 2 = .ref q_3 := fu_ne eF_185 (by decide) k2_j_182
  have k9_j_186 : F_185 9 = .ref q_11 := fu_ne eF_185 (by decide) k9_j_182
  have k10_j_186 : F_185 10 = .ref q_15 := fu_ne eF_185 (by decide) k10_j_182
  have k11_j_186 : F_185 11 = .ref q_19 := fu_ne eF_185 (by decide) k11_j_182
  have k13_j_186 : F_185 13 = .ref q_23 := fu_ne eF_185 (by decide) k13_j_182
  have k14_j_186 : F_185 14 = .ref q_27 := fu_ne eF_185 (by decide) k14_j_182
  have k15_j_186 : F_185 15 = .ref q_31 := fu_ne eF_185 (by decide) k15_j_182
  clear eF_185 k0_j_182 k3_j_182 k98_j_182 k100_j_182 k1_j_182 k2_j_182 k9_j_182 k10_j_182 k11_j_182 k13_j_182 k14_j_182 k15_j_182 hP hD hS
  have hP : va_P (dC, dI) vwCl [(h0, .inr (15, fl 134 F_185)), (q_1, .inr (14, [.null, .null, .null, .null, .null, .int 0])), (q_3, .inl (cy_4, 6000, .inl (fun _ => 0))), (q_11, .inl (cy_12, 6002, .inl (fun _ => 0))), (q_15, .inl (cy_16, 6002, .inl (fun _ => 0))), (q_19, .inl (cy_20, 6002, .inl (fun _ => 0))), (q_23, .inl (cy_24, 6000, .inl (fun _ => 0))), (q_27, .inl (cy_28, 6000, .inl (fun _ => 0))), (q_31, .inl (cy_32, 6600, .inl (fun _ => 0)))] H_j_186 := hP_j_186
  have hD : va_D A [(h0, .inr (15, fl 134 F_185)), (q_1, .inr (14, [.null, .null, .null, .null, .null, .int 0])), (q_3, .inl (cy_4, 6000, .inl (fun _ => 0))), (q_11, .inl (cy_12, 6002, .inl (fun _ => 0))), (q_15, .inl (cy_16, 6002, .inl (fun _ => 0))), (q_19, .inl (cy_20, 6002, .inl (fun _ => 0))), (q_23, .inl (cy_24, 6000, .inl (fun _ => 0))), (q_27, .inl (cy_28, 6000, .inl (fun _ => 0))), (q_31, .inl (cy_32, 6600, .inl (fun _ => 0)))] := hD_j_186
  have hS := hS_j_186
  clear hP_j_186 hD_j_186 hS_j_186
  refine W.widen (k := 47) (n := 506282) (Nat.le_of_ble_eq_true rfl) (Nat.le_of_ble_eq_true rfl) ?_
  refine lv_aload_n hx hb dX13_init_422 rfl (lv_at hl 0 rfl) ?_
  refine lv_sipush (v := 16000) hx hb dX13_init_423 (by decide) ?_
  refine mstep (X := [(q_1, .inr (14, [.null, .null, .null, .null, .null, .int 0])), (q_3, .inl (cy_4, 6000, .inl (fun _ => 0))), (q_11, .inl (cy_12, 6002, .inl (fun _ => 0))), (q_15, .inl (cy_16, 6002, .inl (fun _ => 0))), (q_19, .inl (cy_20, 6002, .inl (fun _ => 0))), (q_23, .inl (cy_24, 6000, .inl (fun _ => 0))), (q_27, .inl (cy_28, 6000, .inl (fun _ => 0))), (q_31, .inl (cy_32, 6600, .inl (fun _ => 0)))]) (F := F_185) (atype := .int) (ty := .int) (a0 := (16000, .inl (fun _ => 0))) (N' := 16000) hx hb hts in_cc_Model_init_RX13 hown hin hK hP hD hS hA (hts (.arrayClass .int) (List.mem_of_getElem? (i := 33) rfl)) rfl (fun _ => rfl) (by decide) (by decide) (Nat.le_of_ble_eq_true rfl) (Nat.le_of_ble_eq_true rfl) (Nat.le_of_ble_eq_true rfl) dX13_init_426 81 (by decide) (hts (.fieldLink RX13 158 "LevelUnitsModel" "cellsKnown" "[I") (List.mem_of_getElem? (i := 80) rfl)) (fun _ h9 => h9) rfl rfl (by decide +kernel) dX13_init_428 (fun q_187 F_189 H_j_190 locs_j_190 eF_189 hP_j_190 hD_j_190 hS_j_190 => ?_)
  have k0_j_190 : F_189 0 = .int 0 := fu_ne eF_189 (by decide) k0_j_186
  have k3_j_190 : F_189 3 = .int 0 := fu_ne eF_189 (by decide) k3_j_186
  have k98_j_190 : F_189 98 = .int 0 := fu_ne eF_189 (by decide) k98_j_186
  have k100_j_190 : F_189 100 = .int 0 := fu_ne eF_189 (by decide) k100_j_186
  have k1_j_190 : F_189 1 = .ref q_1 := fu_ne eF_189 (by decide) k1_j_186
  have k2_j_190 : F_189 2 = .ref q_3 := fu_ne eF_189 (by decide) k2_j_186
  have k9_j_190 : F_189 9 = .ref q_11 := fu_ne eF_189 (by decide) k9_j_186
  have k10_j_190 : F_189 10 = .ref q_15 := fu_ne eF_189 (by decide) k10_j_186
  have k11_j_190 : F_189 11 = .ref q_19 := fu_ne eF_189 (by decide) k11_j_186
  have k13_j_190 : F_189 13 = .ref q_23 := fu_ne eF_189 (by decide) k13_j_186
  have k14_j_190 : F_189 14 = .ref q_27 := fu_ne eF_189 (by decide) k14_j_186
  have k15_j_190 : F_189 15 = .ref q_31 := fu_ne eF_189 (by decide) k15_j_186
  clear eF_189 k0_j_186 k3_j_186 k98_j_186 k100_j_186 k1_j_186 k2_j_186 k9_j_186 k10_j_186 k11_j_186 k13_j_186 k14_j_186 k15_j_186 hP hD hS
  have hP : va_P (dC, dI) vwCl [(h0, .inr (15, fl 134 F_189)), (q_1, .inr (14, [.null, .null, .null, .null, .null, .int 0])), (q_3, .inl (cy_4, 6000, .inl (fun _ => 0))), (q_11, .inl (cy_12, 6002, .inl (fun _ => 0))), (q_15, .inl (cy_16, 6002, .inl (fun _ => 0))), (q_19, .inl (cy_20, 6002, .inl (fun _ => 0))), (q_23, .inl (cy_24, 6000, .inl (fun _ => 0))), (q_27, .inl (cy_28, 6000, .inl (fun _ => 0))), (q_31, .inl (cy_32, 6600, .inl (fun _ => 0)))] H_j_190 := hP_j_190
  have hD : va_D A [(h0, .inr (15, fl 134 F_189)), (q_1, .inr (14, [.null, .null, .null, .null, .null, .int 0])), (q_3, .inl (cy_4, 6000, .inl (fun _ => 0))), (q_11, .inl (cy_12, 6002, .inl (fun _ => 0))), (q_15, .inl (cy_16, 6002, .inl (fun _ => 0))), (q_19, .inl (cy_20, 6002, .inl (fun _ => 0))), (q_23, .inl (cy_24, 6000, .inl (fun _ => 0))), (q_27, .inl (cy_28, 6000, .inl (fun _ => 0))), (q_31, .inl (cy_32, 6600, .inl (fun _ => 0)))] := hD_j_190
  have hS := hS_j_190
  clear hP_j_190 hD_j_190 hS_j_190
  refine W.widen (k := 48) (n := 522282) (Nat.le_of_ble_eq_true rfl) (Nat.le_of_ble_eq_true rfl) ?_
  refine lv_aload_n hx hb dX13_init_431 rfl (lv_at hl 0 rfl) ?_
  refine lv_sipush (v := 16000) hx hb dX13_init_432 (by decide) ?_
  refine mstep (X := [(q_1, .inr (14, [.null, .null, .null, .null, .null, .int 0])), (q_3, .inl (cy_4, 6000, .inl (fun _ => 0))), (q_11, .inl (cy_12, 6002, .inl (fun _ => 0))), (q_15, .inl (cy_16, 6002, .inl (fun _ => 0))), (q_19, .inl (cy_20, 6002, .inl (fun _ => 0))), (q_23, .inl (cy_24, 6000, .inl (fun _ => 0))), (q_27, .inl (cy_28, 6000, .inl (fun _ => 0))), (q_31, .inl (cy_32, 6600, .inl (fun _ => 0)))]) (F := F_189) (atype := .boolean) (ty := .boolean) (a0 := (16000, .inl (fun _ => 0))) (N' := 16000) hx hb hts in_cc_Model_init_RX13 hown hin hK hP hD hS hA (hts (.arrayClass .boolean) (List.mem_of_getElem? (i := 60) rfl)) rfl (fun _ => rfl) (by decide) (by decide) (Nat.le_of_ble_eq_true rfl) (Nat.le_of_ble_eq_true rfl) (Nat.le_of_ble_eq_true rfl) dX13_init_435 82 (by decide) (hts (.fieldLink RX13 161 "LevelUnitsModel" "holdsItself" "[Z") (List.mem_of_getElem? (i := 81) rfl)) (fun _ h9 => h9) rfl rfl (by decide +kernel) dX13_init_437 (fun q_191 F_193 H_j_194 locs_j_194 eF_193 hP_j_194 hD_j_194 hS_j_194 => ?_)
  have k0_j_194 : F_193 0 = .int 0 := fu_ne eF_193 (by decide) k0_j_190
  have k3_j_194 : F_193 3 = .int 0 := fu_ne eF_193 (by decide) k3_j_190
  have k98_j_194 : F_193 98 = .int 0 := fu_ne eF_193 (by decide) k98_j_190
  have k100_j_194 : F_193 100 = .int 0 := fu_ne eF_193 (by decide) k100_j_190
  have k1_j_194 : F_193 1 = .ref q_1 := fu_ne eF_193 (by decide) k1_j_190
  have k2_j_194 : F_193 2 = .ref q_3 := fu_ne eF_193 (by decide) k2_j_190
  have k9_j_194 : F_193 9 = .ref q_11 := fu_ne eF_193 (by decide) k9_j_190
  have k10_j_194 : F_193 10 = .ref q_15 := fu_ne eF_193 (by decide) k10_j_190
  have k11_j_194 : F_193 11 = .ref q_19 := fu_ne eF_193 (by decide) k11_j_190
  have k13_j_194 : F_193 13 = .ref q_23 := fu_ne eF_193 (by decide) k13_j_190
  have k14_j_194 : F_193 14 = .ref q_27 := fu_ne eF_193 (by decide) k14_j_190
  have k15_j_194 : F_193 15 = .ref q_31 := fu_ne eF_193 (by decide) k15_j_190
  clear eF_193 k0_j_190 k3_j_190 k98_j_190 k100_j_190 k1_j_190 k2_j_190 k9_j_190 k10_j_190 k11_j_190 k13_j_190 k14_j_190 k15_j_190 hP hD hS
  have hP : va_P (dC, dI) vwCl [(h0, .inr (15, fl 134 F_193)), (q_1, .inr (14, [.null, .null, .null, .null, .null, .int 0])), (q_3, .inl (cy_4, 6000, .inl (fun _ => 0))), (q_11, .inl (cy_12, 6002, .inl (fun _ => 0))), (q_15, .inl (cy_16, 6002, .inl (fun _ => 0))), (q_19, .inl (cy_20, 6002, .inl (fun _ => 0))), (q_23, .inl (cy_24, 6000, .inl (fun _ => 0))), (q_27, .inl (cy_28, 6000, .inl (fun _ => 0))), (q_31, .inl (cy_32, 6600, .inl (fun _ => 0)))] H_j_194 := hP_j_194
  have hD : va_D A [(h0, .inr (15, fl 134 F_193)), (q_1, .inr (14, [.null, .null, .null, .null, .null, .int 0])), (q_3, .inl (cy_4, 6000, .inl (fun _ => 0))), (q_11, .inl (cy_12, 6002, .inl (fun _ => 0))), (q_15, .inl (cy_16, 6002, .inl (fun _ => 0))), (q_19, .inl (cy_20, 6002, .inl (fun _ => 0))), (q_23, .inl (cy_24, 6000, .inl (fun _ => 0))), (q_27, .inl (cy_28, 6000, .inl (fun _ => 0))), (q_31, .inl (cy_32, 6600, .inl (fun _ => 0)))] := hD_j_194
  have hS := hS_j_194
  clear hP_j_194 hD_j_194 hS_j_194
  refine W.widen (k := 49) (n := 538282) (Nat.le_of_ble_eq_true rfl) (Nat.le_of_ble_eq_true rfl) ?_
  refine lv_aload_n hx hb dX13_init_440 rfl (lv_at hl 0 rfl) ?_
  refine lv_sipush (v := 16000) hx hb dX13_init_441 (by decide) ?_
  refine mstep (X := [(q_1, .inr (14, [.null, .null, .null, .null, .null, .int 0])), (q_3, .inl (cy_4, 6000, .inl (fun _ => 0))), (q_11, .inl (cy_12, 6002, .inl (fun _ => 0))), (q_15, .inl (cy_16, 6002, .inl (fun _ => 0))), (q_19, .inl (cy_20, 6002, .inl (fun _ => 0))), (q_23, .inl (cy_24, 6000, .inl (fun _ => 0))), (q_27, .inl (cy_28, 6000, .inl (fun _ => 0))), (q_31, .inl (cy_32, 6600, .inl (fun _ => 0)))]) (F := F_193) (atype := .boolean) (ty := .boolean) (a0 := (16000, .inl (fun _ => 0))) (N' := 16000) hx hb hts in_cc_Model_init_RX13 hown hin hK hP hD hS hA (hts (.arrayClass .boolean) (List.mem_of_getElem? (i := 60) rfl)) rfl (fun _ => rfl) (by decide) (by decide) (Nat.le_of_ble_eq_true rfl) (Nat.le_of_ble_eq_true rfl) (Nat.le_of_ble_eq_true rfl) dX13_init_444 84 (by decide) (hts (.fieldLink RX13 164 "LevelUnitsModel" "isMet" "[Z") (List.mem_of_getElem? (i := 82) rfl)) (fun _ h9 => h9) rfl rfl (by decide +kernel) dX13_init_446 (fun q_195 F_197 H_j_198 locs_j_198 eF_197 hP_j_198 hD_j_198 hS_j_198 => ?_)
  have k0_j_198 : F_197 0 = .int 0 := fu_ne eF_197 (by decide) k0_j_194
  have k3_j_198 : F_197 3 = .int 0 := fu_ne eF_197 (by decide) k3_j_194
  have k98_j_198 : F_197 98 = .int 0 := fu_ne eF_197 (by decide) k98_j_194
  have k100_j_198 : F_197 100 = .int 0 := fu_ne eF_197 (by decide) k100_j_194
  have k1_j_198 : F_197 1 = .ref q_1 := fu_ne eF_197 (by decide) k1_j_194
  have k2_j_198 : F_197 2 = .ref q_3 := fu_ne eF_197 (by decide) k2_j_194
  have k9_j_198 : F_197 9 = .ref q_11 := fu_ne eF_197 (by decide) k9_j_194
  have k10_j_198 : F_197 10 = .ref q_15 := fu_ne eF_197 (by decide) k10_j_194
  have k11_j_198 : F_197 11 = .ref q_19 := fu_ne eF_197 (by decide) k11_j_194
  have k13_j_198 : F_197 13 = .ref q_23 := fu_ne eF_197 (by decide) k13_j_194
  have k14_j_198 : F_197 14 = .ref q_27 := fu_ne eF_197 (by decide) k14_j_194
  have k15_j_198 : F_197 15 = .ref q_31 := fu_ne eF_197 (by decide) k15_j_194
  clear eF_197 k0_j_194 k3_j_194 k98_j_194 k100_j_194 k1_j_194 k2_j_194 k9_j_194 k10_j_194 k11_j_194 k13_j_194 k14_j_194 k15_j_194 hP hD hS
  have hP : va_P (dC, dI) vwCl [(h0, .inr (15, fl 134 F_197)), (q_1, .inr (14, [.null, .null, .null, .null, .null, .int 0])), (q_3, .inl (cy_4, 6000, .inl (fun _ => 0))), (q_11, .inl (cy_12, 6002, .inl (fun _ => 0))), (q_15, .inl (cy_16, 6002, .inl (fun _ => 0))), (q_19, .inl (cy_20, 6002, .inl (fun _ => 0))), (q_23, .inl (cy_24, 6000, .inl (fun _ => 0))), (q_27, .inl (cy_28, 6000, .inl (fun _ => 0))), (q_31, .inl (cy_32, 6600, .inl (fun _ => 0)))] H_j_198 := hP_j_198
  have hD : va_D A [(h0, .inr (15, fl 134 F_197)), (q_1, .inr (14, [.null, .null, .null, .null, .null, .int 0])), (q_3, .inl (cy_4, 6000, .inl (fun _ => 0))), (q_11, .inl (cy_12, 6002, .inl (fun _ => 0))), (q_15, .inl (cy_16, 6002, .inl (fun _ => 0))), (q_19, .inl (cy_20, 6002, .inl (fun _ => 0))), (q_23, .inl (cy_24, 6000, .inl (fun _ => 0))), (q_27, .inl (cy_28, 6000, .inl (fun _ => 0))), (q_31, .inl (cy_32, 6600, .inl (fun _ => 0)))] := hD_j_198
  have hS := hS_j_198
  clear hP_j_198 hD_j_198 hS_j_198
  refine W.widen (k := 50) (n := 554282) (Nat.le_of_ble_eq_true rfl) (Nat.le_of_ble_eq_true rfl) ?_
  refine lv_aload_n hx hb dX13_init_449 rfl (lv_at hl 0 rfl) ?_
  refine lv_sipush (v := 3200) hx hb dX13_init_450 (by decide) ?_
  refine mstep (X := [(q_1, .inr (14, [.null, .null, .null, .null, .null, .int 0])), (q_3, .inl (cy_4, 6000, .inl (fun _ => 0))), (q_11, .inl (cy_12, 6002, .inl (fun _ => 0))), (q_15, .inl (cy_16, 6002, .inl (fun _ => 0))), (q_19, .inl (cy_20, 6002, .inl (fun _ => 0))), (q_23, .inl (cy_24, 6000, .inl (fun _ => 0))), (q_27, .inl (cy_28, 6000, .inl (fun _ => 0))), (q_31, .inl (cy_32, 6600, .inl (fun _ => 0)))]) (F := F_197) (atype := .int) (ty := .int) (a0 := (3200, .inl (fun _ => 0))) (N' := 3200) hx hb hts in_cc_Model_init_RX13 hown hin hK hP hD hS hA (hts (.arrayClass .int) (List.mem_of_getElem? (i := 33) rfl)) rfl (fun _ => rfl) (by decide) (by decide) (Nat.le_of_ble_eq_true rfl) (Nat.le_of_ble_eq_true rfl) (Nat.le_of_ble_eq_true rfl) dX13_init_453 87 (by decide) (hts (.fieldLink RX13 167 "LevelUnitsModel" "procedureType" "[I") (List.mem_of_getElem? (i := 83) rfl)) (fun _ h9 => h9) rfl rfl (by decide +kernel) dX13_init_455 (fun q_199 F_201 H_j_202 locs_j_202 eF_201 hP_j_202 hD_j_202 hS_j_202 => ?_)
  have k0_j_202 : F_201 0 = .int 0 := fu_ne eF_201 (by decide) k0_j_198
  have k3_j_202 : F_201 3 = .int 0 := fu_ne eF_201 (by decide) k3_j_198
  have k98_j_202 : F_201 98 = .int 0 := fu_ne eF_201 (by decide) k98_j_198
  have k100_j_202 : F_201 100 = .int 0 := fu_ne eF_201 (by decide) k100_j_198
  have k1_j_202 : F_201 1 = .ref q_1 := fu_ne eF_201 (by decide) k1_j_198
  have k2_j_202 : F_201 2 = .ref q_3 := fu_ne eF_201 (by decide) k2_j_198
  have k9_j_202 : F_201 9 = .ref q_11 := fu_ne eF_201 (by decide) k9_j_198
  have k10_j_202 : F_201 10 = .ref q_15 := fu_ne eF_201 (by decide) k10_j_198
  have k11_j_202 : F_201 11 = .ref q_19 := fu_ne eF_201 (by decide) k11_j_198
  have k13_j_202 : F_201 13 = .ref q_23 := fu_ne eF_201 (by decide) k13_j_198
  have k14_j_202 : F_201 14 = .ref q_27 := fu_ne eF_201 (by decide) k14_j_198
  have k15_j_202 : F_201 15 = .ref q_31 := fu_ne eF_201 (by decide) k15_j_198
  clear eF_201 k0_j_198 k3_j_198 k98_j_198 k100_j_198 k1_j_198 k2_j_198 k9_j_198 k10_j_198 k11_j_198 k13_j_198 k14_j_198 k15_j_198 hP hD hS
  have hP : va_P (dC, dI) vwCl [(h0, .inr (15, fl 134 F_201)), (q_1, .inr (14, [.null, .null, .null, .null, .null, .int 0])), (q_3, .inl (cy_4, 6000, .inl (fun _ => 0))), (q_11, .inl (cy_12, 6002, .inl (fun _ => 0))), (q_15, .inl (cy_16, 6002, .inl (fun _ => 0))), (q_19, .inl (cy_20, 6002, .inl (fun _ => 0))), (q_23, .inl (cy_24, 6000, .inl (fun _ => 0))), (q_27, .inl (cy_28, 6000, .inl (fun _ => 0))), (q_31, .inl (cy_32, 6600, .inl (fun _ => 0)))] H_j_202 := hP_j_202
  have hD : va_D A [(h0, .inr (15, fl 134 F_201)), (q_1, .inr (14, [.null, .null, .null, .null, .null, .int 0])), (q_3, .inl (cy_4, 6000, .inl (fun _ => 0))), (q_11, .inl (cy_12, 6002, .inl (fun _ => 0))), (q_15, .inl (cy_16, 6002, .inl (fun _ => 0))), (q_19, .inl (cy_20, 6002, .inl (fun _ => 0))), (q_23, .inl (cy_24, 6000, .inl (fun _ => 0))), (q_27, .inl (cy_28, 6000, .inl (fun _ => 0))), (q_31, .inl (cy_32, 6600, .inl (fun _ => 0)))] := hD_j_202
  have hS := hS_j_202
  clear hP_j_202 hD_j_202 hS_j_202
  refine W.widen (k := 51) (n := 557482) (Nat.le_of_ble_eq_true rfl) (Nat.le_of_ble_eq_true rfl) ?_
  refine lv_aload_n hx hb dX13_init_458 rfl (lv_at hl 0 rfl) ?_
  refine lv_sipush (v := 16000) hx hb dX13_init_459 (by decide) ?_
  refine mstep (X := [(q_1, .inr (14, [.null, .null, .null, .null, .null, .int 0])), (q_3, .inl (cy_4, 6000, .inl (fun _ => 0))), (q_11, .inl (cy_12, 6002, .inl (fun _ => 0))), (q_15, .inl (cy_16, 6002, .inl (fun _ => 0))), (q_19, .inl (cy_20, 6002, .inl (fun _ => 0))), (q_23, .inl (cy_24, 6000, .inl (fun _ => 0))), (q_27, .inl (cy_28, 6000, .inl (fun _ => 0))), (q_31, .inl (cy_32, 6600, .inl (fun _ => 0)))]) (F := F_201) (atype := .int) (ty := .int) (a0 := (16000, .inl (fun _ => 0))) (N' := 16000) hx hb hts in_cc_Model_init_RX13 hown hin hK hP hD hS hA (hts (.arrayClass .int) (List.mem_of_getElem? (i := 33) rfl)) rfl (fun _ => rfl) (by decide) (by decide) (Nat.le_of_ble_eq_true rfl) (Nat.le_of_ble_eq_true rfl) (Nat.le_of_ble_eq_true rfl) dX13_init_462 88 (by decide) (hts (.fieldLink RX13 170 "LevelUnitsModel" "et" "[I") (List.mem_of_getElem? (i := 84) rfl)) (fun _ h9 => h9) rfl rfl (by decide +kernel) dX13_init_464 (fun q_203 F_205 H_j_206 locs_j_206 eF_205 hP_j_206 hD_j_206 hS_j_206 => ?_)
  have k0_j_206 : F_205 0 = .int 0 := fu_ne eF_205 (by decide) k0_j_202
  have k3_j_206 : F_205 3 = .int 0 := fu_ne eF_205 (by decide) k3_j_202
  have k98_j_206 : F_205 98 = .int 0 := fu_ne eF_205 (by decide) k98_j_202
  have k100_j_206 : F_205 100 = .int 0 := fu_ne eF_205 (by decide) k100_j_202
  have k1_j_206 : F_205 1 = .ref q_1 := fu_ne eF_205 (by decide) k1_j_202
  have k2_j_206 : F_205 2 = .ref q_3 := fu_ne eF_205 (by decide) k2_j_202
  have k9_j_206 : F_205 9 = .ref q_11 := fu_ne eF_205 (by decide) k9_j_202
  have k10_j_206 : F_205 10 = .ref q_15 := fu_ne eF_205 (by decide) k10_j_202
  have k11_j_206 : F_205 11 = .ref q_19 := fu_ne eF_205 (by decide) k11_j_202
  have k13_j_206 : F_205 13 = .ref q_23 := fu_ne eF_205 (by decide) k13_j_202
  have k14_j_206 : F_205 14 = .ref q_27 := fu_ne eF_205 (by decide) k14_j_202
  have k15_j_206 : F_205 15 = .ref q_31 := fu_ne eF_205 (by decide) k15_j_202
  clear eF_205 k0_j_202 k3_j_202 k98_j_202 k100_j_202 k1_j_202 k2_j_202 k9_j_202 k10_j_202 k11_j_202 k13_j_202 k14_j_202 k15_j_202 hP hD hS
  have hP : va_P (dC, dI) vwCl [(h0, .inr (15, fl 134 F_205)), (q_1, .inr (14, [.null, .null, .null, .null, .null, .int 0])), (q_3, .inl (cy_4, 6000, .inl (fun _ => 0))), (q_11, .inl (cy_12, 6002, .inl (fun _ => 0))), (q_15, .inl (cy_16, 6002, .inl (fun _ => 0))), (q_19, .inl (cy_20, 6002, .inl (fun _ => 0))), (q_23, .inl (cy_24, 6000, .inl (fun _ => 0))), (q_27, .inl (cy_28, 6000, .inl (fun _ => 0))), (q_31, .inl (cy_32, 6600, .inl (fun _ => 0)))] H_j_206 := hP_j_206
  have hD : va_D A [(h0, .inr (15, fl 134 F_205)), (q_1, .inr (14, [.null, .null, .null, .null, .null, .int 0])), (q_3, .inl (cy_4, 6000, .inl (fun _ => 0))), (q_11, .inl (cy_12, 6002, .inl (fun _ => 0))), (q_15, .inl (cy_16, 6002, .inl (fun _ => 0))), (q_19, .inl (cy_20, 6002, .inl (fun _ => 0))), (q_23, .inl (cy_24, 6000, .inl (fun _ => 0))), (q_27, .inl (cy_28, 6000, .inl (fun _ => 0))), (q_31, .inl (cy_32, 6600, .inl (fun _ => 0)))] := hD_j_206
  have hS := hS_j_206
  clear hP_j_206 hD_j_206 hS_j_206
  refine W.widen (k := 52) (n := 573482) (Nat.le_of_ble_eq_true rfl) (Nat.le_of_ble_eq_true rfl) ?_
  refine lv_aload_n hx hb dX13_init_467 rfl (lv_at hl 0 rfl) ?_
  refine lv_bipush (v := 64) hx hb dX13_init_468 (by decide) ?_
  refine mstep (X := [(q_1, .inr (14, [.null, .null, .null, .null, .null, .int 0])), (q_3, .inl (cy_4, 6000, .inl (fun _ => 0))), (q_11, .inl (cy_12, 6002, .inl (fun _ => 0))), (q_15, .inl (cy_16, 6002, .inl (fun _ => 0))), (q_19, .inl (cy_20, 6002, .inl (fun _ => 0))), (q_23, .inl (cy_24, 6000, .inl (fun _ => 0))), (q_27, .inl (cy_28, 6000, .inl (fun _ => 0))), (q_31, .inl (cy_32, 6600, .inl (fun _ => 0)))]) (F := F_205) (atype := .int) (ty := .int) (a0 := (64, .inl (fun _ => 0))) (N' := 64) hx hb hts in_cc_Model_init_RX13 hown hin hK hP hD hS hA (hts (.arrayClass .int) (List.mem_of_getElem? (i := 33) rfl)) rfl (fun _ => rfl) (by decide) (by decide) (Nat.le_of_ble_eq_true rfl) (Nat.le_of_ble_eq_true rfl) (Nat.le_of_ble_eq_true rfl) dX13_init_470 94 (by decide) (hts (.fieldLink RX13 173 "LevelUnitsModel" "tryNode" "[I") (List.mem_of_getElem? (i := 85) rfl)) (fun _ h9 => h9) rfl rfl (by decide +kernel) dX13_init_472 (fun q_207 F_209 H_j_210 locs_j_210 eF_209 hP_j_210 hD_j_210 hS_j_210 => ?_)
  have k0_j_210 : F_209 0 = .int 0 := fu_ne eF_209 (by decide) k0_j_206
  have k3_j_210 : F_209 3 = .int 0 := fu_ne eF_209 (by decide) k3_j_206
  have k98_j_210 : F_209 98 = .int 0 := fu_ne eF_209 (by decide) k98_j_206
  have k100_j_210 : F_209 100 = .int 0 := fu_ne eF_209 (by decide) k100_j_206
  have k1_j_210 : F_209 1 = .ref q_1 := fu_ne eF_209 (by decide) k1_j_206
  have k2_j_210 : F_209 2 = .ref q_3 := fu_ne eF_209 (by decide) k2_j_206
  have k9_j_210 : F_209 9 = .ref q_11 := fu_ne eF_209 (by decide) k9_j_206
  have k10_j_210 : F_209 10 = .ref q_15 := fu_ne eF_209 (by decide) k10_j_206
  have k11_j_210 : F_209 11 = .ref q_19 := fu_ne eF_209 (by decide) k11_j_206
  have k13_j_210 : F_209 13 = .ref q_23 := fu_ne eF_209 (by decide) k13_j_206
  have k14_j_210 : F_209 14 = .ref q_27 := fu_ne eF_209 (by decide) k14_j_206
  have k15_j_210 : F_209 15 = .ref q_31 := fu_ne eF_209 (by decide) k15_j_206
  clear eF_209 k0_j_206 k3_j_206 k98_j_206 k100_j_206 k1_j_206 k2_j_206 k9_j_206 k10_j_206 k11_j_206 k13_j_206 k14_j_206 k15_j_206 hP hD hS
  have hP : va_P (dC, dI) vwCl [(h0, .inr (15, fl 134 F_209)), (q_1, .inr (14, [.null, .null, .null, .null, .null, .int 0])), (q_3, .inl (cy_4, 6000, .inl (fun _ => 0))), (q_11, .inl (cy_12, 6002, .inl (fun _ => 0))), (q_15, .inl (cy_16, 6002, .inl (fun _ => 0))), (q_19, .inl (cy_20, 6002, .inl (fun _ => 0))), (q_23, .inl (cy_24, 6000, .inl (fun _ => 0))), (q_27, .inl (cy_28, 6000, .inl (fun _ => 0))), (q_31, .inl (cy_32, 6600, .inl (fun _ => 0)))] H_j_210 := hP_j_210
  have hD : va_D A [(h0, .inr (15, fl 134 F_209)), (q_1, .inr (14, [.null, .null, .null, .null, .null, .int 0])), (q_3, .inl (cy_4, 6000, .inl (fun _ => 0))), (q_11, .inl (cy_12, 6002, .inl (fun _ => 0))), (q_15, .inl (cy_16, 6002, .inl (fun _ => 0))), (q_19, .inl (cy_20, 6002, .inl (fun _ => 0))), (q_23, .inl (cy_24, 6000, .inl (fun _ => 0))), (q_27, .inl (cy_28, 6000, .inl (fun _ => 0))), (q_31, .inl (cy_32, 6600, .inl (fun _ => 0)))] := hD_j_210
  have hS := hS_j_210
  clear hP_j_210 hD_j_210 hS_j_210
  refine W.widen (k := 53) (n := 573546) (Nat.le_of_ble_eq_true rfl) (Nat.le_of_ble_eq_true rfl) ?_
  refine lv_aload_n hx hb dX13_init_475 rfl (lv_at hl 0 rfl) ?_
  refine lv_sipush (v := 3200) hx hb dX13_init_476 (by decide) ?_
  refine mstep (X := [(q_1, .inr (14, [.null, .null, .null, .null, .null, .int 0])), (q_3, .inl (cy_4, 6000, .inl (fun _ => 0))), (q_11, .inl (cy_12, 6002, .inl (fun _ => 0))), (q_15, .inl (cy_16, 6002, .inl (fun _ => 0))), (q_19, .inl (cy_20, 6002, .inl (fun _ => 0))), (q_23, .inl (cy_24, 6000, .inl (fun _ => 0))), (q_27, .inl (cy_28, 6000, .inl (fun _ => 0))), (q_31, .inl (cy_32, 6600, .inl (fun _ => 0)))]) (F := F_209) (atype := .int) (ty := .int) (a0 := (3200, .inl (fun _ => 0))) (N' := 3200) hx hb hts in_cc_Model_init_RX13 hown hin hK hP hD hS hA (hts (.arrayClass .int) (List.mem_of_getElem? (i := 33) rfl)) rfl (fun _ => rfl) (by decide) (by decide) (Nat.le_of_ble_eq_true rfl) (Nat.le_of_ble_eq_true rfl) (Nat.le_of_ble_eq_true rfl) dX13_init_479 95 (by decide) (hts (.fieldLink RX13 176 "LevelUnitsModel" "pCells" "[I") (List.mem_of_getElem? (i := 86) rfl)) (fun _ h9 => h9) rfl rfl (by decide +kernel) dX13_init_481 (fun q_211 F_213 H_j_214 locs_j_214 eF_213 hP_j_214 hD_j_214 hS_j_214 => ?_)
  have k0_j_214 : F_213 0 = .int 0 := fu_ne eF_213 (by decide) k0_j_210
  have k3_j_214 : F_213 3 = .int 0 := fu_ne eF_213 (by decide) k3_j_210
  have k98_j_214 : F_213 98 = .int 0 := fu_ne eF_213 (by decide) k98_j_210
  have k100_j_214 : F_213 100 = .int 0 := fu_ne eF_213 (by decide) k100_j_210
  have k1_j_214 : F_213 1 = .ref q_1 := fu_ne eF_213 (by decide) k1_j_210
  have k2_j_214 : F_213 2 = .ref q_3 := fu_ne eF_213 (by decide) k2_j_210
  have k9_j_214 : F_213 9 = .ref q_11 := fu_ne eF_213 (by decide) k9_j_210
  have k10_j_214 : F_213 10 = .ref q_15 := fu_ne eF_213 (by decide) k10_j_210
  have k11_j_214 : F_213 11 = .ref q_19 := fu_ne eF_213 (by decide) k11_j_210
  have k13_j_214 : F_213 13 = .ref q_23 := fu_ne eF_213 (by decide) k13_j_210
  have k14_j_214 : F_213 14 = .ref q_27 := fu_ne eF_213 (by decide) k14_j_210
  have k15_j_214 : F_213 15 = .ref q_31 := fu_ne eF_213 (by decide) k15_j_210
  clear eF_213 k0_j_210 k3_j_210 k98_j_210 k100_j_210 k1_j_210 k2_j_210 k9_j_210 k10_j_210 k11_j_210 k13_j_210 k14_j_210 k15_j_210 hP hD hS
  have hP : va_P (dC, dI) vwCl [(h0, .inr (15, fl 134 F_213)), (q_1, .inr (14, [.null, .null, .null, .null, .null, .int 0])), (q_3, .inl (cy_4, 6000, .inl (fun _ => 0))), (q_11, .inl (cy_12, 6002, .inl (fun _ => 0))), (q_15, .inl (cy_16, 6002, .inl (fun _ => 0))), (q_19, .inl (cy_20, 6002, .inl (fun _ => 0))), (q_23, .inl (cy_24, 6000, .inl (fun _ => 0))), (q_27, .inl (cy_28, 6000, .inl (fun _ => 0))), (q_31, .inl (cy_32, 6600, .inl (fun _ => 0)))] H_j_214 := hP_j_214
  have hD : va_D A [(h0, .inr (15, fl 134 F_213)), (q_1, .inr (14, [.null, .null, .null, .null, .null, .int 0])), (q_3, .inl (cy_4, 6000, .inl (fun _ => 0))), (q_11, .inl (cy_12, 6002, .inl (fun _ => 0))), (q_15, .inl (cy_16, 6002, .inl (fun _ => 0))), (q_19, .inl (cy_20, 6002, .inl (fun _ => 0))), (q_23, .inl (cy_24, 6000, .inl (fun _ => 0))), (q_27, .inl (cy_28, 6000, .inl (fun _ => 0))), (q_31, .inl (cy_32, 6600, .inl (fun _ => 0)))] := hD_j_214
  have hS := hS_j_214
  clear hP_j_214 hD_j_214 hS_j_214
  refine W.widen (k := 54) (n := 576746) (Nat.le_of_ble_eq_true rfl) (Nat.le_of_ble_eq_true rfl) ?_
  refine lv_aload_n hx hb dX13_init_484 rfl (lv_at hl 0 rfl) ?_
  refine lv_sipush (v := 3200) hx hb dX13_init_485 (by decide) ?_
  refine mstep (X := [(q_1, .inr (14, [.null, .null, .null, .null, .null, .int 0])), (q_3, .inl (cy_4, 6000, .inl (fun _ => 0))), (q_11, .inl (cy_12, 6002, .inl (fun _ => 0))), (q_15, .inl (cy_16, 6002, .inl (fun _ => 0))), (q_19, .inl (cy_20, 6002, .inl (fun _ => 0))), (q_23, .inl (cy_24, 6000, .inl (fun _ => 0))), (q_27, .inl (cy_28, 6000, .inl (fun _ => 0))), (q_31, .inl (cy_32, 6600, .inl (fun _ => 0)))]) (F := F_213) (atype := .int) (ty := .int) (a0 := (3200, .inl (fun _ => 0))) (N' := 3200) hx hb hts in_cc_Model_init_RX13 hown hin hK hP hD hS hA (hts (.arrayClass .int) (List.mem_of_getElem? (i := 33) rfl)) rfl (fun _ => rfl) (by decide) (by decide) (Nat.le_of_ble_eq_true rfl) (Nat.le_of_ble_eq_true rfl) (Nat.le_of_ble_eq_true rfl) dX13_init_488 96 (by decide) (hts (.fieldLink RX13 179 "LevelUnitsModel" "pAll" "[I") (List.mem_of_getElem? (i := 87) rfl)) (fun _ h9 => h9) rfl rfl (by decide +kernel) dX13_init_490 (fun q_215 F_217 H_j_218 locs_j_218 eF_217 hP_j_218 hD_j_218 hS_j_218 => ?_)
  have k0_j_218 : F_217 0 = .int 0 := fu_ne eF_217 (by decide) k0_j_214
  have k3_j_218 : F_217 3 = .int 0 := fu_ne eF_217 (by decide) k3_j_214
  have k98_j_218 : F_217 98 = .int 0 := fu_ne eF_217 (by decide) k98_j_214
  have k100_j_218 : F_217 100 = .int 0 := fu_ne eF_217 (by decide) k100_j_214
  have k1_j_218 : F_217 1 = .ref q_1 := fu_ne eF_217 (by decide) k1_j_214
  have k2_j_218 : F_217 2 = .ref q_3 := fu_ne eF_217 (by decide) k2_j_214
  have k9_j_218 : F_217 9 = .ref q_11 := fu_ne eF_217 (by decide) k9_j_214
  have k10_j_218 : F_217 10 = .ref q_15 := fu_ne eF_217 (by decide) k10_j_214
  have k11_j_218 : F_217 11 = .ref q_19 := fu_ne eF_217 (by decide) k11_j_214
  have k13_j_218 : F_217 13 = .ref q_23 := fu_ne eF_217 (by decide) k13_j_214
  have k14_j_218 : F_217 14 = .ref q_27 := fu_ne eF_217 (by decide) k14_j_214
  have k15_j_218 : F_217 15 = .ref q_31 := fu_ne eF_217 (by decide) k15_j_214
  clear eF_217 k0_j_214 k3_j_214 k98_j_214 k100_j_214 k1_j_214 k2_j_214 k9_j_214 k10_j_214 k11_j_214 k13_j_214 k14_j_214 k15_j_214 hP hD hS
  have hP : va_P (dC, dI) vwCl [(h0, .inr (15, fl 134 F_217)), (q_1, .inr (14, [.null, .null, .null, .null, .null, .int 0])), (q_3, .inl (cy_4, 6000, .inl (fun _ => 0))), (q_11, .inl (cy_12, 6002, .inl (fun _ => 0))), (q_15, .inl (cy_16, 6002, .inl (fun _ => 0))), (q_19, .inl (cy_20, 6002, .inl (fun _ => 0))), (q_23, .inl (cy_24, 6000, .inl (fun _ => 0))), (q_27, .inl (cy_28, 6000, .inl (fun _ => 0))), (q_31, .inl (cy_32, 6600, .inl (fun _ => 0)))] H_j_218 := hP_j_218
  have hD : va_D A [(h0, .inr (15, fl 134 F_217)), (q_1, .inr (14, [.null, .null, .null, .null, .null, .int 0])), (q_3, .inl (cy_4, 6000, .inl (fun _ => 0))), (q_11, .inl (cy_12, 6002, .inl (fun _ => 0))), (q_15, .inl (cy_16, 6002, .inl (fun _ => 0))), (q_19, .inl (cy_20, 6002, .inl (fun _ => 0))), (q_23, .inl (cy_24, 6000, .inl (fun _ => 0))), (q_27, .inl (cy_28, 6000, .inl (fun _ => 0))), (q_31, .inl (cy_32, 6600, .inl (fun _ => 0)))] := hD_j_218
  have hS := hS_j_218
  clear hP_j_218 hD_j_218 hS_j_218
  refine W.widen (k := 55) (n := 579946) (Nat.le_of_ble_eq_true rfl) (Nat.le_of_ble_eq_true rfl) ?_
  refine lv_aload_n hx hb dX13_init_493 rfl (lv_at hl 0 rfl) ?_
  refine lv_sipush (v := 29400) hx hb dX13_init_494 (by decide) ?_
  refine va_newa (atype := .int) (ty := .int) (a0 := (29400, .inl (fun _ => 0))) (N' := 29400) hx hb (hts (.arrayClass .int) (List.mem_of_getElem? (i := 33) rfl)) rfl hK hP hD hS hA (fun _ => rfl) (by decide) (by decide) (Nat.le_of_ble_eq_true rfl) (Nat.le_of_ble_eq_true rfl) (Nat.le_of_ble_eq_true rfl) dX13_init_497 (fun q_219 cy_220 H hK hP hD hS => ?_)
  have hK : va_K (dC, dI) vwCl [(cy_4, .byte), (cy_12, .int), (cy_16, .int), (cy_20, .int), (cy_24, .int), (cy_28, .int), (cy_32, .byte), (cy_220, .int)] s := hK
  have hP : va_P (dC, dI) vwCl [(h0, .inr (15, fl 134 F_217)), (q_1, .inr (14, [.null, .null, .null, .null, .null, .int 0])), (q_3, .inl (cy_4, 6000, .inl (fun _ => 0))), (q_11, .inl (cy_12, 6002, .inl (fun _ => 0))), (q_15, .inl (cy_16, 6002, .inl (fun _ => 0))), (q_19, .inl (cy_20, 6002, .inl (fun _ => 0))), (q_23, .inl (cy_24, 6000, .inl (fun _ => 0))), (q_27, .inl (cy_28, 6000, .inl (fun _ => 0))), (q_31, .inl (cy_32, 6600, .inl (fun _ => 0))), (q_219, .inl (cy_220, 29400, .inl (fun _ => 0)))] H := hP
  have hD : va_D A [(h0, .inr (15, fl 134 F_217)), (q_1, .inr (14, [.null, .null, .null, .null, .null, .int 0])), (q_3, .inl (cy_4, 6000, .inl (fun _ => 0))), (q_11, .inl (cy_12, 6002, .inl (fun _ => 0))), (q_15, .inl (cy_16, 6002, .inl (fun _ => 0))), (q_19, .inl (cy_20, 6002, .inl (fun _ => 0))), (q_23, .inl (cy_24, 6000, .inl (fun _ => 0))), (q_27, .inl (cy_28, 6000, .inl (fun _ => 0))), (q_31, .inl (cy_32, 6600, .inl (fun _ => 0))), (q_219, .inl (cy_220, 29400, .inl (fun _ => 0)))] := hD
  refine W.widen (k := 56) (n := 609346) (Nat.le_of_ble_eq_true rfl) (Nat.le_of_ble_eq_true rfl) ?_
  refine va_put (D := (dC, dI)) (ci := 15) (v := .ref q_219) (ty := .array .int) (C := RX13) (T := TX13) (N := 134) hx hb hts in_cc_Model_init_RX13 tyX13 tyX13_ok nmX13 hown hK hP hD hS 0 rfl rfl 99 (by decide) (hts (.fieldLink RX13 182 "LevelUnitsModel" "mem" "[I") (List.mem_of_getElem? (i := 88) rfl)) (fun _ h9 => h9) rfl (by decide +kernel) rfl rfl (fl_lt (by decide)) dX13_init_499 (fun H locs hP hD hS => ?_)
  obtain ⟨F_221, eF_221⟩ : ∃ z, z = fu F_217 99 (.ref q_219) := ⟨_, rfl⟩
  have hP : va_P (dC, dI) vwCl [(h0, .inr (15, fl 134 F_221)), (q_1, .inr (14, [.null, .null, .null, .null, .null, .int 0])), (q_3, .inl (cy_4, 6000, .inl (fun _ => 0))), (q_11, .inl (cy_12, 6002, .inl (fun _ => 0))), (q_15, .inl (cy_16, 6002, .inl (fun _ => 0))), (q_19, .inl (cy_20, 6002, .inl (fun _ => 0))), (q_23, .inl (cy_24, 6000, .inl (fun _ => 0))), (q_27, .inl (cy_28, 6000, .inl (fun _ => 0))), (q_31, .inl (cy_32, 6600, .inl (fun _ => 0))), (q_219, .inl (cy_220, 29400, .inl (fun _ => 0)))] H := by rw [eF_221, ← fl_set (n := 134) (k := 99) (by decide)]; exact hP
  have hD : va_D A [(h0, .inr (15, fl 134 F_221)), (q_1, .inr (14, [.null, .null, .null, .null, .null, .int 0])), (q_3, .inl (cy_4, 6000, .inl (fun _ => 0))), (q_11, .inl (cy_12, 6002, .inl (fun _ => 0))), (q_15, .inl (cy_16, 6002, .inl (fun _ => 0))), (q_19, .inl (cy_20, 6002, .inl (fun _ => 0))), (q_23, .inl (cy_24, 6000, .inl (fun _ => 0))), (q_27, .inl (cy_28, 6000, .inl (fun _ => 0))), (q_31, .inl (cy_32, 6600, .inl (fun _ => 0))), (q_219, .inl (cy_220, 29400, .inl (fun _ => 0)))] := by rw [eF_221, ← fl_set (n := 134) (k := 99) (by decide)]; exact hD
  have hP := hP.sub (ws' := [(h0, .inr (15, fl 134 F_221)), (q_1, .inr (14, [.null, .null, .null, .null, .null, .int 0])), (q_3, .inl (cy_4, 6000, .inl (fun _ => 0))), (q_11, .inl (cy_12, 6002, .inl (fun _ => 0))), (q_15, .inl (cy_16, 6002, .inl (fun _ => 0))), (q_19, .inl (cy_20, 6002, .inl (fun _ => 0))), (q_23, .inl (cy_24, 6000, .inl (fun _ => 0))), (q_27, .inl (cy_28, 6000, .inl (fun _ => 0))), (q_31, .inl (cy_32, 6600, .inl (fun _ => 0)))]) [0, 1, 2, 3, 4, 5, 6, 7, 8] rfl
  have hD := hD.sub (ws' := [(h0, .inr (15, fl 134 F_221)), (q_1, .inr (14, [.null, .null, .null, .null, .null, .int 0])), (q_3, .inl (cy_4, 6000, .inl (fun _ => 0))), (q_11, .inl (cy_12, 6002, .inl (fun _ => 0))), (q_15, .inl (cy_16, 6002, .inl (fun _ => 0))), (q_19, .inl (cy_20, 6002, .inl (fun _ => 0))), (q_23, .inl (cy_24, 6000, .inl (fun _ => 0))), (q_27, .inl (cy_28, 6000, .inl (fun _ => 0))), (q_31, .inl (cy_32, 6600, .inl (fun _ => 0)))]) [0, 1, 2, 3, 4, 5, 6, 7, 8] (by decide) rfl
  have hK := hK.sub (tys' := [(cy_4, .byte), (cy_12, .int), (cy_16, .int), (cy_20, .int), (cy_24, .int), (cy_28, .int), (cy_32, .byte)]) [0, 1, 2, 3, 4, 5, 6] rfl
  refine lv_aload_n hx hb dX13_init_502 rfl (lv_at hl 0 rfl) ?_
  refine lv_sipush (v := 2001) hx hb dX13_init_503 (by decide) ?_
  refine mstep (X := [(q_1, .inr (14, [.null, .null, .null, .null, .null, .int 0])), (q_3, .inl (cy_4, 6000, .inl (fun _ => 0))), (q_11, .inl (cy_12, 6002, .inl (fun _ => 0))), (q_15, .inl (cy_16, 6002, .inl (fun _ => 0))), (q_19, .inl (cy_20, 6002, .inl (fun _ => 0))), (q_23, .inl (cy_24, 6000, .inl (fun _ => 0))), (q_27, .inl (cy_28, 6000, .inl (fun _ => 0))), (q_31, .inl (cy_32, 6600, .inl (fun _ => 0)))]) (F := F_221) (atype := .int) (ty := .int) (a0 := (2001, .inl (fun _ => 0))) (N' := 2001) hx hb hts in_cc_Model_init_RX13 hown hin hK hP hD hS hA (hts (.arrayClass .int) (List.mem_of_getElem? (i := 33) rfl)) rfl (fun _ => rfl) (by decide) (by decide) (Nat.le_of_ble_eq_true rfl) (Nat.le_of_ble_eq_true rfl) (Nat.le_of_ble_eq_true rfl) dX13_init_506 105 (by decide) (hts (.fieldLink RX13 185 "LevelUnitsModel" "thingType" "[I") (List.mem_of_getElem? (i := 89) rfl)) (fun _ h9 => h9) rfl rfl (by decide +kernel) dX13_init_508 (fun q_222 F_224 H_j_225 locs_j_225 eF_224 hP_j_225 hD_j_225 hS_j_225 => ?_)
  have k0_j_225 : F_224 0 = .int 0 := fu_ne eF_224 (by decide) (fu_ne eF_221 (by decide) k0_j_218)
  have k3_j_225 : F_224 3 = .int 0 := fu_ne eF_224 (by decide) (fu_ne eF_221 (by decide) k3_j_218)
  have k98_j_225 : F_224 98 = .int 0 := fu_ne eF_224 (by decide) (fu_ne eF_221 (by decide) k98_j_218)
  have k100_j_225 : F_224 100 = .int 0 := fu_ne eF_224 (by decide) (fu_ne eF_221 (by decide) k100_j_218)
  have k1_j_225 : F_224 1 = .ref q_1 := fu_ne eF_224 (by decide) (fu_ne eF_221 (by decide) k1_j_218)
  have k2_j_225 : F_224 2 = .ref q_3 := fu_ne eF_224 (by decide) (fu_ne eF_221 (by decide) k2_j_218)
  have k9_j_225 : F_224 9 = .ref q_11 := fu_ne eF_224 (by decide) (fu_ne eF_221 (by decide) k9_j_218)
  have k10_j_225 : F_224 10 = .ref q_15 := fu_ne eF_224 (by decide) (fu_ne eF_221 (by decide) k10_j_218)
  have k11_j_225 : F_224 11 = .ref q_19 := fu_ne eF_224 (by decide) (fu_ne eF_221 (by decide) k11_j_218)
  have k13_j_225 : F_224 13 = .ref q_23 := fu_ne eF_224 (by decide) (fu_ne eF_221 (by decide) k13_j_218)
  have k14_j_225 : F_224 14 = .ref q_27 := fu_ne eF_224 (by decide) (fu_ne eF_221 (by decide) k14_j_218)
  have k15_j_225 : F_224 15 = .ref q_31 := fu_ne eF_224 (by decide) (fu_ne eF_221 (by decide) k15_j_218)
  clear eF_224  hP hD hS
  have hP : va_P (dC, dI) vwCl [(h0, .inr (15, fl 134 F_224)), (q_1, .inr (14, [.null, .null, .null, .null, .null, .int 0])), (q_3, .inl (cy_4, 6000, .inl (fun _ => 0))), (q_11, .inl (cy_12, 6002, .inl (fun _ => 0))), (q_15, .inl (cy_16, 6002, .inl (fun _ => 0))), (q_19, .inl (cy_20, 6002, .inl (fun _ => 0))), (q_23, .inl (cy_24, 6000, .inl (fun _ => 0))), (q_27, .inl (cy_28, 6000, .inl (fun _ => 0))), (q_31, .inl (cy_32, 6600, .inl (fun _ => 0)))] H_j_225 := hP_j_225
  have hD : va_D A [(h0, .inr (15, fl 134 F_224)), (q_1, .inr (14, [.null, .null, .null, .null, .null, .int 0])), (q_3, .inl (cy_4, 6000, .inl (fun _ => 0))), (q_11, .inl (cy_12, 6002, .inl (fun _ => 0))), (q_15, .inl (cy_16, 6002, .inl (fun _ => 0))), (q_19, .inl (cy_20, 6002, .inl (fun _ => 0))), (q_23, .inl (cy_24, 6000, .inl (fun _ => 0))), (q_27, .inl (cy_28, 6000, .inl (fun _ => 0))), (q_31, .inl (cy_32, 6600, .inl (fun _ => 0)))] := hD_j_225
  have hS := hS_j_225
  clear hP_j_225 hD_j_225 hS_j_225
  refine W.widen (k := 57) (n := 611347) (Nat.le_of_ble_eq_true rfl) (Nat.le_of_ble_eq_true rfl) ?_
  refine lv_aload_n hx hb dX13_init_511 rfl (lv_at hl 0 rfl) ?_
  refine lv_sipush (v := 2001) hx hb dX13_init_512 (by decide) ?_
  refine mstep (X := [(q_1, .inr (14, [.null, .null, .null, .null, .null, .int 0])), (q_3, .inl (cy_4, 6000, .inl (fun _ => 0))), (q_11, .inl (cy_12, 6002, .inl (fun _ => 0))), (q_15, .inl (cy_16, 6002, .inl (fun _ => 0))), (q_19, .inl (cy_20, 6002, .inl (fun _ => 0))), (q_23, .inl (cy_24, 6000, .inl (fun _ => 0))), (q_27, .inl (cy_28, 6000, .inl (fun _ => 0))), (q_31, .inl (cy_32, 6600, .inl (fun _ => 0)))]) (F := F_224) (atype := .int) (ty := .int) (a0 := (2001, .inl (fun _ => 0))) (N' := 2001) hx hb hts in_cc_Model_init_RX13 hown hin hK hP hD hS hA (hts (.arrayClass .int) (List.mem_of_getElem? (i := 33) rfl)) rfl (fun _ => rfl) (by decide) (by decide) (Nat.le_of_ble_eq_true rfl) (Nat.le_of_ble_eq_true rfl) (Nat.le_of_ble_eq_true rfl) dX13_init_515 106 (by decide) (hts (.fieldLink RX13 188 "LevelUnitsModel" "thingAt" "[I") (List.mem_of_getElem? (i := 90) rfl)) (fun _ h9 => h9) rfl rfl (by decide +kernel) dX13_init_517 (fun q_226 F_228 H_j_229 locs_j_229 eF_228 hP_j_229 hD_j_229 hS_j_229 => ?_)
  have k0_j_229 : F_228 0 = .int 0 := fu_ne eF_228 (by decide) k0_j_225
  have k3_j_229 : F_228 3 = .int 0 := fu_ne eF_228 (by decide) k3_j_225
  have k98_j_229 : F_228 98 = .int 0 := fu_ne eF_228 (by decide) k98_j_225
  have k100_j_229 : F_228 100 = .int 0 := fu_ne eF_228 (by decide) k100_j_225
  have k1_j_229 : F_228 1 = .ref q_1 := fu_ne eF_228 (by decide) k1_j_225
  have k2_j_229 : F_228 2 = .ref q_3 := fu_ne eF_228 (by decide) k2_j_225
  have k9_j_229 : F_228 9 = .ref q_11 := fu_ne eF_228 (by decide) k9_j_225
  have k10_j_229 : F_228 10 = .ref q_15 := fu_ne eF_228 (by decide) k10_j_225
  have k11_j_229 : F_228 11 = .ref q_19 := fu_ne eF_228 (by decide) k11_j_225
  have k13_j_229 : F_228 13 = .ref q_23 := fu_ne eF_228 (by decide) k13_j_225
  have k14_j_229 : F_228 14 = .ref q_27 := fu_ne eF_228 (by decide) k14_j_225
  have k15_j_229 : F_228 15 = .ref q_31 := fu_ne eF_228 (by decide) k15_j_225
  clear eF_228 k0_j_225 k3_j_225 k98_j_225 k100_j_225 k1_j_225 k2_j_225 k9_j_225 k10_j_225 k11_j_225 k13_j_225 k14_j_225 k15_j_225 hP hD hS
  have hP : va_P (dC, dI) vwCl [(h0, .inr (15, fl 134 F_228)), (q_1, .inr (14, [.null, .null, .null, .null, .null, .int 0])), (q_3, .inl (cy_4, 6000, .inl (fun _ => 0))), (q_11, .inl (cy_12, 6002, .inl (fun _ => 0))), (q_15, .inl (cy_16, 6002, .inl (fun _ => 0))), (q_19, .inl (cy_20, 6002, .inl (fun _ => 0))), (q_23, .inl (cy_24, 6000, .inl (fun _ => 0))), (q_27, .inl (cy_28, 6000, .inl (fun _ => 0))), (q_31, .inl (cy_32, 6600, .inl (fun _ => 0)))] H_j_229 := hP_j_229
  have hD : va_D A [(h0, .inr (15, fl 134 F_228)), (q_1, .inr (14, [.null, .null, .null, .null, .null, .int 0])), (q_3, .inl (cy_4, 6000, .inl (fun _ => 0))), (q_11, .inl (cy_12, 6002, .inl (fun _ => 0))), (q_15, .inl (cy_16, 6002, .inl (fun _ => 0))), (q_19, .inl (cy_20, 6002, .inl (fun _ => 0))), (q_23, .inl (cy_24, 6000, .inl (fun _ => 0))), (q_27, .inl (cy_28, 6000, .inl (fun _ => 0))), (q_31, .inl (cy_32, 6600, .inl (fun _ => 0)))] := hD_j_229
  have hS := hS_j_229
  clear hP_j_229 hD_j_229 hS_j_229
  refine W.widen (k := 58) (n := 613348) (Nat.le_of_ble_eq_true rfl) (Nat.le_of_ble_eq_true rfl) ?_
  refine lv_aload_n hx hb dX13_init_520 rfl (lv_at hl 0 rfl) ?_
  refine lv_sipush (v := 2001) hx hb dX13_init_521 (by decide) ?_
  refine mstep (X := [(q_1, .inr (14, [.null, .null, .null, .null, .null, .int 0])), (q_3, .inl (cy_4, 6000, .inl (fun _ => 0))), (q_11, .inl (cy_12, 6002, .inl (fun _ => 0))), (q_15, .inl (cy_16, 6002, .inl (fun _ => 0))), (q_19, .inl (cy_20, 6002, .inl (fun _ => 0))), (q_23, .inl (cy_24, 6000, .inl (fun _ => 0))), (q_27, .inl (cy_28, 6000, .inl (fun _ => 0))), (q_31, .inl (cy_32, 6600, .inl (fun _ => 0)))]) (F := F_228) (atype := .int) (ty := .int) (a0 := (2001, .inl (fun _ => 0))) (N' := 2001) hx hb hts in_cc_Model_init_RX13 hown hin hK hP hD hS hA (hts (.arrayClass .int) (List.mem_of_getElem? (i := 33) rfl)) rfl (fun _ => rfl) (by decide) (by decide) (Nat.le_of_ble_eq_true rfl) (Nat.le_of_ble_eq_true rfl) (Nat.le_of_ble_eq_true rfl) dX13_init_524 107 (by decide) (hts (.fieldLink RX13 191 "LevelUnitsModel" "thingCells" "[I") (List.mem_of_getElem? (i := 91) rfl)) (fun _ h9 => h9) rfl rfl (by decide +kernel) dX13_init_526 (fun q_230 F_232 H_j_233 locs_j_233 eF_232 hP_j_233 hD_j_233 hS_j_233 => ?_)
  have k0_j_233 : F_232 0 = .int 0 := fu_ne eF_232 (by decide) k0_j_229
  have k3_j_233 : F_232 3 = .int 0 := fu_ne eF_232 (by decide) k3_j_229
  have k98_j_233 : F_232 98 = .int 0 := fu_ne eF_232 (by decide) k98_j_229
  have k100_j_233 : F_232 100 = .int 0 := fu_ne eF_232 (by decide) k100_j_229
  have k1_j_233 : F_232 1 = .ref q_1 := fu_ne eF_232 (by decide) k1_j_229
  have k2_j_233 : F_232 2 = .ref q_3 := fu_ne eF_232 (by decide) k2_j_229
  have k9_j_233 : F_232 9 = .ref q_11 := fu_ne eF_232 (by decide) k9_j_229
  have k10_j_233 : F_232 10 = .ref q_15 := fu_ne eF_232 (by decide) k10_j_229
  have k11_j_233 : F_232 11 = .ref q_19 := fu_ne eF_232 (by decide) k11_j_229
  have k13_j_233 : F_232 13 = .ref q_23 := fu_ne eF_232 (by decide) k13_j_229
  have k14_j_233 : F_232 14 = .ref q_27 := fu_ne eF_232 (by decide) k14_j_229
  have k15_j_233 : F_232 15 = .ref q_31 := fu_ne eF_232 (by decide) k15_j_229
  clear eF_232 k0_j_229 k3_j_229 k98_j_229 k100_j_229 k1_j_229 k2_j_229 k9_j_229 k10_j_229 k11_j_229 k13_j_229 k14_j_229 k15_j_229 hP hD hS
  have hP : va_P (dC, dI) vwCl [(h0, .inr (15, fl 134 F_232)), (q_1, .inr (14, [.null, .null, .null, .null, .null, .int 0])), (q_3, .inl (cy_4, 6000, .inl (fun _ => 0))), (q_11, .inl (cy_12, 6002, .inl (fun _ => 0))), (q_15, .inl (cy_16, 6002, .inl (fun _ => 0))), (q_19, .inl (cy_20, 6002, .inl (fun _ => 0))), (q_23, .inl (cy_24, 6000, .inl (fun _ => 0))), (q_27, .inl (cy_28, 6000, .inl (fun _ => 0))), (q_31, .inl (cy_32, 6600, .inl (fun _ => 0)))] H_j_233 := hP_j_233
  have hD : va_D A [(h0, .inr (15, fl 134 F_232)), (q_1, .inr (14, [.null, .null, .null, .null, .null, .int 0])), (q_3, .inl (cy_4, 6000, .inl (fun _ => 0))), (q_11, .inl (cy_12, 6002, .inl (fun _ => 0))), (q_15, .inl (cy_16, 6002, .inl (fun _ => 0))), (q_19, .inl (cy_20, 6002, .inl (fun _ => 0))), (q_23, .inl (cy_24, 6000, .inl (fun _ => 0))), (q_27, .inl (cy_28, 6000, .inl (fun _ => 0))), (q_31, .inl (cy_32, 6600, .inl (fun _ => 0)))] := hD_j_233
  have hS := hS_j_233
  clear hP_j_233 hD_j_233 hS_j_233
  refine W.widen (k := 59) (n := 615349) (Nat.le_of_ble_eq_true rfl) (Nat.le_of_ble_eq_true rfl) ?_
  refine lv_aload_n hx hb dX13_init_529 rfl (lv_at hl 0 rfl) ?_
  refine lv_sipush (v := 2001) hx hb dX13_init_530 (by decide) ?_
  refine mstep (X := [(q_1, .inr (14, [.null, .null, .null, .null, .null, .int 0])), (q_3, .inl (cy_4, 6000, .inl (fun _ => 0))), (q_11, .inl (cy_12, 6002, .inl (fun _ => 0))), (q_15, .inl (cy_16, 6002, .inl (fun _ => 0))), (q_19, .inl (cy_20, 6002, .inl (fun _ => 0))), (q_23, .inl (cy_24, 6000, .inl (fun _ => 0))), (q_27, .inl (cy_28, 6000, .inl (fun _ => 0))), (q_31, .inl (cy_32, 6600, .inl (fun _ => 0)))]) (F := F_232) (atype := .int) (ty := .int) (a0 := (2001, .inl (fun _ => 0))) (N' := 2001) hx hb hts in_cc_Model_init_RX13 hown hin hK hP hD hS hA (hts (.arrayClass .int) (List.mem_of_getElem? (i := 33) rfl)) rfl (fun _ => rfl) (by decide) (by decide) (Nat.le_of_ble_eq_true rfl) (Nat.le_of_ble_eq_true rfl) (Nat.le_of_ble_eq_true rfl) dX13_init_533 108 (by decide) (hts (.fieldLink RX13 194 "LevelUnitsModel" "holder" "[I") (List.mem_of_getElem? (i := 92) rfl)) (fun _ h9 => h9) rfl rfl (by decide +kernel) dX13_init_535 (fun q_234 F_236 H_j_237 locs_j_237 eF_236 hP_j_237 hD_j_237 hS_j_237 => ?_)
  have k0_j_237 : F_236 0 = .int 0 := fu_ne eF_236 (by decide) k0_j_233
  have k3_j_237 : F_236 3 = .int 0 := fu_ne eF_236 (by decide) k3_j_233
  have k98_j_237 : F_236 98 = .int 0 := fu_ne eF_236 (by decide) k98_j_233
  have k100_j_237 : F_236 100 = .int 0 := fu_ne eF_236 (by decide) k100_j_233
  have k1_j_237 : F_236 1 = .ref q_1 := fu_ne eF_236 (by decide) k1_j_233
  have k2_j_237 : F_236 2 = .ref q_3 := fu_ne eF_236 (by decide) k2_j_233
  have k9_j_237 : F_236 9 = .ref q_11 := fu_ne eF_236 (by decide) k9_j_233
  have k10_j_237 : F_236 10 = .ref q_15 := fu_ne eF_236 (by decide) k10_j_233
  have k11_j_237 : F_236 11 = .ref q_19 := fu_ne eF_236 (by decide) k11_j_233
  have k13_j_237 : F_236 13 = .ref q_23 := fu_ne eF_236 (by decide) k13_j_233
  have k14_j_237 : F_236 14 = .ref q_27 := fu_ne eF_236 (by decide) k14_j_233
  have k15_j_237 : F_236 15 = .ref q_31 := fu_ne eF_236 (by decide) k15_j_233
  clear eF_236 k0_j_233 k3_j_233 k98_j_233 k100_j_233 k1_j_233 k2_j_233 k9_j_233 k10_j_233 k11_j_233 k13_j_233 k14_j_233 k15_j_233 hP hD hS
  have hP : va_P (dC, dI) vwCl [(h0, .inr (15, fl 134 F_236)), (q_1, .inr (14, [.null, .null, .null, .null, .null, .int 0])), (q_3, .inl (cy_4, 6000, .inl (fun _ => 0))), (q_11, .inl (cy_12, 6002, .inl (fun _ => 0))), (q_15, .inl (cy_16, 6002, .inl (fun _ => 0))), (q_19, .inl (cy_20, 6002, .inl (fun _ => 0))), (q_23, .inl (cy_24, 6000, .inl (fun _ => 0))), (q_27, .inl (cy_28, 6000, .inl (fun _ => 0))), (q_31, .inl (cy_32, 6600, .inl (fun _ => 0)))] H_j_237 := hP_j_237
  have hD : va_D A [(h0, .inr (15, fl 134 F_236)), (q_1, .inr (14, [.null, .null, .null, .null, .null, .int 0])), (q_3, .inl (cy_4, 6000, .inl (fun _ => 0))), (q_11, .inl (cy_12, 6002, .inl (fun _ => 0))), (q_15, .inl (cy_16, 6002, .inl (fun _ => 0))), (q_19, .inl (cy_20, 6002, .inl (fun _ => 0))), (q_23, .inl (cy_24, 6000, .inl (fun _ => 0))), (q_27, .inl (cy_28, 6000, .inl (fun _ => 0))), (q_31, .inl (cy_32, 6600, .inl (fun _ => 0)))] := hD_j_237
  have hS := hS_j_237
  clear hP_j_237 hD_j_237 hS_j_237
  refine W.widen (k := 60) (n := 617350) (Nat.le_of_ble_eq_true rfl) (Nat.le_of_ble_eq_true rfl) ?_
  refine lv_aload_n hx hb dX13_init_538 rfl (lv_at hl 0 rfl) ?_
  refine lv_sipush (v := 2001) hx hb dX13_init_539 (by decide) ?_
  refine mstep (X := [(q_1, .inr (14, [.null, .null, .null, .null, .null, .int 0])), (q_3, .inl (cy_4, 6000, .inl (fun _ => 0))), (q_11, .inl (cy_12, 6002, .inl (fun _ => 0))), (q_15, .inl (cy_16, 6002, .inl (fun _ => 0))), (q_19, .inl (cy_20, 6002, .inl (fun _ => 0))), (q_23, .inl (cy_24, 6000, .inl (fun _ => 0))), (q_27, .inl (cy_28, 6000, .inl (fun _ => 0))), (q_31, .inl (cy_32, 6600, .inl (fun _ => 0)))]) (F := F_236) (atype := .boolean) (ty := .boolean) (a0 := (2001, .inl (fun _ => 0))) (N' := 2001) hx hb hts in_cc_Model_init_RX13 hown hin hK hP hD hS hA (hts (.arrayClass .boolean) (List.mem_of_getElem? (i := 60) rfl)) rfl (fun _ => rfl) (by decide) (by decide) (Nat.le_of_ble_eq_true rfl) (Nat.le_of_ble_eq_true rfl) (Nat.le_of_ble_eq_true rfl) dX13_init_542 109 (by decide) (hts (.fieldLink RX13 197 "LevelUnitsModel" "isCondition" "[Z") (List.mem_of_getElem? (i := 93) rfl)) (fun _ h9 => h9) rfl rfl (by decide +kernel) dX13_init_544 (fun q_238 F_240 H_j_241 locs_j_241 eF_240 hP_j_241 hD_j_241 hS_j_241 => ?_)
  have k0_j_241 : F_240 0 = .int 0 := fu_ne eF_240 (by decide) k0_j_237
  have k3_j_241 : F_240 3 = .int 0 := fu_ne eF_240 (by decide) k3_j_237
  have k98_j_241 : F_240 98 = .int 0 := fu_ne eF_240 (by decide) k98_j_237
  have k100_j_241 : F_240 100 = .int 0 := fu_ne eF_240 (by decide) k100_j_237
  have k1_j_241 : F_240 1 = .ref q_1 := fu_ne eF_240 (by decide) k1_j_237
  have k2_j_241 : F_240 2 = .ref q_3 := fu_ne eF_240 (by decide) k2_j_237
  have k9_j_241 : F_240 9 = .ref q_11 := fu_ne eF_240 (by decide) k9_j_237
  have k10_j_241 : F_240 10 = .ref q_15 := fu_ne eF_240 (by decide) k10_j_237
  have k11_j_241 : F_240 11 = .ref q_19 := fu_ne eF_240 (by decide) k11_j_237
  have k13_j_241 : F_240 13 = .ref q_23 := fu_ne eF_240 (by decide) k13_j_237
  have k14_j_241 : F_240 14 = .ref q_27 := fu_ne eF_240 (by decide) k14_j_237
  have k15_j_241 : F_240 15 = .ref q_31 := fu_ne eF_240 (by decide) k15_j_237
  clear eF_240 k0_j_237 k3_j_237 k98_j_237 k100_j_237 k1_j_237 k2_j_237 k9_j_237 k10_j_237 k11_j_237 k13_j_237 k14_j_237 k15_j_237 hP hD hS
  have hP : va_P (dC, dI) vwCl [(h0, .inr (15, fl 134 F_240)), (q_1, .inr (14, [.null, .null, .null, .null, .null, .int 0])), (q_3, .inl (cy_4, 6000, .inl (fun _ => 0))), (q_11, .inl (cy_12, 6002, .inl (fun _ => 0))), (q_15, .inl (cy_16, 6002, .inl (fun _ => 0))), (q_19, .inl (cy_20, 6002, .inl (fun _ => 0))), (q_23, .inl (cy_24, 6000, .inl (fun _ => 0))), (q_27, .inl (cy_28, 6000, .inl (fun _ => 0))), (q_31, .inl (cy_32, 6600, .inl (fun _ => 0)))] H_j_241 := hP_j_241
  have hD : va_D A [(h0, .inr (15, fl 134 F_240)), (q_1, .inr (14, [.null, .null, .null, .null, .null, .int 0])), (q_3, .inl (cy_4, 6000, .inl (fun _ => 0))), (q_11, .inl (cy_12, 6002, .inl (fun _ => 0))), (q_15, .inl (cy_16, 6002, .inl (fun _ => 0))), (q_19, .inl (cy_20, 6002, .inl (fun _ => 0))), (q_23, .inl (cy_24, 6000, .inl (fun _ => 0))), (q_27, .inl (cy_28, 6000, .inl (fun _ => 0))), (q_31, .inl (cy_32, 6600, .inl (fun _ => 0)))] := hD_j_241
  have hS := hS_j_241
  clear hP_j_241 hD_j_241 hS_j_241
  refine W.widen (k := 61) (n := 619351) (Nat.le_of_ble_eq_true rfl) (Nat.le_of_ble_eq_true rfl) ?_
  refine lv_aload_n hx hb dX13_init_547 rfl (lv_at hl 0 rfl) ?_
  refine lv_bipush (v := 65) hx hb dX13_init_548 (by decide) ?_
  refine mstep (X := [(q_1, .inr (14, [.null, .null, .null, .null, .null, .int 0])), (q_3, .inl (cy_4, 6000, .inl (fun _ => 0))), (q_11, .inl (cy_12, 6002, .inl (fun _ => 0))), (q_15, .inl (cy_16, 6002, .inl (fun _ => 0))), (q_19, .inl (cy_20, 6002, .inl (fun _ => 0))), (q_23, .inl (cy_24, 6000, .inl (fun _ => 0))), (q_27, .inl (cy_28, 6000, .inl (fun _ => 0))), (q_31, .inl (cy_32, 6600, .inl (fun _ => 0)))]) (F := F_240) (atype := .int) (ty := .int) (a0 := (65, .inl (fun _ => 0))) (N' := 65) hx hb hts in_cc_Model_init_RX13 hown hin hK hP hD hS hA (hts (.arrayClass .int) (List.mem_of_getElem? (i := 33) rfl)) rfl (fun _ => rfl) (by decide) (by decide) (Nat.le_of_ble_eq_true rfl) (Nat.le_of_ble_eq_true rfl) (Nat.le_of_ble_eq_true rfl) dX13_init_550 111 (by decide) (hts (.fieldLink RX13 200 "LevelUnitsModel" "wants" "[I") (List.mem_of_getElem? (i := 94) rfl)) (fun _ h9 => h9) rfl rfl (by decide +kernel) dX13_init_552 (fun q_242 F_244 H_j_245 locs_j_245 eF_244 hP_j_245 hD_j_245 hS_j_245 => ?_)
  have k0_j_245 : F_244 0 = .int 0 := fu_ne eF_244 (by decide) k0_j_241
  have k3_j_245 : F_244 3 = .int 0 := fu_ne eF_244 (by decide) k3_j_241
  have k98_j_245 : F_244 98 = .int 0 := fu_ne eF_244 (by decide) k98_j_241
  have k100_j_245 : F_244 100 = .int 0 := fu_ne eF_244 (by decide) k100_j_241
  have k1_j_245 : F_244 1 = .ref q_1 := fu_ne eF_244 (by decide) k1_j_241
  have k2_j_245 : F_244 2 = .ref q_3 := fu_ne eF_244 (by decide) k2_j_241
  have k9_j_245 : F_244 9 = .ref q_11 := fu_ne eF_244 (by decide) k9_j_241
  have k10_j_245 : F_244 10 = .ref q_15 := fu_ne eF_244 (by decide) k10_j_241
  have k11_j_245 : F_244 11 = .ref q_19 := fu_ne eF_244 (by decide) k11_j_241
  have k13_j_245 : F_244 13 = .ref q_23 := fu_ne eF_244 (by decide) k13_j_241
  have k14_j_245 : F_244 14 = .ref q_27 := fu_ne eF_244 (by decide) k14_j_241
  have k15_j_245 : F_244 15 = .ref q_31 := fu_ne eF_244 (by decide) k15_j_241
  clear eF_244 k0_j_241 k3_j_241 k98_j_241 k100_j_241 k1_j_241 k2_j_241 k9_j_241 k10_j_241 k11_j_241 k13_j_241 k14_j_241 k15_j_241 hP hD hS
  have hP : va_P (dC, dI) vwCl [(h0, .inr (15, fl 134 F_244)), (q_1, .inr (14, [.null, .null, .null, .null, .null, .int 0])), (q_3, .inl (cy_4, 6000, .inl (fun _ => 0))), (q_11, .inl (cy_12, 6002, .inl (fun _ => 0))), (q_15, .inl (cy_16, 6002, .inl (fun _ => 0))), (q_19, .inl (cy_20, 6002, .inl (fun _ => 0))), (q_23, .inl (cy_24, 6000, .inl (fun _ => 0))), (q_27, .inl (cy_28, 6000, .inl (fun _ => 0))), (q_31, .inl (cy_32, 6600, .inl (fun _ => 0)))] H_j_245 := hP_j_245
  have hD : va_D A [(h0, .inr (15, fl 134 F_244)), (q_1, .inr (14, [.null, .null, .null, .null, .null, .int 0])), (q_3, .inl (cy_4, 6000, .inl (fun _ => 0))), (q_11, .inl (cy_12, 6002, .inl (fun _ => 0))), (q_15, .inl (cy_16, 6002, .inl (fun _ => 0))), (q_19, .inl (cy_20, 6002, .inl (fun _ => 0))), (q_23, .inl (cy_24, 6000, .inl (fun _ => 0))), (q_27, .inl (cy_28, 6000, .inl (fun _ => 0))), (q_31, .inl (cy_32, 6600, .inl (fun _ => 0)))] := hD_j_245
  have hS := hS_j_245
  clear hP_j_245 hD_j_245 hS_j_245
  refine W.widen (k := 62) (n := 619416) (Nat.le_of_ble_eq_true rfl) (Nat.le_of_ble_eq_true rfl) ?_
  refine lv_aload_n hx hb dX13_init_555 rfl (lv_at hl 0 rfl) ?_
  refine lv_bipush (v := 65) hx hb dX13_init_556 (by decide) ?_
  refine mstep (X := [(q_1, .inr (14, [.null, .null, .null, .null, .null, .int 0])), (q_3, .inl (cy_4, 6000, .inl (fun _ => 0))), (q_11, .inl (cy_12, 6002, .inl (fun _ => 0))), (q_15, .inl (cy_16, 6002, .inl (fun _ => 0))), (q_19, .inl (cy_20, 6002, .inl (fun _ => 0))), (q_23, .inl (cy_24, 6000, .inl (fun _ => 0))), (q_27, .inl (cy_28, 6000, .inl (fun _ => 0))), (q_31, .inl (cy_32, 6600, .inl (fun _ => 0)))]) (F := F_244) (atype := .int) (ty := .int) (a0 := (65, .inl (fun _ => 0))) (N' := 65) hx hb hts in_cc_Model_init_RX13 hown hin hK hP hD hS hA (hts (.arrayClass .int) (List.mem_of_getElem? (i := 33) rfl)) rfl (fun _ => rfl) (by decide) (by decide) (Nat.le_of_ble_eq_true rfl) (Nat.le_of_ble_eq_true rfl) (Nat.le_of_ble_eq_true rfl) dX13_init_558 112 (by decide) (hts (.fieldLink RX13 203 "LevelUnitsModel" "wantsOf" "[I") (List.mem_of_getElem? (i := 95) rfl)) (fun _ h9 => h9) rfl rfl (by decide +kernel) dX13_init_560 (fun q_246 F_248 H_j_249 locs_j_249 eF_248 hP_j_249 hD_j_249 hS_j_249 => ?_)
  have k0_j_249 : F_248 0 = .int 0 := fu_ne eF_248 (by decide) k0_j_245
  have k3_j_249 : F_248 3 = .int 0 := fu_ne eF_248 (by decide) k3_j_245
  have k98_j_249 : F_248 98 = .int 0 := fu_ne eF_248 (by decide) k98_j_245
  have k100_j_249 : F_248 100 = .int 0 := fu_ne eF_248 (by decide) k100_j_245
  have k1_j_249 : F_248 1 = .ref q_1 := fu_ne eF_248 (by decide) k1_j_245
  have k2_j_249 : F_248 2 = .ref q_3 := fu_ne eF_248 (by decide) k2_j_245
  have k9_j_249 : F_248 9 = .ref q_11 := fu_ne eF_248 (by decide) k9_j_245
  have k10_j_249 : F_248 10 = .ref q_15 := fu_ne eF_248 (by decide) k10_j_245
  have k11_j_249 : F_248 11 = .ref q_19 := fu_ne eF_248 (by decide) k11_j_245
  have k13_j_249 : F_248 13 = .ref q_23 := fu_ne eF_248 (by decide) k13_j_245
  have k14_j_249 : F_248 14 = .ref q_27 := fu_ne eF_248 (by decide) k14_j_245
  have k15_j_249 : F_248 15 = .ref q_31 := fu_ne eF_248 (by decide) k15_j_245
  clear eF_248 k0_j_245 k3_j_245 k98_j_245 k100_j_245 k1_j_245 k2_j_245 k9_j_245 k10_j_245 k11_j_245 k13_j_245 k14_j_245 k15_j_245 hP hD hS
  have hP : va_P (dC, dI) vwCl [(h0, .inr (15, fl 134 F_248)), (q_1, .inr (14, [.null, .null, .null, .null, .null, .int 0])), (q_3, .inl (cy_4, 6000, .inl (fun _ => 0))), (q_11, .inl (cy_12, 6002, .inl (fun _ => 0))), (q_15, .inl (cy_16, 6002, .inl (fun _ => 0))), (q_19, .inl (cy_20, 6002, .inl (fun _ => 0))), (q_23, .inl (cy_24, 6000, .inl (fun _ => 0))), (q_27, .inl (cy_28, 6000, .inl (fun _ => 0))), (q_31, .inl (cy_32, 6600, .inl (fun _ => 0)))] H_j_249 := hP_j_249
  have hD : va_D A [(h0, .inr (15, fl 134 F_248)), (q_1, .inr (14, [.null, .null, .null, .null, .null, .int 0])), (q_3, .inl (cy_4, 6000, .inl (fun _ => 0))), (q_11, .inl (cy_12, 6002, .inl (fun _ => 0))), (q_15, .inl (cy_16, 6002, .inl (fun _ => 0))), (q_19, .inl (cy_20, 6002, .inl (fun _ => 0))), (q_23, .inl (cy_24, 6000, .inl (fun _ => 0))), (q_27, .inl (cy_28, 6000, .inl (fun _ => 0))), (q_31, .inl (cy_32, 6600, .inl (fun _ => 0)))] := hD_j_249
  have hS := hS_j_249
  clear hP_j_249 hD_j_249 hS_j_249
  refine W.widen (k := 63) (n := 619481) (Nat.le_of_ble_eq_true rfl) (Nat.le_of_ble_eq_true rfl) ?_
  refine lv_aload_n hx hb dX13_init_563 rfl (lv_at hl 0 rfl) ?_
  refine lv_bipush (v := 65) hx hb dX13_init_564 (by decide) ?_
  refine mstep (X := [(q_1, .inr (14, [.null, .null, .null, .null, .null, .int 0])), (q_3, .inl (cy_4, 6000, .inl (fun _ => 0))), (q_11, .inl (cy_12, 6002, .inl (fun _ => 0))), (q_15, .inl (cy_16, 6002, .inl (fun _ => 0))), (q_19, .inl (cy_20, 6002, .inl (fun _ => 0))), (q_23, .inl (cy_24, 6000, .inl (fun _ => 0))), (q_27, .inl (cy_28, 6000, .inl (fun _ => 0))), (q_31, .inl (cy_32, 6600, .inl (fun _ => 0)))]) (F := F_248) (atype := .int) (ty := .int) (a0 := (65, .inl (fun _ => 0))) (N' := 65) hx hb hts in_cc_Model_init_RX13 hown hin hK hP hD hS hA (hts (.arrayClass .int) (List.mem_of_getElem? (i := 33) rfl)) rfl (fun _ => rfl) (by decide) (by decide) (Nat.le_of_ble_eq_true rfl) (Nat.le_of_ble_eq_true rfl) (Nat.le_of_ble_eq_true rfl) dX13_init_566 113 (by decide) (hts (.fieldLink RX13 206 "LevelUnitsModel" "wantsHow" "[I") (List.mem_of_getElem? (i := 96) rfl)) (fun _ h9 => h9) rfl rfl (by decide +kernel) dX13_init_568 (fun q_250 F_252 H_j_253 locs_j_253 eF_252 hP_j_253 hD_j_253 hS_j_253 => ?_)
  have k0_j_253 : F_252 0 = .int 0 := fu_ne eF_252 (by decide) k0_j_249
  have k3_j_253 : F_252 3 = .int 0 := fu_ne eF_252 (by decide) k3_j_249
  have k98_j_253 : F_252 98 = .int 0 := fu_ne eF_252 (by decide) k98_j_249
  have k100_j_253 : F_252 100 = .int 0 := fu_ne eF_252 (by decide) k100_j_249
  have k1_j_253 : F_252 1 = .ref q_1 := fu_ne eF_252 (by decide) k1_j_249
  have k2_j_253 : F_252 2 = .ref q_3 := fu_ne eF_252 (by decide) k2_j_249
  have k9_j_253 : F_252 9 = .ref q_11 := fu_ne eF_252 (by decide) k9_j_249
  have k10_j_253 : F_252 10 = .ref q_15 := fu_ne eF_252 (by decide) k10_j_249
  have k11_j_253 : F_252 11 = .ref q_19 := fu_ne eF_252 (by decide) k11_j_249
  have k13_j_253 : F_252 13 = .ref q_23 := fu_ne eF_252 (by decide) k13_j_249
  have k14_j_253 : F_252 14 = .ref q_27 := fu_ne eF_252 (by decide) k14_j_249
  have k15_j_253 : F_252 15 = .ref q_31 := fu_ne eF_252 (by decide) k15_j_249
  clear eF_252 k0_j_249 k3_j_249 k98_j_249 k100_j_249 k1_j_249 k2_j_249 k9_j_249 k10_j_249 k11_j_249 k13_j_249 k14_j_249 k15_j_249 hP hD hS
  have hP : va_P (dC, dI) vwCl [(h0, .inr (15, fl 134 F_252)), (q_1, .inr (14, [.null, .null, .null, .null, .null, .int 0])), (q_3, .inl (cy_4, 6000, .inl (fun _ => 0))), (q_11, .inl (cy_12, 6002, .inl (fun _ => 0))), (q_15, .inl (cy_16, 6002, .inl (fun _ => 0))), (q_19, .inl (cy_20, 6002, .inl (fun _ => 0))), (q_23, .inl (cy_24, 6000, .inl (fun _ => 0))), (q_27, .inl (cy_28, 6000, .inl (fun _ => 0))), (q_31, .inl (cy_32, 6600, .inl (fun _ => 0)))] H_j_253 := hP_j_253
  have hD : va_D A [(h0, .inr (15, fl 134 F_252)), (q_1, .inr (14, [.null, .null, .null, .null, .null, .int 0])), (q_3, .inl (cy_4, 6000, .inl (fun _ => 0))), (q_11, .inl (cy_12, 6002, .inl (fun _ => 0))), (q_15, .inl (cy_16, 6002, .inl (fun _ => 0))), (q_19, .inl (cy_20, 6002, .inl (fun _ => 0))), (q_23, .inl (cy_24, 6000, .inl (fun _ => 0))), (q_27, .inl (cy_28, 6000, .inl (fun _ => 0))), (q_31, .inl (cy_32, 6600, .inl (fun _ => 0)))] := hD_j_253
  have hS := hS_j_253
  clear hP_j_253 hD_j_253 hS_j_253
  refine W.widen (k := 64) (n := 619546) (Nat.le_of_ble_eq_true rfl) (Nat.le_of_ble_eq_true rfl) ?_
  refine lv_aload_n hx hb dX13_init_571 rfl (lv_at hl 0 rfl) ?_
  refine lv_bipush (v := 65) hx hb dX13_init_572 (by decide) ?_
  refine mstep (X := [(q_1, .inr (14, [.null, .null, .null, .null, .null, .int 0])), (q_3, .inl (cy_4, 6000, .inl (fun _ => 0))), (q_11, .inl (cy_12, 6002, .inl (fun _ => 0))), (q_15, .inl (cy_16, 6002, .inl (fun _ => 0))), (q_19, .inl (cy_20, 6002, .inl (fun _ => 0))), (q_23, .inl (cy_24, 6000, .inl (fun _ => 0))), (q_27, .inl (cy_28, 6000, .inl (fun _ => 0))), (q_31, .inl (cy_32, 6600, .inl (fun _ => 0)))]) (F := F_252) (atype := .int) (ty := .int) (a0 := (65, .inl (fun _ => 0))) (N' := 65) hx hb hts in_cc_Model_init_RX13 hown hin hK hP hD hS hA (hts (.arrayClass .int) (List.mem_of_getElem? (i := 33) rfl)) rfl (fun _ => rfl) (by decide) (by decide) (Nat.le_of_ble_eq_true rfl) (Nat.le_of_ble_eq_true rfl) (Nat.le_of_ble_eq_true rfl) dX13_init_574 114 (by decide) (hts (.fieldLink RX13 209 "LevelUnitsModel" "ticket" "[I") (List.mem_of_getElem? (i := 97) rfl)) (fun _ h9 => h9) rfl rfl (by decide +kernel) dX13_init_576 (fun q_254 F_256 H_j_257 locs_j_257 eF_256 hP_j_257 hD_j_257 hS_j_257 => ?_)
  have k0_j_257 : F_256 0 = .int 0 := fu_ne eF_256 (by decide) k0_j_253
  have k3_j_257 : F_256 3 = .int 0 := fu_ne eF_256 (by decide) k3_j_253
  have k98_j_257 : F_256 98 = .int 0 := fu_ne eF_256 (by decide) k98_j_253
  have k100_j_257 : F_256 100 = .int 0 := fu_ne eF_256 (by decide) k100_j_253
  have k1_j_257 : F_256 1 = .ref q_1 := fu_ne eF_256 (by decide) k1_j_253
  have k2_j_257 : F_256 2 = .ref q_3 := fu_ne eF_256 (by decide) k2_j_253
  have k9_j_257 : F_256 9 = .ref q_11 := fu_ne eF_256 (by decide) k9_j_253
  have k10_j_257 : F_256 10 = .ref q_15 := fu_ne eF_256 (by decide) k10_j_253
  have k11_j_257 : F_256 11 = .ref q_19 := fu_ne eF_256 (by decide) k11_j_253
  have k13_j_257 : F_256 13 = .ref q_23 := fu_ne eF_256 (by decide) k13_j_253
  have k14_j_257 : F_256 14 = .ref q_27 := fu_ne eF_256 (by decide) k14_j_253
  have k15_j_257 : F_256 15 = .ref q_31 := fu_ne eF_256 (by decide) k15_j_253
  clear eF_256 k0_j_253 k3_j_253 k98_j_253 k100_j_253 k1_j_253 k2_j_253 k9_j_253 k10_j_253 k11_j_253 k13_j_253 k14_j_253 k15_j_253 hP hD hS
  have hP : va_P (dC, dI) vwCl [(h0, .inr (15, fl 134 F_256)), (q_1, .inr (14, [.null, .null, .null, .null, .null, .int 0])), (q_3, .inl (cy_4, 6000, .inl (fun _ => 0))), (q_11, .inl (cy_12, 6002, .inl (fun _ => 0))), (q_15, .inl (cy_16, 6002, .inl (fun _ => 0))), (q_19, .inl (cy_20, 6002, .inl (fun _ => 0))), (q_23, .inl (cy_24, 6000, .inl (fun _ => 0))), (q_27, .inl (cy_28, 6000, .inl (fun _ => 0))), (q_31, .inl (cy_32, 6600, .inl (fun _ => 0)))] H_j_257 := hP_j_257
  have hD : va_D A [(h0, .inr (15, fl 134 F_256)), (q_1, .inr (14, [.null, .null, .null, .null, .null, .int 0])), (q_3, .inl (cy_4, 6000, .inl (fun _ => 0))), (q_11, .inl (cy_12, 6002, .inl (fun _ => 0))), (q_15, .inl (cy_16, 6002, .inl (fun _ => 0))), (q_19, .inl (cy_20, 6002, .inl (fun _ => 0))), (q_23, .inl (cy_24, 6000, .inl (fun _ => 0))), (q_27, .inl (cy_28, 6000, .inl (fun _ => 0))), (q_31, .inl (cy_32, 6600, .inl (fun _ => 0)))] := hD_j_257
  have hS := hS_j_257
  clear hP_j_257 hD_j_257 hS_j_257
  refine W.widen (k := 65) (n := 619611) (Nat.le_of_ble_eq_true rfl) (Nat.le_of_ble_eq_true rfl) ?_
  refine lv_aload_n hx hb dX13_init_579 rfl (lv_at hl 0 rfl) ?_
  refine lv_bipush (v := 65) hx hb dX13_init_580 (by decide) ?_
  refine mstep (X := [(q_1, .inr (14, [.null, .null, .null, .null, .null, .int 0])), (q_3, .inl (cy_4, 6000, .inl (fun _ => 0))), (q_11, .inl (cy_12, 6002, .inl (fun _ => 0))), (q_15, .inl (cy_16, 6002, .inl (fun _ => 0))), (q_19, .inl (cy_20, 6002, .inl (fun _ => 0))), (q_23, .inl (cy_24, 6000, .inl (fun _ => 0))), (q_27, .inl (cy_28, 6000, .inl (fun _ => 0))), (q_31, .inl (cy_32, 6600, .inl (fun _ => 0)))]) (F := F_256) (atype := .int) (ty := .int) (a0 := (65, .inl (fun _ => 0))) (N' := 65) hx hb hts in_cc_Model_init_RX13 hown hin hK hP hD hS hA (hts (.arrayClass .int) (List.mem_of_getElem? (i := 33) rfl)) rfl (fun _ => rfl) (by decide) (by decide) (Nat.le_of_ble_eq_true rfl) (Nat.le_of_ble_eq_true rfl) (Nat.le_of_ble_eq_true rfl) dX13_init_582 116 (by decide) (hts (.fieldLink RX13 212 "LevelUnitsModel" "over" "[I") (List.mem_of_getElem? (i := 98) rfl)) (fun _ h9 => h9) rfl rfl (by decide +kernel) dX13_init_584 (fun q_258 F_260 H_j_261 locs_j_261 eF_260 hP_j_261 hD_j_261 hS_j_261 => ?_)
  have k0_j_261 : F_260 0 = .int 0 := fu_ne eF_260 (by decide) k0_j_257
  have k3_j_261 : F_260 3 = .int 0 := fu_ne eF_260 (by decide) k3_j_257
  have k98_j_261 : F_260 98 = .int 0 := fu_ne eF_260 (by decide) k98_j_257
  have k100_j_261 : F_260 100 = .int 0 := fu_ne eF_260 (by decide) k100_j_257
  have k1_j_261 : F_260 1 = .ref q_1 := fu_ne eF_260 (by decide) k1_j_257
  have k2_j_261 : F_260 2 = .ref q_3 := fu_ne eF_260 (by decide) k2_j_257
  have k9_j_261 : F_260 9 = .ref q_11 := fu_ne eF_260 (by decide) k9_j_257
  have k10_j_261 : F_260 10 = .ref q_15 := fu_ne eF_260 (by decide) k10_j_257
  have k11_j_261 : F_260 11 = .ref q_19 := fu_ne eF_260 (by decide) k11_j_257
  have k13_j_261 : F_260 13 = .ref q_23 := fu_ne eF_260 (by decide) k13_j_257
  have k14_j_261 : F_260 14 = .ref q_27 := fu_ne eF_260 (by decide) k14_j_257
  have k15_j_261 : F_260 15 = .ref q_31 := fu_ne eF_260 (by decide) k15_j_257
  clear eF_260 k0_j_257 k3_j_257 k98_j_257 k100_j_257 k1_j_257 k2_j_257 k9_j_257 k10_j_257 k11_j_257 k13_j_257 k14_j_257 k15_j_257 hP hD hS
  have hP : va_P (dC, dI) vwCl [(h0, .inr (15, fl 134 F_260)), (q_1, .inr (14, [.null, .null, .null, .null, .null, .int 0])), (q_3, .inl (cy_4, 6000, .inl (fun _ => 0))), (q_11, .inl (cy_12, 6002, .inl (fun _ => 0))), (q_15, .inl (cy_16, 6002, .inl (fun _ => 0))), (q_19, .inl (cy_20, 6002, .inl (fun _ => 0))), (q_23, .inl (cy_24, 6000, .inl (fun _ => 0))), (q_27, .inl (cy_28, 6000, .inl (fun _ => 0))), (q_31, .inl (cy_32, 6600, .inl (fun _ => 0)))] H_j_261 := hP_j_261
  have hD : va_D A [(h0, .inr (15, fl 134 F_260)), (q_1, .inr (14, [.null, .null, .null, .null, .null, .int 0])), (q_3, .inl (cy_4, 6000, .inl (fun _ => 0))), (q_11, .inl (cy_12, 6002, .inl (fun _ => 0))), (q_15, .inl (cy_16, 6002, .inl (fun _ => 0))), (q_19, .inl (cy_20, 6002, .inl (fun _ => 0))), (q_23, .inl (cy_24, 6000, .inl (fun _ => 0))), (q_27, .inl (cy_28, 6000, .inl (fun _ => 0))), (q_31, .inl (cy_32, 6600, .inl (fun _ => 0)))] := hD_j_261
  have hS := hS_j_261
  clear hP_j_261 hD_j_261 hS_j_261
  refine W.widen (k := 66) (n := 619676) (Nat.le_of_ble_eq_true rfl) (Nat.le_of_ble_eq_true rfl) ?_
  refine lv_aload_n hx hb dX13_init_587 rfl (lv_at hl 0 rfl) ?_
  refine lv_bipush (v := 65) hx hb dX13_init_588 (by decide) ?_
  refine mstep (X := [(q_1, .inr (14, [.null, .null, .null, .null, .null, .int 0])), (q_3, .inl (cy_4, 6000, .inl (fun _ => 0))), (q_11, .inl (cy_12, 6002, .inl (fun _ => 0))), (q_15, .inl (cy_16, 6002, .inl (fun _ => 0))), (q_19, .inl (cy_20, 6002, .inl (fun _ => 0))), (q_23, .inl (cy_24, 6000, .inl (fun _ => 0))), (q_27, .inl (cy_28, 6000, .inl (fun _ => 0))), (q_31, .inl (cy_32, 6600, .inl (fun _ => 0)))]) (F := F_260) (atype := .int) (ty := .int) (a0 := (65, .inl (fun _ => 0))) (N' := 65) hx hb hts in_cc_Model_init_RX13 hown hin hK hP hD hS hA (hts (.arrayClass .int) (List.mem_of_getElem? (i := 33) rfl)) rfl (fun _ => rfl) (by decide) (by decide) (Nat.le_of_ble_eq_true rfl) (Nat.le_of_ble_eq_true rfl) (Nat.le_of_ble_eq_true rfl) dX13_init_590 117 (by decide) (hts (.fieldLink RX13 215 "LevelUnitsModel" "overLine" "[I") (List.mem_of_getElem? (i := 99) rfl)) (fun _ h9 => h9) rfl rfl (by decide +kernel) dX13_init_592 (fun q_262 F_264 H_j_265 locs_j_265 eF_264 hP_j_265 hD_j_265 hS_j_265 => ?_)
  have k0_j_265 : F_264 0 = .int 0 := fu_ne eF_264 (by decide) k0_j_261
  have k3_j_265 : F_264 3 = .int 0 := fu_ne eF_264 (by decide) k3_j_261
  have k98_j_265 : F_264 98 = .int 0 := fu_ne eF_264 (by decide) k98_j_261
  have k100_j_265 : F_264 100 = .int 0 := fu_ne eF_264 (by decide) k100_j_261
  have k1_j_265 : F_264 1 = .ref q_1 := fu_ne eF_264 (by decide) k1_j_261
  have k2_j_265 : F_264 2 = .ref q_3 := fu_ne eF_264 (by decide) k2_j_261
  have k9_j_265 : F_264 9 = .ref q_11 := fu_ne eF_264 (by decide) k9_j_261
  have k10_j_265 : F_264 10 = .ref q_15 := fu_ne eF_264 (by decide) k10_j_261
  have k11_j_265 : F_264 11 = .ref q_19 := fu_ne eF_264 (by decide) k11_j_261
  have k13_j_265 : F_264 13 = .ref q_23 := fu_ne eF_264 (by decide) k13_j_261
  have k14_j_265 : F_264 14 = .ref q_27 := fu_ne eF_264 (by decide) k14_j_261
  have k15_j_265 : F_264 15 = .ref q_31 := fu_ne eF_264 (by decide) k15_j_261
  clear eF_264 k0_j_261 k3_j_261 k98_j_261 k100_j_261 k1_j_261 k2_j_261 k9_j_261 k10_j_261 k11_j_261 k13_j_261 k14_j_261 k15_j_261 hP hD hS
  have hP : va_P (dC, dI) vwCl [(h0, .inr (15, fl 134 F_264)), (q_1, .inr (14, [.null, .null, .null, .null, .null, .int 0])), (q_3, .inl (cy_4, 6000, .inl (fun _ => 0))), (q_11, .inl (cy_12, 6002, .inl (fun _ => 0))), (q_15, .inl (cy_16, 6002, .inl (fun _ => 0))), (q_19, .inl (cy_20, 6002, .inl (fun _ => 0))), (q_23, .inl (cy_24, 6000, .inl (fun _ => 0))), (q_27, .inl (cy_28, 6000, .inl (fun _ => 0))), (q_31, .inl (cy_32, 6600, .inl (fun _ => 0)))] H_j_265 := hP_j_265
  have hD : va_D A [(h0, .inr (15, fl 134 F_264)), (q_1, .inr (14, [.null, .null, .null, .null, .null, .int 0])), (q_3, .inl (cy_4, 6000, .inl (fun _ => 0))), (q_11, .inl (cy_12, 6002, .inl (fun _ => 0))), (q_15, .inl (cy_16, 6002, .inl (fun _ => 0))), (q_19, .inl (cy_20, 6002, .inl (fun _ => 0))), (q_23, .inl (cy_24, 6000, .inl (fun _ => 0))), (q_27, .inl (cy_28, 6000, .inl (fun _ => 0))), (q_31, .inl (cy_32, 6600, .inl (fun _ => 0)))] := hD_j_265
  have hS := hS_j_265
  clear hP_j_265 hD_j_265 hS_j_265
  refine W.widen (k := 67) (n := 619741) (Nat.le_of_ble_eq_true rfl) (Nat.le_of_ble_eq_true rfl) ?_
  refine lv_aload_n hx hb dX13_init_595 rfl (lv_at hl 0 rfl) ?_
  refine lv_bipush (v := 65) hx hb dX13_init_596 (by decide) ?_
  refine mstep (X := [(q_1, .inr (14, [.null, .null, .null, .null, .null, .int 0])), (q_3, .inl (cy_4, 6000, .inl (fun _ => 0))), (q_11, .inl (cy_12, 6002, .inl (fun _ => 0))), (q_15, .inl (cy_16, 6002, .inl (fun _ => 0))), (q_19, .inl (cy_20, 6002, .inl (fun _ => 0))), (q_23, .inl (cy_24, 6000, .inl (fun _ => 0))), (q_27, .inl (cy_28, 6000, .inl (fun _ => 0))), (q_31, .inl (cy_32, 6600, .inl (fun _ => 0)))]) (F := F_264) (atype := .int) (ty := .int) (a0 := (65, .inl (fun _ => 0))) (N' := 65) hx hb hts in_cc_Model_init_RX13 hown hin hK hP hD hS hA (hts (.arrayClass .int) (List.mem_of_getElem? (i := 33) rfl)) rfl (fun _ => rfl) (by decide) (by decide) (Nat.le_of_ble_eq_true rfl) (Nat.le_of_ble_eq_true rfl) (Nat.le_of_ble_eq_true rfl) dX13_init_598 118 (by decide) (hts (.fieldLink RX13 218 "LevelUnitsModel" "overWhat" "[I") (List.mem_of_getElem? (i := 100) rfl)) (fun _ h9 => h9) rfl rfl (by decide +kernel) dX13_init_600 (fun q_266 F_268 H_j_269 locs_j_269 eF_268 hP_j_269 hD_j_269 hS_j_269 => ?_)
  have k0_j_269 : F_268 0 = .int 0 := fu_ne eF_268 (by decide) k0_j_265
  have k3_j_269 : F_268 3 = .int 0 := fu_ne eF_268 (by decide) k3_j_265
  have k98_j_269 : F_268 98 = .int 0 := fu_ne eF_268 (by decide) k98_j_265
  have k100_j_269 : F_268 100 = .int 0 := fu_ne eF_268 (by decide) k100_j_265
  have k1_j_269 : F_268 1 = .ref q_1 := fu_ne eF_268 (by decide) k1_j_265
  have k2_j_269 : F_268 2 = .ref q_3 := fu_ne eF_268 (by decide) k2_j_265
  have k9_j_269 : F_268 9 = .ref q_11 := fu_ne eF_268 (by decide) k9_j_265
  have k10_j_269 : F_268 10 = .ref q_15 := fu_ne eF_268 (by decide) k10_j_265
  have k11_j_269 : F_268 11 = .ref q_19 := fu_ne eF_268 (by decide) k11_j_265
  have k13_j_269 : F_268 13 = .ref q_23 := fu_ne eF_268 (by decide) k13_j_265
  have k14_j_269 : F_268 14 = .ref q_27 := fu_ne eF_268 (by decide) k14_j_265
  have k15_j_269 : F_268 15 = .ref q_31 := fu_ne eF_268 (by decide) k15_j_265
  clear eF_268 k0_j_265 k3_j_265 k98_j_265 k100_j_265 k1_j_265 k2_j_265 k9_j_265 k10_j_265 k11_j_265 k13_j_265 k14_j_265 k15_j_265 hP hD hS
  have hP : va_P (dC, dI) vwCl [(h0, .inr (15, fl 134 F_268)), (q_1, .inr (14, [.null, .null, .null, .null, .null, .int 0])), (q_3, .inl (cy_4, 6000, .inl (fun _ => 0))), (q_11, .inl (cy_12, 6002, .inl (fun _ => 0))), (q_15, .inl (cy_16, 6002, .inl (fun _ => 0))), (q_19, .inl (cy_20, 6002, .inl (fun _ => 0))), (q_23, .inl (cy_24, 6000, .inl (fun _ => 0))), (q_27, .inl (cy_28, 6000, .inl (fun _ => 0))), (q_31, .inl (cy_32, 6600, .inl (fun _ => 0)))] H_j_269 := hP_j_269
  have hD : va_D A [(h0, .inr (15, fl 134 F_268)), (q_1, .inr (14, [.null, .null, .null, .null, .null, .int 0])), (q_3, .inl (cy_4, 6000, .inl (fun _ => 0))), (q_11, .inl (cy_12, 6002, .inl (fun _ => 0))), (q_15, .inl (cy_16, 6002, .inl (fun _ => 0))), (q_19, .inl (cy_20, 6002, .inl (fun _ => 0))), (q_23, .inl (cy_24, 6000, .inl (fun _ => 0))), (q_27, .inl (cy_28, 6000, .inl (fun _ => 0))), (q_31, .inl (cy_32, 6600, .inl (fun _ => 0)))] := hD_j_269
  have hS := hS_j_269
  clear hP_j_269 hD_j_269 hS_j_269
  refine W.widen (k := 68) (n := 619806) (Nat.le_of_ble_eq_true rfl) (Nat.le_of_ble_eq_true rfl) ?_
  refine lv_aload_n hx hb dX13_init_603 rfl (lv_at hl 0 rfl) ?_
  refine lv_bipush (v := 65) hx hb dX13_init_604 (by decide) ?_
  refine mstep (X := [(q_1, .inr (14, [.null, .null, .null, .null, .null, .int 0])), (q_3, .inl (cy_4, 6000, .inl (fun _ => 0))), (q_11, .inl (cy_12, 6002, .inl (fun _ => 0))), (q_15, .inl (cy_16, 6002, .inl (fun _ => 0))), (q_19, .inl (cy_20, 6002, .inl (fun _ => 0))), (q_23, .inl (cy_24, 6000, .inl (fun _ => 0))), (q_27, .inl (cy_28, 6000, .inl (fun _ => 0))), (q_31, .inl (cy_32, 6600, .inl (fun _ => 0)))]) (F := F_268) (atype := .int) (ty := .int) (a0 := (65, .inl (fun _ => 0))) (N' := 65) hx hb hts in_cc_Model_init_RX13 hown hin hK hP hD hS hA (hts (.arrayClass .int) (List.mem_of_getElem? (i := 33) rfl)) rfl (fun _ => rfl) (by decide) (by decide) (Nat.le_of_ble_eq_true rfl) (Nat.le_of_ble_eq_true rfl) (Nat.le_of_ble_eq_true rfl) dX13_init_606 119 (by decide) (hts (.fieldLink RX13 221 "LevelUnitsModel" "overNumber" "[I") (List.mem_of_getElem? (i := 101) rfl)) (fun _ h9 => h9) rfl rfl (by decide +kernel) dX13_init_608 (fun q_270 F_272 H_j_273 locs_j_273 eF_272 hP_j_273 hD_j_273 hS_j_273 => ?_)
  have k0_j_273 : F_272 0 = .int 0 := fu_ne eF_272 (by decide) k0_j_269
  have k3_j_273 : F_272 3 = .int 0 := fu_ne eF_272 (by decide) k3_j_269
  have k98_j_273 : F_272 98 = .int 0 := fu_ne eF_272 (by decide) k98_j_269
  have k100_j_273 : F_272 100 = .int 0 := fu_ne eF_272 (by decide) k100_j_269
  have k1_j_273 : F_272 1 = .ref q_1 := fu_ne eF_272 (by decide) k1_j_269
  have k2_j_273 : F_272 2 = .ref q_3 := fu_ne eF_272 (by decide) k2_j_269
  have k9_j_273 : F_272 9 = .ref q_11 := fu_ne eF_272 (by decide) k9_j_269
  have k10_j_273 : F_272 10 = .ref q_15 := fu_ne eF_272 (by decide) k10_j_269
  have k11_j_273 : F_272 11 = .ref q_19 := fu_ne eF_272 (by decide) k11_j_269
  have k13_j_273 : F_272 13 = .ref q_23 := fu_ne eF_272 (by decide) k13_j_269
  have k14_j_273 : F_272 14 = .ref q_27 := fu_ne eF_272 (by decide) k14_j_269
  have k15_j_273 : F_272 15 = .ref q_31 := fu_ne eF_272 (by decide) k15_j_269
  clear eF_272 k0_j_269 k3_j_269 k98_j_269 k100_j_269 k1_j_269 k2_j_269 k9_j_269 k10_j_269 k11_j_269 k13_j_269 k14_j_269 k15_j_269 hP hD hS
  have hP : va_P (dC, dI) vwCl [(h0, .inr (15, fl 134 F_272)), (q_1, .inr (14, [.null, .null, .null, .null, .null, .int 0])), (q_3, .inl (cy_4, 6000, .inl (fun _ => 0))), (q_11, .inl (cy_12, 6002, .inl (fun _ => 0))), (q_15, .inl (cy_16, 6002, .inl (fun _ => 0))), (q_19, .inl (cy_20, 6002, .inl (fun _ => 0))), (q_23, .inl (cy_24, 6000, .inl (fun _ => 0))), (q_27, .inl (cy_28, 6000, .inl (fun _ => 0))), (q_31, .inl (cy_32, 6600, .inl (fun _ => 0)))] H_j_273 := hP_j_273
  have hD : va_D A [(h0, .inr (15, fl 134 F_272)), (q_1, .inr (14, [.null, .null, .null, .null, .null, .int 0])), (q_3, .inl (cy_4, 6000, .inl (fun _ => 0))), (q_11, .inl (cy_12, 6002, .inl (fun _ => 0))), (q_15, .inl (cy_16, 6002, .inl (fun _ => 0))), (q_19, .inl (cy_20, 6002, .inl (fun _ => 0))), (q_23, .inl (cy_24, 6000, .inl (fun _ => 0))), (q_27, .inl (cy_28, 6000, .inl (fun _ => 0))), (q_31, .inl (cy_32, 6600, .inl (fun _ => 0)))] := hD_j_273
  have hS := hS_j_273
  clear hP_j_273 hD_j_273 hS_j_273
  refine W.widen (k := 69) (n := 619871) (Nat.le_of_ble_eq_true rfl) (Nat.le_of_ble_eq_true rfl) ?_
  refine lv_aload_n hx hb dX13_init_611 rfl (lv_at hl 0 rfl) ?_
  refine lv_bipush (v := 65) hx hb dX13_init_612 (by decide) ?_
  refine mstep (X := [(q_1, .inr (14, [.null, .null, .null, .null, .null, .int 0])), (q_3, .inl (cy_4, 6000, .inl (fun _ => 0))), (q_11, .inl (cy_12, 6002, .inl (fun _ => 0))), (q_15, .inl (cy_16, 6002, .inl (fun _ => 0))), (q_19, .inl (cy_20, 6002, .inl (fun _ => 0))), (q_23, .inl (cy_24, 6000, .inl (fun _ => 0))), (q_27, .inl (cy_28, 6000, .inl (fun _ => 0))), (q_31, .inl (cy_32, 6600, .inl (fun _ => 0)))]) (F := F_272) (atype := .int) (ty := .int) (a0 := (65, .inl (fun _ => 0))) (N' := 65) hx hb hts in_cc_Model_init_RX13 hown hin hK hP hD hS hA (hts (.arrayClass .int) (List.mem_of_getElem? (i := 33) rfl)) rfl (fun _ => rfl) (by decide) (by decide) (Nat.le_of_ble_eq_true rfl) (Nat.le_of_ble_eq_true rfl) (Nat.le_of_ble_eq_true rfl) dX13_init_614 120 (by decide) (hts (.fieldLink RX13 224 "LevelUnitsModel" "openCalls" "[I") (List.mem_of_getElem? (i := 102) rfl)) (fun _ h9 => h9) rfl rfl (by decide +kernel) dX13_init_616 (fun q_274 F_276 H_j_277 locs_j_277 eF_276 hP_j_277 hD_j_277 hS_j_277 => ?_)
  have k0_j_277 : F_276 0 = .int 0 := fu_ne eF_276 (by decide) k0_j_273
  have k3_j_277 : F_276 3 = .int 0 := fu_ne eF_276 (by decide) k3_j_273
  have k98_j_277 : F_276 98 = .int 0 := fu_ne eF_276 (by decide) k98_j_273
  have k100_j_277 : F_276 100 = .int 0 := fu_ne eF_276 (by decide) k100_j_273
  have k1_j_277 : F_276 1 = .ref q_1 := fu_ne eF_276 (by decide) k1_j_273
  have k2_j_277 : F_276 2 = .ref q_3 := fu_ne eF_276 (by decide) k2_j_273
  have k9_j_277 : F_276 9 = .ref q_11 := fu_ne eF_276 (by decide) k9_j_273
  have k10_j_277 : F_276 10 = .ref q_15 := fu_ne eF_276 (by decide) k10_j_273
  have k11_j_277 : F_276 11 = .ref q_19 := fu_ne eF_276 (by decide) k11_j_273
  have k13_j_277 : F_276 13 = .ref q_23 := fu_ne eF_276 (by decide) k13_j_273
  have k14_j_277 : F_276 14 = .ref q_27 := fu_ne eF_276 (by decide) k14_j_273
  have k15_j_277 : F_276 15 = .ref q_31 := fu_ne eF_276 (by decide) k15_j_273
  clear eF_276 k0_j_273 k3_j_273 k98_j_273 k100_j_273 k1_j_273 k2_j_273 k9_j_273 k10_j_273 k11_j_273 k13_j_273 k14_j_273 k15_j_273 hP hD hS
  have hP : va_P (dC, dI) vwCl [(h0, .inr (15, fl 134 F_276)), (q_1, .inr (14, [.null, .null, .null, .null, .null, .int 0])), (q_3, .inl (cy_4, 6000, .inl (fun _ => 0))), (q_11, .inl (cy_12, 6002, .inl (fun _ => 0))), (q_15, .inl (cy_16, 6002, .inl (fun _ => 0))), (q_19, .inl (cy_20, 6002, .inl (fun _ => 0))), (q_23, .inl (cy_24, 6000, .inl (fun _ => 0))), (q_27, .inl (cy_28, 6000, .inl (fun _ => 0))), (q_31, .inl (cy_32, 6600, .inl (fun _ => 0)))] H_j_277 := hP_j_277
  have hD : va_D A [(h0, .inr (15, fl 134 F_276)), (q_1, .inr (14, [.null, .null, .null, .null, .null, .int 0])), (q_3, .inl (cy_4, 6000, .inl (fun _ => 0))), (q_11, .inl (cy_12, 6002, .inl (fun _ => 0))), (q_15, .inl (cy_16, 6002, .inl (fun _ => 0))), (q_19, .inl (cy_20, 6002, .inl (fun _ => 0))), (q_23, .inl (cy_24, 6000, .inl (fun _ => 0))), (q_27, .inl (cy_28, 6000, .inl (fun _ => 0))), (q_31, .inl (cy_32, 6600, .inl (fun _ => 0)))] := hD_j_277
  have hS := hS_j_277
  clear hP_j_277 hD_j_277 hS_j_277
  refine W.widen (k := 70) (n := 619936) (Nat.le_of_ble_eq_true rfl) (Nat.le_of_ble_eq_true rfl) ?_
  refine lv_aload_n hx hb dX13_init_619 rfl (lv_at hl 0 rfl) ?_
  refine lv_bipush (v := 65) hx hb dX13_init_620 (by decide) ?_
  refine mstep (X := [(q_1, .inr (14, [.null, .null, .null, .null, .null, .int 0])), (q_3, .inl (cy_4, 6000, .inl (fun _ => 0))), (q_11, .inl (cy_12, 6002, .inl (fun _ => 0))), (q_15, .inl (cy_16, 6002, .inl (fun _ => 0))), (q_19, .inl (cy_20, 6002, .inl (fun _ => 0))), (q_23, .inl (cy_24, 6000, .inl (fun _ => 0))), (q_27, .inl (cy_28, 6000, .inl (fun _ => 0))), (q_31, .inl (cy_32, 6600, .inl (fun _ => 0)))]) (F := F_276) (atype := .int) (ty := .int) (a0 := (65, .inl (fun _ => 0))) (N' := 65) hx hb hts in_cc_Model_init_RX13 hown hin hK hP hD hS hA (hts (.arrayClass .int) (List.mem_of_getElem? (i := 33) rfl)) rfl (fun _ => rfl) (by decide) (by decide) (Nat.le_of_ble_eq_true rfl) (Nat.le_of_ble_eq_true rfl) (Nat.le_of_ble_eq_true rfl) dX13_init_622 121 (by decide) (hts (.fieldLink RX13 227 "LevelUnitsModel" "openCells" "[I") (List.mem_of_getElem? (i := 103) rfl)) (fun _ h9 => h9) rfl rfl (by decide +kernel) dX13_init_624 (fun q_278 F_280 H_j_281 locs_j_281 eF_280 hP_j_281 hD_j_281 hS_j_281 => ?_)
  have k0_j_281 : F_280 0 = .int 0 := fu_ne eF_280 (by decide) k0_j_277
  have k3_j_281 : F_280 3 = .int 0 := fu_ne eF_280 (by decide) k3_j_277
  have k98_j_281 : F_280 98 = .int 0 := fu_ne eF_280 (by decide) k98_j_277
  have k100_j_281 : F_280 100 = .int 0 := fu_ne eF_280 (by decide) k100_j_277
  have k1_j_281 : F_280 1 = .ref q_1 := fu_ne eF_280 (by decide) k1_j_277
  have k2_j_281 : F_280 2 = .ref q_3 := fu_ne eF_280 (by decide) k2_j_277
  have k9_j_281 : F_280 9 = .ref q_11 := fu_ne eF_280 (by decide) k9_j_277
  have k10_j_281 : F_280 10 = .ref q_15 := fu_ne eF_280 (by decide) k10_j_277
  have k11_j_281 : F_280 11 = .ref q_19 := fu_ne eF_280 (by decide) k11_j_277
  have k13_j_281 : F_280 13 = .ref q_23 := fu_ne eF_280 (by decide) k13_j_277
  have k14_j_281 : F_280 14 = .ref q_27 := fu_ne eF_280 (by decide) k14_j_277
  have k15_j_281 : F_280 15 = .ref q_31 := fu_ne eF_280 (by decide) k15_j_277
  clear eF_280 k0_j_277 k3_j_277 k98_j_277 k100_j_277 k1_j_277 k2_j_277 k9_j_277 k10_j_277 k11_j_277 k13_j_277 k14_j_277 k15_j_277 hP hD hS
  have hP : va_P (dC, dI) vwCl [(h0, .inr (15, fl 134 F_280)), (q_1, .inr (14, [.null, .null, .null, .null, .null, .int 0])), (q_3, .inl (cy_4, 6000, .inl (fun _ => 0))), (q_11, .inl (cy_12, 6002, .inl (fun _ => 0))), (q_15, .inl (cy_16, 6002, .inl (fun _ => 0))), (q_19, .inl (cy_20, 6002, .inl (fun _ => 0))), (q_23, .inl (cy_24, 6000, .inl (fun _ => 0))), (q_27, .inl (cy_28, 6000, .inl (fun _ => 0))), (q_31, .inl (cy_32, 6600, .inl (fun _ => 0)))] H_j_281 := hP_j_281
  have hD : va_D A [(h0, .inr (15, fl 134 F_280)), (q_1, .inr (14, [.null, .null, .null, .null, .null, .int 0])), (q_3, .inl (cy_4, 6000, .inl (fun _ => 0))), (q_11, .inl (cy_12, 6002, .inl (fun _ => 0))), (q_15, .inl (cy_16, 6002, .inl (fun _ => 0))), (q_19, .inl (cy_20, 6002, .inl (fun _ => 0))), (q_23, .inl (cy_24, 6000, .inl (fun _ => 0))), (q_27, .inl (cy_28, 6000, .inl (fun _ => 0))), (q_31, .inl (cy_32, 6600, .inl (fun _ => 0)))] := hD_j_281
  have hS := hS_j_281
  clear hP_j_281 hD_j_281 hS_j_281
  refine W.widen (k := 71) (n := 620001) (Nat.le_of_ble_eq_true rfl) (Nat.le_of_ble_eq_true rfl) ?_
  refine lv_aload_n hx hb dX13_init_627 rfl (lv_at hl 0 rfl) ?_
  refine lv_bipush (v := 65) hx hb dX13_init_628 (by decide) ?_
  refine mstep (X := [(q_1, .inr (14, [.null, .null, .null, .null, .null, .int 0])), (q_3, .inl (cy_4, 6000, .inl (fun _ => 0))), (q_11, .inl (cy_12, 6002, .inl (fun _ => 0))), (q_15, .inl (cy_16, 6002, .inl (fun _ => 0))), (q_19, .inl (cy_20, 6002, .inl (fun _ => 0))), (q_23, .inl (cy_24, 6000, .inl (fun _ => 0))), (q_27, .inl (cy_28, 6000, .inl (fun _ => 0))), (q_31, .inl (cy_32, 6600, .inl (fun _ => 0)))]) (F := F_280) (atype := .int) (ty := .int) (a0 := (65, .inl (fun _ => 0))) (N' := 65) hx hb hts in_cc_Model_init_RX13 hown hin hK hP hD hS hA (hts (.arrayClass .int) (List.mem_of_getElem? (i := 33) rfl)) rfl (fun _ => rfl) (by decide) (by decide) (Nat.le_of_ble_eq_true rfl) (Nat.le_of_ble_eq_true rfl) (Nat.le_of_ble_eq_true rfl) dX13_init_630 122 (by decide) (hts (.fieldLink RX13 230 "LevelUnitsModel" "base" "[I") (List.mem_of_getElem? (i := 104) rfl)) (fun _ h9 => h9) rfl rfl (by decide +kernel) dX13_init_632 (fun q_282 F_284 H_j_285 locs_j_285 eF_284 hP_j_285 hD_j_285 hS_j_285 => ?_)
  have k0_j_285 : F_284 0 = .int 0 := fu_ne eF_284 (by decide) k0_j_281
  have k3_j_285 : F_284 3 = .int 0 := fu_ne eF_284 (by decide) k3_j_281
  have k98_j_285 : F_284 98 = .int 0 := fu_ne eF_284 (by decide) k98_j_281
  have k100_j_285 : F_284 100 = .int 0 := fu_ne eF_284 (by decide) k100_j_281
  have k1_j_285 : F_284 1 = .ref q_1 := fu_ne eF_284 (by decide) k1_j_281
  have k2_j_285 : F_284 2 = .ref q_3 := fu_ne eF_284 (by decide) k2_j_281
  have k9_j_285 : F_284 9 = .ref q_11 := fu_ne eF_284 (by decide) k9_j_281
  have k10_j_285 : F_284 10 = .ref q_15 := fu_ne eF_284 (by decide) k10_j_281
  have k11_j_285 : F_284 11 = .ref q_19 := fu_ne eF_284 (by decide) k11_j_281
  have k13_j_285 : F_284 13 = .ref q_23 := fu_ne eF_284 (by decide) k13_j_281
  have k14_j_285 : F_284 14 = .ref q_27 := fu_ne eF_284 (by decide) k14_j_281
  have k15_j_285 : F_284 15 = .ref q_31 := fu_ne eF_284 (by decide) k15_j_281
  clear eF_284 k0_j_281 k3_j_281 k98_j_281 k100_j_281 k1_j_281 k2_j_281 k9_j_281 k10_j_281 k11_j_281 k13_j_281 k14_j_281 k15_j_281 hP hD hS
  have hP : va_P (dC, dI) vwCl [(h0, .inr (15, fl 134 F_284)), (q_1, .inr (14, [.null, .null, .null, .null, .null, .int 0])), (q_3, .inl (cy_4, 6000, .inl (fun _ => 0))), (q_11, .inl (cy_12, 6002, .inl (fun _ => 0))), (q_15, .inl (cy_16, 6002, .inl (fun _ => 0))), (q_19, .inl (cy_20, 6002, .inl (fun _ => 0))), (q_23, .inl (cy_24, 6000, .inl (fun _ => 0))), (q_27, .inl (cy_28, 6000, .inl (fun _ => 0))), (q_31, .inl (cy_32, 6600, .inl (fun _ => 0)))] H_j_285 := hP_j_285
  have hD : va_D A [(h0, .inr (15, fl 134 F_284)), (q_1, .inr (14, [.null, .null, .null, .null, .null, .int 0])), (q_3, .inl (cy_4, 6000, .inl (fun _ => 0))), (q_11, .inl (cy_12, 6002, .inl (fun _ => 0))), (q_15, .inl (cy_16, 6002, .inl (fun _ => 0))), (q_19, .inl (cy_20, 6002, .inl (fun _ => 0))), (q_23, .inl (cy_24, 6000, .inl (fun _ => 0))), (q_27, .inl (cy_28, 6000, .inl (fun _ => 0))), (q_31, .inl (cy_32, 6600, .inl (fun _ => 0)))] := hD_j_285
  have hS := hS_j_285
  clear hP_j_285 hD_j_285 hS_j_285
  refine W.widen (k := 72) (n := 620066) (Nat.le_of_ble_eq_true rfl) (Nat.le_of_ble_eq_true rfl) ?_
  refine lv_aload_n hx hb dX13_init_635 rfl (lv_at hl 0 rfl) ?_
  refine lv_bipush (v := 65) hx hb dX13_init_636 (by decide) ?_
  refine mstep (X := [(q_1, .inr (14, [.null, .null, .null, .null, .null, .int 0])), (q_3, .inl (cy_4, 6000, .inl (fun _ => 0))), (q_11, .inl (cy_12, 6002, .inl (fun _ => 0))), (q_15, .inl (cy_16, 6002, .inl (fun _ => 0))), (q_19, .inl (cy_20, 6002, .inl (fun _ => 0))), (q_23, .inl (cy_24, 6000, .inl (fun _ => 0))), (q_27, .inl (cy_28, 6000, .inl (fun _ => 0))), (q_31, .inl (cy_32, 6600, .inl (fun _ => 0)))]) (F := F_284) (atype := .int) (ty := .int) (a0 := (65, .inl (fun _ => 0))) (N' := 65) hx hb hts in_cc_Model_init_RX13 hown hin hK hP hD hS hA (hts (.arrayClass .int) (List.mem_of_getElem? (i := 33) rfl)) rfl (fun _ => rfl) (by decide) (by decide) (Nat.le_of_ble_eq_true rfl) (Nat.le_of_ble_eq_true rfl) (Nat.le_of_ble_eq_true rfl) dX13_init_638 123 (by decide) (hts (.fieldLink RX13 233 "LevelUnitsModel" "stackTop" "[I") (List.mem_of_getElem? (i := 105) rfl)) (fun _ h9 => h9) rfl rfl (by decide +kernel) dX13_init_640 (fun q_286 F_288 H_j_289 locs_j_289 eF_288 hP_j_289 hD_j_289 hS_j_289 => ?_)
  have k0_j_289 : F_288 0 = .int 0 := fu_ne eF_288 (by decide) k0_j_285
  have k3_j_289 : F_288 3 = .int 0 := fu_ne eF_288 (by decide) k3_j_285
  have k98_j_289 : F_288 98 = .int 0 := fu_ne eF_288 (by decide) k98_j_285
  have k100_j_289 : F_288 100 = .int 0 := fu_ne eF_288 (by decide) k100_j_285
  have k1_j_289 : F_288 1 = .ref q_1 := fu_ne eF_288 (by decide) k1_j_285
  have k2_j_289 : F_288 2 = .ref q_3 := fu_ne eF_288 (by decide) k2_j_285
  have k9_j_289 : F_288 9 = .ref q_11 := fu_ne eF_288 (by decide) k9_j_285
  have k10_j_289 : F_288 10 = .ref q_15 := fu_ne eF_288 (by decide) k10_j_285
  have k11_j_289 : F_288 11 = .ref q_19 := fu_ne eF_288 (by decide) k11_j_285
  have k13_j_289 : F_288 13 = .ref q_23 := fu_ne eF_288 (by decide) k13_j_285
  have k14_j_289 : F_288 14 = .ref q_27 := fu_ne eF_288 (by decide) k14_j_285
  have k15_j_289 : F_288 15 = .ref q_31 := fu_ne eF_288 (by decide) k15_j_285
  clear eF_288 k0_j_285 k3_j_285 k98_j_285 k100_j_285 k1_j_285 k2_j_285 k9_j_285 k10_j_285 k11_j_285 k13_j_285 k14_j_285 k15_j_285 hP hD hS
  have hP : va_P (dC, dI) vwCl [(h0, .inr (15, fl 134 F_288)), (q_1, .inr (14, [.null, .null, .null, .null, .null, .int 0])), (q_3, .inl (cy_4, 6000, .inl (fun _ => 0))), (q_11, .inl (cy_12, 6002, .inl (fun _ => 0))), (q_15, .inl (cy_16, 6002, .inl (fun _ => 0))), (q_19, .inl (cy_20, 6002, .inl (fun _ => 0))), (q_23, .inl (cy_24, 6000, .inl (fun _ => 0))), (q_27, .inl (cy_28, 6000, .inl (fun _ => 0))), (q_31, .inl (cy_32, 6600, .inl (fun _ => 0)))] H_j_289 := hP_j_289
  have hD : va_D A [(h0, .inr (15, fl 134 F_288)), (q_1, .inr (14, [.null, .null, .null, .null, .null, .int 0])), (q_3, .inl (cy_4, 6000, .inl (fun _ => 0))), (q_11, .inl (cy_12, 6002, .inl (fun _ => 0))), (q_15, .inl (cy_16, 6002, .inl (fun _ => 0))), (q_19, .inl (cy_20, 6002, .inl (fun _ => 0))), (q_23, .inl (cy_24, 6000, .inl (fun _ => 0))), (q_27, .inl (cy_28, 6000, .inl (fun _ => 0))), (q_31, .inl (cy_32, 6600, .inl (fun _ => 0)))] := hD_j_289
  have hS := hS_j_289
  clear hP_j_289 hD_j_289 hS_j_289
  refine W.widen (k := 73) (n := 620131) (Nat.le_of_ble_eq_true rfl) (Nat.le_of_ble_eq_true rfl) ?_
  refine lv_aload_n hx hb dX13_init_643 rfl (lv_at hl 0 rfl) ?_
  refine lv_bipush (v := 65) hx hb dX13_init_644 (by decide) ?_
  refine mstep (X := [(q_1, .inr (14, [.null, .null, .null, .null, .null, .int 0])), (q_3, .inl (cy_4, 6000, .inl (fun _ => 0))), (q_11, .inl (cy_12, 6002, .inl (fun _ => 0))), (q_15, .inl (cy_16, 6002, .inl (fun _ => 0))), (q_19, .inl (cy_20, 6002, .inl (fun _ => 0))), (q_23, .inl (cy_24, 6000, .inl (fun _ => 0))), (q_27, .inl (cy_28, 6000, .inl (fun _ => 0))), (q_31, .inl (cy_32, 6600, .inl (fun _ => 0)))]) (F := F_288) (atype := .int) (ty := .int) (a0 := (65, .inl (fun _ => 0))) (N' := 65) hx hb hts in_cc_Model_init_RX13 hown hin hK hP hD hS hA (hts (.arrayClass .int) (List.mem_of_getElem? (i := 33) rfl)) rfl (fun _ => rfl) (by decide) (by decide) (Nat.le_of_ble_eq_true rfl) (Nat.le_of_ble_eq_true rfl) (Nat.le_of_ble_eq_true rfl) dX13_init_646 124 (by decide) (hts (.fieldLink RX13 236 "LevelUnitsModel" "entries" "[I") (List.mem_of_getElem? (i := 106) rfl)) (fun _ h9 => h9) rfl rfl (by decide +kernel) dX13_init_648 (fun q_290 F_292 H_j_293 locs_j_293 eF_292 hP_j_293 hD_j_293 hS_j_293 => ?_)
  have k0_j_293 : F_292 0 = .int 0 := fu_ne eF_292 (by decide) k0_j_289
  have k3_j_293 : F_292 3 = .int 0 := fu_ne eF_292 (by decide) k3_j_289
  have k98_j_293 : F_292 98 = .int 0 := fu_ne eF_292 (by decide) k98_j_289
  have k100_j_293 : F_292 100 = .int 0 := fu_ne eF_292 (by decide) k100_j_289
  have k1_j_293 : F_292 1 = .ref q_1 := fu_ne eF_292 (by decide) k1_j_289
  have k2_j_293 : F_292 2 = .ref q_3 := fu_ne eF_292 (by decide) k2_j_289
  have k9_j_293 : F_292 9 = .ref q_11 := fu_ne eF_292 (by decide) k9_j_289
  have k10_j_293 : F_292 10 = .ref q_15 := fu_ne eF_292 (by decide) k10_j_289
  have k11_j_293 : F_292 11 = .ref q_19 := fu_ne eF_292 (by decide) k11_j_289
  have k13_j_293 : F_292 13 = .ref q_23 := fu_ne eF_292 (by decide) k13_j_289
  have k14_j_293 : F_292 14 = .ref q_27 := fu_ne eF_292 (by decide) k14_j_289
  have k15_j_293 : F_292 15 = .ref q_31 := fu_ne eF_292 (by decide) k15_j_289
  clear eF_292 k0_j_289 k3_j_289 k98_j_289 k100_j_289 k1_j_289 k2_j_289 k9_j_289 k10_j_289 k11_j_289 k13_j_289 k14_j_289 k15_j_289 hP hD hS
  have hP : va_P (dC, dI) vwCl [(h0, .inr (15, fl 134 F_292)), (q_1, .inr (14, [.null, .null, .null, .null, .null, .int 0])), (q_3, .inl (cy_4, 6000, .inl (fun _ => 0))), (q_11, .inl (cy_12, 6002, .inl (fun _ => 0))), (q_15, .inl (cy_16, 6002, .inl (fun _ => 0))), (q_19, .inl (cy_20, 6002, .inl (fun _ => 0))), (q_23, .inl (cy_24, 6000, .inl (fun _ => 0))), (q_27, .inl (cy_28, 6000, .inl (fun _ => 0))), (q_31, .inl (cy_32, 6600, .inl (fun _ => 0)))] H_j_293 := hP_j_293
  have hD : va_D A [(h0, .inr (15, fl 134 F_292)), (q_1, .inr (14, [.null, .null, .null, .null, .null, .int 0])), (q_3, .inl (cy_4, 6000, .inl (fun _ => 0))), (q_11, .inl (cy_12, 6002, .inl (fun _ => 0))), (q_15, .inl (cy_16, 6002, .inl (fun _ => 0))), (q_19, .inl (cy_20, 6002, .inl (fun _ => 0))), (q_23, .inl (cy_24, 6000, .inl (fun _ => 0))), (q_27, .inl (cy_28, 6000, .inl (fun _ => 0))), (q_31, .inl (cy_32, 6600, .inl (fun _ => 0)))] := hD_j_293
  have hS := hS_j_293
  clear hP_j_293 hD_j_293 hS_j_293
  refine W.widen (k := 74) (n := 620196) (Nat.le_of_ble_eq_true rfl) (Nat.le_of_ble_eq_true rfl) ?_
  refine lv_aload_n hx hb dX13_init_651 rfl (lv_at hl 0 rfl) ?_
  refine lv_sipush (v := 18000) hx hb dX13_init_652 (by decide) ?_
  refine va_newa (atype := .int) (ty := .int) (a0 := (18000, .inl (fun _ => 0))) (N' := 18000) hx hb (hts (.arrayClass .int) (List.mem_of_getElem? (i := 33) rfl)) rfl hK hP hD hS hA (fun _ => rfl) (by decide) (by decide) (Nat.le_of_ble_eq_true rfl) (Nat.le_of_ble_eq_true rfl) (Nat.le_of_ble_eq_true rfl) dX13_init_655 (fun q_294 cy_295 H hK hP hD hS => ?_)
  have hK : va_K (dC, dI) vwCl [(cy_4, .byte), (cy_12, .int), (cy_16, .int), (cy_20, .int), (cy_24, .int), (cy_28, .int), (cy_32, .byte), (cy_295, .int)] s := hK
  have hP : va_P (dC, dI) vwCl [(h0, .inr (15, fl 134 F_292)), (q_1, .inr (14, [.null, .null, .null, .null, .null, .int 0])), (q_3, .inl (cy_4, 6000, .inl (fun _ => 0))), (q_11, .inl (cy_12, 6002, .inl (fun _ => 0))), (q_15, .inl (cy_16, 6002, .inl (fun _ => 0))), (q_19, .inl (cy_20, 6002, .inl (fun _ => 0))), (q_23, .inl (cy_24, 6000, .inl (fun _ => 0))), (q_27, .inl (cy_28, 6000, .inl (fun _ => 0))), (q_31, .inl (cy_32, 6600, .inl (fun _ => 0))), (q_294, .inl (cy_295, 18000, .inl (fun _ => 0)))] H := hP
  have hD : va_D A [(h0, .inr (15, fl 134 F_292)), (q_1, .inr (14, [.null, .null, .null, .null, .null, .int 0])), (q_3, .inl (cy_4, 6000, .inl (fun _ => 0))), (q_11, .inl (cy_12, 6002, .inl (fun _ => 0))), (q_15, .inl (cy_16, 6002, .inl (fun _ => 0))), (q_19, .inl (cy_20, 6002, .inl (fun _ => 0))), (q_23, .inl (cy_24, 6000, .inl (fun _ => 0))), (q_27, .inl (cy_28, 6000, .inl (fun _ => 0))), (q_31, .inl (cy_32, 6600, .inl (fun _ => 0))), (q_294, .inl (cy_295, 18000, .inl (fun _ => 0)))] := hD
  refine W.widen (k := 75) (n := 638196) (Nat.le_of_ble_eq_true rfl) (Nat.le_of_ble_eq_true rfl) ?_
  refine va_put (D := (dC, dI)) (ci := 15) (v := .ref q_294) (ty := .array .int) (C := RX13) (T := TX13) (N := 134) hx hb hts in_cc_Model_init_RX13 tyX13 tyX13_ok nmX13 hown hK hP hD hS 0 rfl rfl 125 (by decide) (hts (.fieldLink RX13 239 "LevelUnitsModel" "todo" "[I") (List.mem_of_getElem? (i := 107) rfl)) (fun _ h9 => h9) rfl (by decide +kernel) rfl rfl (fl_lt (by decide)) dX13_init_657 (fun H locs hP hD hS => ?_)
  obtain ⟨F_296, eF_296⟩ : ∃ z, z = fu F_292 125 (.ref q_294) := ⟨_, rfl⟩
  have hP : va_P (dC, dI) vwCl [(h0, .inr (15, fl 134 F_296)), (q_1, .inr (14, [.null, .null, .null, .null, .null, .int 0])), (q_3, .inl (cy_4, 6000, .inl (fun _ => 0))), (q_11, .inl (cy_12, 6002, .inl (fun _ => 0))), (q_15, .inl (cy_16, 6002, .inl (fun _ => 0))), (q_19, .inl (cy_20, 6002, .inl (fun _ => 0))), (q_23, .inl (cy_24, 6000, .inl (fun _ => 0))), (q_27, .inl (cy_28, 6000, .inl (fun _ => 0))), (q_31, .inl (cy_32, 6600, .inl (fun _ => 0))), (q_294, .inl (cy_295, 18000, .inl (fun _ => 0)))] H := by rw [eF_296, ← fl_set (n := 134) (k := 125) (by decide)]; exact hP
  have hD : va_D A [(h0, .inr (15, fl 134 F_296)), (q_1, .inr (14, [.null, .null, .null, .null, .null, .int 0])), (q_3, .inl (cy_4, 6000, .inl (fun _ => 0))), (q_11, .inl (cy_12, 6002, .inl (fun _ => 0))), (q_15, .inl (cy_16, 6002, .inl (fun _ => 0))), (q_19, .inl (cy_20, 6002, .inl (fun _ => 0))), (q_23, .inl (cy_24, 6000, .inl (fun _ => 0))), (q_27, .inl (cy_28, 6000, .inl (fun _ => 0))), (q_31, .inl (cy_32, 6600, .inl (fun _ => 0))), (q_294, .inl (cy_295, 18000, .inl (fun _ => 0)))] := by rw [eF_296, ← fl_set (n := 134) (k := 125) (by decide)]; exact hD
  have hP := hP.sub (ws' := [(h0, .inr (15, fl 134 F_296)), (q_1, .inr (14, [.null, .null, .null, .null, .null, .int 0])), (q_3, .inl (cy_4, 6000, .inl (fun _ => 0))), (q_11, .inl (cy_12, 6002, .inl (fun _ => 0))), (q_15, .inl (cy_16, 6002, .inl (fun _ => 0))), (q_19, .inl (cy_20, 6002, .inl (fun _ => 0))), (q_23, .inl (cy_24, 6000, .inl (fun _ => 0))), (q_27, .inl (cy_28, 6000, .inl (fun _ => 0))), (q_31, .inl (cy_32, 6600, .inl (fun _ => 0)))]) [0, 1, 2, 3, 4, 5, 6, 7, 8] rfl
  have hD := hD.sub (ws' := [(h0, .inr (15, fl 134 F_296)), (q_1, .inr (14, [.null, .null, .null, .null, .null, .int 0])), (q_3, .inl (cy_4, 6000, .inl (fun _ => 0))), (q_11, .inl (cy_12, 6002, .inl (fun _ => 0))), (q_15, .inl (cy_16, 6002, .inl (fun _ => 0))), (q_19, .inl (cy_20, 6002, .inl (fun _ => 0))), (q_23, .inl (cy_24, 6000, .inl (fun _ => 0))), (q_27, .inl (cy_28, 6000, .inl (fun _ => 0))), (q_31, .inl (cy_32, 6600, .inl (fun _ => 0)))]) [0, 1, 2, 3, 4, 5, 6, 7, 8] (by decide) rfl
  have hK := hK.sub (tys' := [(cy_4, .byte), (cy_12, .int), (cy_16, .int), (cy_20, .int), (cy_24, .int), (cy_28, .int), (cy_32, .byte)]) [0, 1, 2, 3, 4, 5, 6] rfl
  refine lv_aload_n hx hb dX13_init_660 rfl (lv_at hl 0 rfl) ?_
  refine lv_sipush (v := 500) hx hb dX13_init_661 (by decide) ?_
  refine mstep (X := [(q_1, .inr (14, [.null, .null, .null, .null, .null, .int 0])), (q_3, .inl (cy_4, 6000, .inl (fun _ => 0))), (q_11, .inl (cy_12, 6002, .inl (fun _ => 0))), (q_15, .inl (cy_16, 6002, .inl (fun _ => 0))), (q_19, .inl (cy_20, 6002, .inl (fun _ => 0))), (q_23, .inl (cy_24, 6000, .inl (fun _ => 0))), (q_27, .inl (cy_28, 6000, .inl (fun _ => 0))), (q_31, .inl (cy_32, 6600, .inl (fun _ => 0)))]) (F := F_296) (atype := .int) (ty := .int) (a0 := (500, .inl (fun _ => 0))) (N' := 500) hx hb hts in_cc_Model_init_RX13 hown hin hK hP hD hS hA (hts (.arrayClass .int) (List.mem_of_getElem? (i := 33) rfl)) rfl (fun _ => rfl) (by decide) (by decide) (Nat.le_of_ble_eq_true rfl) (Nat.le_of_ble_eq_true rfl) (Nat.le_of_ble_eq_true rfl) dX13_init_664 126 (by decide) (hts (.fieldLink RX13 242 "LevelUnitsModel" "out" "[I") (List.mem_of_getElem? (i := 108) rfl)) (fun _ h9 => h9) rfl rfl (by decide +kernel) dX13_init_666 (fun q_297 F_299 H_j_300 locs_j_300 eF_299 hP_j_300 hD_j_300 hS_j_300 => ?_)
  have k0_j_300 : F_299 0 = .int 0 := fu_ne eF_299 (by decide) (fu_ne eF_296 (by decide) k0_j_293)
  have k3_j_300 : F_299 3 = .int 0 := fu_ne eF_299 (by decide) (fu_ne eF_296 (by decide) k3_j_293)
  have k98_j_300 : F_299 98 = .int 0 := fu_ne eF_299 (by decide) (fu_ne eF_296 (by decide) k98_j_293)
  have k100_j_300 : F_299 100 = .int 0 := fu_ne eF_299 (by decide) (fu_ne eF_296 (by decide) k100_j_293)
  have k1_j_300 : F_299 1 = .ref q_1 := fu_ne eF_299 (by decide) (fu_ne eF_296 (by decide) k1_j_293)
  have k2_j_300 : F_299 2 = .ref q_3 := fu_ne eF_299 (by decide) (fu_ne eF_296 (by decide) k2_j_293)
  have k9_j_300 : F_299 9 = .ref q_11 := fu_ne eF_299 (by decide) (fu_ne eF_296 (by decide) k9_j_293)
  have k10_j_300 : F_299 10 = .ref q_15 := fu_ne eF_299 (by decide) (fu_ne eF_296 (by decide) k10_j_293)
  have k11_j_300 : F_299 11 = .ref q_19 := fu_ne eF_299 (by decide) (fu_ne eF_296 (by decide) k11_j_293)
  have k13_j_300 : F_299 13 = .ref q_23 := fu_ne eF_299 (by decide) (fu_ne eF_296 (by decide) k13_j_293)
  have k14_j_300 : F_299 14 = .ref q_27 := fu_ne eF_299 (by decide) (fu_ne eF_296 (by decide) k14_j_293)
  have k15_j_300 : F_299 15 = .ref q_31 := fu_ne eF_299 (by decide) (fu_ne eF_296 (by decide) k15_j_293)
  clear eF_299  hP hD hS
  have hP : va_P (dC, dI) vwCl [(h0, .inr (15, fl 134 F_299)), (q_1, .inr (14, [.null, .null, .null, .null, .null, .int 0])), (q_3, .inl (cy_4, 6000, .inl (fun _ => 0))), (q_11, .inl (cy_12, 6002, .inl (fun _ => 0))), (q_15, .inl (cy_16, 6002, .inl (fun _ => 0))), (q_19, .inl (cy_20, 6002, .inl (fun _ => 0))), (q_23, .inl (cy_24, 6000, .inl (fun _ => 0))), (q_27, .inl (cy_28, 6000, .inl (fun _ => 0))), (q_31, .inl (cy_32, 6600, .inl (fun _ => 0)))] H_j_300 := hP_j_300
  have hD : va_D A [(h0, .inr (15, fl 134 F_299)), (q_1, .inr (14, [.null, .null, .null, .null, .null, .int 0])), (q_3, .inl (cy_4, 6000, .inl (fun _ => 0))), (q_11, .inl (cy_12, 6002, .inl (fun _ => 0))), (q_15, .inl (cy_16, 6002, .inl (fun _ => 0))), (q_19, .inl (cy_20, 6002, .inl (fun _ => 0))), (q_23, .inl (cy_24, 6000, .inl (fun _ => 0))), (q_27, .inl (cy_28, 6000, .inl (fun _ => 0))), (q_31, .inl (cy_32, 6600, .inl (fun _ => 0)))] := hD_j_300
  have hS := hS_j_300
  clear hP_j_300 hD_j_300 hS_j_300
  refine W.widen (k := 76) (n := 638696) (Nat.le_of_ble_eq_true rfl) (Nat.le_of_ble_eq_true rfl) ?_
  refine lv_aload_n hx hb dX13_init_669 rfl (lv_at hl 0 rfl) ?_
  refine va_new (ci := 14) (fs := [.null, .null, .null, .null, .null, .int 0]) (C := RX12) (T := TX12) (N := 6) hx hb hts in_cc_Model_init_RX12 tyX12 tyX12_ok hown (hts (.classLink RX13 7 RX12) (List.mem_of_getElem? (i := 4) rfl)) (hts (.instantiable RX12 6) (List.mem_of_getElem? (i := 5) rfl)) (hts (.initialized RX12) (List.mem_of_getElem? (i := 6) rfl)) hK hP hD hS hA rfl (fun j hj => by rcases (show j = 0 ∨ j = 1 ∨ j = 2 ∨ j = 3 ∨ j = 4 ∨ j = 5 by omega) with rfl | rfl | rfl | rfl | rfl | rfl <;> rfl) (Nat.le_of_ble_eq_true rfl) (Nat.le_of_ble_eq_true rfl) dX13_init_670 (fun q_301 H hP hD hS => ?_)
  have hP : va_P (dC, dI) vwCl [(h0, .inr (15, fl 134 F_299)), (q_1, .inr (14, [.null, .null, .null, .null, .null, .int 0])), (q_3, .inl (cy_4, 6000, .inl (fun _ => 0))), (q_11, .inl (cy_12, 6002, .inl (fun _ => 0))), (q_15, .inl (cy_16, 6002, .inl (fun _ => 0))), (q_19, .inl (cy_20, 6002, .inl (fun _ => 0))), (q_23, .inl (cy_24, 6000, .inl (fun _ => 0))), (q_27, .inl (cy_28, 6000, .inl (fun _ => 0))), (q_31, .inl (cy_32, 6600, .inl (fun _ => 0))), (q_301, .inr (14, [.null, .null, .null, .null, .null, .int 0]))] H := hP
  have hD : va_D A [(h0, .inr (15, fl 134 F_299)), (q_1, .inr (14, [.null, .null, .null, .null, .null, .int 0])), (q_3, .inl (cy_4, 6000, .inl (fun _ => 0))), (q_11, .inl (cy_12, 6002, .inl (fun _ => 0))), (q_15, .inl (cy_16, 6002, .inl (fun _ => 0))), (q_19, .inl (cy_20, 6002, .inl (fun _ => 0))), (q_23, .inl (cy_24, 6000, .inl (fun _ => 0))), (q_27, .inl (cy_28, 6000, .inl (fun _ => 0))), (q_31, .inl (cy_32, 6600, .inl (fun _ => 0))), (q_301, .inr (14, [.null, .null, .null, .null, .null, .int 0]))] := hD
  refine W.widen (k := 77) (n := 638702) (Nat.le_of_ble_eq_true rfl) (Nat.le_of_ble_eq_true rfl) ?_
  refine lv_dup hx hb dX13_init_673 rfl ?_
  have hPc := hP.sub (ws' := [(q_301, .inr (14, [.null, .null, .null, .null, .null, .int 0]))]) [9] rfl
  have hDc := hD.sub (ws' := [(q_301, .inr (14, [.null, .null, .null, .null, .null, .int 0]))]) [9] (by decide) rfl
  have hKc := hK.sub (tys' := []) [] rfl
  have hFc := va_free (wc := [(q_301, .inr (14, [.null, .null, .null, .null, .null, .int 0]))]) hD hS hA [9] rfl
  refine va_callv (va_runI (As := []) (rest := [.ref q_301, .ref h0]) ⟨hx, hb, hml, hown, hts⟩ (cc_Stop_init l dC dI q_301 H.size) (cwI 0 hts gg_cc_Model_init_cc_Stop_init_9 rfl rfl rfl (hts (.initialized RX12) (List.mem_of_getElem? (i := 6) rfl)) (hts (.methodLink RX13 9 yX12_init) (List.mem_of_getElem? (i := 27) rfl)) (hts (.instanceMethod yX12_init) (List.mem_of_getElem? (i := 28) rfl)) rfl (by decide +kernel) ⟨(Nat.le_of_ble_eq_true rfl), (Nat.le_of_ble_eq_true rfl)⟩) ⟨fun a U g mk q => by obtain ⟨q0, q1, qP, qK, qD, qN0, qN1⟩ := q; exact ⟨q0, q1, qP, va_K.moved (u := U) (U := U.calling g mk a) (Vm.Alike.refl U.vm) qK, qD, vx_Zq.moved (u := U) (U := U.calling g mk a) (Vm.Alike.refl U.vm) qN0, vx_Zq.moved (u := U) (U := U.calling g mk a) (Vm.Alike.refl U.vm) qN1⟩, fun U hU hW => ⟨rfl, by rw [hU], by rw [hU]; exact hPc, va_K.moved hW.alike hKc, hDc.weaken (fun _ _ _ _ => trivial), (by rw [hU]; exact vx_Zq.moved hW.alike ((hN0.kept (fun a h1 h2 => hS.2.1 a h1 h2)).narrow hFc)), (by rw [hU]; exact vx_Zq.moved hW.alike ((hN1.kept (fun a h1 h2 => hS.2.1 a h1 h2)).narrow hFc))⟩⟩ rfl rfl hl.1 rfl (lv_room (Nat.le_of_ble_eq_true rfl)) dX13_init_674 ⟨(Nat.le_of_ble_eq_true rfl), (Nat.le_of_ble_eq_true rfl)⟩) hS (fun q _ h => hFc q h) hFc (fun u t H1 locs ht hvm hw hB hz1 hk1 hS => ?_)
  obtain ⟨hP1, hK1, hD1⟩ := hB
  rw [ht] at hP1
  have hK1 := va_K.moved hvm.symm hK1
  obtain ⟨hP, hD⟩ := va_join (wr := [(h0, .inr (15, fl 134 F_299)), (q_1, .inr (14, [.null, .null, .null, .null, .null, .int 0])), (q_3, .inl (cy_4, 6000, .inl (fun _ => 0))), (q_11, .inl (cy_12, 6002, .inl (fun _ => 0))), (q_15, .inl (cy_16, 6002, .inl (fun _ => 0))), (q_19, .inl (cy_20, 6002, .inl (fun _ => 0))), (q_23, .inl (cy_24, 6000, .inl (fun _ => 0))), (q_27, .inl (cy_28, 6000, .inl (fun _ => 0))), (q_31, .inl (cy_32, 6600, .inl (fun _ => 0)))]) (w1 := [(q_301, .inr (14, [.null, .null, .null, .null, .null, .int 0]))]) hP hD [9] [0, 1, 2, 3, 4, 5, 6, 7, 8] rfl rfl (by decide) (by decide) hk1 hFc hP1 hD1
  have hK := (hK.sub (tys' := [(cy_4, .byte), (cy_12, .int), (cy_16, .int), (cy_20, .int), (cy_24, .int), (cy_28, .int), (cy_32, .byte)]) [0, 1, 2, 3, 4, 5, 6] rfl).app hK1
  generalize H1 = H at hP hS ⊢
  have hK : va_K (dC, dI) vwCl [(cy_4, .byte), (cy_12, .int), (cy_16, .int), (cy_20, .int), (cy_24, .int), (cy_28, .int), (cy_32, .byte)] s := hK
  have hP : va_P (dC, dI) vwCl [(h0, .inr (15, fl 134 F_299)), (q_1, .inr (14, [.null, .null, .null, .null, .null, .int 0])), (q_3, .inl (cy_4, 6000, .inl (fun _ => 0))), (q_11, .inl (cy_12, 6002, .inl (fun _ => 0))), (q_15, .inl (cy_16, 6002, .inl (fun _ => 0))), (q_19, .inl (cy_20, 6002, .inl (fun _ => 0))), (q_23, .inl (cy_24, 6000, .inl (fun _ => 0))), (q_27, .inl (cy_28, 6000, .inl (fun _ => 0))), (q_31, .inl (cy_32, 6600, .inl (fun _ => 0))), (q_301, .inr (14, [.null, .null, .null, .null, .null, .int 0]))] H := hP
  have hD : va_D A [(h0, .inr (15, fl 134 F_299)), (q_1, .inr (14, [.null, .null, .null, .null, .null, .int 0])), (q_3, .inl (cy_4, 6000, .inl (fun _ => 0))), (q_11, .inl (cy_12, 6002, .inl (fun _ => 0))), (q_15, .inl (cy_16, 6002, .inl (fun _ => 0))), (q_19, .inl (cy_20, 6002, .inl (fun _ => 0))), (q_23, .inl (cy_24, 6000, .inl (fun _ => 0))), (q_27, .inl (cy_28, 6000, .inl (fun _ => 0))), (q_31, .inl (cy_32, 6600, .inl (fun _ => 0))), (q_301, .inr (14, [.null, .null, .null, .null, .null, .int 0]))] := hD
  refine W.widen (k := 77) (n := 638702) (Nat.le_of_ble_eq_true rfl) (Nat.le_of_ble_eq_true rfl) ?_
  refine va_putF (D := (dC, dI)) (ci := 15) (v := .ref q_301) (ty := .object "LevelUnitsModel$Stop") (C := RX13) (T := TX13) (N := 134) hx hb hts in_cc_Model_init_RX13 tyX13 tyX13_ok nmX13 hown hK hP hD hS 0 rfl rfl 131 (by decide) (hts (.fieldLink RX13 245 "LevelUnitsModel" "failure" "LLevelUnitsModel$Stop;") (List.mem_of_getElem? (i := 109) rfl)) (fun _ h9 => h9) rfl hin rfl (by decide +kernel) rfl rfl (fl_lt (by decide)) dX13_init_677 (fun H locs hP hD hS => ?_)
  obtain ⟨F_302, eF_302⟩ : ∃ z, z = fu F_299 131 (.ref q_301) := ⟨_, rfl⟩
  have hP : va_P (dC, dI) vwCl [(h0, .inr (15, fl 134 F_302)), (q_1, .inr (14, [.null, .null, .null, .null, .null, .int 0])), (q_3, .inl (cy_4, 6000, .inl (fun _ => 0))), (q_11, .inl (cy_12, 6002, .inl (fun _ => 0))), (q_15, .inl (cy_16, 6002, .inl (fun _ => 0))), (q_19, .inl (cy_20, 6002, .inl (fun _ => 0))), (q_23, .inl (cy_24, 6000, .inl (fun _ => 0))), (q_27, .inl (cy_28, 6000, .inl (fun _ => 0))), (q_31, .inl (cy_32, 6600, .inl (fun _ => 0))), (q_301, .inr (14, [.null, .null, .null, .null, .null, .int 0]))] H := by rw [eF_302, ← fl_set (n := 134) (k := 131) (by decide)]; exact hP
  have hD : va_D A [(h0, .inr (15, fl 134 F_302)), (q_1, .inr (14, [.null, .null, .null, .null, .null, .int 0])), (q_3, .inl (cy_4, 6000, .inl (fun _ => 0))), (q_11, .inl (cy_12, 6002, .inl (fun _ => 0))), (q_15, .inl (cy_16, 6002, .inl (fun _ => 0))), (q_19, .inl (cy_20, 6002, .inl (fun _ => 0))), (q_23, .inl (cy_24, 6000, .inl (fun _ => 0))), (q_27, .inl (cy_28, 6000, .inl (fun _ => 0))), (q_31, .inl (cy_32, 6600, .inl (fun _ => 0))), (q_301, .inr (14, [.null, .null, .null, .null, .null, .int 0]))] := by rw [eF_302, ← fl_set (n := 134) (k := 131) (by decide)]; exact hD
  have hP := hP.sub (ws' := [(h0, .inr (15, fl 134 F_302)), (q_1, .inr (14, [.null, .null, .null, .null, .null, .int 0])), (q_3, .inl (cy_4, 6000, .inl (fun _ => 0))), (q_11, .inl (cy_12, 6002, .inl (fun _ => 0))), (q_15, .inl (cy_16, 6002, .inl (fun _ => 0))), (q_19, .inl (cy_20, 6002, .inl (fun _ => 0))), (q_23, .inl (cy_24, 6000, .inl (fun _ => 0))), (q_27, .inl (cy_28, 6000, .inl (fun _ => 0))), (q_31, .inl (cy_32, 6600, .inl (fun _ => 0)))]) [0, 1, 2, 3, 4, 5, 6, 7, 8] rfl
  have hD := hD.sub (ws' := [(h0, .inr (15, fl 134 F_302)), (q_1, .inr (14, [.null, .null, .null, .null, .null, .int 0])), (q_3, .inl (cy_4, 6000, .inl (fun _ => 0))), (q_11, .inl (cy_12, 6002, .inl (fun _ => 0))), (q_15, .inl (cy_16, 6002, .inl (fun _ => 0))), (q_19, .inl (cy_20, 6002, .inl (fun _ => 0))), (q_23, .inl (cy_24, 6000, .inl (fun _ => 0))), (q_27, .inl (cy_28, 6000, .inl (fun _ => 0))), (q_31, .inl (cy_32, 6600, .inl (fun _ => 0)))]) [0, 1, 2, 3, 4, 5, 6, 7, 8] (by decide) rfl
  have hK := hK.sub (tys' := [(cy_4, .byte), (cy_12, .int), (cy_16, .int), (cy_20, .int), (cy_24, .int), (cy_28, .int), (cy_32, .byte)]) [0, 1, 2, 3, 4, 5, 6] rfl
  refine lv_aload_n hx hb dX13_init_680 rfl (lv_at hl 0 rfl) ?_
  refine lv_bipush (v := 10) hx hb dX13_init_681 (by decide) ?_
  refine mstep (X := [(q_1, .inr (14, [.null, .null, .null, .null, .null, .int 0])), (q_3, .inl (cy_4, 6000, .inl (fun _ => 0))), (q_11, .inl (cy_12, 6002, .inl (fun _ => 0))), (q_15, .inl (cy_16, 6002, .inl (fun _ => 0))), (q_19, .inl (cy_20, 6002, .inl (fun _ => 0))), (q_23, .inl (cy_24, 6000, .inl (fun _ => 0))), (q_27, .inl (cy_28, 6000, .inl (fun _ => 0))), (q_31, .inl (cy_32, 6600, .inl (fun _ => 0)))]) (F := F_302) (atype := .int) (ty := .int) (a0 := (10, .inl (fun _ => 0))) (N' := 10) hx hb hts in_cc_Model_init_RX13 hown hin hK hP hD hS hA (hts (.arrayClass .int) (List.mem_of_getElem? (i := 33) rfl)) rfl (fun _ => rfl) (by decide) (by decide) (Nat.le_of_ble_eq_true rfl) (Nat.le_of_ble_eq_true rfl) (Nat.le_of_ble_eq_true rfl) dX13_init_683 132 (by decide) (hts (.fieldLink RX13 248 "LevelUnitsModel" "argument" "[I") (List.mem_of_getElem? (i := 110) rfl)) (fun _ h9 => h9) rfl rfl (by decide +kernel) dX13_init_685 (fun q_303 F_305 H_j_306 locs_j_306 eF_305 hP_j_306 hD_j_306 hS_j_306 => ?_)
  have k0_j_306 : F_305 0 = .int 0 := fu_ne eF_305 (by decide) (fu_ne eF_302 (by decide) k0_j_300)
  have k3_j_306 : F_305 3 = .int 0 := fu_ne eF_305 (by decide) (fu_ne eF_302 (by decide) k3_j_300)
  have k98_j_306 : F_305 98 = .int 0 := fu_ne eF_305 (by decide) (fu_ne eF_302 (by decide) k98_j_300)
  have k100_j_306 : F_305 100 = .int 0 := fu_ne eF_305 (by decide) (fu_ne eF_302 (by decide) k100_j_300)
  have k1_j_306 : F_305 1 = .ref q_1 := fu_ne eF_305 (by decide) (fu_ne eF_302 (by decide) k1_j_300)
  have k2_j_306 : F_305 2 = .ref q_3 := fu_ne eF_305 (by decide) (fu_ne eF_302 (by decide) k2_j_300)
  have k9_j_306 : F_305 9 = .ref q_11 := fu_ne eF_305 (by decide) (fu_ne eF_302 (by decide) k9_j_300)
  have k10_j_306 : F_305 10 = .ref q_15 := fu_ne eF_305 (by decide) (fu_ne eF_302 (by decide) k10_j_300)
  have k11_j_306 : F_305 11 = .ref q_19 := fu_ne eF_305 (by decide) (fu_ne eF_302 (by decide) k11_j_300)
  have k13_j_306 : F_305 13 = .ref q_23 := fu_ne eF_305 (by decide) (fu_ne eF_302 (by decide) k13_j_300)
  have k14_j_306 : F_305 14 = .ref q_27 := fu_ne eF_305 (by decide) (fu_ne eF_302 (by decide) k14_j_300)
  have k15_j_306 : F_305 15 = .ref q_31 := fu_ne eF_305 (by decide) (fu_ne eF_302 (by decide) k15_j_300)
  clear eF_305  hP hD hS
  have hP : va_P (dC, dI) vwCl [(h0, .inr (15, fl 134 F_305)), (q_1, .inr (14, [.null, .null, .null, .null, .null, .int 0])), (q_3, .inl (cy_4, 6000, .inl (fun _ => 0))), (q_11, .inl (cy_12, 6002, .inl (fun _ => 0))), (q_15, .inl (cy_16, 6002, .inl (fun _ => 0))), (q_19, .inl (cy_20, 6002, .inl (fun _ => 0))), (q_23, .inl (cy_24, 6000, .inl (fun _ => 0))), (q_27, .inl (cy_28, 6000, .inl (fun _ => 0))), (q_31, .inl (cy_32, 6600, .inl (fun _ => 0)))] H_j_306 := hP_j_306
  have hD : va_D A [(h0, .inr (15, fl 134 F_305)), (q_1, .inr (14, [.null, .null, .null, .null, .null, .int 0])), (q_3, .inl (cy_4, 6000, .inl (fun _ => 0))), (q_11, .inl (cy_12, 6002, .inl (fun _ => 0))), (q_15, .inl (cy_16, 6002, .inl (fun _ => 0))), (q_19, .inl (cy_20, 6002, .inl (fun _ => 0))), (q_23, .inl (cy_24, 6000, .inl (fun _ => 0))), (q_27, .inl (cy_28, 6000, .inl (fun _ => 0))), (q_31, .inl (cy_32, 6600, .inl (fun _ => 0)))] := hD_j_306
  have hS := hS_j_306
  clear hP_j_306 hD_j_306 hS_j_306
  refine W.widen (k := 78) (n := 638712) (Nat.le_of_ble_eq_true rfl) (Nat.le_of_ble_eq_true rfl) ?_
  have hP9 := hP.sub (ws' := [(h0, .inr (15, fl 134 F_305)), (q_1, .inr (14, [.null, .null, .null, .null, .null, .int 0])), (q_3, .inl (cy_4, 6000, .inl (fun _ => 0))), (q_11, .inl (cy_12, 6002, .inl (fun _ => 0))), (q_15, .inl (cy_16, 6002, .inl (fun _ => 0))), (q_19, .inl (cy_20, 6002, .inl (fun _ => 0))), (q_23, .inl (cy_24, 6000, .inl (fun _ => 0))), (q_27, .inl (cy_28, 6000, .inl (fun _ => 0))), (q_31, .inl (cy_32, 6600, .inl (fun _ => 0)))]) [0, 1, 2, 3, 4, 5, 6, 7, 8] rfl
  have hD9 := hD.sub (ws' := [(h0, .inr (15, fl 134 F_305)), (q_1, .inr (14, [.null, .null, .null, .null, .null, .int 0])), (q_3, .inl (cy_4, 6000, .inl (fun _ => 0))), (q_11, .inl (cy_12, 6002, .inl (fun _ => 0))), (q_15, .inl (cy_16, 6002, .inl (fun _ => 0))), (q_19, .inl (cy_20, 6002, .inl (fun _ => 0))), (q_23, .inl (cy_24, 6000, .inl (fun _ => 0))), (q_27, .inl (cy_28, 6000, .inl (fun _ => 0))), (q_31, .inl (cy_32, 6600, .inl (fun _ => 0)))]) [0, 1, 2, 3, 4, 5, 6, 7, 8] (by decide) rfl
  have hK9 := hK.sub (tys' := [(cy_4, .byte), (cy_12, .int), (cy_16, .int), (cy_20, .int), (cy_24, .int), (cy_28, .int), (cy_32, .byte)]) [0, 1, 2, 3, 4, 5, 6] rfl
  refine W.widen (k := 78) (n := 638712) (Nat.le_of_ble_eq_true rfl) (Nat.le_of_ble_eq_true rfl) ?_
  exact W.vret hx hb hr (fun t ht hW => ⟨⟨(), rfl, trivial, F_305, q_3, q_31, q_23, q_27, q_11, q_15, q_19, q_1, cy_4, cy_12, cy_16, cy_20, cy_24, cy_28, cy_32, k0_j_306, k3_j_306, k98_j_306, k100_j_306, k2_j_306, k15_j_306, k13_j_306, k14_j_306, k9_j_306, k10_j_306, k11_j_306, k1_j_306, by rw [ht]; exact hP9, va_K.moved hW.alike hK9, hD9⟩, hS.F ht⟩) hS.2.2 dX13_init_688
