theorem up_eq {f g : Nat → Int32} {i x : Int32} {n : Nat} (e : g = upd f (Int32.toNatClampNeg i) x) (h : Int32.toNatClampNeg i = n) : g n = x := by rw [e, h]; simp [upd]
theorem up_ne {f g : Nat → Int32} {i x v : Int32} {n : Nat} (e : g = upd f (Int32.toNatClampNeg i) x) (h : n ≠ Int32.toNatClampNeg i) (hv : f n = v) : g n = v := by rw [e]; simp [upd, h, hv]
/-- a loop: from every state of it with P the machine comes to Q, by a measure that falls -/
theorem w_loop {p : Program} {l : Launch} {e : Env} {R : Room} {s : State} {m : MethodId} {args : Array Value} {below : List Frame} {meth : Method} {c : Code} {H : Heap} {locs : List Loc} {cells slots : Nat} {Q : State → Prop} {pc : Nat} {st : List Value} {ls : Array Slot} {V : Type} (P : V → Heap → List Loc → Array Slot → Prop) (μ : V → Nat)
    (step : ∀ v : V, (∀ v' : V, μ v' < μ v → ∀ (H : Heap) (locs : List Loc) (ls : Array Slot), P v' H locs ls → W p l e R s m args below meth c H locs cells slots Q (F0 m pc ls st)) → ∀ (H : Heap) (locs : List Loc) (ls : Array Slot), P v H locs ls → W p l e R s m args below meth c H locs cells slots Q (F0 m pc ls st))
    (v : V) (h : P v H locs ls) : W p l e R s m args below meth c H locs cells slots Q (F0 m pc ls st) := by
  have key : ∀ (n : Nat) (v : V), μ v < n → ∀ (H : Heap) (locs : List Loc) (ls : Array Slot), P v H locs ls → W p l e R s m args below meth c H locs cells slots Q (F0 m pc ls st) := by
    intro n
    induction n with
    | zero => intro v hv; exact absurd hv (Nat.not_lt_zero _)
    | succ n ih => intro v hv; exact step v (fun v' h' => ih v' (Nat.lt_of_lt_of_le h' (Nat.le_of_lt_succ hv)))
  exact key (μ v + 1) v (Nat.lt_succ_self _) H locs ls h
def RJ7 : String := "java/util/Arrays"
abbrev cX1_init : ByteArray := prog_3_method_1_code
def yX1_init : MethodName := ⟨RX1, "<init>", "(IIII)V"⟩
abbrev cX2_clear : ByteArray := prog_4_method_2_code
def yX2_clear : MethodName := ⟨RX2, "clear", "()V"⟩
abbrev cX4_init : ByteArray := prog_6_method_1_code
def yX4_init : MethodName := ⟨RX4, "<init>", "(IIILLevelUnits$Decl;)V"⟩
abbrev cX6_init : ByteArray := prog_8_method_1_code
def yX6_init : MethodName := ⟨RX6, "<init>", "(LLevelUnits$Scanner;)V"⟩
abbrev cX6_fail : ByteArray := prog_8_method_4_code
def yX6_fail : MethodName := ⟨RX6, "fail", "(I)V"⟩
abbrev cX6_accept : ByteArray := prog_8_method_5_code
def yX6_accept : MethodName := ⟨RX6, "accept", "(I)Z"⟩
abbrev cX6_take : ByteArray := prog_8_method_7_code
def yX6_take : MethodName := ⟨RX6, "take", "(I)V"⟩
abbrev cX6_takeName : ByteArray := prog_8_method_8_code
def yX6_takeName : MethodName := ⟨RX6, "takeName", "()I"⟩
abbrev cX6_takeEndName : ByteArray := prog_8_method_9_code
def yX6_takeEndName : MethodName := ⟨RX6, "takeEndName", "(LLevelUnits$Decl;)V"⟩
abbrev cX6_told : ByteArray := prog_8_method_12_code
def yX6_told : MethodName := ⟨RX6, "told", "(I)LLevelUnits$Decl;"⟩
abbrev cX6_parse : ByteArray := prog_8_method_15_code
def yX6_parse : MethodName := ⟨RX6, "parse", "()V"⟩
abbrev cX6_parseImports : ByteArray := prog_8_method_16_code
def yX6_parseImports : MethodName := ⟨RX6, "parseImports", "()V"⟩
abbrev cX6_beginsDeclaration : ByteArray := prog_8_method_19_code
def yX6_beginsDeclaration : MethodName := ⟨RX6, "beginsDeclaration", "()Z"⟩
abbrev cX7_scan : ByteArray := prog_9_method_2_code
def yX7_scan : MethodName := ⟨RX7, "scan", "([BI)V"⟩
abbrev cX7_scanToken : ByteArray := prog_9_method_3_code
def yX7_scanToken : MethodName := ⟨RX7, "scanToken", "()Z"⟩
abbrev cX7_putToken : ByteArray := prog_9_method_4_code
def yX7_putToken : MethodName := ⟨RX7, "putToken", "(III)Z"⟩
abbrev cX7_skipBlanks : ByteArray := prog_9_method_5_code
def yX7_skipBlanks : MethodName := ⟨RX7, "skipBlanks", "()I"⟩
abbrev cX11_read : ByteArray := prog_1_method_5_code
def yX11_read : MethodName := ⟨RX11, "read", "()I"⟩
abbrev cJ7_fill_53178 : ByteArray := prog_32_method_103_code
def yJ7_fill_53178 : MethodName := ⟨RJ7, "fill", "([II)V"⟩
theorem dX1_init_0 : decode cX1_init 0 = .ok (.aload_n 0, 1) := by decide +kernel
theorem dX1_init_1 : decode cX1_init 1 = .ok (.invokespecial 1, 3) := by decide +kernel
theorem dX1_init_4 : decode cX1_init 4 = .ok (.aload_n 0, 1) := by decide +kernel
theorem dX1_init_5 : decode cX1_init 5 = .ok (.iload_n 1, 1) := by decide +kernel
theorem dX1_init_6 : decode cX1_init 6 = .ok (.putfield 7, 3) := by decide +kernel
theorem dX1_init_9 : decode cX1_init 9 = .ok (.aload_n 0, 1) := by decide +kernel
theorem dX1_init_10 : decode cX1_init 10 = .ok (.iload_n 2, 1) := by decide +kernel
theorem dX1_init_11 : decode cX1_init 11 = .ok (.putfield 13, 3) := by decide +kernel
theorem dX1_init_14 : decode cX1_init 14 = .ok (.aload_n 0, 1) := by decide +kernel
theorem dX1_init_15 : decode cX1_init 15 = .ok (.iload_n 3, 1) := by decide +kernel
theorem dX1_init_16 : decode cX1_init 16 = .ok (.putfield 16, 3) := by decide +kernel
theorem dX1_init_19 : decode cX1_init 19 = .ok (.aload_n 0, 1) := by decide +kernel
theorem dX1_init_20 : decode cX1_init 20 = .ok (.iload 4, 2) := by decide +kernel
theorem dX1_init_22 : decode cX1_init 22 = .ok (.putfield 19, 3) := by decide +kernel
theorem dX1_init_25 : decode cX1_init 25 = .ok (.return_, 1) := by decide +kernel
theorem dX2_clear_0 : decode cX2_clear 0 = .ok (.aload_n 0, 1) := by decide +kernel
theorem dX2_clear_1 : decode cX2_clear 1 = .ok (.aconst_null, 1) := by decide +kernel
theorem dX2_clear_2 : decode cX2_clear 2 = .ok (.putfield 45, 3) := by decide +kernel
theorem dX2_clear_5 : decode cX2_clear 5 = .ok (.aload_n 0, 1) := by decide +kernel
theorem dX2_clear_6 : decode cX2_clear 6 = .ok (.iconst 0, 1) := by decide +kernel
theorem dX2_clear_7 : decode cX2_clear 7 = .ok (.putfield 49, 3) := by decide +kernel
theorem dX2_clear_10 : decode cX2_clear 10 = .ok (.return_, 1) := by decide +kernel
theorem dX4_init_0 : decode cX4_init 0 = .ok (.aload_n 0, 1) := by decide +kernel
theorem dX4_init_1 : decode cX4_init 1 = .ok (.invokespecial 3, 3) := by decide +kernel
theorem dX4_init_4 : decode cX4_init 4 = .ok (.aload_n 0, 1) := by decide +kernel
theorem dX4_init_5 : decode cX4_init 5 = .ok (.iconst (-1), 1) := by decide +kernel
theorem dX4_init_6 : decode cX4_init 6 = .ok (.putfield 9, 3) := by decide +kernel
theorem dX4_init_9 : decode cX4_init 9 = .ok (.aload_n 0, 1) := by decide +kernel
theorem dX4_init_10 : decode cX4_init 10 = .ok (.iload_n 1, 1) := by decide +kernel
theorem dX4_init_11 : decode cX4_init 11 = .ok (.putfield 15, 3) := by decide +kernel
theorem dX4_init_14 : decode cX4_init 14 = .ok (.aload_n 0, 1) := by decide +kernel
theorem dX4_init_15 : decode cX4_init 15 = .ok (.iload_n 2, 1) := by decide +kernel
theorem dX4_init_16 : decode cX4_init 16 = .ok (.putfield 18, 3) := by decide +kernel
theorem dX4_init_19 : decode cX4_init 19 = .ok (.aload_n 0, 1) := by decide +kernel
theorem dX4_init_20 : decode cX4_init 20 = .ok (.iload_n 3, 1) := by decide +kernel
theorem dX4_init_21 : decode cX4_init 21 = .ok (.putfield 21, 3) := by decide +kernel
theorem dX4_init_24 : decode cX4_init 24 = .ok (.aload_n 0, 1) := by decide +kernel
theorem dX4_init_25 : decode cX4_init 25 = .ok (.aload 4, 2) := by decide +kernel
theorem dX4_init_27 : decode cX4_init 27 = .ok (.putfield 24, 3) := by decide +kernel
theorem dX4_init_30 : decode cX4_init 30 = .ok (.return_, 1) := by decide +kernel
theorem dX6_init_0 : decode cX6_init 0 = .ok (.aload_n 0, 1) := by decide +kernel
theorem dX6_init_1 : decode cX6_init 1 = .ok (.invokespecial 3, 3) := by decide +kernel
theorem dX6_init_4 : decode cX6_init 4 = .ok (.aload_n 0, 1) := by decide +kernel
theorem dX6_init_5 : decode cX6_init 5 = .ok (.iconst 4, 1) := by decide +kernel
theorem dX6_init_6 : decode cX6_init 6 = .ok (.newarray .int, 2) := by decide +kernel
theorem dX6_init_8 : decode cX6_init 8 = .ok (.putfield 9, 3) := by decide +kernel
theorem dX6_init_11 : decode cX6_init 11 = .ok (.aload_n 0, 1) := by decide +kernel
theorem dX6_init_12 : decode cX6_init 12 = .ok (.sipush 200, 3) := by decide +kernel
theorem dX6_init_15 : decode cX6_init 15 = .ok (.newarray .int, 2) := by decide +kernel
theorem dX6_init_17 : decode cX6_init 17 = .ok (.putfield 15, 3) := by decide +kernel
theorem dX6_init_20 : decode cX6_init 20 = .ok (.aload_n 0, 1) := by decide +kernel
theorem dX6_init_21 : decode cX6_init 21 = .ok (.aload_n 1, 1) := by decide +kernel
theorem dX6_init_22 : decode cX6_init 22 = .ok (.putfield 18, 3) := by decide +kernel
theorem dX6_init_25 : decode cX6_init 25 = .ok (.aload_n 0, 1) := by decide +kernel
theorem dX6_init_26 : decode cX6_init 26 = .ok (.new 22, 3) := by decide +kernel
theorem dX6_init_29 : decode cX6_init 29 = .ok (.dup, 1) := by decide +kernel
theorem dX6_init_30 : decode cX6_init 30 = .ok (.bipush 10, 2) := by decide +kernel
theorem dX6_init_32 : decode cX6_init 32 = .ok (.iconst 0, 1) := by decide +kernel
theorem dX6_init_33 : decode cX6_init 33 = .ok (.iconst 0, 1) := by decide +kernel
theorem dX6_init_34 : decode cX6_init 34 = .ok (.aconst_null, 1) := by decide +kernel
theorem dX6_init_35 : decode cX6_init 35 = .ok (.invokespecial 24, 3) := by decide +kernel
theorem dX6_init_38 : decode cX6_init 38 = .ok (.putfield 27, 3) := by decide +kernel
theorem dX6_init_41 : decode cX6_init 41 = .ok (.aload_n 0, 1) := by decide +kernel
theorem dX6_init_42 : decode cX6_init 42 = .ok (.new 22, 3) := by decide +kernel
theorem dX6_init_45 : decode cX6_init 45 = .ok (.dup, 1) := by decide +kernel
theorem dX6_init_46 : decode cX6_init 46 = .ok (.iconst 0, 1) := by decide +kernel
theorem dX6_init_47 : decode cX6_init 47 = .ok (.iconst 1, 1) := by decide +kernel
theorem dX6_init_48 : decode cX6_init 48 = .ok (.iconst 0, 1) := by decide +kernel
theorem dX6_init_49 : decode cX6_init 49 = .ok (.aconst_null, 1) := by decide +kernel
theorem dX6_init_50 : decode cX6_init 50 = .ok (.invokespecial 24, 3) := by decide +kernel
theorem dX6_init_53 : decode cX6_init 53 = .ok (.putfield 31, 3) := by decide +kernel
theorem dX6_init_56 : decode cX6_init 56 = .ok (.aload_n 0, 1) := by decide +kernel
theorem dX6_init_57 : decode cX6_init 57 = .ok (.new 22, 3) := by decide +kernel
theorem dX6_init_60 : decode cX6_init 60 = .ok (.dup, 1) := by decide +kernel
theorem dX6_init_61 : decode cX6_init 61 = .ok (.iconst 1, 1) := by decide +kernel
theorem dX6_init_62 : decode cX6_init 62 = .ok (.iconst 2, 1) := by decide +kernel
theorem dX6_init_63 : decode cX6_init 63 = .ok (.iconst 0, 1) := by decide +kernel
theorem dX6_init_64 : decode cX6_init 64 = .ok (.aconst_null, 1) := by decide +kernel
theorem dX6_init_65 : decode cX6_init 65 = .ok (.invokespecial 24, 3) := by decide +kernel
theorem dX6_init_68 : decode cX6_init 68 = .ok (.putfield 34, 3) := by decide +kernel
theorem dX6_init_71 : decode cX6_init 71 = .ok (.aload_n 0, 1) := by decide +kernel
theorem dX6_init_72 : decode cX6_init 72 = .ok (.getfield 27, 3) := by decide +kernel
theorem dX6_init_75 : decode cX6_init 75 = .ok (.aload_n 0, 1) := by decide +kernel
theorem dX6_init_76 : decode cX6_init 76 = .ok (.getfield 31, 3) := by decide +kernel
theorem dX6_init_79 : decode cX6_init 79 = .ok (.putfield 37, 3) := by decide +kernel
theorem dX6_init_82 : decode cX6_init 82 = .ok (.aload_n 0, 1) := by decide +kernel
theorem dX6_init_83 : decode cX6_init 83 = .ok (.getfield 31, 3) := by decide +kernel
theorem dX6_init_86 : decode cX6_init 86 = .ok (.aload_n 0, 1) := by decide +kernel
theorem dX6_init_87 : decode cX6_init 87 = .ok (.getfield 34, 3) := by decide +kernel
theorem dX6_init_90 : decode cX6_init 90 = .ok (.putfield 37, 3) := by decide +kernel
theorem dX6_init_93 : decode cX6_init 93 = .ok (.aload_n 0, 1) := by decide +kernel
theorem dX6_init_94 : decode cX6_init 94 = .ok (.aload_n 0, 1) := by decide +kernel
theorem dX6_init_95 : decode cX6_init 95 = .ok (.getfield 34, 3) := by decide +kernel
theorem dX6_init_98 : decode cX6_init 98 = .ok (.putfield 40, 3) := by decide +kernel
theorem dX6_init_101 : decode cX6_init 101 = .ok (.return_, 1) := by decide +kernel
theorem dX6_fail_0 : decode cX6_fail 0 = .ok (.aload_n 0, 1) := by decide +kernel
theorem dX6_fail_1 : decode cX6_fail 1 = .ok (.getfield 52, 3) := by decide +kernel
theorem dX6_fail_4 : decode cX6_fail 4 = .ok (.ifCond .ne 36, 3) := by decide +kernel
theorem dX6_fail_7 : decode cX6_fail 7 = .ok (.aload_n 0, 1) := by decide +kernel
theorem dX6_fail_8 : decode cX6_fail 8 = .ok (.aload_n 0, 1) := by decide +kernel
theorem dX6_fail_9 : decode cX6_fail 9 = .ok (.getfield 55, 3) := by decide +kernel
theorem dX6_fail_12 : decode cX6_fail 12 = .ok (.iconst 1, 1) := by decide +kernel
theorem dX6_fail_13 : decode cX6_fail 13 = .ok (.if_icmp .ne 7, 3) := by decide +kernel
theorem dX6_fail_20 : decode cX6_fail 20 = .ok (.iload_n 1, 1) := by decide +kernel
theorem dX6_fail_21 : decode cX6_fail 21 = .ok (.bipush 16, 2) := by decide +kernel
theorem dX6_fail_23 : decode cX6_fail 23 = .ok (.aload_n 0, 1) := by decide +kernel
theorem dX6_fail_24 : decode cX6_fail 24 = .ok (.getfield 18, 3) := by decide +kernel
theorem dX6_fail_27 : decode cX6_fail 27 = .ok (.getfield 58, 3) := by decide +kernel
theorem dX6_fail_30 : decode cX6_fail 30 = .ok (.aload_n 0, 1) := by decide +kernel
theorem dX6_fail_31 : decode cX6_fail 31 = .ok (.getfield 61, 3) := by decide +kernel
theorem dX6_fail_34 : decode cX6_fail 34 = .ok (.iaload, 1) := by decide +kernel
theorem dX6_fail_35 : decode cX6_fail 35 = .ok (.imul, 1) := by decide +kernel
theorem dX6_fail_36 : decode cX6_fail 36 = .ok (.iadd, 1) := by decide +kernel
theorem dX6_fail_37 : decode cX6_fail 37 = .ok (.putfield 52, 3) := by decide +kernel
theorem dX6_fail_40 : decode cX6_fail 40 = .ok (.aload_n 0, 1) := by decide +kernel
theorem dX6_fail_41 : decode cX6_fail 41 = .ok (.iconst 1, 1) := by decide +kernel
theorem dX6_fail_42 : decode cX6_fail 42 = .ok (.putfield 55, 3) := by decide +kernel
theorem dX6_fail_45 : decode cX6_fail 45 = .ok (.return_, 1) := by decide +kernel
theorem dX6_accept_0 : decode cX6_accept 0 = .ok (.aload_n 0, 1) := by decide +kernel
theorem dX6_accept_1 : decode cX6_accept 1 = .ok (.getfield 55, 3) := by decide +kernel
theorem dX6_accept_4 : decode cX6_accept 4 = .ok (.iload_n 1, 1) := by decide +kernel
theorem dX6_accept_5 : decode cX6_accept 5 = .ok (.if_icmp .eq 5, 3) := by decide +kernel
theorem dX6_accept_8 : decode cX6_accept 8 = .ok (.iconst 0, 1) := by decide +kernel
theorem dX6_accept_9 : decode cX6_accept 9 = .ok (.ireturn, 1) := by decide +kernel
theorem dX6_take_0 : decode cX6_take 0 = .ok (.aload_n 0, 1) := by decide +kernel
theorem dX6_take_1 : decode cX6_take 1 = .ok (.iload_n 1, 1) := by decide +kernel
theorem dX6_take_2 : decode cX6_take 2 = .ok (.invokevirtual 67, 3) := by decide +kernel
theorem dX6_take_5 : decode cX6_take 5 = .ok (.ifCond .ne 8, 3) := by decide +kernel
theorem dX6_take_8 : decode cX6_take 8 = .ok (.aload_n 0, 1) := by decide +kernel
theorem dX6_take_9 : decode cX6_take 9 = .ok (.iconst 2, 1) := by decide +kernel
theorem dX6_take_10 : decode cX6_take 10 = .ok (.invokevirtual 71, 3) := by decide +kernel
theorem dX6_take_13 : decode cX6_take 13 = .ok (.return_, 1) := by decide +kernel
theorem dX6_takeName_0 : decode cX6_takeName 0 = .ok (.aload_n 0, 1) := by decide +kernel
theorem dX6_takeName_1 : decode cX6_takeName 1 = .ok (.getfield 18, 3) := by decide +kernel
theorem dX6_takeName_4 : decode cX6_takeName 4 = .ok (.getfield 75, 3) := by decide +kernel
theorem dX6_takeName_7 : decode cX6_takeName 7 = .ok (.aload_n 0, 1) := by decide +kernel
theorem dX6_takeName_8 : decode cX6_takeName 8 = .ok (.getfield 61, 3) := by decide +kernel
theorem dX6_takeName_11 : decode cX6_takeName 11 = .ok (.iaload, 1) := by decide +kernel
theorem dX6_takeName_12 : decode cX6_takeName 12 = .ok (.istore_n 1, 1) := by decide +kernel
theorem dX6_takeName_13 : decode cX6_takeName 13 = .ok (.aload_n 0, 1) := by decide +kernel
theorem dX6_takeName_14 : decode cX6_takeName 14 = .ok (.iconst 2, 1) := by decide +kernel
theorem dX6_takeName_15 : decode cX6_takeName 15 = .ok (.invokevirtual 67, 3) := by decide +kernel
theorem dX6_takeName_18 : decode cX6_takeName 18 = .ok (.ifCond .eq 5, 3) := by decide +kernel
theorem dX6_takeName_23 : decode cX6_takeName 23 = .ok (.aload_n 0, 1) := by decide +kernel
theorem dX6_takeName_24 : decode cX6_takeName 24 = .ok (.iconst 2, 1) := by decide +kernel
theorem dX6_takeName_25 : decode cX6_takeName 25 = .ok (.invokevirtual 71, 3) := by decide +kernel
theorem dX6_takeName_28 : decode cX6_takeName 28 = .ok (.iconst (-1), 1) := by decide +kernel
theorem dX6_takeName_29 : decode cX6_takeName 29 = .ok (.ireturn, 1) := by decide +kernel
theorem dX6_takeEndName_0 : decode cX6_takeEndName 0 = .ok (.aload_n 0, 1) := by decide +kernel
theorem dX6_takeEndName_1 : decode cX6_takeEndName 1 = .ok (.getfield 55, 3) := by decide +kernel
theorem dX6_takeEndName_4 : decode cX6_takeEndName 4 = .ok (.iconst 2, 1) := by decide +kernel
theorem dX6_takeEndName_5 : decode cX6_takeEndName 5 = .ok (.if_icmp .ne 27, 3) := by decide +kernel
theorem dX6_takeEndName_32 : decode cX6_takeEndName 32 = .ok (.aload_n 0, 1) := by decide +kernel
theorem dX6_takeEndName_33 : decode cX6_takeEndName 33 = .ok (.iconst 2, 1) := by decide +kernel
theorem dX6_takeEndName_34 : decode cX6_takeEndName 34 = .ok (.invokevirtual 83, 3) := by decide +kernel
theorem dX6_takeEndName_37 : decode cX6_takeEndName 37 = .ok (.return_, 1) := by decide +kernel
theorem dX6_told_0 : decode cX6_told 0 = .ok (.aload_n 0, 1) := by decide +kernel
theorem dX6_told_1 : decode cX6_told 1 = .ok (.getfield 18, 3) := by decide +kernel
theorem dX6_told_4 : decode cX6_told 4 = .ok (.getfield 58, 3) := by decide +kernel
theorem dX6_told_7 : decode cX6_told 7 = .ok (.aload_n 0, 1) := by decide +kernel
theorem dX6_told_8 : decode cX6_told 8 = .ok (.getfield 61, 3) := by decide +kernel
theorem dX6_told_11 : decode cX6_told 11 = .ok (.iaload, 1) := by decide +kernel
theorem dX6_told_12 : decode cX6_told 12 = .ok (.istore_n 2, 1) := by decide +kernel
theorem dX6_told_13 : decode cX6_told 13 = .ok (.new 79, 3) := by decide +kernel
theorem dX6_told_16 : decode cX6_told 16 = .ok (.dup, 1) := by decide +kernel
theorem dX6_told_17 : decode cX6_told 17 = .ok (.iload_n 1, 1) := by decide +kernel
theorem dX6_told_18 : decode cX6_told 18 = .ok (.aload_n 0, 1) := by decide +kernel
theorem dX6_told_19 : decode cX6_told 19 = .ok (.invokevirtual 86, 3) := by decide +kernel
theorem dX6_told_22 : decode cX6_told 22 = .ok (.aload_n 0, 1) := by decide +kernel
theorem dX6_told_23 : decode cX6_told 23 = .ok (.getfield 90, 3) := by decide +kernel
theorem dX6_told_26 : decode cX6_told 26 = .ok (.iload_n 2, 1) := by decide +kernel
theorem dX6_told_27 : decode cX6_told 27 = .ok (.invokespecial 93, 3) := by decide +kernel
theorem dX6_told_30 : decode cX6_told 30 = .ok (.astore_n 3, 1) := by decide +kernel
theorem dX6_told_31 : decode cX6_told 31 = .ok (.aload_n 3, 1) := by decide +kernel
theorem dX6_told_32 : decode cX6_told 32 = .ok (.aload_n 0, 1) := by decide +kernel
theorem dX6_told_33 : decode cX6_told 33 = .ok (.getfield 96, 3) := by decide +kernel
theorem dX6_told_36 : decode cX6_told 36 = .ok (.putfield 100, 3) := by decide +kernel
theorem dX6_told_39 : decode cX6_told 39 = .ok (.aload_n 3, 1) := by decide +kernel
theorem dX6_told_40 : decode cX6_told 40 = .ok (.areturn, 1) := by decide +kernel
theorem dX6_parse_0 : decode cX6_parse 0 = .ok (.aload_n 0, 1) := by decide +kernel
theorem dX6_parse_1 : decode cX6_parse 1 = .ok (.aload_n 0, 1) := by decide +kernel
theorem dX6_parse_2 : decode cX6_parse 2 = .ok (.getfield 18, 3) := by decide +kernel
theorem dX6_parse_5 : decode cX6_parse 5 = .ok (.getfield 64, 3) := by decide +kernel
theorem dX6_parse_8 : decode cX6_parse 8 = .ok (.iconst 0, 1) := by decide +kernel
theorem dX6_parse_9 : decode cX6_parse 9 = .ok (.iaload, 1) := by decide +kernel
theorem dX6_parse_10 : decode cX6_parse 10 = .ok (.putfield 55, 3) := by decide +kernel
theorem dX6_parse_13 : decode cX6_parse 13 = .ok (.aconst_null, 1) := by decide +kernel
theorem dX6_parse_14 : decode cX6_parse 14 = .ok (.astore_n 1, 1) := by decide +kernel
theorem dX6_parse_15 : decode cX6_parse 15 = .ok (.iconst 0, 1) := by decide +kernel
theorem dX6_parse_16 : decode cX6_parse 16 = .ok (.istore_n 2, 1) := by decide +kernel
theorem dX6_parse_17 : decode cX6_parse 17 = .ok (.iload_n 2, 1) := by decide +kernel
theorem dX6_parse_18 : decode cX6_parse 18 = .ok (.bipush 12, 2) := by decide +kernel
theorem dX6_parse_20 : decode cX6_parse 20 = .ok (.if_icmp .ge 272, 3) := by decide +kernel
theorem dX6_parse_23 : decode cX6_parse 23 = .ok (.iload_n 2, 1) := by decide +kernel
theorem dX6_parse_24 : decode cX6_parse 24 = .ok (.ifCond .eq 23, 3) := by decide +kernel
theorem dX6_parse_27 : decode cX6_parse 27 = .ok (.aload_n 0, 1) := by decide +kernel
theorem dX6_parse_28 : decode cX6_parse 28 = .ok (.getfield 55, 3) := by decide +kernel
theorem dX6_parse_31 : decode cX6_parse 31 = .ok (.sipush 221, 3) := by decide +kernel
theorem dX6_parse_34 : decode cX6_parse 34 = .ok (.if_icmp .eq 13, 3) := by decide +kernel
theorem dX6_parse_37 : decode cX6_parse 37 = .ok (.aload_n 0, 1) := by decide +kernel
theorem dX6_parse_38 : decode cX6_parse 38 = .ok (.getfield 55, 3) := by decide +kernel
theorem dX6_parse_41 : decode cX6_parse 41 = .ok (.sipush 228, 3) := by decide +kernel
theorem dX6_parse_44 : decode cX6_parse 44 = .ok (.if_icmp .ne 248, 3) := by decide +kernel
theorem dX6_parse_47 : decode cX6_parse 47 = .ok (.aload_n 0, 1) := by decide +kernel
theorem dX6_parse_48 : decode cX6_parse 48 = .ok (.getfield 55, 3) := by decide +kernel
theorem dX6_parse_51 : decode cX6_parse 51 = .ok (.sipush 228, 3) := by decide +kernel
theorem dX6_parse_54 : decode cX6_parse 54 = .ok (.if_icmp .ne 7, 3) := by decide +kernel
theorem dX6_parse_61 : decode cX6_parse 61 = .ok (.iconst 0, 1) := by decide +kernel
theorem dX6_parse_62 : decode cX6_parse 62 = .ok (.istore_n 3, 1) := by decide +kernel
theorem dX6_parse_63 : decode cX6_parse 63 = .ok (.aload_n 0, 1) := by decide +kernel
theorem dX6_parse_64 : decode cX6_parse 64 = .ok (.aload_n 0, 1) := by decide +kernel
theorem dX6_parse_65 : decode cX6_parse 65 = .ok (.getfield 18, 3) := by decide +kernel
theorem dX6_parse_68 : decode cX6_parse 68 = .ok (.getfield 58, 3) := by decide +kernel
theorem dX6_parse_71 : decode cX6_parse 71 = .ok (.aload_n 0, 1) := by decide +kernel
theorem dX6_parse_72 : decode cX6_parse 72 = .ok (.getfield 61, 3) := by decide +kernel
theorem dX6_parse_75 : decode cX6_parse 75 = .ok (.iaload, 1) := by decide +kernel
theorem dX6_parse_76 : decode cX6_parse 76 = .ok (.putfield 90, 3) := by decide +kernel
theorem dX6_parse_79 : decode cX6_parse 79 = .ok (.aload_n 0, 1) := by decide +kernel
theorem dX6_parse_80 : decode cX6_parse 80 = .ok (.iload_n 3, 1) := by decide +kernel
theorem dX6_parse_81 : decode cX6_parse 81 = .ok (.ifCond .eq 9, 3) := by decide +kernel
theorem dX6_parse_90 : decode cX6_parse 90 = .ok (.sipush 221, 3) := by decide +kernel
theorem dX6_parse_93 : decode cX6_parse 93 = .ok (.invokevirtual 83, 3) := by decide +kernel
theorem dX6_parse_96 : decode cX6_parse 96 = .ok (.aload_n 0, 1) := by decide +kernel
theorem dX6_parse_97 : decode cX6_parse 97 = .ok (.aload_n 0, 1) := by decide +kernel
theorem dX6_parse_98 : decode cX6_parse 98 = .ok (.iload_n 3, 1) := by decide +kernel
theorem dX6_parse_99 : decode cX6_parse 99 = .ok (.ifCond .eq 7, 3) := by decide +kernel
theorem dX6_parse_106 : decode cX6_parse 106 = .ok (.iconst 0, 1) := by decide +kernel
theorem dX6_parse_107 : decode cX6_parse 107 = .ok (.invokevirtual 104, 3) := by decide +kernel
theorem dX6_parse_110 : decode cX6_parse 110 = .ok (.putfield 96, 3) := by decide +kernel
theorem dX6_parse_113 : decode cX6_parse 113 = .ok (.aload_n 0, 1) := by decide +kernel
theorem dX6_parse_114 : decode cX6_parse 114 = .ok (.getfield 96, 3) := by decide +kernel
theorem dX6_parse_117 : decode cX6_parse 117 = .ok (.iload_n 2, 1) := by decide +kernel
theorem dX6_parse_118 : decode cX6_parse 118 = .ok (.putfield 108, 3) := by decide +kernel
theorem dX6_parse_121 : decode cX6_parse 121 = .ok (.aload_n 0, 1) := by decide +kernel
theorem dX6_parse_122 : decode cX6_parse 122 = .ok (.getfield 96, 3) := by decide +kernel
theorem dX6_parse_125 : decode cX6_parse 125 = .ok (.aload_n 0, 1) := by decide +kernel
theorem dX6_parse_126 : decode cX6_parse 126 = .ok (.getfield 96, 3) := by decide +kernel
theorem dX6_parse_129 : decode cX6_parse 129 = .ok (.putfield 100, 3) := by decide +kernel
theorem dX6_parse_132 : decode cX6_parse 132 = .ok (.aload_n 1, 1) := by decide +kernel
theorem dX6_parse_133 : decode cX6_parse 133 = .ok (.ifnonnull 14, 3) := by decide +kernel
theorem dX6_parse_136 : decode cX6_parse 136 = .ok (.aload_n 0, 1) := by decide +kernel
theorem dX6_parse_137 : decode cX6_parse 137 = .ok (.aload_n 0, 1) := by decide +kernel
theorem dX6_parse_138 : decode cX6_parse 138 = .ok (.getfield 96, 3) := by decide +kernel
theorem dX6_parse_141 : decode cX6_parse 141 = .ok (.putfield 111, 3) := by decide +kernel
theorem dX6_parse_144 : decode cX6_parse 144 = .ok (.goto 11, 3) := by decide +kernel
theorem dX6_parse_155 : decode cX6_parse 155 = .ok (.aload_n 0, 1) := by decide +kernel
theorem dX6_parse_156 : decode cX6_parse 156 = .ok (.getfield 96, 3) := by decide +kernel
theorem dX6_parse_159 : decode cX6_parse 159 = .ok (.astore_n 1, 1) := by decide +kernel
theorem dX6_parse_160 : decode cX6_parse 160 = .ok (.aload_n 0, 1) := by decide +kernel
theorem dX6_parse_161 : decode cX6_parse 161 = .ok (.aconst_null, 1) := by decide +kernel
theorem dX6_parse_162 : decode cX6_parse 162 = .ok (.putfield 116, 3) := by decide +kernel
theorem dX6_parse_165 : decode cX6_parse 165 = .ok (.aload_n 0, 1) := by decide +kernel
theorem dX6_parse_166 : decode cX6_parse 166 = .ok (.bipush 59, 2) := by decide +kernel
theorem dX6_parse_168 : decode cX6_parse 168 = .ok (.invokevirtual 83, 3) := by decide +kernel
theorem dX6_parse_171 : decode cX6_parse 171 = .ok (.aload_n 0, 1) := by decide +kernel
theorem dX6_parse_172 : decode cX6_parse 172 = .ok (.invokevirtual 119, 3) := by decide +kernel
theorem dX6_parse_175 : decode cX6_parse 175 = .ok (.iconst 0, 1) := by decide +kernel
theorem dX6_parse_176 : decode cX6_parse 176 = .ok (.istore 4, 2) := by decide +kernel
theorem dX6_parse_178 : decode cX6_parse 178 = .ok (.iload 4, 2) := by decide +kernel
theorem dX6_parse_180 : decode cX6_parse 180 = .ok (.sipush 6000, 3) := by decide +kernel
theorem dX6_parse_183 : decode cX6_parse 183 = .ok (.if_icmp .ge 59, 3) := by decide +kernel
theorem dX6_parse_186 : decode cX6_parse 186 = .ok (.aload_n 0, 1) := by decide +kernel
theorem dX6_parse_187 : decode cX6_parse 187 = .ok (.invokevirtual 122, 3) := by decide +kernel
theorem dX6_parse_190 : decode cX6_parse 190 = .ok (.ifCond .eq 52, 3) := by decide +kernel
theorem dX6_parse_242 : decode cX6_parse 242 = .ok (.iload_n 3, 1) := by decide +kernel
theorem dX6_parse_243 : decode cX6_parse 243 = .ok (.ifCond .eq 22, 3) := by decide +kernel
theorem dX6_parse_265 : decode cX6_parse 265 = .ok (.aload_n 0, 1) := by decide +kernel
theorem dX6_parse_266 : decode cX6_parse 266 = .ok (.sipush 210, 3) := by decide +kernel
theorem dX6_parse_269 : decode cX6_parse 269 = .ok (.invokevirtual 83, 3) := by decide +kernel
theorem dX6_parse_272 : decode cX6_parse 272 = .ok (.aload_n 0, 1) := by decide +kernel
theorem dX6_parse_273 : decode cX6_parse 273 = .ok (.aload_n 0, 1) := by decide +kernel
theorem dX6_parse_274 : decode cX6_parse 274 = .ok (.getfield 96, 3) := by decide +kernel
theorem dX6_parse_277 : decode cX6_parse 277 = .ok (.invokevirtual 140, 3) := by decide +kernel
theorem dX6_parse_280 : decode cX6_parse 280 = .ok (.aload_n 0, 1) := by decide +kernel
theorem dX6_parse_281 : decode cX6_parse 281 = .ok (.bipush 46, 2) := by decide +kernel
theorem dX6_parse_283 : decode cX6_parse 283 = .ok (.invokevirtual 83, 3) := by decide +kernel
theorem dX6_parse_286 : decode cX6_parse 286 = .ok (.iinc 2 1, 3) := by decide +kernel
theorem dX6_parse_289 : decode cX6_parse 289 = .ok (.goto (-272), 3) := by decide +kernel
theorem dX6_parse_292 : decode cX6_parse 292 = .ok (.aload_n 0, 1) := by decide +kernel
theorem dX6_parse_293 : decode cX6_parse 293 = .ok (.getfield 55, 3) := by decide +kernel
theorem dX6_parse_296 : decode cX6_parse 296 = .ok (.ifCond .eq 8, 3) := by decide +kernel
theorem dX6_parse_299 : decode cX6_parse 299 = .ok (.aload_n 0, 1) := by decide +kernel
theorem dX6_parse_300 : decode cX6_parse 300 = .ok (.iconst 2, 1) := by decide +kernel
theorem dX6_parse_301 : decode cX6_parse 301 = .ok (.invokevirtual 71, 3) := by decide +kernel
theorem dX6_parse_304 : decode cX6_parse 304 = .ok (.return_, 1) := by decide +kernel
theorem dX6_parseImports_0 : decode cX6_parseImports 0 = .ok (.aload_n 0, 1) := by decide +kernel
theorem dX6_parseImports_1 : decode cX6_parseImports 1 = .ok (.sipush 219, 3) := by decide +kernel
theorem dX6_parseImports_4 : decode cX6_parseImports 4 = .ok (.invokevirtual 67, 3) := by decide +kernel
theorem dX6_parseImports_7 : decode cX6_parseImports 7 = .ok (.ifCond .ne 4, 3) := by decide +kernel
theorem dX6_parseImports_10 : decode cX6_parseImports 10 = .ok (.return_, 1) := by decide +kernel
theorem dX6_beginsDeclaration_0 : decode cX6_beginsDeclaration 0 = .ok (.aload_n 0, 1) := by decide +kernel
theorem dX6_beginsDeclaration_1 : decode cX6_beginsDeclaration 1 = .ok (.getfield 55, 3) := by decide +kernel
theorem dX6_beginsDeclaration_4 : decode cX6_beginsDeclaration 4 = .ok (.sipush 253, 3) := by decide +kernel
theorem dX6_beginsDeclaration_7 : decode cX6_beginsDeclaration 7 = .ok (.if_icmp .eq 43, 3) := by decide +kernel
theorem dX6_beginsDeclaration_10 : decode cX6_beginsDeclaration 10 = .ok (.aload_n 0, 1) := by decide +kernel
theorem dX6_beginsDeclaration_11 : decode cX6_beginsDeclaration 11 = .ok (.getfield 55, 3) := by decide +kernel
theorem dX6_beginsDeclaration_14 : decode cX6_beginsDeclaration 14 = .ok (.sipush 245, 3) := by decide +kernel
theorem dX6_beginsDeclaration_17 : decode cX6_beginsDeclaration 17 = .ok (.if_icmp .eq 33, 3) := by decide +kernel
theorem dX6_beginsDeclaration_20 : decode cX6_beginsDeclaration 20 = .ok (.aload_n 0, 1) := by decide +kernel
theorem dX6_beginsDeclaration_21 : decode cX6_beginsDeclaration 21 = .ok (.getfield 55, 3) := by decide +kernel
theorem dX6_beginsDeclaration_24 : decode cX6_beginsDeclaration 24 = .ok (.sipush 255, 3) := by decide +kernel
theorem dX6_beginsDeclaration_27 : decode cX6_beginsDeclaration 27 = .ok (.if_icmp .eq 23, 3) := by decide +kernel
theorem dX6_beginsDeclaration_30 : decode cX6_beginsDeclaration 30 = .ok (.aload_n 0, 1) := by decide +kernel
theorem dX6_beginsDeclaration_31 : decode cX6_beginsDeclaration 31 = .ok (.getfield 55, 3) := by decide +kernel
theorem dX6_beginsDeclaration_34 : decode cX6_beginsDeclaration 34 = .ok (.sipush 212, 3) := by decide +kernel
theorem dX6_beginsDeclaration_37 : decode cX6_beginsDeclaration 37 = .ok (.if_icmp .eq 13, 3) := by decide +kernel
theorem dX6_beginsDeclaration_40 : decode cX6_beginsDeclaration 40 = .ok (.aload_n 0, 1) := by decide +kernel
theorem dX6_beginsDeclaration_41 : decode cX6_beginsDeclaration 41 = .ok (.getfield 55, 3) := by decide +kernel
theorem dX6_beginsDeclaration_44 : decode cX6_beginsDeclaration 44 = .ok (.sipush 238, 3) := by decide +kernel
theorem dX6_beginsDeclaration_47 : decode cX6_beginsDeclaration 47 = .ok (.if_icmp .ne 7, 3) := by decide +kernel
theorem dX6_beginsDeclaration_54 : decode cX6_beginsDeclaration 54 = .ok (.iconst 0, 1) := by decide +kernel
theorem dX6_beginsDeclaration_55 : decode cX6_beginsDeclaration 55 = .ok (.ireturn, 1) := by decide +kernel
theorem dX7_scan_0 : decode cX7_scan 0 = .ok (.aload_n 0, 1) := by decide +kernel
theorem dX7_scan_1 : decode cX7_scan 1 = .ok (.aload_n 1, 1) := by decide +kernel
theorem dX7_scan_2 : decode cX7_scan 2 = .ok (.putfield 33, 3) := by decide +kernel
theorem dX7_scan_5 : decode cX7_scan 5 = .ok (.aload_n 0, 1) := by decide +kernel
theorem dX7_scan_6 : decode cX7_scan 6 = .ok (.iload_n 2, 1) := by decide +kernel
theorem dX7_scan_7 : decode cX7_scan 7 = .ok (.aload_n 1, 1) := by decide +kernel
theorem dX7_scan_8 : decode cX7_scan 8 = .ok (.arraylength, 1) := by decide +kernel
theorem dX7_scan_9 : decode cX7_scan 9 = .ok (.invokestatic 37, 3) := by decide +kernel
theorem dX7_scan_12 : decode cX7_scan 12 = .ok (.putfield 43, 3) := by decide +kernel
theorem dX7_scan_15 : decode cX7_scan 15 = .ok (.aload_n 0, 1) := by decide +kernel
theorem dX7_scan_16 : decode cX7_scan 16 = .ok (.iconst 0, 1) := by decide +kernel
theorem dX7_scan_17 : decode cX7_scan 17 = .ok (.putfield 47, 3) := by decide +kernel
theorem dX7_scan_20 : decode cX7_scan 20 = .ok (.aload_n 0, 1) := by decide +kernel
theorem dX7_scan_21 : decode cX7_scan 21 = .ok (.iconst 1, 1) := by decide +kernel
theorem dX7_scan_22 : decode cX7_scan 22 = .ok (.putfield 50, 3) := by decide +kernel
theorem dX7_scan_25 : decode cX7_scan 25 = .ok (.aload_n 0, 1) := by decide +kernel
theorem dX7_scan_26 : decode cX7_scan 26 = .ok (.iconst 0, 1) := by decide +kernel
theorem dX7_scan_27 : decode cX7_scan 27 = .ok (.putfield 53, 3) := by decide +kernel
theorem dX7_scan_30 : decode cX7_scan 30 = .ok (.aload_n 0, 1) := by decide +kernel
theorem dX7_scan_31 : decode cX7_scan 31 = .ok (.iconst 0, 1) := by decide +kernel
theorem dX7_scan_32 : decode cX7_scan 32 = .ok (.putfield 56, 3) := by decide +kernel
theorem dX7_scan_35 : decode cX7_scan 35 = .ok (.aload_n 0, 1) := by decide +kernel
theorem dX7_scan_36 : decode cX7_scan 36 = .ok (.getfield 21, 3) := by decide +kernel
theorem dX7_scan_39 : decode cX7_scan 39 = .ok (.iconst (-1), 1) := by decide +kernel
theorem dX7_scan_40 : decode cX7_scan 40 = .ok (.invokestatic 59, 3) := by decide +kernel
theorem dX7_scan_43 : decode cX7_scan 43 = .ok (.iconst 1, 1) := by decide +kernel
theorem dX7_scan_44 : decode cX7_scan 44 = .ok (.istore_n 3, 1) := by decide +kernel
theorem dX7_scan_45 : decode cX7_scan 45 = .ok (.iconst 0, 1) := by decide +kernel
theorem dX7_scan_46 : decode cX7_scan 46 = .ok (.istore 4, 2) := by decide +kernel
theorem dX7_scan_48 : decode cX7_scan 48 = .ok (.iload 4, 2) := by decide +kernel
theorem dX7_scan_50 : decode cX7_scan 50 = .ok (.sipush 6000, 3) := by decide +kernel
theorem dX7_scan_53 : decode cX7_scan 53 = .ok (.if_icmp .gt 18, 3) := by decide +kernel
theorem dX7_scan_56 : decode cX7_scan 56 = .ok (.iload_n 3, 1) := by decide +kernel
theorem dX7_scan_57 : decode cX7_scan 57 = .ok (.ifCond .eq 14, 3) := by decide +kernel
theorem dX7_scan_60 : decode cX7_scan 60 = .ok (.aload_n 0, 1) := by decide +kernel
theorem dX7_scan_61 : decode cX7_scan 61 = .ok (.invokevirtual 65, 3) := by decide +kernel
theorem dX7_scan_64 : decode cX7_scan 64 = .ok (.istore_n 3, 1) := by decide +kernel
theorem dX7_scan_65 : decode cX7_scan 65 = .ok (.iinc 4 1, 3) := by decide +kernel
theorem dX7_scan_68 : decode cX7_scan 68 = .ok (.goto (-20), 3) := by decide +kernel
theorem dX7_scan_71 : decode cX7_scan 71 = .ok (.return_, 1) := by decide +kernel
theorem dX7_scanToken_0 : decode cX7_scanToken 0 = .ok (.aload_n 0, 1) := by decide +kernel
theorem dX7_scanToken_1 : decode cX7_scanToken 1 = .ok (.invokevirtual 69, 3) := by decide +kernel
theorem dX7_scanToken_4 : decode cX7_scanToken 4 = .ok (.istore_n 1, 1) := by decide +kernel
theorem dX7_scanToken_5 : decode cX7_scanToken 5 = .ok (.iload_n 1, 1) := by decide +kernel
theorem dX7_scanToken_6 : decode cX7_scanToken 6 = .ok (.ifCond .le 11, 3) := by decide +kernel
theorem dX7_scanToken_17 : decode cX7_scanToken 17 = .ok (.aload_n 0, 1) := by decide +kernel
theorem dX7_scanToken_18 : decode cX7_scanToken 18 = .ok (.getfield 47, 3) := by decide +kernel
theorem dX7_scanToken_21 : decode cX7_scanToken 21 = .ok (.aload_n 0, 1) := by decide +kernel
theorem dX7_scanToken_22 : decode cX7_scanToken 22 = .ok (.getfield 43, 3) := by decide +kernel
theorem dX7_scanToken_25 : decode cX7_scanToken 25 = .ok (.if_icmp .lt 14, 3) := by decide +kernel
theorem dX7_scanToken_28 : decode cX7_scanToken 28 = .ok (.aload_n 0, 1) := by decide +kernel
theorem dX7_scanToken_29 : decode cX7_scanToken 29 = .ok (.iconst 0, 1) := by decide +kernel
theorem dX7_scanToken_30 : decode cX7_scanToken 30 = .ok (.iconst 0, 1) := by decide +kernel
theorem dX7_scanToken_31 : decode cX7_scanToken 31 = .ok (.aload_n 0, 1) := by decide +kernel
theorem dX7_scanToken_32 : decode cX7_scanToken 32 = .ok (.getfield 50, 3) := by decide +kernel
theorem dX7_scanToken_35 : decode cX7_scanToken 35 = .ok (.invokevirtual 73, 3) := by decide +kernel
theorem dX7_scanToken_38 : decode cX7_scanToken 38 = .ok (.ireturn, 1) := by decide +kernel
theorem dX7_putToken_0 : decode cX7_putToken 0 = .ok (.aload_n 0, 1) := by decide +kernel
theorem dX7_putToken_1 : decode cX7_putToken 1 = .ok (.getfield 53, 3) := by decide +kernel
theorem dX7_putToken_4 : decode cX7_putToken 4 = .ok (.sipush 6000, 3) := by decide +kernel
theorem dX7_putToken_7 : decode cX7_putToken 7 = .ok (.if_icmp .le 5, 3) := by decide +kernel
theorem dX7_putToken_12 : decode cX7_putToken 12 = .ok (.aload_n 0, 1) := by decide +kernel
theorem dX7_putToken_13 : decode cX7_putToken 13 = .ok (.getfield 9, 3) := by decide +kernel
theorem dX7_putToken_16 : decode cX7_putToken 16 = .ok (.aload_n 0, 1) := by decide +kernel
theorem dX7_putToken_17 : decode cX7_putToken 17 = .ok (.getfield 53, 3) := by decide +kernel
theorem dX7_putToken_20 : decode cX7_putToken 20 = .ok (.iload_n 1, 1) := by decide +kernel
theorem dX7_putToken_21 : decode cX7_putToken 21 = .ok (.iastore, 1) := by decide +kernel
theorem dX7_putToken_22 : decode cX7_putToken 22 = .ok (.aload_n 0, 1) := by decide +kernel
theorem dX7_putToken_23 : decode cX7_putToken 23 = .ok (.getfield 15, 3) := by decide +kernel
theorem dX7_putToken_26 : decode cX7_putToken 26 = .ok (.aload_n 0, 1) := by decide +kernel
theorem dX7_putToken_27 : decode cX7_putToken 27 = .ok (.getfield 53, 3) := by decide +kernel
theorem dX7_putToken_30 : decode cX7_putToken 30 = .ok (.iload_n 2, 1) := by decide +kernel
theorem dX7_putToken_31 : decode cX7_putToken 31 = .ok (.iastore, 1) := by decide +kernel
theorem dX7_putToken_32 : decode cX7_putToken 32 = .ok (.aload_n 0, 1) := by decide +kernel
theorem dX7_putToken_33 : decode cX7_putToken 33 = .ok (.getfield 18, 3) := by decide +kernel
theorem dX7_putToken_36 : decode cX7_putToken 36 = .ok (.aload_n 0, 1) := by decide +kernel
theorem dX7_putToken_37 : decode cX7_putToken 37 = .ok (.getfield 53, 3) := by decide +kernel
theorem dX7_putToken_40 : decode cX7_putToken 40 = .ok (.iload_n 3, 1) := by decide +kernel
theorem dX7_putToken_41 : decode cX7_putToken 41 = .ok (.iastore, 1) := by decide +kernel
theorem dX7_putToken_42 : decode cX7_putToken 42 = .ok (.iload_n 1, 1) := by decide +kernel
theorem dX7_putToken_43 : decode cX7_putToken 43 = .ok (.iconst 1, 1) := by decide +kernel
theorem dX7_putToken_44 : decode cX7_putToken 44 = .ok (.if_icmp .eq 7, 3) := by decide +kernel
theorem dX7_putToken_47 : decode cX7_putToken 47 = .ok (.iload_n 1, 1) := by decide +kernel
theorem dX7_putToken_48 : decode cX7_putToken 48 = .ok (.ifCond .ne 5, 3) := by decide +kernel
theorem dX7_putToken_51 : decode cX7_putToken 51 = .ok (.iconst 0, 1) := by decide +kernel
theorem dX7_putToken_52 : decode cX7_putToken 52 = .ok (.ireturn, 1) := by decide +kernel
theorem dX7_skipBlanks_0 : decode cX7_skipBlanks 0 = .ok (.aload_n 0, 1) := by decide +kernel
theorem dX7_skipBlanks_1 : decode cX7_skipBlanks 1 = .ok (.getfield 47, 3) := by decide +kernel
theorem dX7_skipBlanks_4 : decode cX7_skipBlanks 4 = .ok (.aload_n 0, 1) := by decide +kernel
theorem dX7_skipBlanks_5 : decode cX7_skipBlanks 5 = .ok (.getfield 43, 3) := by decide +kernel
theorem dX7_skipBlanks_8 : decode cX7_skipBlanks 8 = .ok (.if_icmp .ge 97, 3) := by decide +kernel
theorem dX7_skipBlanks_105 : decode cX7_skipBlanks 105 = .ok (.iconst 0, 1) := by decide +kernel
theorem dX7_skipBlanks_106 : decode cX7_skipBlanks 106 = .ok (.ireturn, 1) := by decide +kernel
theorem dX11_read_0 : decode cX11_read 0 = .ok (.aload_n 0, 1) := by decide +kernel
theorem dX11_read_1 : decode cX11_read 1 = .ok (.aconst_null, 1) := by decide +kernel
theorem dX11_read_2 : decode cX11_read 2 = .ok (.putfield 35, 3) := by decide +kernel
theorem dX11_read_5 : decode cX11_read 5 = .ok (.aload_n 0, 1) := by decide +kernel
theorem dX11_read_6 : decode cX11_read 6 = .ok (.getfield 23, 3) := by decide +kernel
theorem dX11_read_9 : decode cX11_read 9 = .ok (.invokevirtual 39, 3) := by decide +kernel
theorem dX11_read_12 : decode cX11_read 12 = .ok (.aload_n 0, 1) := by decide +kernel
theorem dX11_read_13 : decode cX11_read 13 = .ok (.getfield 16, 3) := by decide +kernel
theorem dX11_read_16 : decode cX11_read 16 = .ok (.aload_n 0, 1) := by decide +kernel
theorem dX11_read_17 : decode cX11_read 17 = .ok (.getfield 9, 3) := by decide +kernel
theorem dX11_read_20 : decode cX11_read 20 = .ok (.aload_n 0, 1) := by decide +kernel
theorem dX11_read_21 : decode cX11_read 21 = .ok (.getfield 27, 3) := by decide +kernel
theorem dX11_read_24 : decode cX11_read 24 = .ok (.invokevirtual 42, 3) := by decide +kernel
theorem dX11_read_27 : decode cX11_read 27 = .ok (.aload_n 0, 1) := by decide +kernel
theorem dX11_read_28 : decode cX11_read 28 = .ok (.iconst 0, 1) := by decide +kernel
theorem dX11_read_29 : decode cX11_read 29 = .ok (.putfield 27, 3) := by decide +kernel
theorem dX11_read_32 : decode cX11_read 32 = .ok (.new 46, 3) := by decide +kernel
theorem dX11_read_35 : decode cX11_read 35 = .ok (.dup, 1) := by decide +kernel
theorem dX11_read_36 : decode cX11_read 36 = .ok (.aload_n 0, 1) := by decide +kernel
theorem dX11_read_37 : decode cX11_read 37 = .ok (.getfield 16, 3) := by decide +kernel
theorem dX11_read_40 : decode cX11_read 40 = .ok (.invokespecial 48, 3) := by decide +kernel
theorem dX11_read_43 : decode cX11_read 43 = .ok (.astore_n 1, 1) := by decide +kernel
theorem dX11_read_44 : decode cX11_read 44 = .ok (.aload_n 1, 1) := by decide +kernel
theorem dX11_read_45 : decode cX11_read 45 = .ok (.invokevirtual 51, 3) := by decide +kernel
theorem dX11_read_48 : decode cX11_read 48 = .ok (.aload_n 1, 1) := by decide +kernel
theorem dX11_read_49 : decode cX11_read 49 = .ok (.getfield 54, 3) := by decide +kernel
theorem dX11_read_52 : decode cX11_read 52 = .ok (.ifCond .eq 8, 3) := by decide +kernel
theorem dX11_read_55 : decode cX11_read 55 = .ok (.aload_n 1, 1) := by decide +kernel
theorem dX11_read_56 : decode cX11_read 56 = .ok (.getfield 54, 3) := by decide +kernel
theorem dX11_read_59 : decode cX11_read 59 = .ok (.ireturn, 1) := by decide +kernel
theorem dJ7_fill_53178_0 : decode cJ7_fill_53178 0 = .ok (.iconst 0, 1) := by decide +kernel
theorem dJ7_fill_53178_1 : decode cJ7_fill_53178 1 = .ok (.istore_n 2, 1) := by decide +kernel
theorem dJ7_fill_53178_2 : decode cJ7_fill_53178 2 = .ok (.aload_n 0, 1) := by decide +kernel
theorem dJ7_fill_53178_3 : decode cJ7_fill_53178 3 = .ok (.arraylength, 1) := by decide +kernel
theorem dJ7_fill_53178_4 : decode cJ7_fill_53178 4 = .ok (.istore_n 3, 1) := by decide +kernel
theorem dJ7_fill_53178_5 : decode cJ7_fill_53178 5 = .ok (.iload_n 2, 1) := by decide +kernel
theorem dJ7_fill_53178_6 : decode cJ7_fill_53178 6 = .ok (.iload_n 3, 1) := by decide +kernel
theorem dJ7_fill_53178_7 : decode cJ7_fill_53178 7 = .ok (.if_icmp .ge 13, 3) := by decide +kernel
theorem dJ7_fill_53178_10 : decode cJ7_fill_53178 10 = .ok (.aload_n 0, 1) := by decide +kernel
theorem dJ7_fill_53178_11 : decode cJ7_fill_53178 11 = .ok (.iload_n 2, 1) := by decide +kernel
theorem dJ7_fill_53178_12 : decode cJ7_fill_53178 12 = .ok (.iload_n 1, 1) := by decide +kernel
theorem dJ7_fill_53178_13 : decode cJ7_fill_53178 13 = .ok (.iastore, 1) := by decide +kernel
theorem dJ7_fill_53178_14 : decode cJ7_fill_53178 14 = .ok (.iinc 2 1, 3) := by decide +kernel
theorem dJ7_fill_53178_17 : decode cJ7_fill_53178 17 = .ok (.goto (-12), 3) := by decide +kernel
theorem dJ7_fill_53178_20 : decode cJ7_fill_53178 20 = .ok (.return_, 1) := by decide +kernel
