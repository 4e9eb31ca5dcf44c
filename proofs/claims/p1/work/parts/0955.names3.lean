/-- a text constant: the object q, its bytes' row v, n bytes f -/
def ks (q v n : Nat) (f : Nat → Int32) (A : Nat → Prop) (U : State) (H : Heap) : Prop := va_O "java/lang/String" q A U H ∧ va_OF "java/lang/String" "coder" "B" (.int 0) q A U H ∧ va_OF "java/lang/String" "value" "[B" (.ref v) q A U H ∧ va_T .byte v n (fun j => .int (f j)) A U H
theorem ks.moved {q v n : Nat} {f : Nat → Int32} {A : Nat → Prop} {u U : State} {H : Heap} (hvm : u.vm.Alike U.vm) (h : ks q v n f A u H) : ks q v n f A U H := ⟨va_O.moved hvm h.1, va_OF.moved hvm h.2.1, va_OF.moved hvm h.2.2.1, va_T.moved hvm h.2.2.2⟩
theorem ks.kept {q v n : Nat} {f : Nat → Int32} {A : Nat → Prop} {U : State} {H H1 : Heap} (h : ks q v n f A U H) (hq : ∀ a : Nat, a < H.size → ¬ A a → H1[a]? = H[a]?) : ks q v n f A U H1 := ⟨h.1.kept hq, h.2.1.kept hq, h.2.2.1.kept hq, h.2.2.2.kept hq⟩
theorem ks.narrow {q v n : Nat} {f : Nat → Int32} {A B : Nat → Prop} {U : State} {H : Heap} (h : ks q v n f A U H) (hAB : ∀ q, B q → A q) : ks q v n f B U H := ⟨h.1.narrow hAB, h.2.1.narrow hAB, h.2.2.1.narrow hAB, h.2.2.2.narrow hAB⟩
theorem ks_recv {q v n : Nat} {f : Nat → Int32} {A : Nat → Prop} {s : State} {H : Heap} {locs : List Loc} (h : ks q v n f A s s.heap) (hS : va_S A s.heap H locs) : ∃ cell : Cell, H[q]? = some cell ∧ cell.vm.isStatics = false ∧ s.vm.findClass RJ0 = some cell.cls := by
  obtain ⟨cell, h1, h2, h3, -⟩ := h.1.kept hS.2.1
  exact ⟨cell, h1, h2, h3⟩
theorem va_ldcSW {p : Program} {l : Launch} {e : Env} {R : Room} {s : State} {m : MethodId} {args : Array Value} {below : List Frame} {meth : Method} {c : Code} {H : Heap} {locs : List Loc} {cells slots : Nat} {Q : State → Prop} {cc : ByteArray} {pc : Nat} {ls : Array Slot} {rest : List Value} (hexec : p.tables.exec = Jvm.exec) (hb : c.code = cc) {own tx : String} {index q : Nat} (hown : s.vm.findClass own = some m.cls) (hZ : vk_R own index tx q s) (hdg : decode cc pc = .ok (.ldc_w index, 3))
    (k : W p l e R s m args below meth c H locs cells slots Q (F0 m (pc + 3) ls (.ref q :: rest))) : W p l e R s m args below meth c H locs cells slots Q (F0 m pc ls rest) := by
  intro T hT X
  obtain ⟨t, a1, b1⟩ := k T hT X
  exact ⟨t, X.ldcStringW hexec hown (text := tx) (a := q) hZ.1 hZ.2 (g := F0 m pc ls rest) rfl (by rw [hb]; exact hdg) _ a1, b1⟩
theorem vx_athrow {p : Program} {l : Launch} {e : Env} {R : Room} {s : State} {m : MethodId} {args : Array Value} {below : List Frame} {meth : Method} {c : Code} {H : Heap} {locs : List Loc} {cells slots : Nat} {Q : State → Prop} {ls : Array Slot} {rest : List Value} {cc : ByteArray} {pc : Nat} (hexec : p.tables.exec = Jvm.exec) (hb : c.code = cc) {q : Addr} (hdg : decode cc pc = .ok (.athrow, 1)) (k : vx_W p l e R s m args below meth c H locs cells slots Q (F0 m pc ls rest) q) : W p l e R s m args below meth c H locs cells slots Q (F0 m pc ls (.ref q :: rest)) := by
  intro T hT X
  obtain ⟨t, st, hq⟩ := k T hT X
  refine ⟨t, ?_, hq⟩
  have hdg' : decode c.code pc = .ok (.athrow, 1) := by rw [hb]; exact hdg
  jvm_step X.here [X.here.top, hexec, hdg', athrow.wp_sem]
  exact st
abbrev kwT : String := "AND ARRAY BEGIN BOOLEAN BROADCAST CONDITION DIV DO ELSE ELSIF END EXCEPT EXCEPTION EXIT FALSE FINALLY FOR FORK IF IMPORT INTEGER INTERFACE ISTYPE JOIN LOCK LOOP METHODS MOD MODULE MUTEX NARROW NEW NIL NOT OBJECT OF OR OVERRIDES PROCEDURE PUT RAISE RAISES RECORD REF RETURN REVEAL ROOT SIGNAL THEN THREAD TO TRUE TRY TYPE TYPECASE VAR WAIT WHILE "
abbrev kx169 : String := "there is no program"
abbrev kx180 : String := "n is not 0 .. 2000"
abbrev kx187 : String := "no run has begun"
theorem fu_out {F G : Nat → Value} {k j : Nat} {v : Value} (e : G = fu F k v) (h : j ≠ k) : G j = F j := by rw [e]; simp [fu, h]
def RJ1 : String := "java/lang/StringLatin1"
def RJ3 : String := "jdk/internal/util/Preconditions"
abbrev cX13_see : ByteArray := prog_14_method_8_code
def yX13_see : MethodName := ⟨RX13, "see", "(I)I"⟩
abbrev cX13_nameOf : ByteArray := prog_14_method_12_code
def yX13_nameOf : MethodName := ⟨RX13, "nameOf", "(I)I"⟩
abbrev cX13_knowWords : ByteArray := prog_14_method_13_code
def yX13_knowWords : MethodName := ⟨RX13, "knowWords", "()V"⟩
abbrev cX13_token : ByteArray := prog_14_method_14_code
def yX13_token : MethodName := ⟨RX13, "token", "(III)V"⟩
abbrev cX13_passes : ByteArray := prog_14_method_15_code
def yX13_passes : MethodName := ⟨RX13, "passes", "()Z"⟩
abbrev cX13_cut : ByteArray := prog_14_method_17_code
def yX13_cut : MethodName := ⟨RX13, "cut", "()V"⟩
abbrev cX13_first : ByteArray := prog_14_method_21_code
def yX13_first : MethodName := ⟨RX13, "first", "(II)V"⟩
abbrev cX13_line : ByteArray := prog_14_method_23_code
def yX13_line : MethodName := ⟨RX13, "line", "()I"⟩
abbrev cX13_look : ByteArray := prog_14_method_25_code
def yX13_look : MethodName := ⟨RX13, "look", "()V"⟩
abbrev cX13_unfit : ByteArray := prog_14_method_27_code
def yX13_unfit : MethodName := ⟨RX13, "unfit", "()V"⟩
abbrev cX13_is : ByteArray := prog_14_method_28_code
def yX13_is : MethodName := ⟨RX13, "is", "(I)Z"⟩
abbrev cX13_parse : ByteArray := prog_14_method_33_code
def yX13_parse : MethodName := ⟨RX13, "parse", "()V"⟩
abbrev cX13_read : ByteArray := prog_14_method_170_code
def yX13_read : MethodName := ⟨RX13, "read", "()I"⟩
abbrev cJ0_length_8abf5 : ByteArray := prog_26_method_54_code
def yJ0_length_8abf5 : MethodName := ⟨RJ0, "length", "()I"⟩
abbrev cJ0_charAt_5068e : ByteArray := prog_26_method_56_code
def yJ0_charAt_5068e : MethodName := ⟨RJ0, "charAt", "(I)C"⟩
abbrev cJ0_coder_7d493 : ByteArray := prog_26_method_152_code
def yJ0_coder_7d493 : MethodName := ⟨RJ0, "coder", "()B"⟩
abbrev cJ0_isLatin1_aae02 : ByteArray := prog_26_method_154_code
def yJ0_isLatin1_aae02 : MethodName := ⟨RJ0, "isLatin1", "()Z"⟩
abbrev cJ0_checkIndex_df160 : ByteArray := prog_26_method_155_code
def yJ0_checkIndex_df160 : MethodName := ⟨RJ0, "checkIndex", "(II)V"⟩
abbrev cJ1_charAt_3b067 : ByteArray := prog_28_method_2_code
def yJ1_charAt_3b067 : MethodName := ⟨RJ1, "charAt", "([BI)C"⟩
abbrev cJ3_checkIndex_8e157 : ByteArray := prog_34_method_11_code
def yJ3_checkIndex_8e157 : MethodName := ⟨RJ3, "checkIndex", "(IILjava/util/function/BiFunction;)I"⟩
theorem dX13_see_0 : decode cX13_see 0 = .ok (.iload_n 1, 1) := by decide +kernel
theorem dX13_see_1 : decode cX13_see 1 = .ok (.aload_n 0, 1) := by decide +kernel
theorem dX13_see_2 : decode cX13_see 2 = .ok (.getfield 262, 3) := by decide +kernel
theorem dX13_see_5 : decode cX13_see 5 = .ok (.if_icmp .ge 16, 3) := by decide +kernel
theorem dX13_see_21 : decode cX13_see 21 = .ok (.iconst (-1), 1) := by decide +kernel
theorem dX13_see_22 : decode cX13_see 22 = .ok (.ireturn, 1) := by decide +kernel
theorem dX13_nameOf_0 : decode cX13_nameOf 0 = .ok (.iconst 0, 1) := by decide +kernel
theorem dX13_nameOf_1 : decode cX13_nameOf 1 = .ok (.istore_n 2, 1) := by decide +kernel
theorem dX13_nameOf_2 : decode cX13_nameOf 2 = .ok (.iload_n 2, 1) := by decide +kernel
theorem dX13_nameOf_3 : decode cX13_nameOf 3 = .ok (.aload_n 0, 1) := by decide +kernel
theorem dX13_nameOf_4 : decode cX13_nameOf 4 = .ok (.getfield 276, 3) := by decide +kernel
theorem dX13_nameOf_7 : decode cX13_nameOf 7 = .ok (.if_icmp .ge 85, 3) := by decide +kernel
theorem dX13_nameOf_10 : decode cX13_nameOf 10 = .ok (.aload_n 0, 1) := by decide +kernel
theorem dX13_nameOf_11 : decode cX13_nameOf 11 = .ok (.getfield 36, 3) := by decide +kernel
theorem dX13_nameOf_14 : decode cX13_nameOf 14 = .ok (.iload_n 2, 1) := by decide +kernel
theorem dX13_nameOf_15 : decode cX13_nameOf 15 = .ok (.iaload, 1) := by decide +kernel
theorem dX13_nameOf_16 : decode cX13_nameOf 16 = .ok (.iload_n 1, 1) := by decide +kernel
theorem dX13_nameOf_17 : decode cX13_nameOf 17 = .ok (.if_icmp .ne 7, 3) := by decide +kernel
theorem dX13_nameOf_20 : decode cX13_nameOf 20 = .ok (.iconst 1, 1) := by decide +kernel
theorem dX13_nameOf_21 : decode cX13_nameOf 21 = .ok (.goto 4, 3) := by decide +kernel
theorem dX13_nameOf_24 : decode cX13_nameOf 24 = .ok (.iconst 0, 1) := by decide +kernel
theorem dX13_nameOf_25 : decode cX13_nameOf 25 = .ok (.istore_n 3, 1) := by decide +kernel
theorem dX13_nameOf_26 : decode cX13_nameOf 26 = .ok (.iconst 0, 1) := by decide +kernel
theorem dX13_nameOf_27 : decode cX13_nameOf 27 = .ok (.istore 4, 2) := by decide +kernel
theorem dX13_nameOf_29 : decode cX13_nameOf 29 = .ok (.iload_n 3, 1) := by decide +kernel
theorem dX13_nameOf_30 : decode cX13_nameOf 30 = .ok (.ifCond .eq 50, 3) := by decide +kernel
theorem dX13_nameOf_33 : decode cX13_nameOf 33 = .ok (.iload 4, 2) := by decide +kernel
theorem dX13_nameOf_35 : decode cX13_nameOf 35 = .ok (.iload_n 1, 1) := by decide +kernel
theorem dX13_nameOf_36 : decode cX13_nameOf 36 = .ok (.if_icmp .ge 44, 3) := by decide +kernel
theorem dX13_nameOf_39 : decode cX13_nameOf 39 = .ok (.aload_n 0, 1) := by decide +kernel
theorem dX13_nameOf_40 : decode cX13_nameOf 40 = .ok (.getfield 39, 3) := by decide +kernel
theorem dX13_nameOf_43 : decode cX13_nameOf 43 = .ok (.aload_n 0, 1) := by decide +kernel
theorem dX13_nameOf_44 : decode cX13_nameOf 44 = .ok (.getfield 33, 3) := by decide +kernel
theorem dX13_nameOf_47 : decode cX13_nameOf 47 = .ok (.iload_n 2, 1) := by decide +kernel
theorem dX13_nameOf_48 : decode cX13_nameOf 48 = .ok (.iaload, 1) := by decide +kernel
theorem dX13_nameOf_49 : decode cX13_nameOf 49 = .ok (.iload 4, 2) := by decide +kernel
theorem dX13_nameOf_51 : decode cX13_nameOf 51 = .ok (.iadd, 1) := by decide +kernel
theorem dX13_nameOf_52 : decode cX13_nameOf 52 = .ok (.baload, 1) := by decide +kernel
theorem dX13_nameOf_53 : decode cX13_nameOf 53 = .ok (.aload_n 0, 1) := by decide +kernel
theorem dX13_nameOf_54 : decode cX13_nameOf 54 = .ok (.getfield 39, 3) := by decide +kernel
theorem dX13_nameOf_57 : decode cX13_nameOf 57 = .ok (.aload_n 0, 1) := by decide +kernel
theorem dX13_nameOf_58 : decode cX13_nameOf 58 = .ok (.getfield 279, 3) := by decide +kernel
theorem dX13_nameOf_61 : decode cX13_nameOf 61 = .ok (.iload 4, 2) := by decide +kernel
theorem dX13_nameOf_63 : decode cX13_nameOf 63 = .ok (.iadd, 1) := by decide +kernel
theorem dX13_nameOf_64 : decode cX13_nameOf 64 = .ok (.baload, 1) := by decide +kernel
theorem dX13_nameOf_65 : decode cX13_nameOf 65 = .ok (.if_icmp .ne 7, 3) := by decide +kernel
theorem dX13_nameOf_68 : decode cX13_nameOf 68 = .ok (.iconst 1, 1) := by decide +kernel
theorem dX13_nameOf_69 : decode cX13_nameOf 69 = .ok (.goto 4, 3) := by decide +kernel
theorem dX13_nameOf_72 : decode cX13_nameOf 72 = .ok (.iconst 0, 1) := by decide +kernel
theorem dX13_nameOf_73 : decode cX13_nameOf 73 = .ok (.istore_n 3, 1) := by decide +kernel
theorem dX13_nameOf_74 : decode cX13_nameOf 74 = .ok (.iinc 4 1, 3) := by decide +kernel
theorem dX13_nameOf_77 : decode cX13_nameOf 77 = .ok (.goto (-48), 3) := by decide +kernel
theorem dX13_nameOf_80 : decode cX13_nameOf 80 = .ok (.iload_n 3, 1) := by decide +kernel
theorem dX13_nameOf_81 : decode cX13_nameOf 81 = .ok (.ifCond .eq 5, 3) := by decide +kernel
theorem dX13_nameOf_84 : decode cX13_nameOf 84 = .ok (.iload_n 2, 1) := by decide +kernel
theorem dX13_nameOf_85 : decode cX13_nameOf 85 = .ok (.ireturn, 1) := by decide +kernel
theorem dX13_nameOf_86 : decode cX13_nameOf 86 = .ok (.iinc 2 1, 3) := by decide +kernel
theorem dX13_nameOf_89 : decode cX13_nameOf 89 = .ok (.goto (-87), 3) := by decide +kernel
theorem dX13_nameOf_92 : decode cX13_nameOf 92 = .ok (.aload_n 0, 1) := by decide +kernel
theorem dX13_nameOf_93 : decode cX13_nameOf 93 = .ok (.getfield 33, 3) := by decide +kernel
theorem dX13_nameOf_96 : decode cX13_nameOf 96 = .ok (.aload_n 0, 1) := by decide +kernel
theorem dX13_nameOf_97 : decode cX13_nameOf 97 = .ok (.getfield 276, 3) := by decide +kernel
theorem dX13_nameOf_100 : decode cX13_nameOf 100 = .ok (.aload_n 0, 1) := by decide +kernel
theorem dX13_nameOf_101 : decode cX13_nameOf 101 = .ok (.getfield 279, 3) := by decide +kernel
theorem dX13_nameOf_104 : decode cX13_nameOf 104 = .ok (.iastore, 1) := by decide +kernel
theorem dX13_nameOf_105 : decode cX13_nameOf 105 = .ok (.aload_n 0, 1) := by decide +kernel
theorem dX13_nameOf_106 : decode cX13_nameOf 106 = .ok (.getfield 36, 3) := by decide +kernel
theorem dX13_nameOf_109 : decode cX13_nameOf 109 = .ok (.aload_n 0, 1) := by decide +kernel
theorem dX13_nameOf_110 : decode cX13_nameOf 110 = .ok (.getfield 276, 3) := by decide +kernel
theorem dX13_nameOf_113 : decode cX13_nameOf 113 = .ok (.iload_n 1, 1) := by decide +kernel
theorem dX13_nameOf_114 : decode cX13_nameOf 114 = .ok (.iastore, 1) := by decide +kernel
theorem dX13_nameOf_115 : decode cX13_nameOf 115 = .ok (.aload_n 0, 1) := by decide +kernel
theorem dX13_nameOf_116 : decode cX13_nameOf 116 = .ok (.dup, 1) := by decide +kernel
theorem dX13_nameOf_117 : decode cX13_nameOf 117 = .ok (.getfield 279, 3) := by decide +kernel
theorem dX13_nameOf_120 : decode cX13_nameOf 120 = .ok (.iload_n 1, 1) := by decide +kernel
theorem dX13_nameOf_121 : decode cX13_nameOf 121 = .ok (.iadd, 1) := by decide +kernel
theorem dX13_nameOf_122 : decode cX13_nameOf 122 = .ok (.putfield 279, 3) := by decide +kernel
theorem dX13_nameOf_125 : decode cX13_nameOf 125 = .ok (.aload_n 0, 1) := by decide +kernel
theorem dX13_nameOf_126 : decode cX13_nameOf 126 = .ok (.dup, 1) := by decide +kernel
theorem dX13_nameOf_127 : decode cX13_nameOf 127 = .ok (.getfield 276, 3) := by decide +kernel
theorem dX13_nameOf_130 : decode cX13_nameOf 130 = .ok (.iconst 1, 1) := by decide +kernel
theorem dX13_nameOf_131 : decode cX13_nameOf 131 = .ok (.iadd, 1) := by decide +kernel
theorem dX13_nameOf_132 : decode cX13_nameOf 132 = .ok (.putfield 276, 3) := by decide +kernel
theorem dX13_nameOf_135 : decode cX13_nameOf 135 = .ok (.aload_n 0, 1) := by decide +kernel
theorem dX13_nameOf_136 : decode cX13_nameOf 136 = .ok (.getfield 276, 3) := by decide +kernel
theorem dX13_nameOf_139 : decode cX13_nameOf 139 = .ok (.iconst 1, 1) := by decide +kernel
theorem dX13_nameOf_140 : decode cX13_nameOf 140 = .ok (.isub, 1) := by decide +kernel
theorem dX13_nameOf_141 : decode cX13_nameOf 141 = .ok (.ireturn, 1) := by decide +kernel
theorem dX13_knowWords_0 : decode cX13_knowWords 0 = .ok (.aload_n 0, 1) := by decide +kernel
theorem dX13_knowWords_1 : decode cX13_knowWords 1 = .ok (.iconst 0, 1) := by decide +kernel
theorem dX13_knowWords_2 : decode cX13_knowWords 2 = .ok (.putfield 276, 3) := by decide +kernel
theorem dX13_knowWords_5 : decode cX13_knowWords 5 = .ok (.aload_n 0, 1) := by decide +kernel
theorem dX13_knowWords_6 : decode cX13_knowWords 6 = .ok (.iconst 0, 1) := by decide +kernel
theorem dX13_knowWords_7 : decode cX13_knowWords 7 = .ok (.putfield 279, 3) := by decide +kernel
theorem dX13_knowWords_10 : decode cX13_knowWords 10 = .ok (.iconst 0, 1) := by decide +kernel
theorem dX13_knowWords_11 : decode cX13_knowWords 11 = .ok (.istore_n 1, 1) := by decide +kernel
theorem dX13_knowWords_12 : decode cX13_knowWords 12 = .ok (.iconst 0, 1) := by decide +kernel
theorem dX13_knowWords_13 : decode cX13_knowWords 13 = .ok (.istore_n 2, 1) := by decide +kernel
theorem dX13_knowWords_14 : decode cX13_knowWords 14 = .ok (.iload_n 2, 1) := by decide +kernel
theorem dX13_knowWords_15 : decode cX13_knowWords 15 = .ok (.ldc_w 282, 3) := by decide +kernel
theorem dX13_knowWords_18 : decode cX13_knowWords 18 = .ok (.invokevirtual 284, 3) := by decide +kernel
theorem dX13_knowWords_21 : decode cX13_knowWords 21 = .ok (.if_icmp .ge 54, 3) := by decide +kernel
theorem dX13_knowWords_24 : decode cX13_knowWords 24 = .ok (.ldc_w 282, 3) := by decide +kernel
theorem dX13_knowWords_27 : decode cX13_knowWords 27 = .ok (.iload_n 2, 1) := by decide +kernel
theorem dX13_knowWords_28 : decode cX13_knowWords 28 = .ok (.invokevirtual 290, 3) := by decide +kernel
theorem dX13_knowWords_31 : decode cX13_knowWords 31 = .ok (.bipush 32, 2) := by decide +kernel
theorem dX13_knowWords_33 : decode cX13_knowWords 33 = .ok (.if_icmp .ne 14, 3) := by decide +kernel
theorem dX13_knowWords_36 : decode cX13_knowWords 36 = .ok (.aload_n 0, 1) := by decide +kernel
theorem dX13_knowWords_37 : decode cX13_knowWords 37 = .ok (.iload_n 1, 1) := by decide +kernel
theorem dX13_knowWords_38 : decode cX13_knowWords 38 = .ok (.invokevirtual 294, 3) := by decide +kernel
theorem dX13_knowWords_41 : decode cX13_knowWords 41 = .ok (.istore_n 3, 1) := by decide +kernel
theorem dX13_knowWords_42 : decode cX13_knowWords 42 = .ok (.iconst 0, 1) := by decide +kernel
theorem dX13_knowWords_43 : decode cX13_knowWords 43 = .ok (.istore_n 1, 1) := by decide +kernel
theorem dX13_knowWords_44 : decode cX13_knowWords 44 = .ok (.goto 25, 3) := by decide +kernel
theorem dX13_knowWords_47 : decode cX13_knowWords 47 = .ok (.aload_n 0, 1) := by decide +kernel
theorem dX13_knowWords_48 : decode cX13_knowWords 48 = .ok (.getfield 39, 3) := by decide +kernel
theorem dX13_knowWords_51 : decode cX13_knowWords 51 = .ok (.aload_n 0, 1) := by decide +kernel
theorem dX13_knowWords_52 : decode cX13_knowWords 52 = .ok (.getfield 279, 3) := by decide +kernel
theorem dX13_knowWords_55 : decode cX13_knowWords 55 = .ok (.iload_n 1, 1) := by decide +kernel
theorem dX13_knowWords_56 : decode cX13_knowWords 56 = .ok (.iadd, 1) := by decide +kernel
theorem dX13_knowWords_57 : decode cX13_knowWords 57 = .ok (.ldc_w 282, 3) := by decide +kernel
theorem dX13_knowWords_60 : decode cX13_knowWords 60 = .ok (.iload_n 2, 1) := by decide +kernel
theorem dX13_knowWords_61 : decode cX13_knowWords 61 = .ok (.invokevirtual 290, 3) := by decide +kernel
theorem dX13_knowWords_64 : decode cX13_knowWords 64 = .ok (.i2b, 1) := by decide +kernel
theorem dX13_knowWords_65 : decode cX13_knowWords 65 = .ok (.bastore, 1) := by decide +kernel
theorem dX13_knowWords_66 : decode cX13_knowWords 66 = .ok (.iinc 1 1, 3) := by decide +kernel
theorem dX13_knowWords_69 : decode cX13_knowWords 69 = .ok (.iinc 2 1, 3) := by decide +kernel
theorem dX13_knowWords_72 : decode cX13_knowWords 72 = .ok (.goto (-58), 3) := by decide +kernel
theorem dX13_knowWords_75 : decode cX13_knowWords 75 = .ok (.return_, 1) := by decide +kernel
theorem dX13_token_0 : decode cX13_token 0 = .ok (.aload_n 0, 1) := by decide +kernel
theorem dX13_token_1 : decode cX13_token 1 = .ok (.getfield 23, 3) := by decide +kernel
theorem dX13_token_4 : decode cX13_token 4 = .ok (.aload_n 0, 1) := by decide +kernel
theorem dX13_token_5 : decode cX13_token 5 = .ok (.getfield 298, 3) := by decide +kernel
theorem dX13_token_8 : decode cX13_token 8 = .ok (.iload_n 1, 1) := by decide +kernel
theorem dX13_token_9 : decode cX13_token 9 = .ok (.iastore, 1) := by decide +kernel
theorem dX13_token_10 : decode cX13_token 10 = .ok (.aload_n 0, 1) := by decide +kernel
theorem dX13_token_11 : decode cX13_token 11 = .ok (.getfield 27, 3) := by decide +kernel
theorem dX13_token_14 : decode cX13_token 14 = .ok (.aload_n 0, 1) := by decide +kernel
theorem dX13_token_15 : decode cX13_token 15 = .ok (.getfield 298, 3) := by decide +kernel
theorem dX13_token_18 : decode cX13_token 18 = .ok (.iload_n 2, 1) := by decide +kernel
theorem dX13_token_19 : decode cX13_token 19 = .ok (.iastore, 1) := by decide +kernel
theorem dX13_token_20 : decode cX13_token 20 = .ok (.aload_n 0, 1) := by decide +kernel
theorem dX13_token_21 : decode cX13_token 21 = .ok (.getfield 30, 3) := by decide +kernel
theorem dX13_token_24 : decode cX13_token 24 = .ok (.aload_n 0, 1) := by decide +kernel
theorem dX13_token_25 : decode cX13_token 25 = .ok (.getfield 298, 3) := by decide +kernel
theorem dX13_token_28 : decode cX13_token 28 = .ok (.iload_n 3, 1) := by decide +kernel
theorem dX13_token_29 : decode cX13_token 29 = .ok (.iastore, 1) := by decide +kernel
theorem dX13_token_30 : decode cX13_token 30 = .ok (.aload_n 0, 1) := by decide +kernel
theorem dX13_token_31 : decode cX13_token 31 = .ok (.dup, 1) := by decide +kernel
theorem dX13_token_32 : decode cX13_token 32 = .ok (.getfield 298, 3) := by decide +kernel
theorem dX13_token_35 : decode cX13_token 35 = .ok (.iconst 1, 1) := by decide +kernel
theorem dX13_token_36 : decode cX13_token 36 = .ok (.iadd, 1) := by decide +kernel
theorem dX13_token_37 : decode cX13_token 37 = .ok (.putfield 298, 3) := by decide +kernel
theorem dX13_token_40 : decode cX13_token 40 = .ok (.return_, 1) := by decide +kernel
theorem dX13_passes_0 : decode cX13_passes 0 = .ok (.aload_n 0, 1) := by decide +kernel
theorem dX13_passes_1 : decode cX13_passes 1 = .ok (.aload_n 0, 1) := by decide +kernel
theorem dX13_passes_2 : decode cX13_passes 2 = .ok (.getfield 301, 3) := by decide +kernel
theorem dX13_passes_5 : decode cX13_passes 5 = .ok (.invokevirtual 304, 3) := by decide +kernel
theorem dX13_passes_8 : decode cX13_passes 8 = .ok (.istore_n 1, 1) := by decide +kernel
theorem dX13_passes_9 : decode cX13_passes 9 = .ok (.iload_n 1, 1) := by decide +kernel
theorem dX13_passes_10 : decode cX13_passes 10 = .ok (.bipush 9, 2) := by decide +kernel
theorem dX13_passes_12 : decode cX13_passes 12 = .ok (.if_icmp .eq 21, 3) := by decide +kernel
theorem dX13_passes_15 : decode cX13_passes 15 = .ok (.iload_n 1, 1) := by decide +kernel
theorem dX13_passes_16 : decode cX13_passes 16 = .ok (.bipush 10, 2) := by decide +kernel
theorem dX13_passes_18 : decode cX13_passes 18 = .ok (.if_icmp .eq 15, 3) := by decide +kernel
theorem dX13_passes_21 : decode cX13_passes 21 = .ok (.iload_n 1, 1) := by decide +kernel
theorem dX13_passes_22 : decode cX13_passes 22 = .ok (.bipush 13, 2) := by decide +kernel
theorem dX13_passes_24 : decode cX13_passes 24 = .ok (.if_icmp .eq 9, 3) := by decide +kernel
theorem dX13_passes_27 : decode cX13_passes 27 = .ok (.iload_n 1, 1) := by decide +kernel
theorem dX13_passes_28 : decode cX13_passes 28 = .ok (.bipush 32, 2) := by decide +kernel
theorem dX13_passes_30 : decode cX13_passes 30 = .ok (.if_icmp .ne 39, 3) := by decide +kernel
theorem dX13_passes_69 : decode cX13_passes 69 = .ok (.iload_n 1, 1) := by decide +kernel
theorem dX13_passes_70 : decode cX13_passes 70 = .ok (.bipush 40, 2) := by decide +kernel
theorem dX13_passes_72 : decode cX13_passes 72 = .ok (.if_icmp .ne 27, 3) := by decide +kernel
theorem dX13_passes_99 : decode cX13_passes 99 = .ok (.iconst 1, 1) := by decide +kernel
theorem dX13_passes_100 : decode cX13_passes 100 = .ok (.ireturn, 1) := by decide +kernel
theorem dX13_cut_0 : decode cX13_cut 0 = .ok (.aload_n 0, 1) := by decide +kernel
theorem dX13_cut_1 : decode cX13_cut 1 = .ok (.invokevirtual 314, 3) := by decide +kernel
theorem dX13_cut_4 : decode cX13_cut 4 = .ok (.aload_n 0, 1) := by decide +kernel
theorem dX13_cut_5 : decode cX13_cut 5 = .ok (.iconst 0, 1) := by decide +kernel
theorem dX13_cut_6 : decode cX13_cut 6 = .ok (.putfield 298, 3) := by decide +kernel
theorem dX13_cut_9 : decode cX13_cut 9 = .ok (.aload_n 0, 1) := by decide +kernel
theorem dX13_cut_10 : decode cX13_cut 10 = .ok (.iconst 0, 1) := by decide +kernel
theorem dX13_cut_11 : decode cX13_cut 11 = .ok (.putfield 301, 3) := by decide +kernel
theorem dX13_cut_14 : decode cX13_cut 14 = .ok (.aload_n 0, 1) := by decide +kernel
theorem dX13_cut_15 : decode cX13_cut 15 = .ok (.iconst 1, 1) := by decide +kernel
theorem dX13_cut_16 : decode cX13_cut 16 = .ok (.putfield 307, 3) := by decide +kernel
theorem dX13_cut_19 : decode cX13_cut 19 = .ok (.iconst 1, 1) := by decide +kernel
theorem dX13_cut_20 : decode cX13_cut 20 = .ok (.istore_n 1, 1) := by decide +kernel
theorem dX13_cut_21 : decode cX13_cut 21 = .ok (.iload_n 1, 1) := by decide +kernel
theorem dX13_cut_22 : decode cX13_cut 22 = .ok (.ifCond .eq 55, 3) := by decide +kernel
theorem dX13_cut_25 : decode cX13_cut 25 = .ok (.aload_n 0, 1) := by decide +kernel
theorem dX13_cut_26 : decode cX13_cut 26 = .ok (.invokevirtual 317, 3) := by decide +kernel
theorem dX13_cut_29 : decode cX13_cut 29 = .ok (.ifCond .ne 16, 3) := by decide +kernel
theorem dX13_cut_45 : decode cX13_cut 45 = .ok (.aload_n 0, 1) := by decide +kernel
theorem dX13_cut_46 : decode cX13_cut 46 = .ok (.getfield 301, 3) := by decide +kernel
theorem dX13_cut_49 : decode cX13_cut 49 = .ok (.aload_n 0, 1) := by decide +kernel
theorem dX13_cut_50 : decode cX13_cut 50 = .ok (.getfield 262, 3) := by decide +kernel
theorem dX13_cut_53 : decode cX13_cut 53 = .ok (.if_icmp .ne 16, 3) := by decide +kernel
theorem dX13_cut_56 : decode cX13_cut 56 = .ok (.aload_n 0, 1) := by decide +kernel
theorem dX13_cut_57 : decode cX13_cut 57 = .ok (.sipush 203, 3) := by decide +kernel
theorem dX13_cut_60 : decode cX13_cut 60 = .ok (.iconst 0, 1) := by decide +kernel
theorem dX13_cut_61 : decode cX13_cut 61 = .ok (.aload_n 0, 1) := by decide +kernel
theorem dX13_cut_62 : decode cX13_cut 62 = .ok (.getfield 307, 3) := by decide +kernel
theorem dX13_cut_65 : decode cX13_cut 65 = .ok (.invokevirtual 320, 3) := by decide +kernel
theorem dX13_cut_68 : decode cX13_cut 68 = .ok (.return_, 1) := by decide +kernel
theorem dX13_first_0 : decode cX13_first 0 = .ok (.aload_n 0, 1) := by decide +kernel
theorem dX13_first_1 : decode cX13_first 1 = .ok (.iload_n 1, 1) := by decide +kernel
theorem dX13_first_2 : decode cX13_first 2 = .ok (.putfield 343, 3) := by decide +kernel
theorem dX13_first_5 : decode cX13_first 5 = .ok (.aload_n 0, 1) := by decide +kernel
theorem dX13_first_6 : decode cX13_first 6 = .ok (.iload_n 2, 1) := by decide +kernel
theorem dX13_first_7 : decode cX13_first 7 = .ok (.putfield 346, 3) := by decide +kernel
theorem dX13_first_10 : decode cX13_first 10 = .ok (.aload_n 0, 1) := by decide +kernel
theorem dX13_first_11 : decode cX13_first 11 = .ok (.getfield 10, 3) := by decide +kernel
theorem dX13_first_14 : decode cX13_first 14 = .ok (.athrow, 1) := by decide +kernel
theorem dX13_line_0 : decode cX13_line 0 = .ok (.aload_n 0, 1) := by decide +kernel
theorem dX13_line_1 : decode cX13_line 1 = .ok (.getfield 30, 3) := by decide +kernel
theorem dX13_line_4 : decode cX13_line 4 = .ok (.aload_n 0, 1) := by decide +kernel
theorem dX13_line_5 : decode cX13_line 5 = .ok (.getfield 349, 3) := by decide +kernel
theorem dX13_line_8 : decode cX13_line 8 = .ok (.iaload, 1) := by decide +kernel
theorem dX13_line_9 : decode cX13_line 9 = .ok (.ireturn, 1) := by decide +kernel
theorem dX13_look_0 : decode cX13_look 0 = .ok (.aload_n 0, 1) := by decide +kernel
theorem dX13_look_1 : decode cX13_look 1 = .ok (.getfield 23, 3) := by decide +kernel
theorem dX13_look_4 : decode cX13_look 4 = .ok (.aload_n 0, 1) := by decide +kernel
theorem dX13_look_5 : decode cX13_look 5 = .ok (.getfield 349, 3) := by decide +kernel
theorem dX13_look_8 : decode cX13_look 8 = .ok (.iaload, 1) := by decide +kernel
theorem dX13_look_9 : decode cX13_look 9 = .ok (.sipush 202, 3) := by decide +kernel
theorem dX13_look_12 : decode cX13_look 12 = .ok (.if_icmp .ne 12, 3) := by decide +kernel
theorem dX13_look_24 : decode cX13_look 24 = .ok (.return_, 1) := by decide +kernel
theorem dX13_unfit_0 : decode cX13_unfit 0 = .ok (.aload_n 0, 1) := by decide +kernel
theorem dX13_unfit_1 : decode cX13_unfit 1 = .ok (.iconst 2, 1) := by decide +kernel
theorem dX13_unfit_2 : decode cX13_unfit 2 = .ok (.aload_n 0, 1) := by decide +kernel
theorem dX13_unfit_3 : decode cX13_unfit 3 = .ok (.invokevirtual 355, 3) := by decide +kernel
theorem dX13_unfit_6 : decode cX13_unfit 6 = .ok (.invokevirtual 364, 3) := by decide +kernel
theorem dX13_is_0 : decode cX13_is 0 = .ok (.aload_n 0, 1) := by decide +kernel
theorem dX13_is_1 : decode cX13_is 1 = .ok (.getfield 23, 3) := by decide +kernel
theorem dX13_is_4 : decode cX13_is 4 = .ok (.aload_n 0, 1) := by decide +kernel
theorem dX13_is_5 : decode cX13_is 5 = .ok (.getfield 349, 3) := by decide +kernel
theorem dX13_is_8 : decode cX13_is 8 = .ok (.iaload, 1) := by decide +kernel
theorem dX13_is_9 : decode cX13_is 9 = .ok (.iload_n 1, 1) := by decide +kernel
theorem dX13_is_10 : decode cX13_is 10 = .ok (.if_icmp .ne 7, 3) := by decide +kernel
theorem dX13_is_17 : decode cX13_is 17 = .ok (.iconst 0, 1) := by decide +kernel
theorem dX13_is_18 : decode cX13_is 18 = .ok (.ireturn, 1) := by decide +kernel
theorem dX13_parse_0 : decode cX13_parse 0 = .ok (.aload_n 0, 1) := by decide +kernel
theorem dX13_parse_1 : decode cX13_parse 1 = .ok (.iconst 0, 1) := by decide +kernel
theorem dX13_parse_2 : decode cX13_parse 2 = .ok (.putfield 352, 3) := by decide +kernel
theorem dX13_parse_5 : decode cX13_parse 5 = .ok (.aload_n 0, 1) := by decide +kernel
theorem dX13_parse_6 : decode cX13_parse 6 = .ok (.iconst 0, 1) := by decide +kernel
theorem dX13_parse_7 : decode cX13_parse 7 = .ok (.putfield 349, 3) := by decide +kernel
theorem dX13_parse_10 : decode cX13_parse 10 = .ok (.aload_n 0, 1) := by decide +kernel
theorem dX13_parse_11 : decode cX13_parse 11 = .ok (.iconst 0, 1) := by decide +kernel
theorem dX13_parse_12 : decode cX13_parse 12 = .ok (.putfield 358, 3) := by decide +kernel
theorem dX13_parse_15 : decode cX13_parse 15 = .ok (.aload_n 0, 1) := by decide +kernel
theorem dX13_parse_16 : decode cX13_parse 16 = .ok (.iconst 0, 1) := by decide +kernel
theorem dX13_parse_17 : decode cX13_parse 17 = .ok (.putfield 361, 3) := by decide +kernel
theorem dX13_parse_20 : decode cX13_parse 20 = .ok (.aload_n 0, 1) := by decide +kernel
theorem dX13_parse_21 : decode cX13_parse 21 = .ok (.iconst 0, 1) := by decide +kernel
theorem dX13_parse_22 : decode cX13_parse 22 = .ok (.putfield 386, 3) := by decide +kernel
theorem dX13_parse_25 : decode cX13_parse 25 = .ok (.aload_n 0, 1) := by decide +kernel
theorem dX13_parse_26 : decode cX13_parse 26 = .ok (.iconst 0, 1) := by decide +kernel
theorem dX13_parse_27 : decode cX13_parse 27 = .ok (.putfield 380, 3) := by decide +kernel
theorem dX13_parse_30 : decode cX13_parse 30 = .ok (.aload_n 0, 1) := by decide +kernel
theorem dX13_parse_31 : decode cX13_parse 31 = .ok (.iconst 0, 1) := by decide +kernel
theorem dX13_parse_32 : decode cX13_parse 32 = .ok (.putfield 389, 3) := by decide +kernel
theorem dX13_parse_35 : decode cX13_parse 35 = .ok (.aload_n 0, 1) := by decide +kernel
theorem dX13_parse_36 : decode cX13_parse 36 = .ok (.iconst 0, 1) := by decide +kernel
theorem dX13_parse_37 : decode cX13_parse 37 = .ok (.putfield 392, 3) := by decide +kernel
theorem dX13_parse_40 : decode cX13_parse 40 = .ok (.aload_n 0, 1) := by decide +kernel
theorem dX13_parse_41 : decode cX13_parse 41 = .ok (.iconst 0, 1) := by decide +kernel
theorem dX13_parse_42 : decode cX13_parse 42 = .ok (.putfield 395, 3) := by decide +kernel
theorem dX13_parse_45 : decode cX13_parse 45 = .ok (.aload_n 0, 1) := by decide +kernel
theorem dX13_parse_46 : decode cX13_parse 46 = .ok (.invokevirtual 368, 3) := by decide +kernel
theorem dX13_parse_49 : decode cX13_parse 49 = .ok (.iconst 1, 1) := by decide +kernel
theorem dX13_parse_50 : decode cX13_parse 50 = .ok (.istore_n 1, 1) := by decide +kernel
theorem dX13_parse_51 : decode cX13_parse 51 = .ok (.iload_n 1, 1) := by decide +kernel
theorem dX13_parse_52 : decode cX13_parse 52 = .ok (.ifCond .eq 85, 3) := by decide +kernel
theorem dX13_parse_55 : decode cX13_parse 55 = .ok (.aload_n 0, 1) := by decide +kernel
theorem dX13_parse_56 : decode cX13_parse 56 = .ok (.bipush 21, 2) := by decide +kernel
theorem dX13_parse_58 : decode cX13_parse 58 = .ok (.invokevirtual 371, 3) := by decide +kernel
theorem dX13_parse_61 : decode cX13_parse 61 = .ok (.ifCond .ne 12, 3) := by decide +kernel
theorem dX13_parse_64 : decode cX13_parse 64 = .ok (.aload_n 0, 1) := by decide +kernel
theorem dX13_parse_65 : decode cX13_parse 65 = .ok (.bipush 28, 2) := by decide +kernel
theorem dX13_parse_67 : decode cX13_parse 67 = .ok (.invokevirtual 371, 3) := by decide +kernel
theorem dX13_parse_70 : decode cX13_parse 70 = .ok (.ifCond .eq 12, 3) := by decide +kernel
theorem dX13_parse_82 : decode cX13_parse 82 = .ok (.aload_n 0, 1) := by decide +kernel
theorem dX13_parse_83 : decode cX13_parse 83 = .ok (.invokevirtual 374, 3) := by decide +kernel
theorem dX13_read_0 : decode cX13_read 0 = .ok (.aload_n 0, 1) := by decide +kernel
theorem dX13_read_1 : decode cX13_read 1 = .ok (.iconst 0, 1) := by decide +kernel
theorem dX13_read_2 : decode cX13_read 2 = .ok (.putfield 251, 3) := by decide +kernel
theorem dX13_read_5 : decode cX13_read 5 = .ok (.aload_n 0, 1) := by decide +kernel
theorem dX13_read_6 : decode cX13_read 6 = .ok (.iconst 0, 1) := by decide +kernel
theorem dX13_read_7 : decode cX13_read 7 = .ok (.putfield 889, 3) := by decide +kernel
theorem dX13_read_10 : decode cX13_read 10 = .ok (.aload_n 0, 1) := by decide +kernel
theorem dX13_read_11 : decode cX13_read 11 = .ok (.iconst 0, 1) := by decide +kernel
theorem dX13_read_12 : decode cX13_read 12 = .ok (.putfield 893, 3) := by decide +kernel
theorem dX13_read_15 : decode cX13_read 15 = .ok (.aload_n 0, 1) := by decide +kernel
theorem dX13_read_16 : decode cX13_read 16 = .ok (.aload_n 0, 1) := by decide +kernel
theorem dX13_read_17 : decode cX13_read 17 = .ok (.getfield 255, 3) := by decide +kernel
theorem dX13_read_20 : decode cX13_read 20 = .ok (.putfield 262, 3) := by decide +kernel
theorem dX13_read_23 : decode cX13_read 23 = .ok (.iconst 0, 1) := by decide +kernel
theorem dX13_read_24 : decode cX13_read 24 = .ok (.istore_n 1, 1) := by decide +kernel
theorem dX13_read_25 : decode cX13_read 25 = .ok (.iload_n 1, 1) := by decide +kernel
theorem dX13_read_26 : decode cX13_read 26 = .ok (.aload_n 0, 1) := by decide +kernel
theorem dX13_read_27 : decode cX13_read 27 = .ok (.getfield 262, 3) := by decide +kernel
theorem dX13_read_30 : decode cX13_read 30 = .ok (.if_icmp .ge 21, 3) := by decide +kernel
theorem dX13_read_51 : decode cX13_read 51 = .ok (.aload_n 0, 1) := by decide +kernel
theorem dX13_read_52 : decode cX13_read 52 = .ok (.iconst 0, 1) := by decide +kernel
theorem dX13_read_53 : decode cX13_read 53 = .ok (.putfield 255, 3) := by decide +kernel
theorem dX13_read_56 : decode cX13_read 56 = .ok (.aload_n 0, 1) := by decide +kernel
theorem dX13_read_57 : decode cX13_read 57 = .ok (.iconst 0, 1) := by decide +kernel
theorem dX13_read_58 : decode cX13_read 58 = .ok (.putfield 343, 3) := by decide +kernel
theorem dX13_read_61 : decode cX13_read 61 = .ok (.aload_n 0, 1) := by decide +kernel
theorem dX13_read_62 : decode cX13_read 62 = .ok (.invokevirtual 896, 3) := by decide +kernel
theorem dX13_read_65 : decode cX13_read 65 = .ok (.aload_n 0, 1) := by decide +kernel
theorem dX13_read_66 : decode cX13_read 66 = .ok (.invokevirtual 899, 3) := by decide +kernel
theorem dX13_read_108 : decode cX13_read 108 = .ok (.astore_n 1, 1) := by decide +kernel
theorem dX13_read_109 : decode cX13_read 109 = .ok (.aload_n 0, 1) := by decide +kernel
theorem dX13_read_110 : decode cX13_read 110 = .ok (.getfield 343, 3) := by decide +kernel
theorem dX13_read_113 : decode cX13_read 113 = .ok (.bipush 16, 2) := by decide +kernel
theorem dX13_read_115 : decode cX13_read 115 = .ok (.aload_n 0, 1) := by decide +kernel
theorem dX13_read_116 : decode cX13_read 116 = .ok (.getfield 346, 3) := by decide +kernel
theorem dX13_read_119 : decode cX13_read 119 = .ok (.imul, 1) := by decide +kernel
theorem dX13_read_120 : decode cX13_read 120 = .ok (.iadd, 1) := by decide +kernel
theorem dX13_read_121 : decode cX13_read 121 = .ok (.ireturn, 1) := by decide +kernel
theorem dJ0_length_8abf5_0 : decode cJ0_length_8abf5 0 = .ok (.aload_n 0, 1) := by decide +kernel
theorem dJ0_length_8abf5_1 : decode cJ0_length_8abf5 1 = .ok (.getfield 9, 3) := by decide +kernel
theorem dJ0_length_8abf5_4 : decode cJ0_length_8abf5 4 = .ok (.arraylength, 1) := by decide +kernel
theorem dJ0_length_8abf5_5 : decode cJ0_length_8abf5 5 = .ok (.aload_n 0, 1) := by decide +kernel
theorem dJ0_length_8abf5_6 : decode cJ0_length_8abf5 6 = .ok (.invokevirtual 335, 3) := by decide +kernel
theorem dJ0_length_8abf5_9 : decode cJ0_length_8abf5 9 = .ok (.ishr, 1) := by decide +kernel
theorem dJ0_length_8abf5_10 : decode cJ0_length_8abf5 10 = .ok (.ireturn, 1) := by decide +kernel
theorem dJ0_charAt_5068e_0 : decode cJ0_charAt_5068e 0 = .ok (.aload_n 0, 1) := by decide +kernel
theorem dJ0_charAt_5068e_1 : decode cJ0_charAt_5068e 1 = .ok (.invokevirtual 492, 3) := by decide +kernel
theorem dJ0_charAt_5068e_4 : decode cJ0_charAt_5068e 4 = .ok (.ifCond .eq 12, 3) := by decide +kernel
theorem dJ0_charAt_5068e_7 : decode cJ0_charAt_5068e 7 = .ok (.aload_n 0, 1) := by decide +kernel
theorem dJ0_charAt_5068e_8 : decode cJ0_charAt_5068e 8 = .ok (.getfield 9, 3) := by decide +kernel
theorem dJ0_charAt_5068e_11 : decode cJ0_charAt_5068e 11 = .ok (.iload_n 1, 1) := by decide +kernel
theorem dJ0_charAt_5068e_12 : decode cJ0_charAt_5068e 12 = .ok (.invokestatic 495, 3) := by decide +kernel
theorem dJ0_charAt_5068e_15 : decode cJ0_charAt_5068e 15 = .ok (.ireturn, 1) := by decide +kernel
theorem dJ0_coder_7d493_0 : decode cJ0_coder_7d493 0 = .ok (.getstatic 38, 3) := by decide +kernel
theorem dJ0_coder_7d493_3 : decode cJ0_coder_7d493 3 = .ok (.ifCond .eq 10, 3) := by decide +kernel
theorem dJ0_coder_7d493_6 : decode cJ0_coder_7d493 6 = .ok (.aload_n 0, 1) := by decide +kernel
theorem dJ0_coder_7d493_7 : decode cJ0_coder_7d493 7 = .ok (.getfield 15, 3) := by decide +kernel
theorem dJ0_coder_7d493_10 : decode cJ0_coder_7d493 10 = .ok (.goto 4, 3) := by decide +kernel
theorem dJ0_coder_7d493_14 : decode cJ0_coder_7d493 14 = .ok (.ireturn, 1) := by decide +kernel
theorem dJ0_isLatin1_aae02_0 : decode cJ0_isLatin1_aae02 0 = .ok (.getstatic 38, 3) := by decide +kernel
theorem dJ0_isLatin1_aae02_3 : decode cJ0_isLatin1_aae02 3 = .ok (.ifCond .eq 14, 3) := by decide +kernel
theorem dJ0_isLatin1_aae02_6 : decode cJ0_isLatin1_aae02 6 = .ok (.aload_n 0, 1) := by decide +kernel
theorem dJ0_isLatin1_aae02_7 : decode cJ0_isLatin1_aae02 7 = .ok (.getfield 15, 3) := by decide +kernel
theorem dJ0_isLatin1_aae02_10 : decode cJ0_isLatin1_aae02 10 = .ok (.ifCond .ne 7, 3) := by decide +kernel
theorem dJ0_isLatin1_aae02_13 : decode cJ0_isLatin1_aae02 13 = .ok (.iconst 1, 1) := by decide +kernel
theorem dJ0_isLatin1_aae02_14 : decode cJ0_isLatin1_aae02 14 = .ok (.goto 4, 3) := by decide +kernel
theorem dJ0_isLatin1_aae02_18 : decode cJ0_isLatin1_aae02 18 = .ok (.ireturn, 1) := by decide +kernel
theorem dJ0_checkIndex_df160_0 : decode cJ0_checkIndex_df160 0 = .ok (.iload_n 0, 1) := by decide +kernel
theorem dJ0_checkIndex_df160_1 : decode cJ0_checkIndex_df160 1 = .ok (.iload_n 1, 1) := by decide +kernel
theorem dJ0_checkIndex_df160_2 : decode cJ0_checkIndex_df160 2 = .ok (.getstatic 1053, 3) := by decide +kernel
theorem dJ0_checkIndex_df160_5 : decode cJ0_checkIndex_df160 5 = .ok (.invokestatic 1059, 3) := by decide +kernel
theorem dJ0_checkIndex_df160_8 : decode cJ0_checkIndex_df160 8 = .ok (.pop, 1) := by decide +kernel
theorem dJ0_checkIndex_df160_9 : decode cJ0_checkIndex_df160 9 = .ok (.return_, 1) := by decide +kernel
theorem dJ1_charAt_3b067_0 : decode cJ1_charAt_3b067 0 = .ok (.iload_n 1, 1) := by decide +kernel
theorem dJ1_charAt_3b067_1 : decode cJ1_charAt_3b067 1 = .ok (.aload_n 0, 1) := by decide +kernel
theorem dJ1_charAt_3b067_2 : decode cJ1_charAt_3b067 2 = .ok (.arraylength, 1) := by decide +kernel
theorem dJ1_charAt_3b067_3 : decode cJ1_charAt_3b067 3 = .ok (.invokestatic 9, 3) := by decide +kernel
theorem dJ1_charAt_3b067_6 : decode cJ1_charAt_3b067 6 = .ok (.aload_n 0, 1) := by decide +kernel
theorem dJ1_charAt_3b067_7 : decode cJ1_charAt_3b067 7 = .ok (.iload_n 1, 1) := by decide +kernel
theorem dJ1_charAt_3b067_8 : decode cJ1_charAt_3b067 8 = .ok (.baload, 1) := by decide +kernel
theorem dJ1_charAt_3b067_9 : decode cJ1_charAt_3b067 9 = .ok (.sipush 255, 3) := by decide +kernel
theorem dJ1_charAt_3b067_12 : decode cJ1_charAt_3b067 12 = .ok (.iand, 1) := by decide +kernel
theorem dJ1_charAt_3b067_13 : decode cJ1_charAt_3b067 13 = .ok (.i2c, 1) := by decide +kernel
theorem dJ1_charAt_3b067_14 : decode cJ1_charAt_3b067 14 = .ok (.ireturn, 1) := by decide +kernel
theorem dJ3_checkIndex_8e157_0 : decode cJ3_checkIndex_8e157 0 = .ok (.iload_n 0, 1) := by decide +kernel
theorem dJ3_checkIndex_8e157_1 : decode cJ3_checkIndex_8e157 1 = .ok (.ifCond .lt 8, 3) := by decide +kernel
theorem dJ3_checkIndex_8e157_4 : decode cJ3_checkIndex_8e157 4 = .ok (.iload_n 0, 1) := by decide +kernel
theorem dJ3_checkIndex_8e157_5 : decode cJ3_checkIndex_8e157 5 = .ok (.iload_n 1, 1) := by decide +kernel
theorem dJ3_checkIndex_8e157_6 : decode cJ3_checkIndex_8e157 6 = .ok (.if_icmp .lt 10, 3) := by decide +kernel
theorem dJ3_checkIndex_8e157_16 : decode cJ3_checkIndex_8e157 16 = .ok (.iload_n 0, 1) := by decide +kernel
theorem dJ3_checkIndex_8e157_17 : decode cJ3_checkIndex_8e157 17 = .ok (.ireturn, 1) := by decide +kernel
