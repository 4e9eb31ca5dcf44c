abbrev cX2_begun : ByteArray := prog_4_method_3_code
def yX2_begun : MethodName := ⟨RX2, "begun", "()Z"⟩
abbrev cX11_begin : ByteArray := prog_1_method_16_code
def yX11_begin : MethodName := ⟨RX11, "begin", "(I)V"⟩
abbrev cX11_run : ByteArray := prog_1_method_17_code
def yX11_run : MethodName := ⟨RX11, "run", "(I)I"⟩
abbrev cX13_thrown : ByteArray := prog_14_method_2_code
def yX13_thrown : MethodName := ⟨RX13, "thrown", "()I"⟩
abbrev cX13_fails : ByteArray := prog_14_method_3_code
def yX13_fails : MethodName := ⟨RX13, "fails", "(ZZ)Z"⟩
abbrev cX13_begin : ByteArray := prog_14_method_218_code
def yX13_begin : MethodName := ⟨RX13, "begin", "(I)V"⟩
abbrev cX13_run : ByteArray := prog_14_method_219_code
def yX13_run : MethodName := ⟨RX13, "run", "(I)I"⟩
abbrev cL_begin : ByteArray := method_3_code
def yL_begin : MethodName := ⟨RL, "begin", "(LLevelUnits;I)I"⟩
abbrev cL_run : ByteArray := method_4_code
def yL_run : MethodName := ⟨RL, "run", "(LLevelUnits;I[J)I"⟩
theorem dX2_begun_0 : decode cX2_begun 0 = .ok (.aload_n 0, 1) := by decide +kernel
theorem dX2_begun_1 : decode cX2_begun 1 = .ok (.getfield 49, 3) := by decide +kernel
theorem dX2_begun_4 : decode cX2_begun 4 = .ok (.ifCond .le 7, 3) := by decide +kernel
theorem dX2_begun_11 : decode cX2_begun 11 = .ok (.iconst 0, 1) := by decide +kernel
theorem dX2_begun_12 : decode cX2_begun 12 = .ok (.ireturn, 1) := by decide +kernel
theorem dX11_begin_0 : decode cX11_begin 0 = .ok (.aload_n 0, 1) := by decide +kernel
theorem dX11_begin_1 : decode cX11_begin 1 = .ok (.getfield 35, 3) := by decide +kernel
theorem dX11_begin_4 : decode cX11_begin 4 = .ok (.ifnonnull 13, 3) := by decide +kernel
theorem dX11_begin_7 : decode cX11_begin 7 = .ok (.new 167, 3) := by decide +kernel
theorem dX11_begin_10 : decode cX11_begin 10 = .ok (.dup, 1) := by decide +kernel
theorem dX11_begin_11 : decode cX11_begin 11 = .ok (.ldc 169, 2) := by decide +kernel
theorem dX11_begin_13 : decode cX11_begin 13 = .ok (.invokespecial 171, 3) := by decide +kernel
theorem dX11_begin_16 : decode cX11_begin 16 = .ok (.athrow, 1) := by decide +kernel
theorem dX11_run_0 : decode cX11_run 0 = .ok (.iload_n 1, 1) := by decide +kernel
theorem dX11_run_1 : decode cX11_run 1 = .ok (.ifCond .lt 10, 3) := by decide +kernel
theorem dX11_run_4 : decode cX11_run 4 = .ok (.iload_n 1, 1) := by decide +kernel
theorem dX11_run_5 : decode cX11_run 5 = .ok (.sipush 2000, 3) := by decide +kernel
theorem dX11_run_8 : decode cX11_run 8 = .ok (.if_icmp .le 13, 3) := by decide +kernel
theorem dX11_run_11 : decode cX11_run 11 = .ok (.new 178, 3) := by decide +kernel
theorem dX11_run_14 : decode cX11_run 14 = .ok (.dup, 1) := by decide +kernel
theorem dX11_run_15 : decode cX11_run 15 = .ok (.ldc 180, 2) := by decide +kernel
theorem dX11_run_17 : decode cX11_run 17 = .ok (.invokespecial 182, 3) := by decide +kernel
theorem dX11_run_20 : decode cX11_run 20 = .ok (.athrow, 1) := by decide +kernel
theorem dX11_run_21 : decode cX11_run 21 = .ok (.aload_n 0, 1) := by decide +kernel
theorem dX11_run_22 : decode cX11_run 22 = .ok (.getfield 23, 3) := by decide +kernel
theorem dX11_run_25 : decode cX11_run 25 = .ok (.invokevirtual 183, 3) := by decide +kernel
theorem dX11_run_28 : decode cX11_run 28 = .ok (.ifCond .ne 13, 3) := by decide +kernel
theorem dX11_run_31 : decode cX11_run 31 = .ok (.new 167, 3) := by decide +kernel
theorem dX11_run_34 : decode cX11_run 34 = .ok (.dup, 1) := by decide +kernel
theorem dX11_run_35 : decode cX11_run 35 = .ok (.ldc 187, 2) := by decide +kernel
theorem dX11_run_37 : decode cX11_run 37 = .ok (.invokespecial 171, 3) := by decide +kernel
theorem dX11_run_40 : decode cX11_run 40 = .ok (.athrow, 1) := by decide +kernel
theorem dX13_thrown_0 : decode cX13_thrown 0 = .ok (.aload_n 0, 1) := by decide +kernel
theorem dX13_thrown_1 : decode cX13_thrown 1 = .ok (.getfield 251, 3) := by decide +kernel
theorem dX13_thrown_4 : decode cX13_thrown 4 = .ok (.ireturn, 1) := by decide +kernel
theorem dX13_fails_0 : decode cX13_fails 0 = .ok (.aload_n 0, 1) := by decide +kernel
theorem dX13_fails_1 : decode cX13_fails 1 = .ok (.iload_n 1, 1) := by decide +kernel
theorem dX13_fails_2 : decode cX13_fails 2 = .ok (.ifCond .eq 7, 3) := by decide +kernel
theorem dX13_fails_5 : decode cX13_fails 5 = .ok (.iconst 1, 1) := by decide +kernel
theorem dX13_fails_6 : decode cX13_fails 6 = .ok (.goto 12, 3) := by decide +kernel
theorem dX13_fails_9 : decode cX13_fails 9 = .ok (.iload_n 2, 1) := by decide +kernel
theorem dX13_fails_10 : decode cX13_fails 10 = .ok (.ifCond .eq 7, 3) := by decide +kernel
theorem dX13_fails_13 : decode cX13_fails 13 = .ok (.iconst 2, 1) := by decide +kernel
theorem dX13_fails_14 : decode cX13_fails 14 = .ok (.goto 4, 3) := by decide +kernel
theorem dX13_fails_18 : decode cX13_fails 18 = .ok (.putfield 251, 3) := by decide +kernel
theorem dX13_fails_21 : decode cX13_fails 21 = .ok (.aload_n 0, 1) := by decide +kernel
theorem dX13_fails_22 : decode cX13_fails 22 = .ok (.getfield 251, 3) := by decide +kernel
theorem dX13_fails_25 : decode cX13_fails 25 = .ok (.ifCond .le 7, 3) := by decide +kernel
theorem dX13_fails_28 : decode cX13_fails 28 = .ok (.iconst 1, 1) := by decide +kernel
theorem dX13_fails_29 : decode cX13_fails 29 = .ok (.goto 4, 3) := by decide +kernel
theorem dX13_fails_33 : decode cX13_fails 33 = .ok (.ireturn, 1) := by decide +kernel
theorem dX13_begin_0 : decode cX13_begin 0 = .ok (.aload_n 0, 1) := by decide +kernel
theorem dX13_begin_1 : decode cX13_begin 1 = .ok (.aload_n 0, 1) := by decide +kernel
theorem dX13_begin_2 : decode cX13_begin 2 = .ok (.getfield 889, 3) := by decide +kernel
theorem dX13_begin_5 : decode cX13_begin 5 = .ok (.ifCond .ne 7, 3) := by decide +kernel
theorem dX13_begin_8 : decode cX13_begin 8 = .ok (.iconst 1, 1) := by decide +kernel
theorem dX13_begin_9 : decode cX13_begin 9 = .ok (.goto 4, 3) := by decide +kernel
theorem dX13_begin_13 : decode cX13_begin 13 = .ok (.iconst 0, 1) := by decide +kernel
theorem dX13_begin_14 : decode cX13_begin 14 = .ok (.invokevirtual 1072, 3) := by decide +kernel
theorem dX13_begin_17 : decode cX13_begin 17 = .ok (.ifCond .eq 4, 3) := by decide +kernel
theorem dX13_begin_20 : decode cX13_begin 20 = .ok (.return_, 1) := by decide +kernel
theorem dX13_run_0 : decode cX13_run 0 = .ok (.aload_n 0, 1) := by decide +kernel
theorem dX13_run_1 : decode cX13_run 1 = .ok (.iload_n 1, 1) := by decide +kernel
theorem dX13_run_2 : decode cX13_run 2 = .ok (.ifCond .lt 10, 3) := by decide +kernel
theorem dX13_run_5 : decode cX13_run 5 = .ok (.iload_n 1, 1) := by decide +kernel
theorem dX13_run_6 : decode cX13_run 6 = .ok (.sipush 2000, 3) := by decide +kernel
theorem dX13_run_9 : decode cX13_run 9 = .ok (.if_icmp .le 7, 3) := by decide +kernel
theorem dX13_run_12 : decode cX13_run 12 = .ok (.iconst 1, 1) := by decide +kernel
theorem dX13_run_13 : decode cX13_run 13 = .ok (.goto 4, 3) := by decide +kernel
theorem dX13_run_16 : decode cX13_run 16 = .ok (.iconst 0, 1) := by decide +kernel
theorem dX13_run_17 : decode cX13_run 17 = .ok (.aload_n 0, 1) := by decide +kernel
theorem dX13_run_18 : decode cX13_run 18 = .ok (.getfield 893, 3) := by decide +kernel
theorem dX13_run_21 : decode cX13_run 21 = .ok (.ifCond .ne 7, 3) := by decide +kernel
theorem dX13_run_24 : decode cX13_run 24 = .ok (.iconst 1, 1) := by decide +kernel
theorem dX13_run_25 : decode cX13_run 25 = .ok (.goto 4, 3) := by decide +kernel
theorem dX13_run_29 : decode cX13_run 29 = .ok (.invokevirtual 1072, 3) := by decide +kernel
theorem dX13_run_32 : decode cX13_run 32 = .ok (.ifCond .eq 5, 3) := by decide +kernel
theorem dX13_run_35 : decode cX13_run 35 = .ok (.iconst 0, 1) := by decide +kernel
theorem dX13_run_36 : decode cX13_run 36 = .ok (.ireturn, 1) := by decide +kernel
theorem dL_begin_0 : decode cL_begin 0 = .ok (.aload_n 0, 1) := by decide +kernel
theorem dL_begin_1 : decode cL_begin 1 = .ok (.iload_n 1, 1) := by decide +kernel
theorem dL_begin_2 : decode cL_begin 2 = .ok (.invokevirtual 7, 3) := by decide +kernel
theorem dL_begin_8 : decode cL_begin 8 = .ok (.astore_n 2, 1) := by decide +kernel
theorem dL_begin_9 : decode cL_begin 9 = .ok (.iconst 1, 1) := by decide +kernel
theorem dL_begin_10 : decode cL_begin 10 = .ok (.ireturn, 1) := by decide +kernel
theorem dL_run_0 : decode cL_run 0 = .ok (.aload_n 2, 1) := by decide +kernel
theorem dL_run_1 : decode cL_run 1 = .ok (.iconst 0, 1) := by decide +kernel
theorem dL_run_2 : decode cL_run 2 = .ok (.aload_n 0, 1) := by decide +kernel
theorem dL_run_3 : decode cL_run 3 = .ok (.iload_n 1, 1) := by decide +kernel
theorem dL_run_4 : decode cL_run 4 = .ok (.invokevirtual 15, 3) := by decide +kernel
theorem dL_run_12 : decode cL_run 12 = .ok (.astore_n 3, 1) := by decide +kernel
theorem dL_run_13 : decode cL_run 13 = .ok (.iconst 1, 1) := by decide +kernel
theorem dL_run_14 : decode cL_run 14 = .ok (.ireturn, 1) := by decide +kernel
theorem dL_run_15 : decode cL_run 15 = .ok (.astore_n 3, 1) := by decide +kernel
theorem dL_run_16 : decode cL_run 16 = .ok (.iconst 2, 1) := by decide +kernel
theorem dL_run_17 : decode cL_run 17 = .ok (.ireturn, 1) := by decide +kernel
