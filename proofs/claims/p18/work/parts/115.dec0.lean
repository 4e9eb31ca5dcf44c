theorem dX0_init_0 : decode cX0_init 0 = .ok (.aload_n 0, 1) := by decide +kernel
theorem dX0_init_1 : decode cX0_init 1 = .ok (.invokespecial 3, 3) := by decide +kernel
theorem dX0_init_4 : decode cX0_init 4 = .ok (.aload_n 0, 1) := by decide +kernel
theorem dX0_init_5 : decode cX0_init 5 = .ok (.sipush 200, 3) := by decide +kernel
theorem dX0_init_8 : decode cX0_init 8 = .ok (.anewarray 9, 3) := by decide +kernel
theorem dX0_init_11 : decode cX0_init 11 = .ok (.putfield 11, 3) := by decide +kernel
theorem dX0_init_14 : decode cX0_init 14 = .ok (.aload_n 0, 1) := by decide +kernel
theorem dX0_init_15 : decode cX0_init 15 = .ok (.ldc 17, 2) := by decide +kernel
theorem dX0_init_17 : decode cX0_init 17 = .ok (.putfield 18, 3) := by decide +kernel
theorem dX0_init_20 : decode cX0_init 20 = .ok (.aload_n 0, 1) := by decide +kernel
theorem dX0_init_21 : decode cX0_init 21 = .ok (.aload_n 1, 1) := by decide +kernel
theorem dX0_init_22 : decode cX0_init 22 = .ok (.putfield 22, 3) := by decide +kernel
theorem dX0_init_25 : decode cX0_init 25 = .ok (.return_, 1) := by decide +kernel
theorem dX0_judgeTypes_0 : decode cX0_judgeTypes 0 = .ok (.aload_n 1, 1) := by decide +kernel
theorem dX0_judgeTypes_1 : decode cX0_judgeTypes 1 = .ok (.astore_n 2, 1) := by decide +kernel
theorem dX0_judgeTypes_2 : decode cX0_judgeTypes 2 = .ok (.aload_n 2, 1) := by decide +kernel
theorem dX0_judgeTypes_3 : decode cX0_judgeTypes 3 = .ok (.ifnull 35, 3) := by decide +kernel
theorem dX0_judgeTypes_6 : decode cX0_judgeTypes 6 = .ok (.aload_n 0, 1) := by decide +kernel
theorem dX0_judgeTypes_7 : decode cX0_judgeTypes 7 = .ok (.aload_n 2, 1) := by decide +kernel
theorem dX0_judgeTypes_8 : decode cX0_judgeTypes 8 = .ok (.getfield 35, 3) := by decide +kernel
theorem dX0_judgeTypes_11 : decode cX0_judgeTypes 11 = .ok (.getfield 41, 3) := by decide +kernel
theorem dX0_judgeTypes_14 : decode cX0_judgeTypes 14 = .ok (.putfield 46, 3) := by decide +kernel
theorem dX0_judgeTypes_17 : decode cX0_judgeTypes 17 = .ok (.aload_n 0, 1) := by decide +kernel
theorem dX0_judgeTypes_18 : decode cX0_judgeTypes 18 = .ok (.aload_n 2, 1) := by decide +kernel
theorem dX0_judgeTypes_19 : decode cX0_judgeTypes 19 = .ok (.getfield 47, 3) := by decide +kernel
theorem dX0_judgeTypes_22 : decode cX0_judgeTypes 22 = .ok (.putfield 26, 3) := by decide +kernel
theorem dX0_judgeTypes_25 : decode cX0_judgeTypes 25 = .ok (.aload_n 0, 1) := by decide +kernel
theorem dX0_judgeTypes_26 : decode cX0_judgeTypes 26 = .ok (.aload_n 2, 1) := by decide +kernel
theorem dX0_judgeTypes_27 : decode cX0_judgeTypes 27 = .ok (.invokevirtual 48, 3) := by decide +kernel
theorem dX0_judgeTypes_30 : decode cX0_judgeTypes 30 = .ok (.aload_n 2, 1) := by decide +kernel
theorem dX0_judgeTypes_31 : decode cX0_judgeTypes 31 = .ok (.getfield 52, 3) := by decide +kernel
theorem dX0_judgeTypes_34 : decode cX0_judgeTypes 34 = .ok (.astore_n 2, 1) := by decide +kernel
theorem dX0_judgeTypes_35 : decode cX0_judgeTypes 35 = .ok (.goto (-33), 3) := by decide +kernel
theorem dX0_judgeTypes_38 : decode cX0_judgeTypes 38 = .ok (.aload_n 0, 1) := by decide +kernel
theorem dX0_judgeTypes_39 : decode cX0_judgeTypes 39 = .ok (.getfield 18, 3) := by decide +kernel
theorem dX0_judgeTypes_42 : decode cX0_judgeTypes 42 = .ok (.ldc 17, 2) := by decide +kernel
theorem dX0_judgeTypes_44 : decode cX0_judgeTypes 44 = .ok (.if_icmp .ne 7, 3) := by decide +kernel
theorem dX0_judgeTypes_47 : decode cX0_judgeTypes 47 = .ok (.iconst 0, 1) := by decide +kernel
theorem dX0_judgeTypes_48 : decode cX0_judgeTypes 48 = .ok (.goto 7, 3) := by decide +kernel
theorem dX0_judgeTypes_51 : decode cX0_judgeTypes 51 = .ok (.aload_n 0, 1) := by decide +kernel
theorem dX0_judgeTypes_52 : decode cX0_judgeTypes 52 = .ok (.getfield 18, 3) := by decide +kernel
theorem dX0_judgeTypes_55 : decode cX0_judgeTypes 55 = .ok (.ireturn, 1) := by decide +kernel
theorem dX0_judgeExceptions_0 : decode cX0_judgeExceptions 0 = .ok (.aload_n 1, 1) := by decide +kernel
theorem dX0_judgeExceptions_1 : decode cX0_judgeExceptions 1 = .ok (.astore_n 2, 1) := by decide +kernel
theorem dX0_judgeExceptions_2 : decode cX0_judgeExceptions 2 = .ok (.aload_n 2, 1) := by decide +kernel
theorem dX0_judgeExceptions_3 : decode cX0_judgeExceptions 3 = .ok (.ifnull 57, 3) := by decide +kernel
theorem dX0_judgeExceptions_6 : decode cX0_judgeExceptions 6 = .ok (.aload_n 0, 1) := by decide +kernel
theorem dX0_judgeExceptions_7 : decode cX0_judgeExceptions 7 = .ok (.aload_n 2, 1) := by decide +kernel
theorem dX0_judgeExceptions_8 : decode cX0_judgeExceptions 8 = .ok (.getfield 47, 3) := by decide +kernel
theorem dX0_judgeExceptions_11 : decode cX0_judgeExceptions 11 = .ok (.putfield 26, 3) := by decide +kernel
theorem dX0_judgeExceptions_14 : decode cX0_judgeExceptions 14 = .ok (.aload_n 2, 1) := by decide +kernel
theorem dX0_judgeExceptions_15 : decode cX0_judgeExceptions 15 = .ok (.getfield 170, 3) := by decide +kernel
theorem dX0_judgeExceptions_18 : decode cX0_judgeExceptions 18 = .ok (.astore_n 3, 1) := by decide +kernel
theorem dX0_judgeExceptions_19 : decode cX0_judgeExceptions 19 = .ok (.aload_n 3, 1) := by decide +kernel
theorem dX0_judgeExceptions_20 : decode cX0_judgeExceptions 20 = .ok (.ifnull 17, 3) := by decide +kernel
theorem dX0_judgeExceptions_23 : decode cX0_judgeExceptions 23 = .ok (.aload_n 0, 1) := by decide +kernel
theorem dX0_judgeExceptions_24 : decode cX0_judgeExceptions 24 = .ok (.aload_n 2, 1) := by decide +kernel
theorem dX0_judgeExceptions_25 : decode cX0_judgeExceptions 25 = .ok (.aload_n 3, 1) := by decide +kernel
theorem dX0_judgeExceptions_26 : decode cX0_judgeExceptions 26 = .ok (.invokevirtual 246, 3) := by decide +kernel
theorem dX0_judgeExceptions_29 : decode cX0_judgeExceptions 29 = .ok (.aload_n 3, 1) := by decide +kernel
theorem dX0_judgeExceptions_30 : decode cX0_judgeExceptions 30 = .ok (.getfield 158, 3) := by decide +kernel
theorem dX0_judgeExceptions_33 : decode cX0_judgeExceptions 33 = .ok (.astore_n 3, 1) := by decide +kernel
theorem dX0_judgeExceptions_34 : decode cX0_judgeExceptions 34 = .ok (.goto (-15), 3) := by decide +kernel
theorem dX0_judgeExceptions_37 : decode cX0_judgeExceptions 37 = .ok (.aload_n 2, 1) := by decide +kernel
theorem dX0_judgeExceptions_38 : decode cX0_judgeExceptions 38 = .ok (.getfield 56, 3) := by decide +kernel
theorem dX0_judgeExceptions_41 : decode cX0_judgeExceptions 41 = .ok (.sipush 211, 3) := by decide +kernel
theorem dX0_judgeExceptions_44 : decode cX0_judgeExceptions 44 = .ok (.if_icmp .ne 8, 3) := by decide +kernel
theorem dX0_judgeExceptions_47 : decode cX0_judgeExceptions 47 = .ok (.aload_n 0, 1) := by decide +kernel
theorem dX0_judgeExceptions_48 : decode cX0_judgeExceptions 48 = .ok (.aload_n 2, 1) := by decide +kernel
theorem dX0_judgeExceptions_49 : decode cX0_judgeExceptions 49 = .ok (.invokevirtual 250, 3) := by decide +kernel
theorem dX0_judgeExceptions_52 : decode cX0_judgeExceptions 52 = .ok (.aload_n 2, 1) := by decide +kernel
theorem dX0_judgeExceptions_53 : decode cX0_judgeExceptions 53 = .ok (.getfield 52, 3) := by decide +kernel
theorem dX0_judgeExceptions_56 : decode cX0_judgeExceptions 56 = .ok (.astore_n 2, 1) := by decide +kernel
theorem dX0_judgeExceptions_57 : decode cX0_judgeExceptions 57 = .ok (.goto (-55), 3) := by decide +kernel
theorem dX0_judgeExceptions_60 : decode cX0_judgeExceptions 60 = .ok (.aload_n 0, 1) := by decide +kernel
theorem dX0_judgeExceptions_61 : decode cX0_judgeExceptions 61 = .ok (.getfield 18, 3) := by decide +kernel
theorem dX0_judgeExceptions_64 : decode cX0_judgeExceptions 64 = .ok (.ldc 17, 2) := by decide +kernel
theorem dX0_judgeExceptions_66 : decode cX0_judgeExceptions 66 = .ok (.if_icmp .ne 7, 3) := by decide +kernel
theorem dX0_judgeExceptions_69 : decode cX0_judgeExceptions 69 = .ok (.iconst 0, 1) := by decide +kernel
theorem dX0_judgeExceptions_70 : decode cX0_judgeExceptions 70 = .ok (.goto 7, 3) := by decide +kernel
theorem dX0_judgeExceptions_73 : decode cX0_judgeExceptions 73 = .ok (.aload_n 0, 1) := by decide +kernel
theorem dX0_judgeExceptions_74 : decode cX0_judgeExceptions 74 = .ok (.getfield 18, 3) := by decide +kernel
theorem dX0_judgeExceptions_77 : decode cX0_judgeExceptions 77 = .ok (.ireturn, 1) := by decide +kernel
theorem dX1_init_0 : decode cX1_init 0 = .ok (.aload_n 0, 1) := by decide +kernel
theorem dX1_init_1 : decode cX1_init 1 = .ok (.invokespecial 1, 3) := by decide +kernel
theorem dX1_init_4 : decode cX1_init 4 = .ok (.aload_n 0, 1) := by decide +kernel
theorem dX1_init_5 : decode cX1_init 5 = .ok (.iload_n 1, 1) := by decide +kernel
theorem dX1_init_6 : decode cX1_init 6 = .ok (.putfield 7, 3) := by decide +kernel
theorem dX1_init_9 : decode cX1_init 9 = .ok (.aload_n 0, 1) := by decide +kernel
theorem dX1_init_10 : decode cX1_init 10 = .ok (.iload_n 2, 1) := by decide +kernel
theorem dX1_init_11 : decode cX1_init 11 = .ok (.putfield 13, 3) := by decide +kernel
theorem dX1_init_14 : decode cX1_init 14 = .ok (.aload_n 0, 1) := by decide +kernel
theorem dX1_init_15 : decode cX1_init 15 = .ok (.iload_n 3, 1) := by decide +kernel
theorem dX1_init_16 : decode cX1_init 16 = .ok (.putfield 16, 3) := by decide +kernel
theorem dX1_init_19 : decode cX1_init 19 = .ok (.aload_n 0, 1) := by decide +kernel
theorem dX1_init_20 : decode cX1_init 20 = .ok (.iload 4, 2) := by decide +kernel
theorem dX1_init_22 : decode cX1_init 22 = .ok (.putfield 19, 3) := by decide +kernel
theorem dX1_init_25 : decode cX1_init 25 = .ok (.return_, 1) := by decide +kernel
theorem dX2_init_0 : decode cX2_init 0 = .ok (.aload_n 0, 1) := by decide +kernel
theorem dX2_init_1 : decode cX2_init 1 = .ok (.invokespecial 3, 3) := by decide +kernel
theorem dX2_init_4 : decode cX2_init 4 = .ok (.aload_n 0, 1) := by decide +kernel
theorem dX2_init_5 : decode cX2_init 5 = .ok (.sipush 5000, 3) := by decide +kernel
theorem dX2_init_8 : decode cX2_init 8 = .ok (.newarray .int, 2) := by decide +kernel
theorem dX2_init_10 : decode cX2_init 10 = .ok (.putfield 9, 3) := by decide +kernel
theorem dX2_init_13 : decode cX2_init 13 = .ok (.aload_n 0, 1) := by decide +kernel
theorem dX2_init_14 : decode cX2_init 14 = .ok (.sipush 20000, 3) := by decide +kernel
theorem dX2_init_17 : decode cX2_init 17 = .ok (.newarray .int, 2) := by decide +kernel
theorem dX2_init_19 : decode cX2_init 19 = .ok (.putfield 15, 3) := by decide +kernel
theorem dX2_init_22 : decode cX2_init 22 = .ok (.aload_n 0, 1) := by decide +kernel
theorem dX2_init_23 : decode cX2_init 23 = .ok (.sipush 2002, 3) := by decide +kernel
theorem dX2_init_26 : decode cX2_init 26 = .ok (.newarray .int, 2) := by decide +kernel
theorem dX2_init_28 : decode cX2_init 28 = .ok (.putfield 18, 3) := by decide +kernel
theorem dX2_init_31 : decode cX2_init 31 = .ok (.aload_n 0, 1) := by decide +kernel
theorem dX2_init_32 : decode cX2_init 32 = .ok (.sipush 2001, 3) := by decide +kernel
theorem dX2_init_35 : decode cX2_init 35 = .ok (.anewarray 21, 3) := by decide +kernel
theorem dX2_init_38 : decode cX2_init 38 = .ok (.putfield 23, 3) := by decide +kernel
theorem dX2_init_41 : decode cX2_init 41 = .ok (.aload_n 0, 1) := by decide +kernel
theorem dX2_init_42 : decode cX2_init 42 = .ok (.sipush 2001, 3) := by decide +kernel
theorem dX2_init_45 : decode cX2_init 45 = .ok (.newarray .int, 2) := by decide +kernel
theorem dX2_init_47 : decode cX2_init 47 = .ok (.putfield 27, 3) := by decide +kernel
theorem dX2_init_50 : decode cX2_init 50 = .ok (.aload_n 0, 1) := by decide +kernel
theorem dX2_init_51 : decode cX2_init 51 = .ok (.bipush 64, 2) := by decide +kernel
theorem dX2_init_53 : decode cX2_init 53 = .ok (.anewarray 30, 3) := by decide +kernel
theorem dX2_init_56 : decode cX2_init 56 = .ok (.putfield 32, 3) := by decide +kernel
theorem dX2_init_59 : decode cX2_init 59 = .ok (.aload_n 0, 1) := by decide +kernel
theorem dX2_init_60 : decode cX2_init 60 = .ok (.sipush 500, 3) := by decide +kernel
theorem dX2_init_63 : decode cX2_init 63 = .ok (.newarray .int, 2) := by decide +kernel
theorem dX2_init_65 : decode cX2_init 65 = .ok (.putfield 36, 3) := by decide +kernel
theorem dX2_init_68 : decode cX2_init 68 = .ok (.aload_n 0, 1) := by decide +kernel
theorem dX2_init_69 : decode cX2_init 69 = .ok (.sipush 200, 3) := by decide +kernel
theorem dX2_init_72 : decode cX2_init 72 = .ok (.newarray .int, 2) := by decide +kernel
theorem dX2_init_74 : decode cX2_init 74 = .ok (.putfield 39, 3) := by decide +kernel
theorem dX2_init_77 : decode cX2_init 77 = .ok (.aload_n 0, 1) := by decide +kernel
theorem dX2_init_78 : decode cX2_init 78 = .ok (.sipush 16000, 3) := by decide +kernel
theorem dX2_init_81 : decode cX2_init 81 = .ok (.newarray .int, 2) := by decide +kernel
theorem dX2_init_83 : decode cX2_init 83 = .ok (.putfield 42, 3) := by decide +kernel
theorem dX2_init_86 : decode cX2_init 86 = .ok (.return_, 1) := by decide +kernel
theorem dX2_clear_0 : decode cX2_clear 0 = .ok (.aload_n 0, 1) := by decide +kernel
theorem dX2_clear_1 : decode cX2_clear 1 = .ok (.aconst_null, 1) := by decide +kernel
theorem dX2_clear_2 : decode cX2_clear 2 = .ok (.putfield 45, 3) := by decide +kernel
theorem dX2_clear_5 : decode cX2_clear 5 = .ok (.aload_n 0, 1) := by decide +kernel
theorem dX2_clear_6 : decode cX2_clear 6 = .ok (.iconst 0, 1) := by decide +kernel
theorem dX2_clear_7 : decode cX2_clear 7 = .ok (.putfield 49, 3) := by decide +kernel
theorem dX2_clear_10 : decode cX2_clear 10 = .ok (.return_, 1) := by decide +kernel
theorem dX3_init_0 : decode cX3_init 0 = .ok (.aload_n 0, 1) := by decide +kernel
theorem dX3_init_1 : decode cX3_init 1 = .ok (.invokespecial 3, 3) := by decide +kernel
theorem dX3_init_4 : decode cX3_init 4 = .ok (.aload_n 0, 1) := by decide +kernel
theorem dX3_init_5 : decode cX3_init 5 = .ok (.ldc 9, 2) := by decide +kernel
theorem dX3_init_7 : decode cX3_init 7 = .ok (.putfield 10, 3) := by decide +kernel
theorem dX3_init_10 : decode cX3_init 10 = .ok (.aload_n 0, 1) := by decide +kernel
theorem dX3_init_11 : decode cX3_init 11 = .ok (.aload_n 1, 1) := by decide +kernel
theorem dX3_init_12 : decode cX3_init 12 = .ok (.putfield 16, 3) := by decide +kernel
theorem dX3_init_15 : decode cX3_init 15 = .ok (.return_, 1) := by decide +kernel
theorem dX3_judge_0 : decode cX3_judge 0 = .ok (.aload_n 0, 1) := by decide +kernel
theorem dX3_judge_1 : decode cX3_judge 1 = .ok (.getfield 16, 3) := by decide +kernel
theorem dX3_judge_4 : decode cX3_judge 4 = .ok (.getfield 20, 3) := by decide +kernel
theorem dX3_judge_7 : decode cX3_judge 7 = .ok (.astore_n 1, 1) := by decide +kernel
theorem dX3_judge_8 : decode cX3_judge 8 = .ok (.aload_n 1, 1) := by decide +kernel
theorem dX3_judge_9 : decode cX3_judge 9 = .ok (.ifnull 16, 3) := by decide +kernel
theorem dX3_judge_12 : decode cX3_judge 12 = .ok (.aload_n 0, 1) := by decide +kernel
theorem dX3_judge_13 : decode cX3_judge 13 = .ok (.aload_n 1, 1) := by decide +kernel
theorem dX3_judge_14 : decode cX3_judge 14 = .ok (.invokevirtual 26, 3) := by decide +kernel
theorem dX3_judge_17 : decode cX3_judge 17 = .ok (.aload_n 1, 1) := by decide +kernel
theorem dX3_judge_18 : decode cX3_judge 18 = .ok (.getfield 30, 3) := by decide +kernel
theorem dX3_judge_21 : decode cX3_judge 21 = .ok (.astore_n 1, 1) := by decide +kernel
theorem dX3_judge_22 : decode cX3_judge 22 = .ok (.goto (-14), 3) := by decide +kernel
theorem dX3_judge_25 : decode cX3_judge 25 = .ok (.aload_n 0, 1) := by decide +kernel
theorem dX3_judge_26 : decode cX3_judge 26 = .ok (.getfield 16, 3) := by decide +kernel
theorem dX3_judge_29 : decode cX3_judge 29 = .ok (.getfield 20, 3) := by decide +kernel
theorem dX3_judge_32 : decode cX3_judge 32 = .ok (.astore_n 1, 1) := by decide +kernel
theorem dX3_judge_33 : decode cX3_judge 33 = .ok (.aload_n 1, 1) := by decide +kernel
theorem dX3_judge_34 : decode cX3_judge 34 = .ok (.ifnull 16, 3) := by decide +kernel
theorem dX3_judge_37 : decode cX3_judge 37 = .ok (.aload_n 0, 1) := by decide +kernel
theorem dX3_judge_38 : decode cX3_judge 38 = .ok (.aload_n 1, 1) := by decide +kernel
theorem dX3_judge_39 : decode cX3_judge 39 = .ok (.invokevirtual 35, 3) := by decide +kernel
theorem dX3_judge_42 : decode cX3_judge 42 = .ok (.aload_n 1, 1) := by decide +kernel
theorem dX3_judge_43 : decode cX3_judge 43 = .ok (.getfield 30, 3) := by decide +kernel
theorem dX3_judge_46 : decode cX3_judge 46 = .ok (.astore_n 1, 1) := by decide +kernel
theorem dX3_judge_47 : decode cX3_judge 47 = .ok (.goto (-14), 3) := by decide +kernel
theorem dX3_judge_50 : decode cX3_judge 50 = .ok (.aload_n 0, 1) := by decide +kernel
theorem dX3_judge_51 : decode cX3_judge 51 = .ok (.getfield 16, 3) := by decide +kernel
theorem dX3_judge_54 : decode cX3_judge 54 = .ok (.getfield 20, 3) := by decide +kernel
theorem dX3_judge_57 : decode cX3_judge 57 = .ok (.astore_n 1, 1) := by decide +kernel
theorem dX3_judge_58 : decode cX3_judge 58 = .ok (.aload_n 1, 1) := by decide +kernel
theorem dX3_judge_59 : decode cX3_judge 59 = .ok (.ifnull 34, 3) := by decide +kernel
theorem dX3_judge_62 : decode cX3_judge 62 = .ok (.aload_n 1, 1) := by decide +kernel
theorem dX3_judge_63 : decode cX3_judge 63 = .ok (.getfield 38, 3) := by decide +kernel
theorem dX3_judge_66 : decode cX3_judge 66 = .ok (.astore_n 2, 1) := by decide +kernel
theorem dX3_judge_67 : decode cX3_judge 67 = .ok (.aload_n 2, 1) := by decide +kernel
theorem dX3_judge_68 : decode cX3_judge 68 = .ok (.ifnull 17, 3) := by decide +kernel
theorem dX3_judge_71 : decode cX3_judge 71 = .ok (.aload_n 0, 1) := by decide +kernel
theorem dX3_judge_72 : decode cX3_judge 72 = .ok (.aload_n 1, 1) := by decide +kernel
theorem dX3_judge_73 : decode cX3_judge 73 = .ok (.aload_n 2, 1) := by decide +kernel
theorem dX3_judge_74 : decode cX3_judge 74 = .ok (.invokevirtual 41, 3) := by decide +kernel
theorem dX3_judge_77 : decode cX3_judge 77 = .ok (.aload_n 2, 1) := by decide +kernel
theorem dX3_judge_78 : decode cX3_judge 78 = .ok (.getfield 30, 3) := by decide +kernel
theorem dX3_judge_81 : decode cX3_judge 81 = .ok (.astore_n 2, 1) := by decide +kernel
theorem dX3_judge_82 : decode cX3_judge 82 = .ok (.goto (-15), 3) := by decide +kernel
theorem dX3_judge_85 : decode cX3_judge 85 = .ok (.aload_n 1, 1) := by decide +kernel
theorem dX3_judge_86 : decode cX3_judge 86 = .ok (.getfield 30, 3) := by decide +kernel
theorem dX3_judge_89 : decode cX3_judge 89 = .ok (.astore_n 1, 1) := by decide +kernel
theorem dX3_judge_90 : decode cX3_judge 90 = .ok (.goto (-32), 3) := by decide +kernel
theorem dX3_judge_93 : decode cX3_judge 93 = .ok (.aload_n 0, 1) := by decide +kernel
theorem dX3_judge_94 : decode cX3_judge 94 = .ok (.getfield 16, 3) := by decide +kernel
theorem dX3_judge_97 : decode cX3_judge 97 = .ok (.getfield 45, 3) := by decide +kernel
theorem dX3_judge_100 : decode cX3_judge 100 = .ok (.astore_n 1, 1) := by decide +kernel
theorem dX3_judge_101 : decode cX3_judge 101 = .ok (.aload_n 1, 1) := by decide +kernel
theorem dX3_judge_102 : decode cX3_judge 102 = .ok (.ifnull 16, 3) := by decide +kernel
theorem dX3_judge_105 : decode cX3_judge 105 = .ok (.aload_n 0, 1) := by decide +kernel
theorem dX3_judge_106 : decode cX3_judge 106 = .ok (.aload_n 1, 1) := by decide +kernel
theorem dX3_judge_107 : decode cX3_judge 107 = .ok (.invokevirtual 49, 3) := by decide +kernel
theorem dX3_judge_110 : decode cX3_judge 110 = .ok (.aload_n 1, 1) := by decide +kernel
theorem dX3_judge_111 : decode cX3_judge 111 = .ok (.getfield 53, 3) := by decide +kernel
theorem dX3_judge_114 : decode cX3_judge 114 = .ok (.astore_n 1, 1) := by decide +kernel
theorem dX3_judge_115 : decode cX3_judge 115 = .ok (.goto (-14), 3) := by decide +kernel
theorem dX3_judge_118 : decode cX3_judge 118 = .ok (.aload_n 0, 1) := by decide +kernel
theorem dX3_judge_119 : decode cX3_judge 119 = .ok (.getfield 16, 3) := by decide +kernel
theorem dX3_judge_122 : decode cX3_judge 122 = .ok (.getfield 57, 3) := by decide +kernel
theorem dX3_judge_125 : decode cX3_judge 125 = .ok (.astore_n 1, 1) := by decide +kernel
theorem dX3_judge_126 : decode cX3_judge 126 = .ok (.aload_n 1, 1) := by decide +kernel
theorem dX3_judge_127 : decode cX3_judge 127 = .ok (.ifnull 16, 3) := by decide +kernel
theorem dX3_judge_130 : decode cX3_judge 130 = .ok (.aload_n 0, 1) := by decide +kernel
theorem dX3_judge_131 : decode cX3_judge 131 = .ok (.aload_n 1, 1) := by decide +kernel
theorem dX3_judge_132 : decode cX3_judge 132 = .ok (.invokevirtual 61, 3) := by decide +kernel
theorem dX3_judge_135 : decode cX3_judge 135 = .ok (.aload_n 1, 1) := by decide +kernel
theorem dX3_judge_136 : decode cX3_judge 136 = .ok (.getfield 65, 3) := by decide +kernel
theorem dX3_judge_139 : decode cX3_judge 139 = .ok (.astore_n 1, 1) := by decide +kernel
theorem dX3_judge_140 : decode cX3_judge 140 = .ok (.goto (-14), 3) := by decide +kernel
theorem dX3_judge_143 : decode cX3_judge 143 = .ok (.aload_n 0, 1) := by decide +kernel
theorem dX3_judge_144 : decode cX3_judge 144 = .ok (.getfield 10, 3) := by decide +kernel
theorem dX3_judge_147 : decode cX3_judge 147 = .ok (.ldc 9, 2) := by decide +kernel
theorem dX3_judge_149 : decode cX3_judge 149 = .ok (.if_icmp .ne 7, 3) := by decide +kernel
theorem dX3_judge_152 : decode cX3_judge 152 = .ok (.iconst 0, 1) := by decide +kernel
theorem dX3_judge_153 : decode cX3_judge 153 = .ok (.goto 7, 3) := by decide +kernel
theorem dX3_judge_156 : decode cX3_judge 156 = .ok (.aload_n 0, 1) := by decide +kernel
theorem dX3_judge_157 : decode cX3_judge 157 = .ok (.getfield 10, 3) := by decide +kernel
theorem dX3_judge_160 : decode cX3_judge 160 = .ok (.ireturn, 1) := by decide +kernel
theorem dX3_interfaceAhead_0 : decode cX3_interfaceAhead 0 = .ok (.aload_n 0, 1) := by decide +kernel
theorem dX3_interfaceAhead_1 : decode cX3_interfaceAhead 1 = .ok (.getfield 16, 3) := by decide +kernel
theorem dX3_interfaceAhead_4 : decode cX3_interfaceAhead 4 = .ok (.getfield 20, 3) := by decide +kernel
theorem dX3_interfaceAhead_7 : decode cX3_interfaceAhead 7 = .ok (.astore_n 3, 1) := by decide +kernel
theorem dX3_interfaceAhead_8 : decode cX3_interfaceAhead 8 = .ok (.aload_n 3, 1) := by decide +kernel
theorem dX3_interfaceAhead_9 : decode cX3_interfaceAhead 9 = .ok (.ifnull 33, 3) := by decide +kernel
theorem dX3_interfaceAhead_12 : decode cX3_interfaceAhead 12 = .ok (.aload_n 3, 1) := by decide +kernel
theorem dX3_interfaceAhead_13 : decode cX3_interfaceAhead 13 = .ok (.aload_n 1, 1) := by decide +kernel
theorem dX3_interfaceAhead_14 : decode cX3_interfaceAhead 14 = .ok (.if_acmp .eq 28, 3) := by decide +kernel
theorem dX3_interfaceAhead_17 : decode cX3_interfaceAhead 17 = .ok (.aload_n 3, 1) := by decide +kernel
theorem dX3_interfaceAhead_18 : decode cX3_interfaceAhead 18 = .ok (.getfield 76, 3) := by decide +kernel
theorem dX3_interfaceAhead_21 : decode cX3_interfaceAhead 21 = .ok (.ifCond .ne 13, 3) := by decide +kernel
theorem dX3_interfaceAhead_24 : decode cX3_interfaceAhead 24 = .ok (.aload_n 3, 1) := by decide +kernel
theorem dX3_interfaceAhead_25 : decode cX3_interfaceAhead 25 = .ok (.getfield 79, 3) := by decide +kernel
theorem dX3_interfaceAhead_28 : decode cX3_interfaceAhead 28 = .ok (.iload_n 2, 1) := by decide +kernel
theorem dX3_interfaceAhead_29 : decode cX3_interfaceAhead 29 = .ok (.if_icmp .ne 5, 3) := by decide +kernel
theorem dX3_interfaceAhead_32 : decode cX3_interfaceAhead 32 = .ok (.aload_n 3, 1) := by decide +kernel
theorem dX3_interfaceAhead_33 : decode cX3_interfaceAhead 33 = .ok (.areturn, 1) := by decide +kernel
theorem dX3_interfaceAhead_34 : decode cX3_interfaceAhead 34 = .ok (.aload_n 3, 1) := by decide +kernel
theorem dX3_interfaceAhead_35 : decode cX3_interfaceAhead 35 = .ok (.getfield 30, 3) := by decide +kernel
theorem dX3_interfaceAhead_38 : decode cX3_interfaceAhead 38 = .ok (.astore_n 3, 1) := by decide +kernel
theorem dX3_interfaceAhead_39 : decode cX3_interfaceAhead 39 = .ok (.goto (-31), 3) := by decide +kernel
theorem dX3_interfaceAhead_42 : decode cX3_interfaceAhead 42 = .ok (.aconst_null, 1) := by decide +kernel
theorem dX3_interfaceAhead_43 : decode cX3_interfaceAhead 43 = .ok (.areturn, 1) := by decide +kernel
theorem dX3_judgeUnit_0 : decode cX3_judgeUnit 0 = .ok (.aload_n 0, 1) := by decide +kernel
theorem dX3_judgeUnit_1 : decode cX3_judgeUnit 1 = .ok (.getfield 16, 3) := by decide +kernel
theorem dX3_judgeUnit_4 : decode cX3_judgeUnit 4 = .ok (.getfield 20, 3) := by decide +kernel
theorem dX3_judgeUnit_7 : decode cX3_judgeUnit 7 = .ok (.astore_n 2, 1) := by decide +kernel
theorem dX3_judgeUnit_8 : decode cX3_judgeUnit 8 = .ok (.aload_n 2, 1) := by decide +kernel
theorem dX3_judgeUnit_9 : decode cX3_judgeUnit 9 = .ok (.ifnull 55, 3) := by decide +kernel
theorem dX3_judgeUnit_12 : decode cX3_judgeUnit 12 = .ok (.aload_n 2, 1) := by decide +kernel
theorem dX3_judgeUnit_13 : decode cX3_judgeUnit 13 = .ok (.aload_n 1, 1) := by decide +kernel
theorem dX3_judgeUnit_14 : decode cX3_judgeUnit 14 = .ok (.if_acmp .eq 50, 3) := by decide +kernel
theorem dX3_judgeUnit_17 : decode cX3_judgeUnit 17 = .ok (.aload_n 2, 1) := by decide +kernel
theorem dX3_judgeUnit_18 : decode cX3_judgeUnit 18 = .ok (.getfield 79, 3) := by decide +kernel
theorem dX3_judgeUnit_21 : decode cX3_judgeUnit 21 = .ok (.aload_n 1, 1) := by decide +kernel
theorem dX3_judgeUnit_22 : decode cX3_judgeUnit 22 = .ok (.getfield 79, 3) := by decide +kernel
theorem dX3_judgeUnit_25 : decode cX3_judgeUnit 25 = .ok (.if_icmp .ne 31, 3) := by decide +kernel
theorem dX3_judgeUnit_28 : decode cX3_judgeUnit 28 = .ok (.aload_n 2, 1) := by decide +kernel
theorem dX3_judgeUnit_29 : decode cX3_judgeUnit 29 = .ok (.getfield 76, 3) := by decide +kernel
theorem dX3_judgeUnit_32 : decode cX3_judgeUnit 32 = .ok (.aload_n 1, 1) := by decide +kernel
theorem dX3_judgeUnit_33 : decode cX3_judgeUnit 33 = .ok (.getfield 76, 3) := by decide +kernel
theorem dX3_judgeUnit_36 : decode cX3_judgeUnit 36 = .ok (.if_icmp .eq 11, 3) := by decide +kernel
theorem dX3_judgeUnit_39 : decode cX3_judgeUnit 39 = .ok (.aload_n 2, 1) := by decide +kernel
theorem dX3_judgeUnit_40 : decode cX3_judgeUnit 40 = .ok (.getfield 76, 3) := by decide +kernel
theorem dX3_judgeUnit_43 : decode cX3_judgeUnit 43 = .ok (.iconst 1, 1) := by decide +kernel
theorem dX3_judgeUnit_44 : decode cX3_judgeUnit 44 = .ok (.if_icmp .ne 12, 3) := by decide +kernel
theorem dX3_judgeUnit_47 : decode cX3_judgeUnit 47 = .ok (.aload_n 0, 1) := by decide +kernel
theorem dX3_judgeUnit_48 : decode cX3_judgeUnit 48 = .ok (.iconst 5, 1) := by decide +kernel
theorem dX3_judgeUnit_49 : decode cX3_judgeUnit 49 = .ok (.aload_n 1, 1) := by decide +kernel
theorem dX3_judgeUnit_50 : decode cX3_judgeUnit 50 = .ok (.getfield 82, 3) := by decide +kernel
theorem dX3_judgeUnit_53 : decode cX3_judgeUnit 53 = .ok (.invokevirtual 85, 3) := by decide +kernel
theorem dX3_judgeUnit_56 : decode cX3_judgeUnit 56 = .ok (.aload_n 2, 1) := by decide +kernel
theorem dX3_judgeUnit_57 : decode cX3_judgeUnit 57 = .ok (.getfield 30, 3) := by decide +kernel
theorem dX3_judgeUnit_60 : decode cX3_judgeUnit 60 = .ok (.astore_n 2, 1) := by decide +kernel
theorem dX3_judgeUnit_61 : decode cX3_judgeUnit 61 = .ok (.goto (-53), 3) := by decide +kernel
theorem dX3_judgeUnit_64 : decode cX3_judgeUnit 64 = .ok (.aload_n 1, 1) := by decide +kernel
theorem dX3_judgeUnit_65 : decode cX3_judgeUnit 65 = .ok (.iconst 1, 1) := by decide +kernel
theorem dX3_judgeUnit_66 : decode cX3_judgeUnit 66 = .ok (.aload_n 1, 1) := by decide +kernel
theorem dX3_judgeUnit_67 : decode cX3_judgeUnit 67 = .ok (.getfield 89, 3) := by decide +kernel
theorem dX3_judgeUnit_70 : decode cX3_judgeUnit 70 = .ok (.ishl, 1) := by decide +kernel
theorem dX3_judgeUnit_71 : decode cX3_judgeUnit 71 = .ok (.putfield 92, 3) := by decide +kernel
theorem dX3_judgeUnit_74 : decode cX3_judgeUnit 74 = .ok (.aload_n 1, 1) := by decide +kernel
theorem dX3_judgeUnit_75 : decode cX3_judgeUnit 75 = .ok (.getfield 76, 3) := by decide +kernel
theorem dX3_judgeUnit_78 : decode cX3_judgeUnit 78 = .ok (.iconst 1, 1) := by decide +kernel
theorem dX3_judgeUnit_79 : decode cX3_judgeUnit 79 = .ok (.if_icmp .ne 45, 3) := by decide +kernel
theorem dX3_judgeUnit_82 : decode cX3_judgeUnit 82 = .ok (.aload_n 1, 1) := by decide +kernel
theorem dX3_judgeUnit_83 : decode cX3_judgeUnit 83 = .ok (.aload_n 0, 1) := by decide +kernel
theorem dX3_judgeUnit_84 : decode cX3_judgeUnit 84 = .ok (.aload_n 1, 1) := by decide +kernel
theorem dX3_judgeUnit_85 : decode cX3_judgeUnit 85 = .ok (.aload_n 1, 1) := by decide +kernel
theorem dX3_judgeUnit_86 : decode cX3_judgeUnit 86 = .ok (.getfield 79, 3) := by decide +kernel
theorem dX3_judgeUnit_89 : decode cX3_judgeUnit 89 = .ok (.invokevirtual 95, 3) := by decide +kernel
theorem dX3_judgeUnit_92 : decode cX3_judgeUnit 92 = .ok (.putfield 99, 3) := by decide +kernel
theorem dX3_judgeUnit_95 : decode cX3_judgeUnit 95 = .ok (.aload_n 1, 1) := by decide +kernel
theorem dX3_judgeUnit_96 : decode cX3_judgeUnit 96 = .ok (.dup, 1) := by decide +kernel
theorem dX3_judgeUnit_97 : decode cX3_judgeUnit 97 = .ok (.getfield 92, 3) := by decide +kernel
theorem dX3_judgeUnit_100 : decode cX3_judgeUnit 100 = .ok (.aload_n 1, 1) := by decide +kernel
theorem dX3_judgeUnit_101 : decode cX3_judgeUnit 101 = .ok (.getfield 99, 3) := by decide +kernel
theorem dX3_judgeUnit_104 : decode cX3_judgeUnit 104 = .ok (.ifnonnull 7, 3) := by decide +kernel
theorem dX3_judgeUnit_107 : decode cX3_judgeUnit 107 = .ok (.iconst 0, 1) := by decide +kernel
theorem dX3_judgeUnit_108 : decode cX3_judgeUnit 108 = .ok (.goto 12, 3) := by decide +kernel
theorem dX3_judgeUnit_111 : decode cX3_judgeUnit 111 = .ok (.iconst 1, 1) := by decide +kernel
theorem dX3_judgeUnit_112 : decode cX3_judgeUnit 112 = .ok (.aload_n 1, 1) := by decide +kernel
theorem dX3_judgeUnit_113 : decode cX3_judgeUnit 113 = .ok (.getfield 99, 3) := by decide +kernel
theorem dX3_judgeUnit_116 : decode cX3_judgeUnit 116 = .ok (.getfield 89, 3) := by decide +kernel
theorem dX3_judgeUnit_119 : decode cX3_judgeUnit 119 = .ok (.ishl, 1) := by decide +kernel
theorem dX3_judgeUnit_120 : decode cX3_judgeUnit 120 = .ok (.ior, 1) := by decide +kernel
theorem dX3_judgeUnit_121 : decode cX3_judgeUnit 121 = .ok (.putfield 92, 3) := by decide +kernel
theorem dX3_judgeUnit_124 : decode cX3_judgeUnit 124 = .ok (.aload_n 1, 1) := by decide +kernel
theorem dX3_judgeUnit_125 : decode cX3_judgeUnit 125 = .ok (.getfield 38, 3) := by decide +kernel
theorem dX3_judgeUnit_128 : decode cX3_judgeUnit 128 = .ok (.astore_n 2, 1) := by decide +kernel
theorem dX3_judgeUnit_129 : decode cX3_judgeUnit 129 = .ok (.aload_n 2, 1) := by decide +kernel
theorem dX3_judgeUnit_130 : decode cX3_judgeUnit 130 = .ok (.ifnull 90, 3) := by decide +kernel
theorem dX3_judgeUnit_133 : decode cX3_judgeUnit 133 = .ok (.aload_n 2, 1) := by decide +kernel
theorem dX3_judgeUnit_134 : decode cX3_judgeUnit 134 = .ok (.getfield 76, 3) := by decide +kernel
theorem dX3_judgeUnit_137 : decode cX3_judgeUnit 137 = .ok (.iconst 2, 1) := by decide +kernel
theorem dX3_judgeUnit_138 : decode cX3_judgeUnit 138 = .ok (.if_icmp .ne 82, 3) := by decide +kernel
theorem dX3_judgeUnit_141 : decode cX3_judgeUnit 141 = .ok (.aload_n 2, 1) := by decide +kernel
theorem dX3_judgeUnit_142 : decode cX3_judgeUnit 142 = .ok (.getfield 79, 3) := by decide +kernel
theorem dX3_judgeUnit_145 : decode cX3_judgeUnit 145 = .ok (.aload_n 1, 1) := by decide +kernel
theorem dX3_judgeUnit_146 : decode cX3_judgeUnit 146 = .ok (.getfield 79, 3) := by decide +kernel
theorem dX3_judgeUnit_149 : decode cX3_judgeUnit 149 = .ok (.if_icmp .ne 12, 3) := by decide +kernel
theorem dX3_judgeUnit_152 : decode cX3_judgeUnit 152 = .ok (.aload_n 0, 1) := by decide +kernel
theorem dX3_judgeUnit_153 : decode cX3_judgeUnit 153 = .ok (.iconst 5, 1) := by decide +kernel
theorem dX3_judgeUnit_154 : decode cX3_judgeUnit 154 = .ok (.aload_n 2, 1) := by decide +kernel
theorem dX3_judgeUnit_155 : decode cX3_judgeUnit 155 = .ok (.getfield 82, 3) := by decide +kernel
theorem dX3_judgeUnit_158 : decode cX3_judgeUnit 158 = .ok (.invokevirtual 85, 3) := by decide +kernel
theorem dX3_judgeUnit_161 : decode cX3_judgeUnit 161 = .ok (.aload_n 2, 1) := by decide +kernel
theorem dX3_judgeUnit_162 : decode cX3_judgeUnit 162 = .ok (.aload_n 0, 1) := by decide +kernel
theorem dX3_judgeUnit_163 : decode cX3_judgeUnit 163 = .ok (.aload_n 1, 1) := by decide +kernel
theorem dX3_judgeUnit_164 : decode cX3_judgeUnit 164 = .ok (.aload_n 2, 1) := by decide +kernel
theorem dX3_judgeUnit_165 : decode cX3_judgeUnit 165 = .ok (.getfield 79, 3) := by decide +kernel
theorem dX3_judgeUnit_168 : decode cX3_judgeUnit 168 = .ok (.invokevirtual 95, 3) := by decide +kernel
theorem dX3_judgeUnit_171 : decode cX3_judgeUnit 171 = .ok (.putfield 99, 3) := by decide +kernel
theorem dX3_judgeUnit_174 : decode cX3_judgeUnit 174 = .ok (.aload_n 2, 1) := by decide +kernel
theorem dX3_judgeUnit_175 : decode cX3_judgeUnit 175 = .ok (.getfield 99, 3) := by decide +kernel
theorem dX3_judgeUnit_178 : decode cX3_judgeUnit 178 = .ok (.ifnonnull 16, 3) := by decide +kernel
theorem dX3_judgeUnit_181 : decode cX3_judgeUnit 181 = .ok (.aload_n 0, 1) := by decide +kernel
theorem dX3_judgeUnit_182 : decode cX3_judgeUnit 182 = .ok (.bipush 6, 2) := by decide +kernel
theorem dX3_judgeUnit_184 : decode cX3_judgeUnit 184 = .ok (.aload_n 2, 1) := by decide +kernel
theorem dX3_judgeUnit_185 : decode cX3_judgeUnit 185 = .ok (.getfield 82, 3) := by decide +kernel
theorem dX3_judgeUnit_188 : decode cX3_judgeUnit 188 = .ok (.invokevirtual 85, 3) := by decide +kernel
theorem dX3_judgeUnit_191 : decode cX3_judgeUnit 191 = .ok (.goto 21, 3) := by decide +kernel
theorem dX3_judgeUnit_194 : decode cX3_judgeUnit 194 = .ok (.aload_n 1, 1) := by decide +kernel
theorem dX3_judgeUnit_195 : decode cX3_judgeUnit 195 = .ok (.dup, 1) := by decide +kernel
theorem dX3_judgeUnit_196 : decode cX3_judgeUnit 196 = .ok (.getfield 92, 3) := by decide +kernel
theorem dX3_judgeUnit_199 : decode cX3_judgeUnit 199 = .ok (.iconst 1, 1) := by decide +kernel
theorem dX3_judgeUnit_200 : decode cX3_judgeUnit 200 = .ok (.aload_n 2, 1) := by decide +kernel
theorem dX3_judgeUnit_201 : decode cX3_judgeUnit 201 = .ok (.getfield 99, 3) := by decide +kernel
theorem dX3_judgeUnit_204 : decode cX3_judgeUnit 204 = .ok (.getfield 89, 3) := by decide +kernel
theorem dX3_judgeUnit_207 : decode cX3_judgeUnit 207 = .ok (.ishl, 1) := by decide +kernel
theorem dX3_judgeUnit_208 : decode cX3_judgeUnit 208 = .ok (.ior, 1) := by decide +kernel
theorem dX3_judgeUnit_209 : decode cX3_judgeUnit 209 = .ok (.putfield 92, 3) := by decide +kernel
theorem dX3_judgeUnit_212 : decode cX3_judgeUnit 212 = .ok (.aload_n 2, 1) := by decide +kernel
theorem dX3_judgeUnit_213 : decode cX3_judgeUnit 213 = .ok (.getfield 30, 3) := by decide +kernel
theorem dX3_judgeUnit_216 : decode cX3_judgeUnit 216 = .ok (.astore_n 2, 1) := by decide +kernel
theorem dX3_judgeUnit_217 : decode cX3_judgeUnit 217 = .ok (.goto (-88), 3) := by decide +kernel
theorem dX3_judgeUnit_220 : decode cX3_judgeUnit 220 = .ok (.return_, 1) := by decide +kernel
theorem dX3_linkProcedures_0 : decode cX3_linkProcedures 0 = .ok (.aload_n 1, 1) := by decide +kernel
theorem dX3_linkProcedures_1 : decode cX3_linkProcedures 1 = .ok (.getfield 38, 3) := by decide +kernel
theorem dX3_linkProcedures_4 : decode cX3_linkProcedures 4 = .ok (.astore_n 2, 1) := by decide +kernel
theorem dX3_linkProcedures_5 : decode cX3_linkProcedures 5 = .ok (.aload_n 2, 1) := by decide +kernel
theorem dX3_linkProcedures_6 : decode cX3_linkProcedures 6 = .ok (.ifnull 69, 3) := by decide +kernel
theorem dX3_linkProcedures_9 : decode cX3_linkProcedures 9 = .ok (.aload_n 1, 1) := by decide +kernel
theorem dX3_linkProcedures_10 : decode cX3_linkProcedures 10 = .ok (.getfield 99, 3) := by decide +kernel
theorem dX3_linkProcedures_13 : decode cX3_linkProcedures 13 = .ok (.ifnull 62, 3) := by decide +kernel
theorem dX3_linkProcedures_16 : decode cX3_linkProcedures 16 = .ok (.aload_n 2, 1) := by decide +kernel
theorem dX3_linkProcedures_17 : decode cX3_linkProcedures 17 = .ok (.getfield 76, 3) := by decide +kernel
theorem dX3_linkProcedures_20 : decode cX3_linkProcedures 20 = .ok (.bipush 9, 2) := by decide +kernel
theorem dX3_linkProcedures_22 : decode cX3_linkProcedures 22 = .ok (.if_icmp .ne 45, 3) := by decide +kernel
theorem dX3_linkProcedures_25 : decode cX3_linkProcedures 25 = .ok (.aload_n 1, 1) := by decide +kernel
theorem dX3_linkProcedures_26 : decode cX3_linkProcedures 26 = .ok (.getfield 99, 3) := by decide +kernel
theorem dX3_linkProcedures_29 : decode cX3_linkProcedures 29 = .ok (.aload_n 2, 1) := by decide +kernel
theorem dX3_linkProcedures_30 : decode cX3_linkProcedures 30 = .ok (.getfield 79, 3) := by decide +kernel
theorem dX3_linkProcedures_33 : decode cX3_linkProcedures 33 = .ok (.invokestatic 102, 3) := by decide +kernel
theorem dX3_linkProcedures_36 : decode cX3_linkProcedures 36 = .ok (.astore_n 3, 1) := by decide +kernel
theorem dX3_linkProcedures_37 : decode cX3_linkProcedures 37 = .ok (.aload_n 3, 1) := by decide +kernel
theorem dX3_linkProcedures_38 : decode cX3_linkProcedures 38 = .ok (.ifnull 29, 3) := by decide +kernel
theorem dX3_linkProcedures_41 : decode cX3_linkProcedures 41 = .ok (.aload_n 3, 1) := by decide +kernel
theorem dX3_linkProcedures_42 : decode cX3_linkProcedures 42 = .ok (.getfield 76, 3) := by decide +kernel
theorem dX3_linkProcedures_45 : decode cX3_linkProcedures 45 = .ok (.bipush 9, 2) := by decide +kernel
theorem dX3_linkProcedures_47 : decode cX3_linkProcedures 47 = .ok (.if_icmp .ne 20, 3) := by decide +kernel
theorem dX3_linkProcedures_50 : decode cX3_linkProcedures 50 = .ok (.aload_n 3, 1) := by decide +kernel
theorem dX3_linkProcedures_51 : decode cX3_linkProcedures 51 = .ok (.getfield 99, 3) := by decide +kernel
theorem dX3_linkProcedures_54 : decode cX3_linkProcedures 54 = .ok (.ifnonnull 13, 3) := by decide +kernel
theorem dX3_linkProcedures_57 : decode cX3_linkProcedures 57 = .ok (.aload_n 3, 1) := by decide +kernel
theorem dX3_linkProcedures_58 : decode cX3_linkProcedures 58 = .ok (.aload_n 2, 1) := by decide +kernel
theorem dX3_linkProcedures_59 : decode cX3_linkProcedures 59 = .ok (.putfield 99, 3) := by decide +kernel
theorem dX3_linkProcedures_62 : decode cX3_linkProcedures 62 = .ok (.aload_n 2, 1) := by decide +kernel
theorem dX3_linkProcedures_63 : decode cX3_linkProcedures 63 = .ok (.aload_n 3, 1) := by decide +kernel
theorem dX3_linkProcedures_64 : decode cX3_linkProcedures 64 = .ok (.putfield 99, 3) := by decide +kernel
theorem dX3_linkProcedures_67 : decode cX3_linkProcedures 67 = .ok (.aload_n 2, 1) := by decide +kernel
theorem dX3_linkProcedures_68 : decode cX3_linkProcedures 68 = .ok (.getfield 30, 3) := by decide +kernel
theorem dX3_linkProcedures_71 : decode cX3_linkProcedures 71 = .ok (.astore_n 2, 1) := by decide +kernel
theorem dX3_linkProcedures_72 : decode cX3_linkProcedures 72 = .ok (.goto (-67), 3) := by decide +kernel
theorem dX3_linkProcedures_75 : decode cX3_linkProcedures 75 = .ok (.return_, 1) := by decide +kernel
theorem dX3_toldBy_0 : decode cX3_toldBy 0 = .ok (.aload_n 0, 1) := by decide +kernel
theorem dX3_toldBy_1 : decode cX3_toldBy 1 = .ok (.getfield 38, 3) := by decide +kernel
theorem dX3_toldBy_4 : decode cX3_toldBy 4 = .ok (.astore_n 2, 1) := by decide +kernel
theorem dX3_toldBy_5 : decode cX3_toldBy 5 = .ok (.aload_n 2, 1) := by decide +kernel
theorem dX3_toldBy_6 : decode cX3_toldBy 6 = .ok (.ifnull 29, 3) := by decide +kernel
theorem dX3_toldBy_9 : decode cX3_toldBy 9 = .ok (.aload_n 2, 1) := by decide +kernel
theorem dX3_toldBy_10 : decode cX3_toldBy 10 = .ok (.getfield 79, 3) := by decide +kernel
theorem dX3_toldBy_13 : decode cX3_toldBy 13 = .ok (.iload_n 1, 1) := by decide +kernel
theorem dX3_toldBy_14 : decode cX3_toldBy 14 = .ok (.if_icmp .ne 13, 3) := by decide +kernel
theorem dX3_toldBy_17 : decode cX3_toldBy 17 = .ok (.aload_n 2, 1) := by decide +kernel
theorem dX3_toldBy_18 : decode cX3_toldBy 18 = .ok (.getfield 76, 3) := by decide +kernel
theorem dX3_toldBy_21 : decode cX3_toldBy 21 = .ok (.iconst 2, 1) := by decide +kernel
theorem dX3_toldBy_22 : decode cX3_toldBy 22 = .ok (.if_icmp .eq 5, 3) := by decide +kernel
theorem dX3_toldBy_25 : decode cX3_toldBy 25 = .ok (.aload_n 2, 1) := by decide +kernel
theorem dX3_toldBy_26 : decode cX3_toldBy 26 = .ok (.areturn, 1) := by decide +kernel
theorem dX3_toldBy_27 : decode cX3_toldBy 27 = .ok (.aload_n 2, 1) := by decide +kernel
theorem dX3_toldBy_28 : decode cX3_toldBy 28 = .ok (.getfield 30, 3) := by decide +kernel
theorem dX3_toldBy_31 : decode cX3_toldBy 31 = .ok (.astore_n 2, 1) := by decide +kernel
theorem dX3_toldBy_32 : decode cX3_toldBy 32 = .ok (.goto (-27), 3) := by decide +kernel
theorem dX3_toldBy_35 : decode cX3_toldBy 35 = .ok (.aconst_null, 1) := by decide +kernel
theorem dX3_toldBy_36 : decode cX3_toldBy 36 = .ok (.areturn, 1) := by decide +kernel
theorem dX3_knownIn_0 : decode cX3_knownIn 0 = .ok (.aload_n 0, 1) := by decide +kernel
theorem dX3_knownIn_1 : decode cX3_knownIn 1 = .ok (.getfield 38, 3) := by decide +kernel
theorem dX3_knownIn_4 : decode cX3_knownIn 4 = .ok (.astore_n 2, 1) := by decide +kernel
theorem dX3_knownIn_5 : decode cX3_knownIn 5 = .ok (.aload_n 2, 1) := by decide +kernel
theorem dX3_knownIn_6 : decode cX3_knownIn 6 = .ok (.ifnull 21, 3) := by decide +kernel
theorem dX3_knownIn_9 : decode cX3_knownIn 9 = .ok (.aload_n 2, 1) := by decide +kernel
theorem dX3_knownIn_10 : decode cX3_knownIn 10 = .ok (.getfield 79, 3) := by decide +kernel
theorem dX3_knownIn_13 : decode cX3_knownIn 13 = .ok (.iload_n 1, 1) := by decide +kernel
theorem dX3_knownIn_14 : decode cX3_knownIn 14 = .ok (.if_icmp .ne 5, 3) := by decide +kernel
theorem dX3_knownIn_17 : decode cX3_knownIn 17 = .ok (.aload_n 2, 1) := by decide +kernel
theorem dX3_knownIn_18 : decode cX3_knownIn 18 = .ok (.areturn, 1) := by decide +kernel
theorem dX3_knownIn_19 : decode cX3_knownIn 19 = .ok (.aload_n 2, 1) := by decide +kernel
theorem dX3_knownIn_20 : decode cX3_knownIn 20 = .ok (.getfield 30, 3) := by decide +kernel
theorem dX3_knownIn_23 : decode cX3_knownIn 23 = .ok (.astore_n 2, 1) := by decide +kernel
theorem dX3_knownIn_24 : decode cX3_knownIn 24 = .ok (.goto (-19), 3) := by decide +kernel
theorem dX3_knownIn_27 : decode cX3_knownIn 27 = .ok (.aload_n 0, 1) := by decide +kernel
theorem dX3_knownIn_28 : decode cX3_knownIn 28 = .ok (.getfield 99, 3) := by decide +kernel
theorem dX3_knownIn_31 : decode cX3_knownIn 31 = .ok (.ifnonnull 7, 3) := by decide +kernel
theorem dX3_knownIn_34 : decode cX3_knownIn 34 = .ok (.aconst_null, 1) := by decide +kernel
theorem dX3_knownIn_35 : decode cX3_knownIn 35 = .ok (.goto 11, 3) := by decide +kernel
theorem dX3_knownIn_38 : decode cX3_knownIn 38 = .ok (.aload_n 0, 1) := by decide +kernel
theorem dX3_knownIn_39 : decode cX3_knownIn 39 = .ok (.getfield 99, 3) := by decide +kernel
theorem dX3_knownIn_42 : decode cX3_knownIn 42 = .ok (.iload_n 1, 1) := by decide +kernel
theorem dX3_knownIn_43 : decode cX3_knownIn 43 = .ok (.invokestatic 102, 3) := by decide +kernel
theorem dX3_knownIn_46 : decode cX3_knownIn 46 = .ok (.areturn, 1) := by decide +kernel
theorem dX3_judgeDeclaration_0 : decode cX3_judgeDeclaration 0 = .ok (.aload_n 2, 1) := by decide +kernel
theorem dX3_judgeDeclaration_1 : decode cX3_judgeDeclaration 1 = .ok (.getfield 76, 3) := by decide +kernel
theorem dX3_judgeDeclaration_4 : decode cX3_judgeDeclaration 4 = .ok (.iconst 5, 1) := by decide +kernel
theorem dX3_judgeDeclaration_5 : decode cX3_judgeDeclaration 5 = .ok (.if_icmp .eq 12, 3) := by decide +kernel
theorem dX3_judgeDeclaration_8 : decode cX3_judgeDeclaration 8 = .ok (.aload_n 2, 1) := by decide +kernel
theorem dX3_judgeDeclaration_9 : decode cX3_judgeDeclaration 9 = .ok (.getfield 76, 3) := by decide +kernel
theorem dX3_judgeDeclaration_12 : decode cX3_judgeDeclaration 12 = .ok (.bipush 6, 2) := by decide +kernel
theorem dX3_judgeDeclaration_14 : decode cX3_judgeDeclaration 14 = .ok (.if_icmp .ne 14, 3) := by decide +kernel
theorem dX3_judgeDeclaration_17 : decode cX3_judgeDeclaration 17 = .ok (.aload_n 0, 1) := by decide +kernel
theorem dX3_judgeDeclaration_18 : decode cX3_judgeDeclaration 18 = .ok (.aload_n 1, 1) := by decide +kernel
theorem dX3_judgeDeclaration_19 : decode cX3_judgeDeclaration 19 = .ok (.aload_n 2, 1) := by decide +kernel
theorem dX3_judgeDeclaration_20 : decode cX3_judgeDeclaration 20 = .ok (.getfield 105, 3) := by decide +kernel
theorem dX3_judgeDeclaration_23 : decode cX3_judgeDeclaration 23 = .ok (.iconst 3, 1) := by decide +kernel
theorem dX3_judgeDeclaration_24 : decode cX3_judgeDeclaration 24 = .ok (.invokevirtual 109, 3) := by decide +kernel
theorem dX3_judgeDeclaration_27 : decode cX3_judgeDeclaration 27 = .ok (.return_, 1) := by decide +kernel
theorem dX3_judgeDeclaration_28 : decode cX3_judgeDeclaration 28 = .ok (.aload_n 1, 1) := by decide +kernel
theorem dX3_judgeDeclaration_29 : decode cX3_judgeDeclaration 29 = .ok (.getfield 38, 3) := by decide +kernel
theorem dX3_judgeDeclaration_32 : decode cX3_judgeDeclaration 32 = .ok (.aload_n 2, 1) := by decide +kernel
theorem dX3_judgeDeclaration_33 : decode cX3_judgeDeclaration 33 = .ok (.invokestatic 113, 3) := by decide +kernel
theorem dX3_judgeDeclaration_36 : decode cX3_judgeDeclaration 36 = .ok (.ifCond .ne 11, 3) := by decide +kernel
theorem dX3_judgeDeclaration_39 : decode cX3_judgeDeclaration 39 = .ok (.aload_n 1, 1) := by decide +kernel
theorem dX3_judgeDeclaration_40 : decode cX3_judgeDeclaration 40 = .ok (.aload_n 2, 1) := by decide +kernel
theorem dX3_judgeDeclaration_41 : decode cX3_judgeDeclaration 41 = .ok (.invokestatic 117, 3) := by decide +kernel
theorem dX3_judgeDeclaration_44 : decode cX3_judgeDeclaration 44 = .ok (.ifCond .eq 12, 3) := by decide +kernel
theorem dX3_judgeDeclaration_47 : decode cX3_judgeDeclaration 47 = .ok (.aload_n 0, 1) := by decide +kernel
theorem dX3_judgeDeclaration_48 : decode cX3_judgeDeclaration 48 = .ok (.iconst 5, 1) := by decide +kernel
theorem dX3_judgeDeclaration_49 : decode cX3_judgeDeclaration 49 = .ok (.aload_n 2, 1) := by decide +kernel
theorem dX3_judgeDeclaration_50 : decode cX3_judgeDeclaration 50 = .ok (.getfield 82, 3) := by decide +kernel
theorem dX3_judgeDeclaration_53 : decode cX3_judgeDeclaration 53 = .ok (.invokevirtual 85, 3) := by decide +kernel
theorem dX3_judgeDeclaration_56 : decode cX3_judgeDeclaration 56 = .ok (.aload_n 2, 1) := by decide +kernel
theorem dX3_judgeDeclaration_57 : decode cX3_judgeDeclaration 57 = .ok (.getfield 76, 3) := by decide +kernel
theorem dX3_judgeDeclaration_60 : decode cX3_judgeDeclaration 60 = .ok (.bipush 9, 2) := by decide +kernel
theorem dX3_judgeDeclaration_62 : decode cX3_judgeDeclaration 62 = .ok (.if_icmp .ne 10, 3) := by decide +kernel
theorem dX3_judgeDeclaration_65 : decode cX3_judgeDeclaration 65 = .ok (.aload_n 2, 1) := by decide +kernel
theorem dX3_judgeDeclaration_66 : decode cX3_judgeDeclaration 66 = .ok (.getfield 120, 3) := by decide +kernel
theorem dX3_judgeDeclaration_69 : decode cX3_judgeDeclaration 69 = .ok (.ifnonnull 4, 3) := by decide +kernel
theorem dX3_judgeDeclaration_72 : decode cX3_judgeDeclaration 72 = .ok (.return_, 1) := by decide +kernel
theorem dX3_judgeDeclaration_73 : decode cX3_judgeDeclaration 73 = .ok (.aload_n 2, 1) := by decide +kernel
theorem dX3_judgeDeclaration_74 : decode cX3_judgeDeclaration 74 = .ok (.getfield 38, 3) := by decide +kernel
theorem dX3_judgeDeclaration_77 : decode cX3_judgeDeclaration 77 = .ok (.astore_n 3, 1) := by decide +kernel
theorem dX3_judgeDeclaration_78 : decode cX3_judgeDeclaration 78 = .ok (.aload_n 3, 1) := by decide +kernel
theorem dX3_judgeDeclaration_79 : decode cX3_judgeDeclaration 79 = .ok (.ifnull 45, 3) := by decide +kernel
theorem dX3_judgeDeclaration_82 : decode cX3_judgeDeclaration 82 = .ok (.aload_n 2, 1) := by decide +kernel
theorem dX3_judgeDeclaration_83 : decode cX3_judgeDeclaration 83 = .ok (.getfield 120, 3) := by decide +kernel
theorem dX3_judgeDeclaration_86 : decode cX3_judgeDeclaration 86 = .ok (.getfield 123, 3) := by decide +kernel
theorem dX3_judgeDeclaration_89 : decode cX3_judgeDeclaration 89 = .ok (.aload_n 3, 1) := by decide +kernel
theorem dX3_judgeDeclaration_90 : decode cX3_judgeDeclaration 90 = .ok (.invokestatic 113, 3) := by decide +kernel
theorem dX3_judgeDeclaration_93 : decode cX3_judgeDeclaration 93 = .ok (.ifCond .ne 14, 3) := by decide +kernel
theorem dX3_judgeDeclaration_96 : decode cX3_judgeDeclaration 96 = .ok (.aload_n 2, 1) := by decide +kernel
theorem dX3_judgeDeclaration_97 : decode cX3_judgeDeclaration 97 = .ok (.getfield 38, 3) := by decide +kernel
theorem dX3_judgeDeclaration_100 : decode cX3_judgeDeclaration 100 = .ok (.aload_n 3, 1) := by decide +kernel
theorem dX3_judgeDeclaration_101 : decode cX3_judgeDeclaration 101 = .ok (.invokestatic 113, 3) := by decide +kernel
theorem dX3_judgeDeclaration_104 : decode cX3_judgeDeclaration 104 = .ok (.ifCond .eq 12, 3) := by decide +kernel
theorem dX3_judgeDeclaration_107 : decode cX3_judgeDeclaration 107 = .ok (.aload_n 0, 1) := by decide +kernel
theorem dX3_judgeDeclaration_108 : decode cX3_judgeDeclaration 108 = .ok (.iconst 5, 1) := by decide +kernel
theorem dX3_judgeDeclaration_109 : decode cX3_judgeDeclaration 109 = .ok (.aload_n 3, 1) := by decide +kernel
theorem dX3_judgeDeclaration_110 : decode cX3_judgeDeclaration 110 = .ok (.getfield 82, 3) := by decide +kernel
theorem dX3_judgeDeclaration_113 : decode cX3_judgeDeclaration 113 = .ok (.invokevirtual 85, 3) := by decide +kernel
theorem dX3_judgeDeclaration_116 : decode cX3_judgeDeclaration 116 = .ok (.aload_n 3, 1) := by decide +kernel
theorem dX3_judgeDeclaration_117 : decode cX3_judgeDeclaration 117 = .ok (.getfield 30, 3) := by decide +kernel
theorem dX3_judgeDeclaration_120 : decode cX3_judgeDeclaration 120 = .ok (.astore_n 3, 1) := by decide +kernel
theorem dX3_judgeDeclaration_121 : decode cX3_judgeDeclaration 121 = .ok (.goto (-43), 3) := by decide +kernel
theorem dX3_judgeDeclaration_124 : decode cX3_judgeDeclaration 124 = .ok (.return_, 1) := by decide +kernel
theorem dX3_isToldByInterface_0 : decode cX3_isToldByInterface 0 = .ok (.aload_n 0, 1) := by decide +kernel
theorem dX3_isToldByInterface_1 : decode cX3_isToldByInterface 1 = .ok (.getfield 99, 3) := by decide +kernel
theorem dX3_isToldByInterface_4 : decode cX3_isToldByInterface 4 = .ok (.ifnonnull 7, 3) := by decide +kernel
theorem dX3_isToldByInterface_7 : decode cX3_isToldByInterface 7 = .ok (.aconst_null, 1) := by decide +kernel
theorem dX3_isToldByInterface_8 : decode cX3_isToldByInterface 8 = .ok (.goto 14, 3) := by decide +kernel
theorem dX3_isToldByInterface_11 : decode cX3_isToldByInterface 11 = .ok (.aload_n 0, 1) := by decide +kernel
theorem dX3_isToldByInterface_12 : decode cX3_isToldByInterface 12 = .ok (.getfield 99, 3) := by decide +kernel
theorem dX3_isToldByInterface_15 : decode cX3_isToldByInterface 15 = .ok (.aload_n 1, 1) := by decide +kernel
theorem dX3_isToldByInterface_16 : decode cX3_isToldByInterface 16 = .ok (.getfield 79, 3) := by decide +kernel
theorem dX3_isToldByInterface_19 : decode cX3_isToldByInterface 19 = .ok (.invokestatic 102, 3) := by decide +kernel
theorem dX3_isToldByInterface_22 : decode cX3_isToldByInterface 22 = .ok (.astore_n 2, 1) := by decide +kernel
theorem dX3_isToldByInterface_23 : decode cX3_isToldByInterface 23 = .ok (.aload_n 2, 1) := by decide +kernel
theorem dX3_isToldByInterface_24 : decode cX3_isToldByInterface 24 = .ok (.ifnull 25, 3) := by decide +kernel
theorem dX3_isToldByInterface_27 : decode cX3_isToldByInterface 27 = .ok (.aload_n 2, 1) := by decide +kernel
theorem dX3_isToldByInterface_28 : decode cX3_isToldByInterface 28 = .ok (.getfield 76, 3) := by decide +kernel
theorem dX3_isToldByInterface_31 : decode cX3_isToldByInterface 31 = .ok (.bipush 9, 2) := by decide +kernel
theorem dX3_isToldByInterface_33 : decode cX3_isToldByInterface 33 = .ok (.if_icmp .ne 12, 3) := by decide +kernel
theorem dX3_isToldByInterface_36 : decode cX3_isToldByInterface 36 = .ok (.aload_n 1, 1) := by decide +kernel
theorem dX3_isToldByInterface_37 : decode cX3_isToldByInterface 37 = .ok (.getfield 76, 3) := by decide +kernel
theorem dX3_isToldByInterface_40 : decode cX3_isToldByInterface 40 = .ok (.bipush 9, 2) := by decide +kernel
theorem dX3_isToldByInterface_42 : decode cX3_isToldByInterface 42 = .ok (.if_icmp .eq 7, 3) := by decide +kernel
theorem dX3_isToldByInterface_45 : decode cX3_isToldByInterface 45 = .ok (.iconst 1, 1) := by decide +kernel
theorem dX3_isToldByInterface_46 : decode cX3_isToldByInterface 46 = .ok (.goto 4, 3) := by decide +kernel
theorem dX3_isToldByInterface_49 : decode cX3_isToldByInterface 49 = .ok (.iconst 0, 1) := by decide +kernel
theorem dX3_isToldByInterface_50 : decode cX3_isToldByInterface 50 = .ok (.ireturn, 1) := by decide +kernel
theorem dX3_isThere_0 : decode cX3_isThere 0 = .ok (.aload_n 0, 1) := by decide +kernel
theorem dX3_isThere_1 : decode cX3_isThere 1 = .ok (.astore_n 2, 1) := by decide +kernel
theorem dX3_isThere_2 : decode cX3_isThere 2 = .ok (.aload_n 2, 1) := by decide +kernel
theorem dX3_isThere_3 : decode cX3_isThere 3 = .ok (.ifnull 60, 3) := by decide +kernel
theorem dX3_isThere_6 : decode cX3_isThere 6 = .ok (.aload_n 2, 1) := by decide +kernel
theorem dX3_isThere_7 : decode cX3_isThere 7 = .ok (.aload_n 1, 1) := by decide +kernel
theorem dX3_isThere_8 : decode cX3_isThere 8 = .ok (.if_acmp .eq 55, 3) := by decide +kernel
theorem dX3_isThere_11 : decode cX3_isThere 11 = .ok (.aload_n 2, 1) := by decide +kernel
theorem dX3_isThere_12 : decode cX3_isThere 12 = .ok (.getfield 79, 3) := by decide +kernel
theorem dX3_isThere_15 : decode cX3_isThere 15 = .ok (.aload_n 1, 1) := by decide +kernel
theorem dX3_isThere_16 : decode cX3_isThere 16 = .ok (.getfield 79, 3) := by decide +kernel
theorem dX3_isThere_19 : decode cX3_isThere 19 = .ok (.if_icmp .ne 36, 3) := by decide +kernel
theorem dX3_isThere_22 : decode cX3_isThere 22 = .ok (.aload_n 2, 1) := by decide +kernel
theorem dX3_isThere_23 : decode cX3_isThere 23 = .ok (.getfield 76, 3) := by decide +kernel
theorem dX3_isThere_26 : decode cX3_isThere 26 = .ok (.bipush 12, 2) := by decide +kernel
theorem dX3_isThere_28 : decode cX3_isThere 28 = .ok (.if_icmp .ne 7, 3) := by decide +kernel
theorem dX3_isThere_31 : decode cX3_isThere 31 = .ok (.iconst 1, 1) := by decide +kernel
theorem dX3_isThere_32 : decode cX3_isThere 32 = .ok (.goto 4, 3) := by decide +kernel
theorem dX3_isThere_35 : decode cX3_isThere 35 = .ok (.iconst 0, 1) := by decide +kernel
theorem dX3_isThere_36 : decode cX3_isThere 36 = .ok (.aload_n 1, 1) := by decide +kernel
theorem dX3_isThere_37 : decode cX3_isThere 37 = .ok (.getfield 76, 3) := by decide +kernel
theorem dX3_isThere_40 : decode cX3_isThere 40 = .ok (.bipush 12, 2) := by decide +kernel
theorem dX3_isThere_42 : decode cX3_isThere 42 = .ok (.if_icmp .ne 7, 3) := by decide +kernel
theorem dX3_isThere_45 : decode cX3_isThere 45 = .ok (.iconst 1, 1) := by decide +kernel
theorem dX3_isThere_46 : decode cX3_isThere 46 = .ok (.goto 4, 3) := by decide +kernel
theorem dX3_isThere_49 : decode cX3_isThere 49 = .ok (.iconst 0, 1) := by decide +kernel
theorem dX3_isThere_50 : decode cX3_isThere 50 = .ok (.if_icmp .ne 5, 3) := by decide +kernel
theorem dX3_isThere_53 : decode cX3_isThere 53 = .ok (.iconst 1, 1) := by decide +kernel
theorem dX3_isThere_54 : decode cX3_isThere 54 = .ok (.ireturn, 1) := by decide +kernel
theorem dX3_isThere_55 : decode cX3_isThere 55 = .ok (.aload_n 2, 1) := by decide +kernel
theorem dX3_isThere_56 : decode cX3_isThere 56 = .ok (.getfield 30, 3) := by decide +kernel
theorem dX3_isThere_59 : decode cX3_isThere 59 = .ok (.astore_n 2, 1) := by decide +kernel
theorem dX3_isThere_60 : decode cX3_isThere 60 = .ok (.goto (-58), 3) := by decide +kernel
theorem dX3_isThere_63 : decode cX3_isThere 63 = .ok (.iconst 0, 1) := by decide +kernel
theorem dX3_isThere_64 : decode cX3_isThere 64 = .ok (.ireturn, 1) := by decide +kernel
theorem dX3_judgeNode_0 : decode cX3_judgeNode 0 = .ok (.aload_n 1, 1) := by decide +kernel
theorem dX3_judgeNode_1 : decode cX3_judgeNode 1 = .ok (.getfield 126, 3) := by decide +kernel
theorem dX3_judgeNode_4 : decode cX3_judgeNode 4 = .ok (.bipush 13, 2) := by decide +kernel
theorem dX3_judgeNode_6 : decode cX3_judgeNode 6 = .ok (.if_icmp .ne 16, 3) := by decide +kernel
theorem dX3_judgeNode_9 : decode cX3_judgeNode 9 = .ok (.aload_n 0, 1) := by decide +kernel
theorem dX3_judgeNode_10 : decode cX3_judgeNode 10 = .ok (.aload_n 1, 1) := by decide +kernel
theorem dX3_judgeNode_11 : decode cX3_judgeNode 11 = .ok (.getfield 127, 3) := by decide +kernel
theorem dX3_judgeNode_14 : decode cX3_judgeNode 14 = .ok (.aload_n 1, 1) := by decide +kernel
theorem dX3_judgeNode_15 : decode cX3_judgeNode 15 = .ok (.getfield 130, 3) := by decide +kernel
theorem dX3_judgeNode_18 : decode cX3_judgeNode 18 = .ok (.iconst 3, 1) := by decide +kernel
theorem dX3_judgeNode_19 : decode cX3_judgeNode 19 = .ok (.invokevirtual 109, 3) := by decide +kernel
theorem dX3_judgeNode_22 : decode cX3_judgeNode 22 = .ok (.aload_n 1, 1) := by decide +kernel
theorem dX3_judgeNode_23 : decode cX3_judgeNode 23 = .ok (.getfield 131, 3) := by decide +kernel
theorem dX3_judgeNode_26 : decode cX3_judgeNode 26 = .ok (.astore_n 2, 1) := by decide +kernel
theorem dX3_judgeNode_27 : decode cX3_judgeNode 27 = .ok (.aload_n 2, 1) := by decide +kernel
theorem dX3_judgeNode_28 : decode cX3_judgeNode 28 = .ok (.ifnull 22, 3) := by decide +kernel
theorem dX3_judgeNode_31 : decode cX3_judgeNode 31 = .ok (.aload_n 0, 1) := by decide +kernel
theorem dX3_judgeNode_32 : decode cX3_judgeNode 32 = .ok (.aload_n 1, 1) := by decide +kernel
theorem dX3_judgeNode_33 : decode cX3_judgeNode 33 = .ok (.getfield 127, 3) := by decide +kernel
theorem dX3_judgeNode_36 : decode cX3_judgeNode 36 = .ok (.aload_n 2, 1) := by decide +kernel
theorem dX3_judgeNode_37 : decode cX3_judgeNode 37 = .ok (.bipush 8, 2) := by decide +kernel
theorem dX3_judgeNode_39 : decode cX3_judgeNode 39 = .ok (.invokevirtual 109, 3) := by decide +kernel
theorem dX3_judgeNode_42 : decode cX3_judgeNode 42 = .ok (.aload_n 2, 1) := by decide +kernel
theorem dX3_judgeNode_43 : decode cX3_judgeNode 43 = .ok (.getfield 134, 3) := by decide +kernel
theorem dX3_judgeNode_46 : decode cX3_judgeNode 46 = .ok (.astore_n 2, 1) := by decide +kernel
theorem dX3_judgeNode_47 : decode cX3_judgeNode 47 = .ok (.goto (-20), 3) := by decide +kernel
theorem dX3_judgeNode_50 : decode cX3_judgeNode 50 = .ok (.aload_n 1, 1) := by decide +kernel
theorem dX3_judgeNode_51 : decode cX3_judgeNode 51 = .ok (.getfield 123, 3) := by decide +kernel
theorem dX3_judgeNode_54 : decode cX3_judgeNode 54 = .ok (.astore_n 2, 1) := by decide +kernel
theorem dX3_judgeNode_55 : decode cX3_judgeNode 55 = .ok (.aload_n 2, 1) := by decide +kernel
theorem dX3_judgeNode_56 : decode cX3_judgeNode 56 = .ok (.ifnull 52, 3) := by decide +kernel
theorem dX3_judgeNode_59 : decode cX3_judgeNode 59 = .ok (.aload_n 1, 1) := by decide +kernel
theorem dX3_judgeNode_60 : decode cX3_judgeNode 60 = .ok (.getfield 123, 3) := by decide +kernel
theorem dX3_judgeNode_63 : decode cX3_judgeNode 63 = .ok (.aload_n 2, 1) := by decide +kernel
theorem dX3_judgeNode_64 : decode cX3_judgeNode 64 = .ok (.invokestatic 113, 3) := by decide +kernel
theorem dX3_judgeNode_67 : decode cX3_judgeNode 67 = .ok (.ifCond .eq 12, 3) := by decide +kernel
theorem dX3_judgeNode_70 : decode cX3_judgeNode 70 = .ok (.aload_n 0, 1) := by decide +kernel
theorem dX3_judgeNode_71 : decode cX3_judgeNode 71 = .ok (.iconst 5, 1) := by decide +kernel
theorem dX3_judgeNode_72 : decode cX3_judgeNode 72 = .ok (.aload_n 2, 1) := by decide +kernel
theorem dX3_judgeNode_73 : decode cX3_judgeNode 73 = .ok (.getfield 82, 3) := by decide +kernel
theorem dX3_judgeNode_76 : decode cX3_judgeNode 76 = .ok (.invokevirtual 85, 3) := by decide +kernel
theorem dX3_judgeNode_79 : decode cX3_judgeNode 79 = .ok (.aload_n 2, 1) := by decide +kernel
theorem dX3_judgeNode_80 : decode cX3_judgeNode 80 = .ok (.getfield 105, 3) := by decide +kernel
theorem dX3_judgeNode_83 : decode cX3_judgeNode 83 = .ok (.ifnull 17, 3) := by decide +kernel
theorem dX3_judgeNode_86 : decode cX3_judgeNode 86 = .ok (.aload_n 0, 1) := by decide +kernel
theorem dX3_judgeNode_87 : decode cX3_judgeNode 87 = .ok (.aload_n 1, 1) := by decide +kernel
theorem dX3_judgeNode_88 : decode cX3_judgeNode 88 = .ok (.getfield 127, 3) := by decide +kernel
theorem dX3_judgeNode_91 : decode cX3_judgeNode 91 = .ok (.aload_n 2, 1) := by decide +kernel
theorem dX3_judgeNode_92 : decode cX3_judgeNode 92 = .ok (.getfield 105, 3) := by decide +kernel
theorem dX3_judgeNode_95 : decode cX3_judgeNode 95 = .ok (.bipush 9, 2) := by decide +kernel
theorem dX3_judgeNode_97 : decode cX3_judgeNode 97 = .ok (.invokevirtual 109, 3) := by decide +kernel
theorem dX3_judgeNode_100 : decode cX3_judgeNode 100 = .ok (.aload_n 2, 1) := by decide +kernel
theorem dX3_judgeNode_101 : decode cX3_judgeNode 101 = .ok (.getfield 30, 3) := by decide +kernel
theorem dX3_judgeNode_104 : decode cX3_judgeNode 104 = .ok (.astore_n 2, 1) := by decide +kernel
theorem dX3_judgeNode_105 : decode cX3_judgeNode 105 = .ok (.goto (-50), 3) := by decide +kernel
theorem dX3_judgeNode_108 : decode cX3_judgeNode 108 = .ok (.return_, 1) := by decide +kernel
theorem dX3_judgeUse_0 : decode cX3_judgeUse 0 = .ok (.aload_n 1, 1) := by decide +kernel
theorem dX3_judgeUse_1 : decode cX3_judgeUse 1 = .ok (.ifnull 7, 3) := by decide +kernel
theorem dX3_judgeUse_4 : decode cX3_judgeUse 4 = .ok (.aload_n 2, 1) := by decide +kernel
theorem dX3_judgeUse_5 : decode cX3_judgeUse 5 = .ok (.ifnonnull 4, 3) := by decide +kernel
theorem dX3_judgeUse_8 : decode cX3_judgeUse 8 = .ok (.return_, 1) := by decide +kernel
theorem dX3_judgeUse_9 : decode cX3_judgeUse 9 = .ok (.aload_n 1, 1) := by decide +kernel
theorem dX3_judgeUse_10 : decode cX3_judgeUse 10 = .ok (.aload_n 2, 1) := by decide +kernel
theorem dX3_judgeUse_11 : decode cX3_judgeUse 11 = .ok (.getfield 138, 3) := by decide +kernel
theorem dX3_judgeUse_14 : decode cX3_judgeUse 14 = .ok (.iconst (-1), 1) := by decide +kernel
theorem dX3_judgeUse_15 : decode cX3_judgeUse 15 = .ok (.if_icmp .ne 10, 3) := by decide +kernel
theorem dX3_judgeUse_18 : decode cX3_judgeUse 18 = .ok (.aload_n 2, 1) := by decide +kernel
theorem dX3_judgeUse_19 : decode cX3_judgeUse 19 = .ok (.getfield 141, 3) := by decide +kernel
theorem dX3_judgeUse_22 : decode cX3_judgeUse 22 = .ok (.goto 7, 3) := by decide +kernel
theorem dX3_judgeUse_25 : decode cX3_judgeUse 25 = .ok (.aload_n 2, 1) := by decide +kernel
theorem dX3_judgeUse_26 : decode cX3_judgeUse 26 = .ok (.getfield 138, 3) := by decide +kernel
theorem dX3_judgeUse_29 : decode cX3_judgeUse 29 = .ok (.invokestatic 142, 3) := by decide +kernel
theorem dX3_judgeUse_32 : decode cX3_judgeUse 32 = .ok (.astore 4, 2) := by decide +kernel
theorem dX3_judgeUse_34 : decode cX3_judgeUse 34 = .ok (.aload 4, 2) := by decide +kernel
theorem dX3_judgeUse_36 : decode cX3_judgeUse 36 = .ok (.ifnull 58, 3) := by decide +kernel
theorem dX3_judgeUse_39 : decode cX3_judgeUse 39 = .ok (.aload_n 2, 1) := by decide +kernel
theorem dX3_judgeUse_40 : decode cX3_judgeUse 40 = .ok (.getfield 138, 3) := by decide +kernel
theorem dX3_judgeUse_43 : decode cX3_judgeUse 43 = .ok (.iconst (-1), 1) := by decide +kernel
theorem dX3_judgeUse_44 : decode cX3_judgeUse 44 = .ok (.if_icmp .eq 50, 3) := by decide +kernel
theorem dX3_judgeUse_47 : decode cX3_judgeUse 47 = .ok (.aload 4, 2) := by decide +kernel
theorem dX3_judgeUse_49 : decode cX3_judgeUse 49 = .ok (.getfield 76, 3) := by decide +kernel
theorem dX3_judgeUse_52 : decode cX3_judgeUse 52 = .ok (.iconst 2, 1) := by decide +kernel
theorem dX3_judgeUse_53 : decode cX3_judgeUse 53 = .ok (.if_icmp .ne 15, 3) := by decide +kernel
theorem dX3_judgeUse_56 : decode cX3_judgeUse 56 = .ok (.aload 4, 2) := by decide +kernel
theorem dX3_judgeUse_58 : decode cX3_judgeUse 58 = .ok (.getfield 99, 3) := by decide +kernel
theorem dX3_judgeUse_61 : decode cX3_judgeUse 61 = .ok (.ifnull 7, 3) := by decide +kernel
theorem dX3_judgeUse_64 : decode cX3_judgeUse 64 = .ok (.iconst 1, 1) := by decide +kernel
theorem dX3_judgeUse_65 : decode cX3_judgeUse 65 = .ok (.goto 4, 3) := by decide +kernel
theorem dX3_judgeUse_68 : decode cX3_judgeUse 68 = .ok (.iconst 0, 1) := by decide +kernel
theorem dX3_judgeUse_69 : decode cX3_judgeUse 69 = .ok (.istore 5, 2) := by decide +kernel
theorem dX3_judgeUse_71 : decode cX3_judgeUse 71 = .ok (.iload 5, 2) := by decide +kernel
theorem dX3_judgeUse_73 : decode cX3_judgeUse 73 = .ok (.ifCond .eq 18, 3) := by decide +kernel
theorem dX3_judgeUse_76 : decode cX3_judgeUse 76 = .ok (.aload 4, 2) := by decide +kernel
theorem dX3_judgeUse_78 : decode cX3_judgeUse 78 = .ok (.getfield 99, 3) := by decide +kernel
theorem dX3_judgeUse_81 : decode cX3_judgeUse 81 = .ok (.aload_n 2, 1) := by decide +kernel
theorem dX3_judgeUse_82 : decode cX3_judgeUse 82 = .ok (.getfield 141, 3) := by decide +kernel
theorem dX3_judgeUse_85 : decode cX3_judgeUse 85 = .ok (.invokestatic 102, 3) := by decide +kernel
theorem dX3_judgeUse_88 : decode cX3_judgeUse 88 = .ok (.goto 4, 3) := by decide +kernel
theorem dX3_judgeUse_91 : decode cX3_judgeUse 91 = .ok (.aconst_null, 1) := by decide +kernel
theorem dX3_judgeUse_92 : decode cX3_judgeUse 92 = .ok (.astore 4, 2) := by decide +kernel
theorem dX3_judgeUse_94 : decode cX3_judgeUse 94 = .ok (.aload 4, 2) := by decide +kernel
theorem dX3_judgeUse_96 : decode cX3_judgeUse 96 = .ok (.ifnonnull 16, 3) := by decide +kernel
theorem dX3_judgeUse_99 : decode cX3_judgeUse 99 = .ok (.aload_n 0, 1) := by decide +kernel
theorem dX3_judgeUse_100 : decode cX3_judgeUse 100 = .ok (.bipush 6, 2) := by decide +kernel
theorem dX3_judgeUse_102 : decode cX3_judgeUse 102 = .ok (.aload_n 2, 1) := by decide +kernel
theorem dX3_judgeUse_103 : decode cX3_judgeUse 103 = .ok (.getfield 145, 3) := by decide +kernel
theorem dX3_judgeUse_106 : decode cX3_judgeUse 106 = .ok (.invokevirtual 85, 3) := by decide +kernel
theorem dX3_judgeUse_109 : decode cX3_judgeUse 109 = .ok (.goto 45, 3) := by decide +kernel
theorem dX3_judgeUse_112 : decode cX3_judgeUse 112 = .ok (.aload 4, 2) := by decide +kernel
theorem dX3_judgeUse_114 : decode cX3_judgeUse 114 = .ok (.getfield 76, 3) := by decide +kernel
theorem dX3_judgeUse_117 : decode cX3_judgeUse 117 = .ok (.iload_n 3, 1) := by decide +kernel
theorem dX3_judgeUse_118 : decode cX3_judgeUse 118 = .ok (.if_icmp .eq 30, 3) := by decide +kernel
theorem dX3_judgeUse_121 : decode cX3_judgeUse 121 = .ok (.iload_n 3, 1) := by decide +kernel
theorem dX3_judgeUse_122 : decode cX3_judgeUse 122 = .ok (.iconst 3, 1) := by decide +kernel
theorem dX3_judgeUse_123 : decode cX3_judgeUse 123 = .ok (.if_icmp .ne 12, 3) := by decide +kernel
theorem dX3_judgeUse_126 : decode cX3_judgeUse 126 = .ok (.aload 4, 2) := by decide +kernel
theorem dX3_judgeUse_128 : decode cX3_judgeUse 128 = .ok (.getfield 76, 3) := by decide +kernel
theorem dX3_judgeUse_131 : decode cX3_judgeUse 131 = .ok (.iconst 4, 1) := by decide +kernel
theorem dX3_judgeUse_132 : decode cX3_judgeUse 132 = .ok (.if_icmp .eq 16, 3) := by decide +kernel
theorem dX3_judgeUse_135 : decode cX3_judgeUse 135 = .ok (.aload_n 0, 1) := by decide +kernel
theorem dX3_judgeUse_136 : decode cX3_judgeUse 136 = .ok (.bipush 7, 2) := by decide +kernel
theorem dX3_judgeUse_138 : decode cX3_judgeUse 138 = .ok (.aload_n 2, 1) := by decide +kernel
theorem dX3_judgeUse_139 : decode cX3_judgeUse 139 = .ok (.getfield 145, 3) := by decide +kernel
theorem dX3_judgeUse_142 : decode cX3_judgeUse 142 = .ok (.invokevirtual 85, 3) := by decide +kernel
theorem dX3_judgeUse_145 : decode cX3_judgeUse 145 = .ok (.goto 9, 3) := by decide +kernel
theorem dX3_judgeUse_148 : decode cX3_judgeUse 148 = .ok (.aload_n 2, 1) := by decide +kernel
theorem dX3_judgeUse_149 : decode cX3_judgeUse 149 = .ok (.aload 4, 2) := by decide +kernel
theorem dX3_judgeUse_151 : decode cX3_judgeUse 151 = .ok (.putfield 148, 3) := by decide +kernel
theorem dX3_judgeUse_154 : decode cX3_judgeUse 154 = .ok (.return_, 1) := by decide +kernel
theorem dX4_init_0 : decode cX4_init 0 = .ok (.aload_n 0, 1) := by decide +kernel
theorem dX4_init_1 : decode cX4_init 1 = .ok (.invokespecial 3, 3) := by decide +kernel
theorem dX4_init_4 : decode cX4_init 4 = .ok (.aload_n 0, 1) := by decide +kernel
theorem dX4_init_5 : decode cX4_init 5 = .ok (.iconst (-1), 1) := by decide +kernel
theorem dX4_init_6 : decode cX4_init 6 = .ok (.putfield 9, 3) := by decide +kernel
theorem dX4_init_9 : decode cX4_init 9 = .ok (.aload_n 0, 1) := by decide +kernel
theorem dX4_init_10 : decode cX4_init 10 = .ok (.iload_n 1, 1) := by decide +kernel
theorem dX4_init_11 : decode cX4_init 11 = .ok (.putfield 15, 3) := by decide +kernel
theorem dX4_init_14 : decode cX4_init 14 = .ok (.aload_n 0, 1) := by decide +kernel
theorem dX4_init_15 : decode cX4_init 15 = .ok (.iload_n 2, 1) := by decide +kernel
theorem dX4_init_16 : decode cX4_init 16 = .ok (.putfield 18, 3) := by decide +kernel
theorem dX4_init_19 : decode cX4_init 19 = .ok (.aload_n 0, 1) := by decide +kernel
theorem dX4_init_20 : decode cX4_init 20 = .ok (.iload_n 3, 1) := by decide +kernel
theorem dX4_init_21 : decode cX4_init 21 = .ok (.putfield 21, 3) := by decide +kernel
theorem dX4_init_24 : decode cX4_init 24 = .ok (.aload_n 0, 1) := by decide +kernel
theorem dX4_init_25 : decode cX4_init 25 = .ok (.aload 4, 2) := by decide +kernel
theorem dX4_init_27 : decode cX4_init 27 = .ok (.putfield 24, 3) := by decide +kernel
theorem dX4_init_30 : decode cX4_init 30 = .ok (.return_, 1) := by decide +kernel
theorem dX5_init_0 : decode cX5_init 0 = .ok (.aload_n 0, 1) := by decide +kernel
theorem dX5_init_1 : decode cX5_init 1 = .ok (.invokespecial 1, 3) := by decide +kernel
theorem dX5_init_4 : decode cX5_init 4 = .ok (.aload_n 0, 1) := by decide +kernel
theorem dX5_init_5 : decode cX5_init 5 = .ok (.iload_n 1, 1) := by decide +kernel
theorem dX5_init_6 : decode cX5_init 6 = .ok (.putfield 7, 3) := by decide +kernel
theorem dX5_init_9 : decode cX5_init 9 = .ok (.aload_n 0, 1) := by decide +kernel
theorem dX5_init_10 : decode cX5_init 10 = .ok (.iload_n 2, 1) := by decide +kernel
theorem dX5_init_11 : decode cX5_init 11 = .ok (.putfield 13, 3) := by decide +kernel
theorem dX5_init_14 : decode cX5_init 14 = .ok (.aload_n 0, 1) := by decide +kernel
theorem dX5_init_15 : decode cX5_init 15 = .ok (.iload_n 3, 1) := by decide +kernel
theorem dX5_init_16 : decode cX5_init 16 = .ok (.putfield 16, 3) := by decide +kernel
theorem dX5_init_19 : decode cX5_init 19 = .ok (.aload_n 0, 1) := by decide +kernel
theorem dX5_init_20 : decode cX5_init 20 = .ok (.iload 4, 2) := by decide +kernel
theorem dX5_init_22 : decode cX5_init 22 = .ok (.putfield 19, 3) := by decide +kernel
theorem dX5_init_25 : decode cX5_init 25 = .ok (.return_, 1) := by decide +kernel
theorem dX6_init_0 : decode cX6_init 0 = .ok (.aload_n 0, 1) := by decide +kernel
theorem dX6_init_1 : decode cX6_init 1 = .ok (.invokespecial 3, 3) := by decide +kernel
theorem dX6_init_4 : decode cX6_init 4 = .ok (.aload_n 0, 1) := by decide +kernel
theorem dX6_init_5 : decode cX6_init 5 = .ok (.iconst 4, 1) := by decide +kernel
theorem dX6_init_6 : decode cX6_init 6 = .ok (.newarray .int, 2) := by decide +kernel
theorem dX6_init_8 : decode cX6_init 8 = .ok (.putfield 9, 3) := by decide +kernel
theorem dX6_init_11 : decode cX6_init 11 = .ok (.aload_n 0, 1) := by decide +kernel
theorem dX6_init_12 : decode cX6_init 12 = .ok (.sipush 200, 3) := by decide +kernel
theorem dX6_init_15 : decode cX6_init 15 = .ok (.newarray .int, 2) := by decide +kernel
theorem dX6_init_17 : decode cX6_init 17 = .ok (.putfield 15, 3) := by decide +kernel
theorem dX6_init_20 : decode cX6_init 20 = .ok (.aload_n 0, 1) := by decide +kernel
theorem dX6_init_21 : decode cX6_init 21 = .ok (.aload_n 1, 1) := by decide +kernel
theorem dX6_init_22 : decode cX6_init 22 = .ok (.putfield 18, 3) := by decide +kernel
theorem dX6_init_25 : decode cX6_init 25 = .ok (.aload_n 0, 1) := by decide +kernel
theorem dX6_init_26 : decode cX6_init 26 = .ok (.new 22, 3) := by decide +kernel
theorem dX6_init_29 : decode cX6_init 29 = .ok (.dup, 1) := by decide +kernel
theorem dX6_init_30 : decode cX6_init 30 = .ok (.bipush 10, 2) := by decide +kernel
theorem dX6_init_32 : decode cX6_init 32 = .ok (.iconst 0, 1) := by decide +kernel
theorem dX6_init_33 : decode cX6_init 33 = .ok (.iconst 0, 1) := by decide +kernel
theorem dX6_init_34 : decode cX6_init 34 = .ok (.aconst_null, 1) := by decide +kernel
theorem dX6_init_35 : decode cX6_init 35 = .ok (.invokespecial 24, 3) := by decide +kernel
theorem dX6_init_38 : decode cX6_init 38 = .ok (.putfield 27, 3) := by decide +kernel
theorem dX6_init_41 : decode cX6_init 41 = .ok (.aload_n 0, 1) := by decide +kernel
theorem dX6_init_42 : decode cX6_init 42 = .ok (.new 22, 3) := by decide +kernel
theorem dX6_init_45 : decode cX6_init 45 = .ok (.dup, 1) := by decide +kernel
theorem dX6_init_46 : decode cX6_init 46 = .ok (.iconst 0, 1) := by decide +kernel
theorem dX6_init_47 : decode cX6_init 47 = .ok (.iconst 1, 1) := by decide +kernel
theorem dX6_init_48 : decode cX6_init 48 = .ok (.iconst 0, 1) := by decide +kernel
theorem dX6_init_49 : decode cX6_init 49 = .ok (.aconst_null, 1) := by decide +kernel
theorem dX6_init_50 : decode cX6_init 50 = .ok (.invokespecial 24, 3) := by decide +kernel
theorem dX6_init_53 : decode cX6_init 53 = .ok (.putfield 31, 3) := by decide +kernel
theorem dX6_init_56 : decode cX6_init 56 = .ok (.aload_n 0, 1) := by decide +kernel
theorem dX6_init_57 : decode cX6_init 57 = .ok (.new 22, 3) := by decide +kernel
theorem dX6_init_60 : decode cX6_init 60 = .ok (.dup, 1) := by decide +kernel
theorem dX6_init_61 : decode cX6_init 61 = .ok (.iconst 1, 1) := by decide +kernel
theorem dX6_init_62 : decode cX6_init 62 = .ok (.iconst 2, 1) := by decide +kernel
theorem dX6_init_63 : decode cX6_init 63 = .ok (.iconst 0, 1) := by decide +kernel
theorem dX6_init_64 : decode cX6_init 64 = .ok (.aconst_null, 1) := by decide +kernel
theorem dX6_init_65 : decode cX6_init 65 = .ok (.invokespecial 24, 3) := by decide +kernel
theorem dX6_init_68 : decode cX6_init 68 = .ok (.putfield 34, 3) := by decide +kernel
theorem dX6_init_71 : decode cX6_init 71 = .ok (.aload_n 0, 1) := by decide +kernel
theorem dX6_init_72 : decode cX6_init 72 = .ok (.getfield 27, 3) := by decide +kernel
theorem dX6_init_75 : decode cX6_init 75 = .ok (.aload_n 0, 1) := by decide +kernel
theorem dX6_init_76 : decode cX6_init 76 = .ok (.getfield 31, 3) := by decide +kernel
theorem dX6_init_79 : decode cX6_init 79 = .ok (.putfield 37, 3) := by decide +kernel
theorem dX6_init_82 : decode cX6_init 82 = .ok (.aload_n 0, 1) := by decide +kernel
theorem dX6_init_83 : decode cX6_init 83 = .ok (.getfield 31, 3) := by decide +kernel
theorem dX6_init_86 : decode cX6_init 86 = .ok (.aload_n 0, 1) := by decide +kernel
theorem dX6_init_87 : decode cX6_init 87 = .ok (.getfield 34, 3) := by decide +kernel
theorem dX6_init_90 : decode cX6_init 90 = .ok (.putfield 37, 3) := by decide +kernel
theorem dX6_init_93 : decode cX6_init 93 = .ok (.aload_n 0, 1) := by decide +kernel
theorem dX6_init_94 : decode cX6_init 94 = .ok (.aload_n 0, 1) := by decide +kernel
theorem dX6_init_95 : decode cX6_init 95 = .ok (.getfield 34, 3) := by decide +kernel
theorem dX6_init_98 : decode cX6_init 98 = .ok (.putfield 40, 3) := by decide +kernel
theorem dX6_init_101 : decode cX6_init 101 = .ok (.return_, 1) := by decide +kernel
theorem dX6_tokens_0 : decode cX6_tokens 0 = .ok (.aload_n 0, 1) := by decide +kernel
theorem dX6_tokens_1 : decode cX6_tokens 1 = .ok (.getfield 18, 3) := by decide +kernel
theorem dX6_tokens_4 : decode cX6_tokens 4 = .ok (.getfield 43, 3) := by decide +kernel
theorem dX6_tokens_7 : decode cX6_tokens 7 = .ok (.ireturn, 1) := by decide +kernel
theorem dX6_nodeCount_0 : decode cX6_nodeCount 0 = .ok (.aload_n 0, 1) := by decide +kernel
theorem dX6_nodeCount_1 : decode cX6_nodeCount 1 = .ok (.getfield 40, 3) := by decide +kernel
theorem dX6_nodeCount_4 : decode cX6_nodeCount 4 = .ok (.getfield 49, 3) := by decide +kernel
theorem dX6_nodeCount_7 : decode cX6_nodeCount 7 = .ok (.iconst 1, 1) := by decide +kernel
theorem dX6_nodeCount_8 : decode cX6_nodeCount 8 = .ok (.iadd, 1) := by decide +kernel
theorem dX6_nodeCount_9 : decode cX6_nodeCount 9 = .ok (.ireturn, 1) := by decide +kernel
theorem dX6_accept_0 : decode cX6_accept 0 = .ok (.aload_n 0, 1) := by decide +kernel
theorem dX6_accept_1 : decode cX6_accept 1 = .ok (.getfield 55, 3) := by decide +kernel
theorem dX6_accept_4 : decode cX6_accept 4 = .ok (.iload_n 1, 1) := by decide +kernel
theorem dX6_accept_5 : decode cX6_accept 5 = .ok (.if_icmp .eq 5, 3) := by decide +kernel
theorem dX6_accept_8 : decode cX6_accept 8 = .ok (.iconst 0, 1) := by decide +kernel
theorem dX6_accept_9 : decode cX6_accept 9 = .ok (.ireturn, 1) := by decide +kernel
theorem dX6_accept_10 : decode cX6_accept 10 = .ok (.aload_n 0, 1) := by decide +kernel
theorem dX6_accept_11 : decode cX6_accept 11 = .ok (.getfield 61, 3) := by decide +kernel
theorem dX6_accept_14 : decode cX6_accept 14 = .ok (.aload_n 0, 1) := by decide +kernel
theorem dX6_accept_15 : decode cX6_accept 15 = .ok (.getfield 18, 3) := by decide +kernel
theorem dX6_accept_18 : decode cX6_accept 18 = .ok (.getfield 43, 3) := by decide +kernel
theorem dX6_accept_21 : decode cX6_accept 21 = .ok (.if_icmp .ge 13, 3) := by decide +kernel
theorem dX6_accept_24 : decode cX6_accept 24 = .ok (.aload_n 0, 1) := by decide +kernel
theorem dX6_accept_25 : decode cX6_accept 25 = .ok (.dup, 1) := by decide +kernel
theorem dX6_accept_26 : decode cX6_accept 26 = .ok (.getfield 61, 3) := by decide +kernel
theorem dX6_accept_29 : decode cX6_accept 29 = .ok (.iconst 1, 1) := by decide +kernel
theorem dX6_accept_30 : decode cX6_accept 30 = .ok (.iadd, 1) := by decide +kernel
theorem dX6_accept_31 : decode cX6_accept 31 = .ok (.putfield 61, 3) := by decide +kernel
theorem dX6_accept_34 : decode cX6_accept 34 = .ok (.aload_n 0, 1) := by decide +kernel
theorem dX6_accept_35 : decode cX6_accept 35 = .ok (.aload_n 0, 1) := by decide +kernel
theorem dX6_accept_36 : decode cX6_accept 36 = .ok (.getfield 18, 3) := by decide +kernel
theorem dX6_accept_39 : decode cX6_accept 39 = .ok (.getfield 64, 3) := by decide +kernel
theorem dX6_accept_42 : decode cX6_accept 42 = .ok (.aload_n 0, 1) := by decide +kernel
theorem dX6_accept_43 : decode cX6_accept 43 = .ok (.getfield 61, 3) := by decide +kernel
theorem dX6_accept_46 : decode cX6_accept 46 = .ok (.iaload, 1) := by decide +kernel
theorem dX6_accept_47 : decode cX6_accept 47 = .ok (.putfield 55, 3) := by decide +kernel
theorem dX6_accept_50 : decode cX6_accept 50 = .ok (.iconst 1, 1) := by decide +kernel
theorem dX6_accept_51 : decode cX6_accept 51 = .ok (.ireturn, 1) := by decide +kernel
theorem dX6_advance_0 : decode cX6_advance 0 = .ok (.aload_n 0, 1) := by decide +kernel
theorem dX6_advance_1 : decode cX6_advance 1 = .ok (.aload_n 0, 1) := by decide +kernel
theorem dX6_advance_2 : decode cX6_advance 2 = .ok (.getfield 55, 3) := by decide +kernel
theorem dX6_advance_5 : decode cX6_advance 5 = .ok (.invokevirtual 67, 3) := by decide +kernel
theorem dX6_advance_8 : decode cX6_advance 8 = .ok (.pop, 1) := by decide +kernel
theorem dX6_advance_9 : decode cX6_advance 9 = .ok (.return_, 1) := by decide +kernel
theorem dX6_take_0 : decode cX6_take 0 = .ok (.aload_n 0, 1) := by decide +kernel
theorem dX6_take_1 : decode cX6_take 1 = .ok (.iload_n 1, 1) := by decide +kernel
theorem dX6_take_2 : decode cX6_take 2 = .ok (.invokevirtual 67, 3) := by decide +kernel
theorem dX6_take_5 : decode cX6_take 5 = .ok (.ifCond .ne 8, 3) := by decide +kernel
theorem dX6_take_8 : decode cX6_take 8 = .ok (.aload_n 0, 1) := by decide +kernel
theorem dX6_take_9 : decode cX6_take 9 = .ok (.iconst 2, 1) := by decide +kernel
theorem dX6_take_10 : decode cX6_take 10 = .ok (.invokevirtual 71, 3) := by decide +kernel
theorem dX6_take_13 : decode cX6_take 13 = .ok (.return_, 1) := by decide +kernel
theorem dX6_takeName_0 : decode cX6_takeName 0 = .ok (.aload_n 0, 1) := by decide +kernel
theorem dX6_takeName_1 : decode cX6_takeName 1 = .ok (.getfield 18, 3) := by decide +kernel
theorem dX6_takeName_4 : decode cX6_takeName 4 = .ok (.getfield 75, 3) := by decide +kernel
theorem dX6_takeName_7 : decode cX6_takeName 7 = .ok (.aload_n 0, 1) := by decide +kernel
theorem dX6_takeName_8 : decode cX6_takeName 8 = .ok (.getfield 61, 3) := by decide +kernel
theorem dX6_takeName_11 : decode cX6_takeName 11 = .ok (.iaload, 1) := by decide +kernel
theorem dX6_takeName_12 : decode cX6_takeName 12 = .ok (.istore_n 1, 1) := by decide +kernel
theorem dX6_takeName_13 : decode cX6_takeName 13 = .ok (.aload_n 0, 1) := by decide +kernel
theorem dX6_takeName_14 : decode cX6_takeName 14 = .ok (.iconst 2, 1) := by decide +kernel
theorem dX6_takeName_15 : decode cX6_takeName 15 = .ok (.invokevirtual 67, 3) := by decide +kernel
theorem dX6_takeName_18 : decode cX6_takeName 18 = .ok (.ifCond .eq 5, 3) := by decide +kernel
theorem dX6_takeName_21 : decode cX6_takeName 21 = .ok (.iload_n 1, 1) := by decide +kernel
theorem dX6_takeName_22 : decode cX6_takeName 22 = .ok (.ireturn, 1) := by decide +kernel
theorem dX6_takeName_23 : decode cX6_takeName 23 = .ok (.aload_n 0, 1) := by decide +kernel
theorem dX6_takeName_24 : decode cX6_takeName 24 = .ok (.iconst 2, 1) := by decide +kernel
theorem dX6_takeName_25 : decode cX6_takeName 25 = .ok (.invokevirtual 71, 3) := by decide +kernel
theorem dX6_takeName_28 : decode cX6_takeName 28 = .ok (.iconst (-1), 1) := by decide +kernel
theorem dX6_takeName_29 : decode cX6_takeName 29 = .ok (.ireturn, 1) := by decide +kernel
theorem dX6_takeEndName_0 : decode cX6_takeEndName 0 = .ok (.aload_n 0, 1) := by decide +kernel
theorem dX6_takeEndName_1 : decode cX6_takeEndName 1 = .ok (.getfield 55, 3) := by decide +kernel
theorem dX6_takeEndName_4 : decode cX6_takeEndName 4 = .ok (.iconst 2, 1) := by decide +kernel
theorem dX6_takeEndName_5 : decode cX6_takeEndName 5 = .ok (.if_icmp .ne 27, 3) := by decide +kernel
theorem dX6_takeEndName_8 : decode cX6_takeEndName 8 = .ok (.aload_n 0, 1) := by decide +kernel
theorem dX6_takeEndName_9 : decode cX6_takeEndName 9 = .ok (.getfield 18, 3) := by decide +kernel
theorem dX6_takeEndName_12 : decode cX6_takeEndName 12 = .ok (.getfield 75, 3) := by decide +kernel
theorem dX6_takeEndName_15 : decode cX6_takeEndName 15 = .ok (.aload_n 0, 1) := by decide +kernel
theorem dX6_takeEndName_16 : decode cX6_takeEndName 16 = .ok (.getfield 61, 3) := by decide +kernel
theorem dX6_takeEndName_19 : decode cX6_takeEndName 19 = .ok (.iaload, 1) := by decide +kernel
theorem dX6_takeEndName_20 : decode cX6_takeEndName 20 = .ok (.aload_n 1, 1) := by decide +kernel
theorem dX6_takeEndName_21 : decode cX6_takeEndName 21 = .ok (.getfield 78, 3) := by decide +kernel
theorem dX6_takeEndName_24 : decode cX6_takeEndName 24 = .ok (.if_icmp .eq 8, 3) := by decide +kernel
theorem dX6_takeEndName_27 : decode cX6_takeEndName 27 = .ok (.aload_n 0, 1) := by decide +kernel
theorem dX6_takeEndName_28 : decode cX6_takeEndName 28 = .ok (.iconst 4, 1) := by decide +kernel
theorem dX6_takeEndName_29 : decode cX6_takeEndName 29 = .ok (.invokevirtual 71, 3) := by decide +kernel
theorem dX6_takeEndName_32 : decode cX6_takeEndName 32 = .ok (.aload_n 0, 1) := by decide +kernel
theorem dX6_takeEndName_33 : decode cX6_takeEndName 33 = .ok (.iconst 2, 1) := by decide +kernel
theorem dX6_takeEndName_34 : decode cX6_takeEndName 34 = .ok (.invokevirtual 83, 3) := by decide +kernel
theorem dX6_takeEndName_37 : decode cX6_takeEndName 37 = .ok (.return_, 1) := by decide +kernel
theorem dX6_takeOpening_0 : decode cX6_takeOpening 0 = .ok (.aload_n 0, 1) := by decide +kernel
theorem dX6_takeOpening_1 : decode cX6_takeOpening 1 = .ok (.getfield 55, 3) := by decide +kernel
theorem dX6_takeOpening_4 : decode cX6_takeOpening 4 = .ok (.iload_n 1, 1) := by decide +kernel
theorem dX6_takeOpening_5 : decode cX6_takeOpening 5 = .ok (.if_icmp .eq 11, 3) := by decide +kernel
theorem dX6_takeOpening_8 : decode cX6_takeOpening 8 = .ok (.aload_n 0, 1) := by decide +kernel
theorem dX6_takeOpening_9 : decode cX6_takeOpening 9 = .ok (.iconst 2, 1) := by decide +kernel
theorem dX6_takeOpening_10 : decode cX6_takeOpening 10 = .ok (.invokevirtual 71, 3) := by decide +kernel
theorem dX6_takeOpening_13 : decode cX6_takeOpening 13 = .ok (.goto 38, 3) := by decide +kernel
theorem dX6_takeOpening_16 : decode cX6_takeOpening 16 = .ok (.aload_n 0, 1) := by decide +kernel
theorem dX6_takeOpening_17 : decode cX6_takeOpening 17 = .ok (.getfield 9, 3) := by decide +kernel
theorem dX6_takeOpening_20 : decode cX6_takeOpening 20 = .ok (.iconst 0, 1) := by decide +kernel
theorem dX6_takeOpening_21 : decode cX6_takeOpening 21 = .ok (.iaload, 1) := by decide +kernel
theorem dX6_takeOpening_22 : decode cX6_takeOpening 22 = .ok (.bipush 20, 2) := by decide +kernel
theorem dX6_takeOpening_24 : decode cX6_takeOpening 24 = .ok (.if_icmp .lt 11, 3) := by decide +kernel
theorem dX6_takeOpening_27 : decode cX6_takeOpening 27 = .ok (.aload_n 0, 1) := by decide +kernel
theorem dX6_takeOpening_28 : decode cX6_takeOpening 28 = .ok (.iconst 3, 1) := by decide +kernel
theorem dX6_takeOpening_29 : decode cX6_takeOpening 29 = .ok (.invokevirtual 71, 3) := by decide +kernel
theorem dX6_takeOpening_32 : decode cX6_takeOpening 32 = .ok (.goto 19, 3) := by decide +kernel
theorem dX6_takeOpening_35 : decode cX6_takeOpening 35 = .ok (.aload_n 0, 1) := by decide +kernel
theorem dX6_takeOpening_36 : decode cX6_takeOpening 36 = .ok (.getfield 9, 3) := by decide +kernel
theorem dX6_takeOpening_39 : decode cX6_takeOpening 39 = .ok (.iconst 0, 1) := by decide +kernel
theorem dX6_takeOpening_40 : decode cX6_takeOpening 40 = .ok (.dup2, 1) := by decide +kernel
theorem dX6_takeOpening_41 : decode cX6_takeOpening 41 = .ok (.iaload, 1) := by decide +kernel
theorem dX6_takeOpening_42 : decode cX6_takeOpening 42 = .ok (.iconst 1, 1) := by decide +kernel
theorem dX6_takeOpening_43 : decode cX6_takeOpening 43 = .ok (.iadd, 1) := by decide +kernel
theorem dX6_takeOpening_44 : decode cX6_takeOpening 44 = .ok (.iastore, 1) := by decide +kernel
theorem dX6_takeOpening_45 : decode cX6_takeOpening 45 = .ok (.aload_n 0, 1) := by decide +kernel
theorem dX6_takeOpening_46 : decode cX6_takeOpening 46 = .ok (.iload_n 1, 1) := by decide +kernel
theorem dX6_takeOpening_47 : decode cX6_takeOpening 47 = .ok (.invokevirtual 67, 3) := by decide +kernel
theorem dX6_takeOpening_50 : decode cX6_takeOpening 50 = .ok (.pop, 1) := by decide +kernel
theorem dX6_takeOpening_51 : decode cX6_takeOpening 51 = .ok (.return_, 1) := by decide +kernel
theorem dX6_takeClosing_0 : decode cX6_takeClosing 0 = .ok (.aload_n 0, 1) := by decide +kernel
theorem dX6_takeClosing_1 : decode cX6_takeClosing 1 = .ok (.iload_n 1, 1) := by decide +kernel
theorem dX6_takeClosing_2 : decode cX6_takeClosing 2 = .ok (.invokevirtual 83, 3) := by decide +kernel
theorem dX6_takeClosing_5 : decode cX6_takeClosing 5 = .ok (.aload_n 0, 1) := by decide +kernel
theorem dX6_takeClosing_6 : decode cX6_takeClosing 6 = .ok (.getfield 9, 3) := by decide +kernel
theorem dX6_takeClosing_9 : decode cX6_takeClosing 9 = .ok (.iconst 0, 1) := by decide +kernel
theorem dX6_takeClosing_10 : decode cX6_takeClosing 10 = .ok (.dup2, 1) := by decide +kernel
theorem dX6_takeClosing_11 : decode cX6_takeClosing 11 = .ok (.iaload, 1) := by decide +kernel
theorem dX6_takeClosing_12 : decode cX6_takeClosing 12 = .ok (.iconst 1, 1) := by decide +kernel
theorem dX6_takeClosing_13 : decode cX6_takeClosing 13 = .ok (.isub, 1) := by decide +kernel
theorem dX6_takeClosing_14 : decode cX6_takeClosing 14 = .ok (.iastore, 1) := by decide +kernel
theorem dX6_takeClosing_15 : decode cX6_takeClosing 15 = .ok (.return_, 1) := by decide +kernel
theorem dX6_told_0 : decode cX6_told 0 = .ok (.aload_n 0, 1) := by decide +kernel
theorem dX6_told_1 : decode cX6_told 1 = .ok (.getfield 18, 3) := by decide +kernel
theorem dX6_told_4 : decode cX6_told 4 = .ok (.getfield 58, 3) := by decide +kernel
theorem dX6_told_7 : decode cX6_told 7 = .ok (.aload_n 0, 1) := by decide +kernel
theorem dX6_told_8 : decode cX6_told 8 = .ok (.getfield 61, 3) := by decide +kernel
theorem dX6_told_11 : decode cX6_told 11 = .ok (.iaload, 1) := by decide +kernel
theorem dX6_told_12 : decode cX6_told 12 = .ok (.istore_n 2, 1) := by decide +kernel
theorem dX6_told_13 : decode cX6_told 13 = .ok (.new 79, 3) := by decide +kernel
theorem dX6_told_16 : decode cX6_told 16 = .ok (.dup, 1) := by decide +kernel
theorem dX6_told_17 : decode cX6_told 17 = .ok (.iload_n 1, 1) := by decide +kernel
theorem dX6_told_18 : decode cX6_told 18 = .ok (.aload_n 0, 1) := by decide +kernel
theorem dX6_told_19 : decode cX6_told 19 = .ok (.invokevirtual 86, 3) := by decide +kernel
theorem dX6_told_22 : decode cX6_told 22 = .ok (.aload_n 0, 1) := by decide +kernel
theorem dX6_told_23 : decode cX6_told 23 = .ok (.getfield 90, 3) := by decide +kernel
theorem dX6_told_26 : decode cX6_told 26 = .ok (.iload_n 2, 1) := by decide +kernel
theorem dX6_told_27 : decode cX6_told 27 = .ok (.invokespecial 93, 3) := by decide +kernel
theorem dX6_told_30 : decode cX6_told 30 = .ok (.astore_n 3, 1) := by decide +kernel
theorem dX6_told_31 : decode cX6_told 31 = .ok (.aload_n 3, 1) := by decide +kernel
theorem dX6_told_32 : decode cX6_told 32 = .ok (.aload_n 0, 1) := by decide +kernel
theorem dX6_told_33 : decode cX6_told 33 = .ok (.getfield 96, 3) := by decide +kernel
theorem dX6_told_36 : decode cX6_told 36 = .ok (.putfield 100, 3) := by decide +kernel
theorem dX6_told_39 : decode cX6_told 39 = .ok (.aload_n 3, 1) := by decide +kernel
theorem dX6_told_40 : decode cX6_told 40 = .ok (.areturn, 1) := by decide +kernel
theorem dX6_qname_0 : decode cX6_qname 0 = .ok (.aload_n 0, 1) := by decide +kernel
theorem dX6_qname_1 : decode cX6_qname 1 = .ok (.getfield 18, 3) := by decide +kernel
theorem dX6_qname_4 : decode cX6_qname 4 = .ok (.getfield 58, 3) := by decide +kernel
theorem dX6_qname_7 : decode cX6_qname 7 = .ok (.aload_n 0, 1) := by decide +kernel
theorem dX6_qname_8 : decode cX6_qname 8 = .ok (.getfield 61, 3) := by decide +kernel
theorem dX6_qname_11 : decode cX6_qname 11 = .ok (.iaload, 1) := by decide +kernel
theorem dX6_qname_12 : decode cX6_qname 12 = .ok (.istore_n 1, 1) := by decide +kernel
theorem dX6_qname_13 : decode cX6_qname 13 = .ok (.aload_n 0, 1) := by decide +kernel
theorem dX6_qname_14 : decode cX6_qname 14 = .ok (.invokevirtual 86, 3) := by decide +kernel
theorem dX6_qname_17 : decode cX6_qname 17 = .ok (.istore_n 2, 1) := by decide +kernel
theorem dX6_qname_18 : decode cX6_qname 18 = .ok (.aload_n 0, 1) := by decide +kernel
theorem dX6_qname_19 : decode cX6_qname 19 = .ok (.bipush 46, 2) := by decide +kernel
theorem dX6_qname_21 : decode cX6_qname 21 = .ok (.invokevirtual 67, 3) := by decide +kernel
theorem dX6_qname_24 : decode cX6_qname 24 = .ok (.ifCond .ne 17, 3) := by decide +kernel
theorem dX6_qname_27 : decode cX6_qname 27 = .ok (.new 101, 3) := by decide +kernel
theorem dX6_qname_30 : decode cX6_qname 30 = .ok (.dup, 1) := by decide +kernel
theorem dX6_qname_31 : decode cX6_qname 31 = .ok (.sipush 315, 3) := by decide +kernel
theorem dX6_qname_34 : decode cX6_qname 34 = .ok (.iload_n 2, 1) := by decide +kernel
theorem dX6_qname_35 : decode cX6_qname 35 = .ok (.iconst (-1), 1) := by decide +kernel
theorem dX6_qname_36 : decode cX6_qname 36 = .ok (.iload_n 1, 1) := by decide +kernel
theorem dX6_qname_37 : decode cX6_qname 37 = .ok (.invokespecial 103, 3) := by decide +kernel
theorem dX6_qname_40 : decode cX6_qname 40 = .ok (.areturn, 1) := by decide +kernel
theorem dX6_qname_41 : decode cX6_qname 41 = .ok (.new 101, 3) := by decide +kernel
theorem dX6_qname_44 : decode cX6_qname 44 = .ok (.dup, 1) := by decide +kernel
theorem dX6_qname_45 : decode cX6_qname 45 = .ok (.sipush 315, 3) := by decide +kernel
theorem dX6_qname_48 : decode cX6_qname 48 = .ok (.aload_n 0, 1) := by decide +kernel
theorem dX6_qname_49 : decode cX6_qname 49 = .ok (.invokevirtual 86, 3) := by decide +kernel
theorem dX6_qname_52 : decode cX6_qname 52 = .ok (.iload_n 2, 1) := by decide +kernel
theorem dX6_qname_53 : decode cX6_qname 53 = .ok (.iload_n 1, 1) := by decide +kernel
theorem dX6_qname_54 : decode cX6_qname 54 = .ok (.invokespecial 103, 3) := by decide +kernel
theorem dX6_qname_57 : decode cX6_qname 57 = .ok (.areturn, 1) := by decide +kernel
theorem dX6_makeNode_0 : decode cX6_makeNode 0 = .ok (.new 22, 3) := by decide +kernel
theorem dX6_makeNode_3 : decode cX6_makeNode 3 = .ok (.dup, 1) := by decide +kernel
theorem dX6_makeNode_4 : decode cX6_makeNode 4 = .ok (.iload_n 1, 1) := by decide +kernel
theorem dX6_makeNode_5 : decode cX6_makeNode 5 = .ok (.aload_n 0, 1) := by decide +kernel
theorem dX6_makeNode_6 : decode cX6_makeNode 6 = .ok (.getfield 40, 3) := by decide +kernel
theorem dX6_makeNode_9 : decode cX6_makeNode 9 = .ok (.getfield 49, 3) := by decide +kernel
theorem dX6_makeNode_12 : decode cX6_makeNode 12 = .ok (.iconst 1, 1) := by decide +kernel
theorem dX6_makeNode_13 : decode cX6_makeNode 13 = .ok (.iadd, 1) := by decide +kernel
theorem dX6_makeNode_14 : decode cX6_makeNode 14 = .ok (.aload_n 0, 1) := by decide +kernel
theorem dX6_makeNode_15 : decode cX6_makeNode 15 = .ok (.getfield 90, 3) := by decide +kernel
theorem dX6_makeNode_18 : decode cX6_makeNode 18 = .ok (.aload_n 0, 1) := by decide +kernel
theorem dX6_makeNode_19 : decode cX6_makeNode 19 = .ok (.getfield 96, 3) := by decide +kernel
theorem dX6_makeNode_22 : decode cX6_makeNode 22 = .ok (.invokespecial 24, 3) := by decide +kernel
theorem dX6_makeNode_25 : decode cX6_makeNode 25 = .ok (.astore_n 2, 1) := by decide +kernel
theorem dX6_makeNode_26 : decode cX6_makeNode 26 = .ok (.aload_n 0, 1) := by decide +kernel
theorem dX6_makeNode_27 : decode cX6_makeNode 27 = .ok (.getfield 40, 3) := by decide +kernel
theorem dX6_makeNode_30 : decode cX6_makeNode 30 = .ok (.aload_n 2, 1) := by decide +kernel
theorem dX6_makeNode_31 : decode cX6_makeNode 31 = .ok (.putfield 37, 3) := by decide +kernel
theorem dX6_makeNode_34 : decode cX6_makeNode 34 = .ok (.aload_n 0, 1) := by decide +kernel
theorem dX6_makeNode_35 : decode cX6_makeNode 35 = .ok (.aload_n 2, 1) := by decide +kernel
theorem dX6_makeNode_36 : decode cX6_makeNode 36 = .ok (.putfield 40, 3) := by decide +kernel
theorem dX6_makeNode_39 : decode cX6_makeNode 39 = .ok (.aload_n 2, 1) := by decide +kernel
theorem dX6_makeNode_40 : decode cX6_makeNode 40 = .ok (.areturn, 1) := by decide +kernel
theorem dX6_parse_0 : decode cX6_parse 0 = .ok (.aload_n 0, 1) := by decide +kernel
theorem dX6_parse_1 : decode cX6_parse 1 = .ok (.aload_n 0, 1) := by decide +kernel
theorem dX6_parse_2 : decode cX6_parse 2 = .ok (.getfield 18, 3) := by decide +kernel
theorem dX6_parse_5 : decode cX6_parse 5 = .ok (.getfield 64, 3) := by decide +kernel
theorem dX6_parse_8 : decode cX6_parse 8 = .ok (.iconst 0, 1) := by decide +kernel
theorem dX6_parse_9 : decode cX6_parse 9 = .ok (.iaload, 1) := by decide +kernel
theorem dX6_parse_10 : decode cX6_parse 10 = .ok (.putfield 55, 3) := by decide +kernel
theorem dX6_parse_13 : decode cX6_parse 13 = .ok (.aconst_null, 1) := by decide +kernel
theorem dX6_parse_14 : decode cX6_parse 14 = .ok (.astore_n 1, 1) := by decide +kernel
theorem dX6_parse_15 : decode cX6_parse 15 = .ok (.iconst 0, 1) := by decide +kernel
theorem dX6_parse_16 : decode cX6_parse 16 = .ok (.istore_n 2, 1) := by decide +kernel
theorem dX6_parse_17 : decode cX6_parse 17 = .ok (.iload_n 2, 1) := by decide +kernel
theorem dX6_parse_18 : decode cX6_parse 18 = .ok (.bipush 12, 2) := by decide +kernel
theorem dX6_parse_20 : decode cX6_parse 20 = .ok (.if_icmp .ge 272, 3) := by decide +kernel
theorem dX6_parse_23 : decode cX6_parse 23 = .ok (.iload_n 2, 1) := by decide +kernel
theorem dX6_parse_24 : decode cX6_parse 24 = .ok (.ifCond .eq 23, 3) := by decide +kernel
theorem dX6_parse_27 : decode cX6_parse 27 = .ok (.aload_n 0, 1) := by decide +kernel
theorem dX6_parse_28 : decode cX6_parse 28 = .ok (.getfield 55, 3) := by decide +kernel
theorem dX6_parse_31 : decode cX6_parse 31 = .ok (.sipush 221, 3) := by decide +kernel
theorem dX6_parse_34 : decode cX6_parse 34 = .ok (.if_icmp .eq 13, 3) := by decide +kernel
theorem dX6_parse_37 : decode cX6_parse 37 = .ok (.aload_n 0, 1) := by decide +kernel
theorem dX6_parse_38 : decode cX6_parse 38 = .ok (.getfield 55, 3) := by decide +kernel
theorem dX6_parse_41 : decode cX6_parse 41 = .ok (.sipush 228, 3) := by decide +kernel
theorem dX6_parse_44 : decode cX6_parse 44 = .ok (.if_icmp .ne 248, 3) := by decide +kernel
theorem dX6_parse_47 : decode cX6_parse 47 = .ok (.aload_n 0, 1) := by decide +kernel
theorem dX6_parse_48 : decode cX6_parse 48 = .ok (.getfield 55, 3) := by decide +kernel
theorem dX6_parse_51 : decode cX6_parse 51 = .ok (.sipush 228, 3) := by decide +kernel
theorem dX6_parse_54 : decode cX6_parse 54 = .ok (.if_icmp .ne 7, 3) := by decide +kernel
theorem dX6_parse_57 : decode cX6_parse 57 = .ok (.iconst 1, 1) := by decide +kernel
theorem dX6_parse_58 : decode cX6_parse 58 = .ok (.goto 4, 3) := by decide +kernel
theorem dX6_parse_61 : decode cX6_parse 61 = .ok (.iconst 0, 1) := by decide +kernel
theorem dX6_parse_62 : decode cX6_parse 62 = .ok (.istore_n 3, 1) := by decide +kernel
theorem dX6_parse_63 : decode cX6_parse 63 = .ok (.aload_n 0, 1) := by decide +kernel
theorem dX6_parse_64 : decode cX6_parse 64 = .ok (.aload_n 0, 1) := by decide +kernel
theorem dX6_parse_65 : decode cX6_parse 65 = .ok (.getfield 18, 3) := by decide +kernel
theorem dX6_parse_68 : decode cX6_parse 68 = .ok (.getfield 58, 3) := by decide +kernel
theorem dX6_parse_71 : decode cX6_parse 71 = .ok (.aload_n 0, 1) := by decide +kernel
theorem dX6_parse_72 : decode cX6_parse 72 = .ok (.getfield 61, 3) := by decide +kernel
theorem dX6_parse_75 : decode cX6_parse 75 = .ok (.iaload, 1) := by decide +kernel
theorem dX6_parse_76 : decode cX6_parse 76 = .ok (.putfield 90, 3) := by decide +kernel
theorem dX6_parse_79 : decode cX6_parse 79 = .ok (.aload_n 0, 1) := by decide +kernel
theorem dX6_parse_80 : decode cX6_parse 80 = .ok (.iload_n 3, 1) := by decide +kernel
theorem dX6_parse_81 : decode cX6_parse 81 = .ok (.ifCond .eq 9, 3) := by decide +kernel
theorem dX6_parse_84 : decode cX6_parse 84 = .ok (.sipush 228, 3) := by decide +kernel
theorem dX6_parse_87 : decode cX6_parse 87 = .ok (.goto 6, 3) := by decide +kernel
theorem dX6_parse_90 : decode cX6_parse 90 = .ok (.sipush 221, 3) := by decide +kernel
theorem dX6_parse_93 : decode cX6_parse 93 = .ok (.invokevirtual 83, 3) := by decide +kernel
theorem dX6_parse_96 : decode cX6_parse 96 = .ok (.aload_n 0, 1) := by decide +kernel
theorem dX6_parse_97 : decode cX6_parse 97 = .ok (.aload_n 0, 1) := by decide +kernel
theorem dX6_parse_98 : decode cX6_parse 98 = .ok (.iload_n 3, 1) := by decide +kernel
theorem dX6_parse_99 : decode cX6_parse 99 = .ok (.ifCond .eq 7, 3) := by decide +kernel
theorem dX6_parse_102 : decode cX6_parse 102 = .ok (.iconst 1, 1) := by decide +kernel
theorem dX6_parse_103 : decode cX6_parse 103 = .ok (.goto 4, 3) := by decide +kernel
theorem dX6_parse_106 : decode cX6_parse 106 = .ok (.iconst 0, 1) := by decide +kernel
theorem dX6_parse_107 : decode cX6_parse 107 = .ok (.invokevirtual 104, 3) := by decide +kernel
theorem dX6_parse_110 : decode cX6_parse 110 = .ok (.putfield 96, 3) := by decide +kernel
theorem dX6_parse_113 : decode cX6_parse 113 = .ok (.aload_n 0, 1) := by decide +kernel
theorem dX6_parse_114 : decode cX6_parse 114 = .ok (.getfield 96, 3) := by decide +kernel
theorem dX6_parse_117 : decode cX6_parse 117 = .ok (.iload_n 2, 1) := by decide +kernel
theorem dX6_parse_118 : decode cX6_parse 118 = .ok (.putfield 108, 3) := by decide +kernel
theorem dX6_parse_121 : decode cX6_parse 121 = .ok (.aload_n 0, 1) := by decide +kernel
theorem dX6_parse_122 : decode cX6_parse 122 = .ok (.getfield 96, 3) := by decide +kernel
theorem dX6_parse_125 : decode cX6_parse 125 = .ok (.aload_n 0, 1) := by decide +kernel
theorem dX6_parse_126 : decode cX6_parse 126 = .ok (.getfield 96, 3) := by decide +kernel
theorem dX6_parse_129 : decode cX6_parse 129 = .ok (.putfield 100, 3) := by decide +kernel
theorem dX6_parse_132 : decode cX6_parse 132 = .ok (.aload_n 1, 1) := by decide +kernel
theorem dX6_parse_133 : decode cX6_parse 133 = .ok (.ifnonnull 14, 3) := by decide +kernel
theorem dX6_parse_136 : decode cX6_parse 136 = .ok (.aload_n 0, 1) := by decide +kernel
theorem dX6_parse_137 : decode cX6_parse 137 = .ok (.aload_n 0, 1) := by decide +kernel
theorem dX6_parse_138 : decode cX6_parse 138 = .ok (.getfield 96, 3) := by decide +kernel
theorem dX6_parse_141 : decode cX6_parse 141 = .ok (.putfield 111, 3) := by decide +kernel
theorem dX6_parse_144 : decode cX6_parse 144 = .ok (.goto 11, 3) := by decide +kernel
theorem dX6_parse_147 : decode cX6_parse 147 = .ok (.aload_n 1, 1) := by decide +kernel
theorem dX6_parse_148 : decode cX6_parse 148 = .ok (.aload_n 0, 1) := by decide +kernel
theorem dX6_parse_149 : decode cX6_parse 149 = .ok (.getfield 96, 3) := by decide +kernel
theorem dX6_parse_152 : decode cX6_parse 152 = .ok (.putfield 114, 3) := by decide +kernel
theorem dX6_parse_155 : decode cX6_parse 155 = .ok (.aload_n 0, 1) := by decide +kernel
theorem dX6_parse_156 : decode cX6_parse 156 = .ok (.getfield 96, 3) := by decide +kernel
theorem dX6_parse_159 : decode cX6_parse 159 = .ok (.astore_n 1, 1) := by decide +kernel
theorem dX6_parse_160 : decode cX6_parse 160 = .ok (.aload_n 0, 1) := by decide +kernel
theorem dX6_parse_161 : decode cX6_parse 161 = .ok (.aconst_null, 1) := by decide +kernel
theorem dX6_parse_162 : decode cX6_parse 162 = .ok (.putfield 116, 3) := by decide +kernel
theorem dX6_parse_165 : decode cX6_parse 165 = .ok (.aload_n 0, 1) := by decide +kernel
theorem dX6_parse_166 : decode cX6_parse 166 = .ok (.bipush 59, 2) := by decide +kernel
theorem dX6_parse_168 : decode cX6_parse 168 = .ok (.invokevirtual 83, 3) := by decide +kernel
theorem dX6_parse_171 : decode cX6_parse 171 = .ok (.aload_n 0, 1) := by decide +kernel
theorem dX6_parse_172 : decode cX6_parse 172 = .ok (.invokevirtual 119, 3) := by decide +kernel
theorem dX6_parse_175 : decode cX6_parse 175 = .ok (.iconst 0, 1) := by decide +kernel
theorem dX6_parse_176 : decode cX6_parse 176 = .ok (.istore 4, 2) := by decide +kernel
theorem dX6_parse_178 : decode cX6_parse 178 = .ok (.iload 4, 2) := by decide +kernel
theorem dX6_parse_180 : decode cX6_parse 180 = .ok (.sipush 6000, 3) := by decide +kernel
theorem dX6_parse_183 : decode cX6_parse 183 = .ok (.if_icmp .ge 59, 3) := by decide +kernel
theorem dX6_parse_186 : decode cX6_parse 186 = .ok (.aload_n 0, 1) := by decide +kernel
theorem dX6_parse_187 : decode cX6_parse 187 = .ok (.invokevirtual 122, 3) := by decide +kernel
theorem dX6_parse_190 : decode cX6_parse 190 = .ok (.ifCond .eq 52, 3) := by decide +kernel
theorem dX6_parse_193 : decode cX6_parse 193 = .ok (.aload_n 0, 1) := by decide +kernel
theorem dX6_parse_194 : decode cX6_parse 194 = .ok (.aload_n 0, 1) := by decide +kernel
theorem dX6_parse_195 : decode cX6_parse 195 = .ok (.getfield 18, 3) := by decide +kernel
theorem dX6_parse_198 : decode cX6_parse 198 = .ok (.getfield 58, 3) := by decide +kernel
theorem dX6_parse_201 : decode cX6_parse 201 = .ok (.aload_n 0, 1) := by decide +kernel
theorem dX6_parse_202 : decode cX6_parse 202 = .ok (.getfield 61, 3) := by decide +kernel
theorem dX6_parse_205 : decode cX6_parse 205 = .ok (.iaload, 1) := by decide +kernel
theorem dX6_parse_206 : decode cX6_parse 206 = .ok (.putfield 90, 3) := by decide +kernel
theorem dX6_parse_209 : decode cX6_parse 209 = .ok (.aload_n 0, 1) := by decide +kernel
theorem dX6_parse_210 : decode cX6_parse 210 = .ok (.getfield 55, 3) := by decide +kernel
theorem dX6_parse_213 : decode cX6_parse 213 = .ok (.sipush 238, 3) := by decide +kernel
theorem dX6_parse_216 : decode cX6_parse 216 = .ok (.if_icmp .ne 10, 3) := by decide +kernel
theorem dX6_parse_219 : decode cX6_parse 219 = .ok (.aload_n 0, 1) := by decide +kernel
theorem dX6_parse_220 : decode cX6_parse 220 = .ok (.invokevirtual 126, 3) := by decide +kernel
theorem dX6_parse_223 : decode cX6_parse 223 = .ok (.goto 7, 3) := by decide +kernel
theorem dX6_parse_226 : decode cX6_parse 226 = .ok (.aload_n 0, 1) := by decide +kernel
theorem dX6_parse_227 : decode cX6_parse 227 = .ok (.invokevirtual 129, 3) := by decide +kernel
theorem dX6_parse_230 : decode cX6_parse 230 = .ok (.aload_n 0, 1) := by decide +kernel
theorem dX6_parse_231 : decode cX6_parse 231 = .ok (.bipush 59, 2) := by decide +kernel
theorem dX6_parse_233 : decode cX6_parse 233 = .ok (.invokevirtual 83, 3) := by decide +kernel
theorem dX6_parse_236 : decode cX6_parse 236 = .ok (.iinc 4 1, 3) := by decide +kernel
theorem dX6_parse_239 : decode cX6_parse 239 = .ok (.goto (-61), 3) := by decide +kernel
theorem dX6_parse_242 : decode cX6_parse 242 = .ok (.iload_n 3, 1) := by decide +kernel
theorem dX6_parse_243 : decode cX6_parse 243 = .ok (.ifCond .eq 22, 3) := by decide +kernel
theorem dX6_parse_246 : decode cX6_parse 246 = .ok (.aload_n 0, 1) := by decide +kernel
theorem dX6_parse_247 : decode cX6_parse 247 = .ok (.sipush 202, 3) := by decide +kernel
theorem dX6_parse_250 : decode cX6_parse 250 = .ok (.invokevirtual 83, 3) := by decide +kernel
theorem dX6_parse_253 : decode cX6_parse 253 = .ok (.aload_n 0, 1) := by decide +kernel
theorem dX6_parse_254 : decode cX6_parse 254 = .ok (.aload_n 0, 1) := by decide +kernel
theorem dX6_parse_255 : decode cX6_parse 255 = .ok (.aload_n 0, 1) := by decide +kernel
theorem dX6_parse_256 : decode cX6_parse 256 = .ok (.getfield 96, 3) := by decide +kernel
theorem dX6_parse_259 : decode cX6_parse 259 = .ok (.invokevirtual 132, 3) := by decide +kernel
theorem dX6_parse_262 : decode cX6_parse 262 = .ok (.invokevirtual 136, 3) := by decide +kernel
theorem dX6_parse_265 : decode cX6_parse 265 = .ok (.aload_n 0, 1) := by decide +kernel
theorem dX6_parse_266 : decode cX6_parse 266 = .ok (.sipush 210, 3) := by decide +kernel
theorem dX6_parse_269 : decode cX6_parse 269 = .ok (.invokevirtual 83, 3) := by decide +kernel
theorem dX6_parse_272 : decode cX6_parse 272 = .ok (.aload_n 0, 1) := by decide +kernel
theorem dX6_parse_273 : decode cX6_parse 273 = .ok (.aload_n 0, 1) := by decide +kernel
theorem dX6_parse_274 : decode cX6_parse 274 = .ok (.getfield 96, 3) := by decide +kernel
theorem dX6_parse_277 : decode cX6_parse 277 = .ok (.invokevirtual 140, 3) := by decide +kernel
theorem dX6_parse_280 : decode cX6_parse 280 = .ok (.aload_n 0, 1) := by decide +kernel
theorem dX6_parse_281 : decode cX6_parse 281 = .ok (.bipush 46, 2) := by decide +kernel
theorem dX6_parse_283 : decode cX6_parse 283 = .ok (.invokevirtual 83, 3) := by decide +kernel
theorem dX6_parse_286 : decode cX6_parse 286 = .ok (.iinc 2 1, 3) := by decide +kernel
theorem dX6_parse_289 : decode cX6_parse 289 = .ok (.goto (-272), 3) := by decide +kernel
theorem dX6_parse_292 : decode cX6_parse 292 = .ok (.aload_n 0, 1) := by decide +kernel
theorem dX6_parse_293 : decode cX6_parse 293 = .ok (.getfield 55, 3) := by decide +kernel
theorem dX6_parse_296 : decode cX6_parse 296 = .ok (.ifCond .eq 8, 3) := by decide +kernel
theorem dX6_parse_299 : decode cX6_parse 299 = .ok (.aload_n 0, 1) := by decide +kernel
theorem dX6_parse_300 : decode cX6_parse 300 = .ok (.iconst 2, 1) := by decide +kernel
theorem dX6_parse_301 : decode cX6_parse 301 = .ok (.invokevirtual 71, 3) := by decide +kernel
theorem dX6_parse_304 : decode cX6_parse 304 = .ok (.return_, 1) := by decide +kernel
theorem dX6_parseImports_0 : decode cX6_parseImports 0 = .ok (.aload_n 0, 1) := by decide +kernel
theorem dX6_parseImports_1 : decode cX6_parseImports 1 = .ok (.sipush 219, 3) := by decide +kernel
theorem dX6_parseImports_4 : decode cX6_parseImports 4 = .ok (.invokevirtual 67, 3) := by decide +kernel
theorem dX6_parseImports_7 : decode cX6_parseImports 7 = .ok (.ifCond .ne 4, 3) := by decide +kernel
theorem dX6_parseImports_10 : decode cX6_parseImports 10 = .ok (.return_, 1) := by decide +kernel
theorem dX6_parseImports_11 : decode cX6_parseImports 11 = .ok (.aload_n 0, 1) := by decide +kernel
theorem dX6_parseImports_12 : decode cX6_parseImports 12 = .ok (.aload_n 0, 1) := by decide +kernel
theorem dX6_parseImports_13 : decode cX6_parseImports 13 = .ok (.iconst 2, 1) := by decide +kernel
theorem dX6_parseImports_14 : decode cX6_parseImports 14 = .ok (.invokevirtual 104, 3) := by decide +kernel
theorem dX6_parseImports_17 : decode cX6_parseImports 17 = .ok (.invokevirtual 144, 3) := by decide +kernel
theorem dX6_parseImports_20 : decode cX6_parseImports 20 = .ok (.iconst 0, 1) := by decide +kernel
theorem dX6_parseImports_21 : decode cX6_parseImports 21 = .ok (.istore_n 1, 1) := by decide +kernel
theorem dX6_parseImports_22 : decode cX6_parseImports 22 = .ok (.iload_n 1, 1) := by decide +kernel
theorem dX6_parseImports_23 : decode cX6_parseImports 23 = .ok (.sipush 6000, 3) := by decide +kernel
theorem dX6_parseImports_26 : decode cX6_parseImports 26 = .ok (.if_icmp .ge 27, 3) := by decide +kernel
theorem dX6_parseImports_29 : decode cX6_parseImports 29 = .ok (.aload_n 0, 1) := by decide +kernel
theorem dX6_parseImports_30 : decode cX6_parseImports 30 = .ok (.bipush 44, 2) := by decide +kernel
theorem dX6_parseImports_32 : decode cX6_parseImports 32 = .ok (.invokevirtual 67, 3) := by decide +kernel
theorem dX6_parseImports_35 : decode cX6_parseImports 35 = .ok (.ifCond .eq 18, 3) := by decide +kernel
theorem dX6_parseImports_38 : decode cX6_parseImports 38 = .ok (.aload_n 0, 1) := by decide +kernel
theorem dX6_parseImports_39 : decode cX6_parseImports 39 = .ok (.aload_n 0, 1) := by decide +kernel
theorem dX6_parseImports_40 : decode cX6_parseImports 40 = .ok (.iconst 2, 1) := by decide +kernel
theorem dX6_parseImports_41 : decode cX6_parseImports 41 = .ok (.invokevirtual 104, 3) := by decide +kernel
theorem dX6_parseImports_44 : decode cX6_parseImports 44 = .ok (.invokevirtual 144, 3) := by decide +kernel
theorem dX6_parseImports_47 : decode cX6_parseImports 47 = .ok (.iinc 1 1, 3) := by decide +kernel
theorem dX6_parseImports_50 : decode cX6_parseImports 50 = .ok (.goto (-28), 3) := by decide +kernel
theorem dX6_parseImports_53 : decode cX6_parseImports 53 = .ok (.aload_n 0, 1) := by decide +kernel
theorem dX6_parseImports_54 : decode cX6_parseImports 54 = .ok (.bipush 59, 2) := by decide +kernel
theorem dX6_parseImports_56 : decode cX6_parseImports 56 = .ok (.invokevirtual 83, 3) := by decide +kernel
theorem dX6_parseImports_59 : decode cX6_parseImports 59 = .ok (.return_, 1) := by decide +kernel
theorem dX6_append_0 : decode cX6_append 0 = .ok (.aload_n 0, 1) := by decide +kernel
theorem dX6_append_1 : decode cX6_append 1 = .ok (.getfield 116, 3) := by decide +kernel
theorem dX6_append_4 : decode cX6_append 4 = .ok (.ifnonnull 14, 3) := by decide +kernel
theorem dX6_append_7 : decode cX6_append 7 = .ok (.aload_n 0, 1) := by decide +kernel
theorem dX6_append_8 : decode cX6_append 8 = .ok (.getfield 96, 3) := by decide +kernel
theorem dX6_append_11 : decode cX6_append 11 = .ok (.aload_n 1, 1) := by decide +kernel
theorem dX6_append_12 : decode cX6_append 12 = .ok (.putfield 147, 3) := by decide +kernel
theorem dX6_append_15 : decode cX6_append 15 = .ok (.goto 11, 3) := by decide +kernel
theorem dX6_append_18 : decode cX6_append 18 = .ok (.aload_n 0, 1) := by decide +kernel
theorem dX6_append_19 : decode cX6_append 19 = .ok (.getfield 116, 3) := by decide +kernel
theorem dX6_append_22 : decode cX6_append 22 = .ok (.aload_n 1, 1) := by decide +kernel
theorem dX6_append_23 : decode cX6_append 23 = .ok (.putfield 114, 3) := by decide +kernel
theorem dX6_append_26 : decode cX6_append 26 = .ok (.aload_n 0, 1) := by decide +kernel
theorem dX6_append_27 : decode cX6_append 27 = .ok (.aload_n 1, 1) := by decide +kernel
theorem dX6_append_28 : decode cX6_append 28 = .ok (.putfield 116, 3) := by decide +kernel
theorem dX6_append_31 : decode cX6_append 31 = .ok (.return_, 1) := by decide +kernel
theorem dX6_makeBody_0 : decode cX6_makeBody 0 = .ok (.aload_n 0, 1) := by decide +kernel
theorem dX6_makeBody_1 : decode cX6_makeBody 1 = .ok (.aload_n 1, 1) := by decide +kernel
theorem dX6_makeBody_2 : decode cX6_makeBody 2 = .ok (.putfield 150, 3) := by decide +kernel
theorem dX6_makeBody_5 : decode cX6_makeBody 5 = .ok (.aload_n 1, 1) := by decide +kernel
theorem dX6_makeBody_6 : decode cX6_makeBody 6 = .ok (.new 153, 3) := by decide +kernel
theorem dX6_makeBody_9 : decode cX6_makeBody 9 = .ok (.dup, 1) := by decide +kernel
theorem dX6_makeBody_10 : decode cX6_makeBody 10 = .ok (.sipush 300, 3) := by decide +kernel
theorem dX6_makeBody_13 : decode cX6_makeBody 13 = .ok (.aload_n 0, 1) := by decide +kernel
theorem dX6_makeBody_14 : decode cX6_makeBody 14 = .ok (.getfield 90, 3) := by decide +kernel
theorem dX6_makeBody_17 : decode cX6_makeBody 17 = .ok (.aconst_null, 1) := by decide +kernel
theorem dX6_makeBody_18 : decode cX6_makeBody 18 = .ok (.aload_n 1, 1) := by decide +kernel
theorem dX6_makeBody_19 : decode cX6_makeBody 19 = .ok (.invokespecial 155, 3) := by decide +kernel
theorem dX6_makeBody_22 : decode cX6_makeBody 22 = .ok (.putfield 158, 3) := by decide +kernel
theorem dX6_makeBody_25 : decode cX6_makeBody 25 = .ok (.aload_n 1, 1) := by decide +kernel
theorem dX6_makeBody_26 : decode cX6_makeBody 26 = .ok (.getfield 158, 3) := by decide +kernel
theorem dX6_makeBody_29 : decode cX6_makeBody 29 = .ok (.areturn, 1) := by decide +kernel
theorem dX6_beginsDeclaration_0 : decode cX6_beginsDeclaration 0 = .ok (.aload_n 0, 1) := by decide +kernel
theorem dX6_beginsDeclaration_1 : decode cX6_beginsDeclaration 1 = .ok (.getfield 55, 3) := by decide +kernel
theorem dX6_beginsDeclaration_4 : decode cX6_beginsDeclaration 4 = .ok (.sipush 253, 3) := by decide +kernel
theorem dX6_beginsDeclaration_7 : decode cX6_beginsDeclaration 7 = .ok (.if_icmp .eq 43, 3) := by decide +kernel
theorem dX6_beginsDeclaration_10 : decode cX6_beginsDeclaration 10 = .ok (.aload_n 0, 1) := by decide +kernel
theorem dX6_beginsDeclaration_11 : decode cX6_beginsDeclaration 11 = .ok (.getfield 55, 3) := by decide +kernel
theorem dX6_beginsDeclaration_14 : decode cX6_beginsDeclaration 14 = .ok (.sipush 245, 3) := by decide +kernel
theorem dX6_beginsDeclaration_17 : decode cX6_beginsDeclaration 17 = .ok (.if_icmp .eq 33, 3) := by decide +kernel
theorem dX6_beginsDeclaration_20 : decode cX6_beginsDeclaration 20 = .ok (.aload_n 0, 1) := by decide +kernel
theorem dX6_beginsDeclaration_21 : decode cX6_beginsDeclaration 21 = .ok (.getfield 55, 3) := by decide +kernel
theorem dX6_beginsDeclaration_24 : decode cX6_beginsDeclaration 24 = .ok (.sipush 255, 3) := by decide +kernel
theorem dX6_beginsDeclaration_27 : decode cX6_beginsDeclaration 27 = .ok (.if_icmp .eq 23, 3) := by decide +kernel
theorem dX6_beginsDeclaration_30 : decode cX6_beginsDeclaration 30 = .ok (.aload_n 0, 1) := by decide +kernel
theorem dX6_beginsDeclaration_31 : decode cX6_beginsDeclaration 31 = .ok (.getfield 55, 3) := by decide +kernel
theorem dX6_beginsDeclaration_34 : decode cX6_beginsDeclaration 34 = .ok (.sipush 212, 3) := by decide +kernel
theorem dX6_beginsDeclaration_37 : decode cX6_beginsDeclaration 37 = .ok (.if_icmp .eq 13, 3) := by decide +kernel
theorem dX6_beginsDeclaration_40 : decode cX6_beginsDeclaration 40 = .ok (.aload_n 0, 1) := by decide +kernel
theorem dX6_beginsDeclaration_41 : decode cX6_beginsDeclaration 41 = .ok (.getfield 55, 3) := by decide +kernel
theorem dX6_beginsDeclaration_44 : decode cX6_beginsDeclaration 44 = .ok (.sipush 238, 3) := by decide +kernel
theorem dX6_beginsDeclaration_47 : decode cX6_beginsDeclaration 47 = .ok (.if_icmp .ne 7, 3) := by decide +kernel
theorem dX6_beginsDeclaration_50 : decode cX6_beginsDeclaration 50 = .ok (.iconst 1, 1) := by decide +kernel
theorem dX6_beginsDeclaration_51 : decode cX6_beginsDeclaration 51 = .ok (.goto 4, 3) := by decide +kernel
theorem dX6_beginsDeclaration_54 : decode cX6_beginsDeclaration 54 = .ok (.iconst 0, 1) := by decide +kernel
theorem dX6_beginsDeclaration_55 : decode cX6_beginsDeclaration 55 = .ok (.ireturn, 1) := by decide +kernel
theorem dX6_parseDeclaration_0 : decode cX6_parseDeclaration 0 = .ok (.aload_n 0, 1) := by decide +kernel
theorem dX6_parseDeclaration_1 : decode cX6_parseDeclaration 1 = .ok (.getfield 55, 3) := by decide +kernel
theorem dX6_parseDeclaration_4 : decode cX6_parseDeclaration 4 = .ok (.istore_n 1, 1) := by decide +kernel
theorem dX6_parseDeclaration_5 : decode cX6_parseDeclaration 5 = .ok (.aload_n 0, 1) := by decide +kernel
theorem dX6_parseDeclaration_6 : decode cX6_parseDeclaration 6 = .ok (.invokevirtual 161, 3) := by decide +kernel
theorem dX6_parseDeclaration_9 : decode cX6_parseDeclaration 9 = .ok (.iload_n 1, 1) := by decide +kernel
theorem dX6_parseDeclaration_10 : decode cX6_parseDeclaration 10 = .ok (.sipush 253, 3) := by decide +kernel
theorem dX6_parseDeclaration_13 : decode cX6_parseDeclaration 13 = .ok (.if_icmp .ne 10, 3) := by decide +kernel
theorem dX6_parseDeclaration_16 : decode cX6_parseDeclaration 16 = .ok (.aload_n 0, 1) := by decide +kernel
theorem dX6_parseDeclaration_17 : decode cX6_parseDeclaration 17 = .ok (.invokevirtual 164, 3) := by decide +kernel
theorem dX6_parseDeclaration_20 : decode cX6_parseDeclaration 20 = .ok (.goto 78, 3) := by decide +kernel
theorem dX6_parseDeclaration_23 : decode cX6_parseDeclaration 23 = .ok (.iload_n 1, 1) := by decide +kernel
theorem dX6_parseDeclaration_24 : decode cX6_parseDeclaration 24 = .ok (.sipush 245, 3) := by decide +kernel
theorem dX6_parseDeclaration_27 : decode cX6_parseDeclaration 27 = .ok (.if_icmp .ne 10, 3) := by decide +kernel
theorem dX6_parseDeclaration_30 : decode cX6_parseDeclaration 30 = .ok (.aload_n 0, 1) := by decide +kernel
theorem dX6_parseDeclaration_31 : decode cX6_parseDeclaration 31 = .ok (.invokevirtual 167, 3) := by decide +kernel
theorem dX6_parseDeclaration_34 : decode cX6_parseDeclaration 34 = .ok (.goto 64, 3) := by decide +kernel
theorem dX6_parseDeclaration_37 : decode cX6_parseDeclaration 37 = .ok (.iload_n 1, 1) := by decide +kernel
theorem dX6_parseDeclaration_38 : decode cX6_parseDeclaration 38 = .ok (.sipush 212, 3) := by decide +kernel
theorem dX6_parseDeclaration_41 : decode cX6_parseDeclaration 41 = .ok (.if_icmp .ne 16, 3) := by decide +kernel
theorem dX6_parseDeclaration_44 : decode cX6_parseDeclaration 44 = .ok (.aload_n 0, 1) := by decide +kernel
theorem dX6_parseDeclaration_45 : decode cX6_parseDeclaration 45 = .ok (.aload_n 0, 1) := by decide +kernel
theorem dX6_parseDeclaration_46 : decode cX6_parseDeclaration 46 = .ok (.bipush 8, 2) := by decide +kernel
theorem dX6_parseDeclaration_48 : decode cX6_parseDeclaration 48 = .ok (.invokevirtual 104, 3) := by decide +kernel
theorem dX6_parseDeclaration_51 : decode cX6_parseDeclaration 51 = .ok (.invokevirtual 144, 3) := by decide +kernel
theorem dX6_parseDeclaration_54 : decode cX6_parseDeclaration 54 = .ok (.goto 44, 3) := by decide +kernel
theorem dX6_parseDeclaration_57 : decode cX6_parseDeclaration 57 = .ok (.aload_n 0, 1) := by decide +kernel
theorem dX6_parseDeclaration_58 : decode cX6_parseDeclaration 58 = .ok (.bipush 7, 2) := by decide +kernel
theorem dX6_parseDeclaration_60 : decode cX6_parseDeclaration 60 = .ok (.aconst_null, 1) := by decide +kernel
theorem dX6_parseDeclaration_61 : decode cX6_parseDeclaration 61 = .ok (.invokevirtual 170, 3) := by decide +kernel
theorem dX6_parseDeclaration_64 : decode cX6_parseDeclaration 64 = .ok (.astore_n 2, 1) := by decide +kernel
theorem dX6_parseDeclaration_65 : decode cX6_parseDeclaration 65 = .ok (.iconst 0, 1) := by decide +kernel
theorem dX6_parseDeclaration_66 : decode cX6_parseDeclaration 66 = .ok (.istore_n 3, 1) := by decide +kernel
theorem dX6_parseDeclaration_67 : decode cX6_parseDeclaration 67 = .ok (.iload_n 3, 1) := by decide +kernel
theorem dX6_parseDeclaration_68 : decode cX6_parseDeclaration 68 = .ok (.sipush 6000, 3) := by decide +kernel
theorem dX6_parseDeclaration_71 : decode cX6_parseDeclaration 71 = .ok (.if_icmp .ge 27, 3) := by decide +kernel
theorem dX6_parseDeclaration_74 : decode cX6_parseDeclaration 74 = .ok (.aload_n 2, 1) := by decide +kernel
theorem dX6_parseDeclaration_75 : decode cX6_parseDeclaration 75 = .ok (.ifnull 23, 3) := by decide +kernel
theorem dX6_parseDeclaration_78 : decode cX6_parseDeclaration 78 = .ok (.aload_n 2, 1) := by decide +kernel
theorem dX6_parseDeclaration_79 : decode cX6_parseDeclaration 79 = .ok (.getfield 114, 3) := by decide +kernel
theorem dX6_parseDeclaration_82 : decode cX6_parseDeclaration 82 = .ok (.astore 4, 2) := by decide +kernel
theorem dX6_parseDeclaration_84 : decode cX6_parseDeclaration 84 = .ok (.aload_n 0, 1) := by decide +kernel
theorem dX6_parseDeclaration_85 : decode cX6_parseDeclaration 85 = .ok (.aload_n 2, 1) := by decide +kernel
theorem dX6_parseDeclaration_86 : decode cX6_parseDeclaration 86 = .ok (.invokevirtual 144, 3) := by decide +kernel
theorem dX6_parseDeclaration_89 : decode cX6_parseDeclaration 89 = .ok (.aload 4, 2) := by decide +kernel
theorem dX6_parseDeclaration_91 : decode cX6_parseDeclaration 91 = .ok (.astore_n 2, 1) := by decide +kernel
theorem dX6_parseDeclaration_92 : decode cX6_parseDeclaration 92 = .ok (.iinc 3 1, 3) := by decide +kernel
theorem dX6_parseDeclaration_95 : decode cX6_parseDeclaration 95 = .ok (.goto (-28), 3) := by decide +kernel
theorem dX6_parseDeclaration_98 : decode cX6_parseDeclaration 98 = .ok (.return_, 1) := by decide +kernel
theorem dX6_parseTypeTold_0 : decode cX6_parseTypeTold 0 = .ok (.aload_n 0, 1) := by decide +kernel
theorem dX6_parseTypeTold_1 : decode cX6_parseTypeTold 1 = .ok (.iconst 3, 1) := by decide +kernel
theorem dX6_parseTypeTold_2 : decode cX6_parseTypeTold 2 = .ok (.invokevirtual 104, 3) := by decide +kernel
theorem dX6_parseTypeTold_5 : decode cX6_parseTypeTold 5 = .ok (.astore_n 1, 1) := by decide +kernel
theorem dX6_parseTypeTold_6 : decode cX6_parseTypeTold 6 = .ok (.aload_n 0, 1) := by decide +kernel
theorem dX6_parseTypeTold_7 : decode cX6_parseTypeTold 7 = .ok (.aload_n 1, 1) := by decide +kernel
theorem dX6_parseTypeTold_8 : decode cX6_parseTypeTold 8 = .ok (.invokevirtual 144, 3) := by decide +kernel
theorem dX6_parseTypeTold_11 : decode cX6_parseTypeTold 11 = .ok (.aload_n 0, 1) := by decide +kernel
theorem dX6_parseTypeTold_12 : decode cX6_parseTypeTold 12 = .ok (.bipush 8, 2) := by decide +kernel
