theorem dX6_parseTypeTold_14 : decode cX6_parseTypeTold 14 = .ok (.invokevirtual 67, 3) := by decide +kernel
theorem dX6_parseTypeTold_17 : decode cX6_parseTypeTold 17 = .ok (.ifCond .eq 37, 3) := by decide +kernel
theorem dX6_parseTypeTold_20 : decode cX6_parseTypeTold 20 = .ok (.aload_n 1, 1) := by decide +kernel
theorem dX6_parseTypeTold_21 : decode cX6_parseTypeTold 21 = .ok (.iconst 4, 1) := by decide +kernel
theorem dX6_parseTypeTold_22 : decode cX6_parseTypeTold 22 = .ok (.putfield 174, 3) := by decide +kernel
theorem dX6_parseTypeTold_25 : decode cX6_parseTypeTold 25 = .ok (.aload_n 1, 1) := by decide +kernel
theorem dX6_parseTypeTold_26 : decode cX6_parseTypeTold 26 = .ok (.aload_n 0, 1) := by decide +kernel
theorem dX6_parseTypeTold_27 : decode cX6_parseTypeTold 27 = .ok (.bipush 12, 2) := by decide +kernel
theorem dX6_parseTypeTold_29 : decode cX6_parseTypeTold 29 = .ok (.invokevirtual 175, 3) := by decide +kernel
theorem dX6_parseTypeTold_32 : decode cX6_parseTypeTold 32 = .ok (.putfield 179, 3) := by decide +kernel
theorem dX6_parseTypeTold_35 : decode cX6_parseTypeTold 35 = .ok (.aload_n 1, 1) := by decide +kernel
theorem dX6_parseTypeTold_36 : decode cX6_parseTypeTold 36 = .ok (.getfield 179, 3) := by decide +kernel
theorem dX6_parseTypeTold_39 : decode cX6_parseTypeTold 39 = .ok (.aload_n 1, 1) := by decide +kernel
theorem dX6_parseTypeTold_40 : decode cX6_parseTypeTold 40 = .ok (.putfield 182, 3) := by decide +kernel
theorem dX6_parseTypeTold_43 : decode cX6_parseTypeTold 43 = .ok (.aload_n 1, 1) := by decide +kernel
theorem dX6_parseTypeTold_44 : decode cX6_parseTypeTold 44 = .ok (.aload_n 0, 1) := by decide +kernel
theorem dX6_parseTypeTold_45 : decode cX6_parseTypeTold 45 = .ok (.invokevirtual 185, 3) := by decide +kernel
theorem dX6_parseTypeTold_48 : decode cX6_parseTypeTold 48 = .ok (.putfield 189, 3) := by decide +kernel
theorem dX6_parseTypeTold_51 : decode cX6_parseTypeTold 51 = .ok (.goto 27, 3) := by decide +kernel
theorem dX6_parseTypeTold_54 : decode cX6_parseTypeTold 54 = .ok (.aload_n 0, 1) := by decide +kernel
theorem dX6_parseTypeTold_55 : decode cX6_parseTypeTold 55 = .ok (.bipush 61, 2) := by decide +kernel
theorem dX6_parseTypeTold_57 : decode cX6_parseTypeTold 57 = .ok (.invokevirtual 83, 3) := by decide +kernel
theorem dX6_parseTypeTold_60 : decode cX6_parseTypeTold 60 = .ok (.aload_n 0, 1) := by decide +kernel
theorem dX6_parseTypeTold_61 : decode cX6_parseTypeTold 61 = .ok (.aload_n 1, 1) := by decide +kernel
theorem dX6_parseTypeTold_62 : decode cX6_parseTypeTold 62 = .ok (.putfield 192, 3) := by decide +kernel
theorem dX6_parseTypeTold_65 : decode cX6_parseTypeTold 65 = .ok (.aload_n 1, 1) := by decide +kernel
theorem dX6_parseTypeTold_66 : decode cX6_parseTypeTold 66 = .ok (.aload_n 0, 1) := by decide +kernel
theorem dX6_parseTypeTold_67 : decode cX6_parseTypeTold 67 = .ok (.invokevirtual 185, 3) := by decide +kernel
theorem dX6_parseTypeTold_70 : decode cX6_parseTypeTold 70 = .ok (.putfield 179, 3) := by decide +kernel
theorem dX6_parseTypeTold_73 : decode cX6_parseTypeTold 73 = .ok (.aload_n 0, 1) := by decide +kernel
theorem dX6_parseTypeTold_74 : decode cX6_parseTypeTold 74 = .ok (.aconst_null, 1) := by decide +kernel
theorem dX6_parseTypeTold_75 : decode cX6_parseTypeTold 75 = .ok (.putfield 192, 3) := by decide +kernel
theorem dX6_parseTypeTold_78 : decode cX6_parseTypeTold 78 = .ok (.return_, 1) := by decide +kernel
theorem dX6_parseReveal_0 : decode cX6_parseReveal 0 = .ok (.new 79, 3) := by decide +kernel
theorem dX6_parseReveal_3 : decode cX6_parseReveal 3 = .ok (.dup, 1) := by decide +kernel
theorem dX6_parseReveal_4 : decode cX6_parseReveal 4 = .ok (.iconst 5, 1) := by decide +kernel
theorem dX6_parseReveal_5 : decode cX6_parseReveal 5 = .ok (.iconst (-1), 1) := by decide +kernel
theorem dX6_parseReveal_6 : decode cX6_parseReveal 6 = .ok (.aload_n 0, 1) := by decide +kernel
theorem dX6_parseReveal_7 : decode cX6_parseReveal 7 = .ok (.getfield 90, 3) := by decide +kernel
theorem dX6_parseReveal_10 : decode cX6_parseReveal 10 = .ok (.aload_n 0, 1) := by decide +kernel
theorem dX6_parseReveal_11 : decode cX6_parseReveal 11 = .ok (.getfield 90, 3) := by decide +kernel
theorem dX6_parseReveal_14 : decode cX6_parseReveal 14 = .ok (.invokespecial 93, 3) := by decide +kernel
theorem dX6_parseReveal_17 : decode cX6_parseReveal 17 = .ok (.astore_n 1, 1) := by decide +kernel
theorem dX6_parseReveal_18 : decode cX6_parseReveal 18 = .ok (.aload_n 1, 1) := by decide +kernel
theorem dX6_parseReveal_19 : decode cX6_parseReveal 19 = .ok (.aload_n 0, 1) := by decide +kernel
theorem dX6_parseReveal_20 : decode cX6_parseReveal 20 = .ok (.getfield 96, 3) := by decide +kernel
theorem dX6_parseReveal_23 : decode cX6_parseReveal 23 = .ok (.putfield 100, 3) := by decide +kernel
theorem dX6_parseReveal_26 : decode cX6_parseReveal 26 = .ok (.aload_n 1, 1) := by decide +kernel
theorem dX6_parseReveal_27 : decode cX6_parseReveal 27 = .ok (.aload_n 0, 1) := by decide +kernel
theorem dX6_parseReveal_28 : decode cX6_parseReveal 28 = .ok (.invokevirtual 195, 3) := by decide +kernel
theorem dX6_parseReveal_31 : decode cX6_parseReveal 31 = .ok (.putfield 199, 3) := by decide +kernel
theorem dX6_parseReveal_34 : decode cX6_parseReveal 34 = .ok (.aload_n 0, 1) := by decide +kernel
theorem dX6_parseReveal_35 : decode cX6_parseReveal 35 = .ok (.aload_n 1, 1) := by decide +kernel
theorem dX6_parseReveal_36 : decode cX6_parseReveal 36 = .ok (.invokevirtual 144, 3) := by decide +kernel
theorem dX6_parseReveal_39 : decode cX6_parseReveal 39 = .ok (.aload_n 0, 1) := by decide +kernel
theorem dX6_parseReveal_40 : decode cX6_parseReveal 40 = .ok (.bipush 8, 2) := by decide +kernel
theorem dX6_parseReveal_42 : decode cX6_parseReveal 42 = .ok (.invokevirtual 67, 3) := by decide +kernel
theorem dX6_parseReveal_45 : decode cX6_parseReveal 45 = .ok (.ifCond .eq 18, 3) := by decide +kernel
theorem dX6_parseReveal_48 : decode cX6_parseReveal 48 = .ok (.aload_n 1, 1) := by decide +kernel
theorem dX6_parseReveal_49 : decode cX6_parseReveal 49 = .ok (.bipush 6, 2) := by decide +kernel
theorem dX6_parseReveal_51 : decode cX6_parseReveal 51 = .ok (.putfield 174, 3) := by decide +kernel
theorem dX6_parseReveal_54 : decode cX6_parseReveal 54 = .ok (.aload_n 1, 1) := by decide +kernel
theorem dX6_parseReveal_55 : decode cX6_parseReveal 55 = .ok (.aload_n 0, 1) := by decide +kernel
theorem dX6_parseReveal_56 : decode cX6_parseReveal 56 = .ok (.invokevirtual 185, 3) := by decide +kernel
theorem dX6_parseReveal_59 : decode cX6_parseReveal 59 = .ok (.putfield 189, 3) := by decide +kernel
theorem dX6_parseReveal_62 : decode cX6_parseReveal 62 = .ok (.return_, 1) := by decide +kernel
theorem dX6_parseReveal_63 : decode cX6_parseReveal 63 = .ok (.aload_n 0, 1) := by decide +kernel
theorem dX6_parseReveal_64 : decode cX6_parseReveal 64 = .ok (.bipush 61, 2) := by decide +kernel
theorem dX6_parseReveal_66 : decode cX6_parseReveal 66 = .ok (.invokevirtual 83, 3) := by decide +kernel
theorem dX6_parseReveal_69 : decode cX6_parseReveal 69 = .ok (.aload_n 0, 1) := by decide +kernel
theorem dX6_parseReveal_70 : decode cX6_parseReveal 70 = .ok (.getfield 27, 3) := by decide +kernel
theorem dX6_parseReveal_73 : decode cX6_parseReveal 73 = .ok (.astore_n 2, 1) := by decide +kernel
theorem dX6_parseReveal_74 : decode cX6_parseReveal 74 = .ok (.aload_n 0, 1) := by decide +kernel
theorem dX6_parseReveal_75 : decode cX6_parseReveal 75 = .ok (.getfield 55, 3) := by decide +kernel
theorem dX6_parseReveal_78 : decode cX6_parseReveal 78 = .ok (.iconst 2, 1) := by decide +kernel
theorem dX6_parseReveal_79 : decode cX6_parseReveal 79 = .ok (.if_icmp .ne 11, 3) := by decide +kernel
theorem dX6_parseReveal_82 : decode cX6_parseReveal 82 = .ok (.aload_n 0, 1) := by decide +kernel
theorem dX6_parseReveal_83 : decode cX6_parseReveal 83 = .ok (.invokevirtual 203, 3) := by decide +kernel
theorem dX6_parseReveal_86 : decode cX6_parseReveal 86 = .ok (.astore_n 2, 1) := by decide +kernel
theorem dX6_parseReveal_87 : decode cX6_parseReveal 87 = .ok (.goto 17, 3) := by decide +kernel
theorem dX6_parseReveal_90 : decode cX6_parseReveal 90 = .ok (.aload_n 0, 1) := by decide +kernel
theorem dX6_parseReveal_91 : decode cX6_parseReveal 91 = .ok (.getfield 55, 3) := by decide +kernel
theorem dX6_parseReveal_94 : decode cX6_parseReveal 94 = .ok (.sipush 246, 3) := by decide +kernel
theorem dX6_parseReveal_97 : decode cX6_parseReveal 97 = .ok (.if_icmp .ne 7, 3) := by decide +kernel
theorem dX6_parseReveal_100 : decode cX6_parseReveal 100 = .ok (.aload_n 0, 1) := by decide +kernel
theorem dX6_parseReveal_101 : decode cX6_parseReveal 101 = .ok (.invokevirtual 161, 3) := by decide +kernel
theorem dX6_parseReveal_104 : decode cX6_parseReveal 104 = .ok (.aload_n 1, 1) := by decide +kernel
theorem dX6_parseReveal_105 : decode cX6_parseReveal 105 = .ok (.aload_n 0, 1) := by decide +kernel
theorem dX6_parseReveal_106 : decode cX6_parseReveal 106 = .ok (.aload_n 2, 1) := by decide +kernel
theorem dX6_parseReveal_107 : decode cX6_parseReveal 107 = .ok (.invokevirtual 206, 3) := by decide +kernel
theorem dX6_parseReveal_110 : decode cX6_parseReveal 110 = .ok (.putfield 179, 3) := by decide +kernel
theorem dX6_parseReveal_113 : decode cX6_parseReveal 113 = .ok (.aload_n 1, 1) := by decide +kernel
theorem dX6_parseReveal_114 : decode cX6_parseReveal 114 = .ok (.getfield 179, 3) := by decide +kernel
theorem dX6_parseReveal_117 : decode cX6_parseReveal 117 = .ok (.aload_n 1, 1) := by decide +kernel
theorem dX6_parseReveal_118 : decode cX6_parseReveal 118 = .ok (.putfield 182, 3) := by decide +kernel
theorem dX6_parseReveal_121 : decode cX6_parseReveal 121 = .ok (.return_, 1) := by decide +kernel
theorem dX6_lastOf_0 : decode cX6_lastOf 0 = .ok (.aload_n 0, 1) := by decide +kernel
theorem dX6_lastOf_1 : decode cX6_lastOf 1 = .ok (.astore_n 1, 1) := by decide +kernel
theorem dX6_lastOf_2 : decode cX6_lastOf 2 = .ok (.aload_n 0, 1) := by decide +kernel
theorem dX6_lastOf_3 : decode cX6_lastOf 3 = .ok (.astore_n 2, 1) := by decide +kernel
theorem dX6_lastOf_4 : decode cX6_lastOf 4 = .ok (.aload_n 2, 1) := by decide +kernel
theorem dX6_lastOf_5 : decode cX6_lastOf 5 = .ok (.ifnull 13, 3) := by decide +kernel
theorem dX6_lastOf_8 : decode cX6_lastOf 8 = .ok (.aload_n 2, 1) := by decide +kernel
theorem dX6_lastOf_9 : decode cX6_lastOf 9 = .ok (.astore_n 1, 1) := by decide +kernel
theorem dX6_lastOf_10 : decode cX6_lastOf 10 = .ok (.aload_n 2, 1) := by decide +kernel
theorem dX6_lastOf_11 : decode cX6_lastOf 11 = .ok (.getfield 114, 3) := by decide +kernel
theorem dX6_lastOf_14 : decode cX6_lastOf 14 = .ok (.astore_n 2, 1) := by decide +kernel
theorem dX6_lastOf_15 : decode cX6_lastOf 15 = .ok (.goto (-11), 3) := by decide +kernel
theorem dX6_lastOf_18 : decode cX6_lastOf 18 = .ok (.aload_n 1, 1) := by decide +kernel
theorem dX6_lastOf_19 : decode cX6_lastOf 19 = .ok (.areturn, 1) := by decide +kernel
theorem dX6_parseGroup_0 : decode cX6_parseGroup 0 = .ok (.aconst_null, 1) := by decide +kernel
theorem dX6_parseGroup_1 : decode cX6_parseGroup 1 = .ok (.astore_n 3, 1) := by decide +kernel
theorem dX6_parseGroup_2 : decode cX6_parseGroup 2 = .ok (.aconst_null, 1) := by decide +kernel
theorem dX6_parseGroup_3 : decode cX6_parseGroup 3 = .ok (.astore 4, 2) := by decide +kernel
theorem dX6_parseGroup_5 : decode cX6_parseGroup 5 = .ok (.iconst 0, 1) := by decide +kernel
theorem dX6_parseGroup_6 : decode cX6_parseGroup 6 = .ok (.istore 5, 2) := by decide +kernel
theorem dX6_parseGroup_8 : decode cX6_parseGroup 8 = .ok (.iload 5, 2) := by decide +kernel
theorem dX6_parseGroup_10 : decode cX6_parseGroup 10 = .ok (.sipush 6000, 3) := by decide +kernel
theorem dX6_parseGroup_13 : decode cX6_parseGroup 13 = .ok (.if_icmp .ge 80, 3) := by decide +kernel
theorem dX6_parseGroup_16 : decode cX6_parseGroup 16 = .ok (.iload 5, 2) := by decide +kernel
theorem dX6_parseGroup_18 : decode cX6_parseGroup 18 = .ok (.ifCond .eq 12, 3) := by decide +kernel
theorem dX6_parseGroup_21 : decode cX6_parseGroup 21 = .ok (.aload_n 0, 1) := by decide +kernel
theorem dX6_parseGroup_22 : decode cX6_parseGroup 22 = .ok (.bipush 44, 2) := by decide +kernel
theorem dX6_parseGroup_24 : decode cX6_parseGroup 24 = .ok (.invokevirtual 67, 3) := by decide +kernel
theorem dX6_parseGroup_27 : decode cX6_parseGroup 27 = .ok (.ifCond .eq 66, 3) := by decide +kernel
theorem dX6_parseGroup_30 : decode cX6_parseGroup 30 = .ok (.aload_n 2, 1) := by decide +kernel
theorem dX6_parseGroup_31 : decode cX6_parseGroup 31 = .ok (.ifnull 27, 3) := by decide +kernel
theorem dX6_parseGroup_34 : decode cX6_parseGroup 34 = .ok (.aload_n 2, 1) := by decide +kernel
theorem dX6_parseGroup_35 : decode cX6_parseGroup 35 = .ok (.getfield 220, 3) := by decide +kernel
theorem dX6_parseGroup_38 : decode cX6_parseGroup 38 = .ok (.bipush 8, 2) := by decide +kernel
theorem dX6_parseGroup_40 : decode cX6_parseGroup 40 = .ok (.if_icmp .lt 8, 3) := by decide +kernel
theorem dX6_parseGroup_43 : decode cX6_parseGroup 43 = .ok (.aload_n 0, 1) := by decide +kernel
theorem dX6_parseGroup_44 : decode cX6_parseGroup 44 = .ok (.iconst 2, 1) := by decide +kernel
theorem dX6_parseGroup_45 : decode cX6_parseGroup 45 = .ok (.invokevirtual 71, 3) := by decide +kernel
theorem dX6_parseGroup_48 : decode cX6_parseGroup 48 = .ok (.aload_n 2, 1) := by decide +kernel
theorem dX6_parseGroup_49 : decode cX6_parseGroup 49 = .ok (.dup, 1) := by decide +kernel
theorem dX6_parseGroup_50 : decode cX6_parseGroup 50 = .ok (.getfield 220, 3) := by decide +kernel
theorem dX6_parseGroup_53 : decode cX6_parseGroup 53 = .ok (.iconst 1, 1) := by decide +kernel
theorem dX6_parseGroup_54 : decode cX6_parseGroup 54 = .ok (.iadd, 1) := by decide +kernel
theorem dX6_parseGroup_55 : decode cX6_parseGroup 55 = .ok (.putfield 220, 3) := by decide +kernel
theorem dX6_parseGroup_58 : decode cX6_parseGroup 58 = .ok (.aload_n 0, 1) := by decide +kernel
theorem dX6_parseGroup_59 : decode cX6_parseGroup 59 = .ok (.iload_n 1, 1) := by decide +kernel
theorem dX6_parseGroup_60 : decode cX6_parseGroup 60 = .ok (.invokevirtual 104, 3) := by decide +kernel
theorem dX6_parseGroup_63 : decode cX6_parseGroup 63 = .ok (.astore 6, 2) := by decide +kernel
theorem dX6_parseGroup_65 : decode cX6_parseGroup 65 = .ok (.aload 4, 2) := by decide +kernel
theorem dX6_parseGroup_67 : decode cX6_parseGroup 67 = .ok (.ifnonnull 9, 3) := by decide +kernel
theorem dX6_parseGroup_70 : decode cX6_parseGroup 70 = .ok (.aload 6, 2) := by decide +kernel
theorem dX6_parseGroup_72 : decode cX6_parseGroup 72 = .ok (.astore_n 3, 1) := by decide +kernel
theorem dX6_parseGroup_73 : decode cX6_parseGroup 73 = .ok (.goto 10, 3) := by decide +kernel
theorem dX6_parseGroup_76 : decode cX6_parseGroup 76 = .ok (.aload 4, 2) := by decide +kernel
theorem dX6_parseGroup_78 : decode cX6_parseGroup 78 = .ok (.aload 6, 2) := by decide +kernel
theorem dX6_parseGroup_80 : decode cX6_parseGroup 80 = .ok (.putfield 114, 3) := by decide +kernel
theorem dX6_parseGroup_83 : decode cX6_parseGroup 83 = .ok (.aload 6, 2) := by decide +kernel
theorem dX6_parseGroup_85 : decode cX6_parseGroup 85 = .ok (.astore 4, 2) := by decide +kernel
theorem dX6_parseGroup_87 : decode cX6_parseGroup 87 = .ok (.iinc 5 1, 3) := by decide +kernel
theorem dX6_parseGroup_90 : decode cX6_parseGroup 90 = .ok (.goto (-82), 3) := by decide +kernel
theorem dX6_parseGroup_93 : decode cX6_parseGroup 93 = .ok (.aload_n 0, 1) := by decide +kernel
theorem dX6_parseGroup_94 : decode cX6_parseGroup 94 = .ok (.bipush 58, 2) := by decide +kernel
theorem dX6_parseGroup_96 : decode cX6_parseGroup 96 = .ok (.invokevirtual 83, 3) := by decide +kernel
theorem dX6_parseGroup_99 : decode cX6_parseGroup 99 = .ok (.aload_n 0, 1) := by decide +kernel
theorem dX6_parseGroup_100 : decode cX6_parseGroup 100 = .ok (.invokevirtual 185, 3) := by decide +kernel
theorem dX6_parseGroup_103 : decode cX6_parseGroup 103 = .ok (.astore 5, 2) := by decide +kernel
theorem dX6_parseGroup_105 : decode cX6_parseGroup 105 = .ok (.aload_n 3, 1) := by decide +kernel
theorem dX6_parseGroup_106 : decode cX6_parseGroup 106 = .ok (.astore 6, 2) := by decide +kernel
theorem dX6_parseGroup_108 : decode cX6_parseGroup 108 = .ok (.aload 6, 2) := by decide +kernel
theorem dX6_parseGroup_110 : decode cX6_parseGroup 110 = .ok (.ifnull 20, 3) := by decide +kernel
theorem dX6_parseGroup_113 : decode cX6_parseGroup 113 = .ok (.aload 6, 2) := by decide +kernel
theorem dX6_parseGroup_115 : decode cX6_parseGroup 115 = .ok (.aload 5, 2) := by decide +kernel
theorem dX6_parseGroup_117 : decode cX6_parseGroup 117 = .ok (.putfield 179, 3) := by decide +kernel
theorem dX6_parseGroup_120 : decode cX6_parseGroup 120 = .ok (.aload 6, 2) := by decide +kernel
theorem dX6_parseGroup_122 : decode cX6_parseGroup 122 = .ok (.getfield 114, 3) := by decide +kernel
theorem dX6_parseGroup_125 : decode cX6_parseGroup 125 = .ok (.astore 6, 2) := by decide +kernel
theorem dX6_parseGroup_127 : decode cX6_parseGroup 127 = .ok (.goto (-19), 3) := by decide +kernel
theorem dX6_parseGroup_130 : decode cX6_parseGroup 130 = .ok (.aload_n 3, 1) := by decide +kernel
theorem dX6_parseGroup_131 : decode cX6_parseGroup 131 = .ok (.areturn, 1) := by decide +kernel
theorem dX6_beginsType_0 : decode cX6_beginsType 0 = .ok (.aload_n 0, 1) := by decide +kernel
theorem dX6_beginsType_1 : decode cX6_beginsType 1 = .ok (.getfield 55, 3) := by decide +kernel
theorem dX6_beginsType_4 : decode cX6_beginsType 4 = .ok (.lookupswitch 118 #[(2, 116), (91, 116), (201, 116), (203, 116), (205, 116), (220, 116), (229, 116), (234, 116), (238, 116), (242, 116), (243, 116), (246, 116), (249, 116)], 116) := by decide +kernel
theorem dX6_beginsType_120 : decode cX6_beginsType 120 = .ok (.iconst 1, 1) := by decide +kernel
theorem dX6_beginsType_121 : decode cX6_beginsType 121 = .ok (.ireturn, 1) := by decide +kernel
theorem dX6_beginsType_122 : decode cX6_beginsType 122 = .ok (.iconst 0, 1) := by decide +kernel
theorem dX6_beginsType_123 : decode cX6_beginsType 123 = .ok (.ireturn, 1) := by decide +kernel
theorem dX6_parseType_0 : decode cX6_parseType 0 = .ok (.aload_n 0, 1) := by decide +kernel
theorem dX6_parseType_1 : decode cX6_parseType 1 = .ok (.invokevirtual 223, 3) := by decide +kernel
theorem dX6_parseType_4 : decode cX6_parseType 4 = .ok (.ifCond .ne 13, 3) := by decide +kernel
theorem dX6_parseType_7 : decode cX6_parseType 7 = .ok (.aload_n 0, 1) := by decide +kernel
theorem dX6_parseType_8 : decode cX6_parseType 8 = .ok (.iconst 2, 1) := by decide +kernel
theorem dX6_parseType_9 : decode cX6_parseType 9 = .ok (.invokevirtual 71, 3) := by decide +kernel
theorem dX6_parseType_12 : decode cX6_parseType 12 = .ok (.aload_n 0, 1) := by decide +kernel
theorem dX6_parseType_13 : decode cX6_parseType 13 = .ok (.getfield 31, 3) := by decide +kernel
theorem dX6_parseType_16 : decode cX6_parseType 16 = .ok (.areturn, 1) := by decide +kernel
theorem dX6_parseType_17 : decode cX6_parseType 17 = .ok (.aload_n 0, 1) := by decide +kernel
theorem dX6_parseType_18 : decode cX6_parseType 18 = .ok (.getfield 9, 3) := by decide +kernel
theorem dX6_parseType_21 : decode cX6_parseType 21 = .ok (.iconst 2, 1) := by decide +kernel
theorem dX6_parseType_22 : decode cX6_parseType 22 = .ok (.iaload, 1) := by decide +kernel
theorem dX6_parseType_23 : decode cX6_parseType 23 = .ok (.bipush 20, 2) := by decide +kernel
theorem dX6_parseType_25 : decode cX6_parseType 25 = .ok (.if_icmp .lt 13, 3) := by decide +kernel
theorem dX6_parseType_28 : decode cX6_parseType 28 = .ok (.aload_n 0, 1) := by decide +kernel
theorem dX6_parseType_29 : decode cX6_parseType 29 = .ok (.iconst 3, 1) := by decide +kernel
theorem dX6_parseType_30 : decode cX6_parseType 30 = .ok (.invokevirtual 71, 3) := by decide +kernel
theorem dX6_parseType_33 : decode cX6_parseType 33 = .ok (.aload_n 0, 1) := by decide +kernel
theorem dX6_parseType_34 : decode cX6_parseType 34 = .ok (.getfield 31, 3) := by decide +kernel
theorem dX6_parseType_37 : decode cX6_parseType 37 = .ok (.areturn, 1) := by decide +kernel
theorem dX6_parseType_38 : decode cX6_parseType 38 = .ok (.aload_n 0, 1) := by decide +kernel
theorem dX6_parseType_39 : decode cX6_parseType 39 = .ok (.getfield 9, 3) := by decide +kernel
theorem dX6_parseType_42 : decode cX6_parseType 42 = .ok (.iconst 2, 1) := by decide +kernel
theorem dX6_parseType_43 : decode cX6_parseType 43 = .ok (.dup2, 1) := by decide +kernel
theorem dX6_parseType_44 : decode cX6_parseType 44 = .ok (.iaload, 1) := by decide +kernel
theorem dX6_parseType_45 : decode cX6_parseType 45 = .ok (.iconst 1, 1) := by decide +kernel
theorem dX6_parseType_46 : decode cX6_parseType 46 = .ok (.iadd, 1) := by decide +kernel
theorem dX6_parseType_47 : decode cX6_parseType 47 = .ok (.iastore, 1) := by decide +kernel
theorem dX6_parseType_48 : decode cX6_parseType 48 = .ok (.aload_n 0, 1) := by decide +kernel
theorem dX6_parseType_49 : decode cX6_parseType 49 = .ok (.getfield 192, 3) := by decide +kernel
theorem dX6_parseType_52 : decode cX6_parseType 52 = .ok (.astore_n 1, 1) := by decide +kernel
theorem dX6_parseType_53 : decode cX6_parseType 53 = .ok (.aload_n 0, 1) := by decide +kernel
theorem dX6_parseType_54 : decode cX6_parseType 54 = .ok (.getfield 55, 3) := by decide +kernel
theorem dX6_parseType_57 : decode cX6_parseType 57 = .ok (.iconst 2, 1) := by decide +kernel
theorem dX6_parseType_58 : decode cX6_parseType 58 = .ok (.if_icmp .eq 28, 3) := by decide +kernel
theorem dX6_parseType_61 : decode cX6_parseType 61 = .ok (.aload_n 0, 1) := by decide +kernel
theorem dX6_parseType_62 : decode cX6_parseType 62 = .ok (.getfield 55, 3) := by decide +kernel
theorem dX6_parseType_65 : decode cX6_parseType 65 = .ok (.sipush 201, 3) := by decide +kernel
theorem dX6_parseType_68 : decode cX6_parseType 68 = .ok (.if_icmp .eq 18, 3) := by decide +kernel
theorem dX6_parseType_71 : decode cX6_parseType 71 = .ok (.aload_n 0, 1) := by decide +kernel
theorem dX6_parseType_72 : decode cX6_parseType 72 = .ok (.getfield 55, 3) := by decide +kernel
theorem dX6_parseType_75 : decode cX6_parseType 75 = .ok (.sipush 242, 3) := by decide +kernel
theorem dX6_parseType_78 : decode cX6_parseType 78 = .ok (.if_icmp .eq 8, 3) := by decide +kernel
theorem dX6_parseType_81 : decode cX6_parseType 81 = .ok (.aload_n 0, 1) := by decide +kernel
theorem dX6_parseType_82 : decode cX6_parseType 82 = .ok (.aconst_null, 1) := by decide +kernel
theorem dX6_parseType_83 : decode cX6_parseType 83 = .ok (.putfield 192, 3) := by decide +kernel
theorem dX6_parseType_86 : decode cX6_parseType 86 = .ok (.aload_n 0, 1) := by decide +kernel
theorem dX6_parseType_87 : decode cX6_parseType 87 = .ok (.invokevirtual 226, 3) := by decide +kernel
theorem dX6_parseType_90 : decode cX6_parseType 90 = .ok (.astore_n 2, 1) := by decide +kernel
theorem dX6_parseType_91 : decode cX6_parseType 91 = .ok (.aload_n 0, 1) := by decide +kernel
theorem dX6_parseType_92 : decode cX6_parseType 92 = .ok (.aload_n 1, 1) := by decide +kernel
theorem dX6_parseType_93 : decode cX6_parseType 93 = .ok (.putfield 192, 3) := by decide +kernel
theorem dX6_parseType_96 : decode cX6_parseType 96 = .ok (.aload_n 0, 1) := by decide +kernel
theorem dX6_parseType_97 : decode cX6_parseType 97 = .ok (.getfield 9, 3) := by decide +kernel
theorem dX6_parseType_100 : decode cX6_parseType 100 = .ok (.iconst 2, 1) := by decide +kernel
theorem dX6_parseType_101 : decode cX6_parseType 101 = .ok (.dup2, 1) := by decide +kernel
theorem dX6_parseType_102 : decode cX6_parseType 102 = .ok (.iaload, 1) := by decide +kernel
theorem dX6_parseType_103 : decode cX6_parseType 103 = .ok (.iconst 1, 1) := by decide +kernel
theorem dX6_parseType_104 : decode cX6_parseType 104 = .ok (.isub, 1) := by decide +kernel
theorem dX6_parseType_105 : decode cX6_parseType 105 = .ok (.iastore, 1) := by decide +kernel
theorem dX6_parseType_106 : decode cX6_parseType 106 = .ok (.aload_n 2, 1) := by decide +kernel
theorem dX6_parseType_107 : decode cX6_parseType 107 = .ok (.areturn, 1) := by decide +kernel
theorem dX6_parseShape_0 : decode cX6_parseShape 0 = .ok (.aload_n 0, 1) := by decide +kernel
theorem dX6_parseShape_1 : decode cX6_parseShape 1 = .ok (.getfield 55, 3) := by decide +kernel
theorem dX6_parseShape_4 : decode cX6_parseShape 4 = .ok (.lookupswitch 245 #[(2, 76), (91, 140), (201, 153), (234, 131), (238, 236), (242, 185), (243, 213), (246, 101)], 76) := by decide +kernel
theorem dX6_parseShape_80 : decode cX6_parseShape 80 = .ok (.aload_n 0, 1) := by decide +kernel
theorem dX6_parseShape_81 : decode cX6_parseShape 81 = .ok (.invokevirtual 203, 3) := by decide +kernel
theorem dX6_parseShape_84 : decode cX6_parseShape 84 = .ok (.astore_n 1, 1) := by decide +kernel
theorem dX6_parseShape_85 : decode cX6_parseShape 85 = .ok (.aload_n 0, 1) := by decide +kernel
theorem dX6_parseShape_86 : decode cX6_parseShape 86 = .ok (.getfield 55, 3) := by decide +kernel
theorem dX6_parseShape_89 : decode cX6_parseShape 89 = .ok (.sipush 234, 3) := by decide +kernel
theorem dX6_parseShape_92 : decode cX6_parseShape 92 = .ok (.if_icmp .ne 11, 3) := by decide +kernel
theorem dX6_parseShape_95 : decode cX6_parseShape 95 = .ok (.aload_n 0, 1) := by decide +kernel
theorem dX6_parseShape_96 : decode cX6_parseShape 96 = .ok (.aload_n 1, 1) := by decide +kernel
theorem dX6_parseShape_97 : decode cX6_parseShape 97 = .ok (.invokevirtual 206, 3) := by decide +kernel
theorem dX6_parseShape_100 : decode cX6_parseShape 100 = .ok (.goto 4, 3) := by decide +kernel
theorem dX6_parseShape_103 : decode cX6_parseShape 103 = .ok (.aload_n 1, 1) := by decide +kernel
theorem dX6_parseShape_104 : decode cX6_parseShape 104 = .ok (.areturn, 1) := by decide +kernel
theorem dX6_parseShape_105 : decode cX6_parseShape 105 = .ok (.aload_n 0, 1) := by decide +kernel
theorem dX6_parseShape_106 : decode cX6_parseShape 106 = .ok (.invokevirtual 161, 3) := by decide +kernel
theorem dX6_parseShape_109 : decode cX6_parseShape 109 = .ok (.aload_n 0, 1) := by decide +kernel
theorem dX6_parseShape_110 : decode cX6_parseShape 110 = .ok (.getfield 55, 3) := by decide +kernel
theorem dX6_parseShape_113 : decode cX6_parseShape 113 = .ok (.sipush 234, 3) := by decide +kernel
theorem dX6_parseShape_116 : decode cX6_parseShape 116 = .ok (.if_icmp .ne 14, 3) := by decide +kernel
theorem dX6_parseShape_119 : decode cX6_parseShape 119 = .ok (.aload_n 0, 1) := by decide +kernel
theorem dX6_parseShape_120 : decode cX6_parseShape 120 = .ok (.aload_n 0, 1) := by decide +kernel
theorem dX6_parseShape_121 : decode cX6_parseShape 121 = .ok (.getfield 27, 3) := by decide +kernel
theorem dX6_parseShape_124 : decode cX6_parseShape 124 = .ok (.invokevirtual 206, 3) := by decide +kernel
theorem dX6_parseShape_127 : decode cX6_parseShape 127 = .ok (.goto 7, 3) := by decide +kernel
theorem dX6_parseShape_130 : decode cX6_parseShape 130 = .ok (.aload_n 0, 1) := by decide +kernel
theorem dX6_parseShape_131 : decode cX6_parseShape 131 = .ok (.getfield 27, 3) := by decide +kernel
theorem dX6_parseShape_134 : decode cX6_parseShape 134 = .ok (.areturn, 1) := by decide +kernel
theorem dX6_parseShape_135 : decode cX6_parseShape 135 = .ok (.aload_n 0, 1) := by decide +kernel
theorem dX6_parseShape_136 : decode cX6_parseShape 136 = .ok (.aload_n 0, 1) := by decide +kernel
theorem dX6_parseShape_137 : decode cX6_parseShape 137 = .ok (.getfield 27, 3) := by decide +kernel
theorem dX6_parseShape_140 : decode cX6_parseShape 140 = .ok (.invokevirtual 206, 3) := by decide +kernel
theorem dX6_parseShape_143 : decode cX6_parseShape 143 = .ok (.areturn, 1) := by decide +kernel
theorem dX6_parseShape_144 : decode cX6_parseShape 144 = .ok (.aload_n 0, 1) := by decide +kernel
theorem dX6_parseShape_145 : decode cX6_parseShape 145 = .ok (.iconst 2, 1) := by decide +kernel
theorem dX6_parseShape_146 : decode cX6_parseShape 146 = .ok (.invokevirtual 175, 3) := by decide +kernel
theorem dX6_parseShape_149 : decode cX6_parseShape 149 = .ok (.astore_n 2, 1) := by decide +kernel
theorem dX6_parseShape_150 : decode cX6_parseShape 150 = .ok (.aload_n 0, 1) := by decide +kernel
theorem dX6_parseShape_151 : decode cX6_parseShape 151 = .ok (.aload_n 2, 1) := by decide +kernel
theorem dX6_parseShape_152 : decode cX6_parseShape 152 = .ok (.invokevirtual 229, 3) := by decide +kernel
theorem dX6_parseShape_155 : decode cX6_parseShape 155 = .ok (.aload_n 2, 1) := by decide +kernel
theorem dX6_parseShape_156 : decode cX6_parseShape 156 = .ok (.areturn, 1) := by decide +kernel
theorem dX6_parseShape_157 : decode cX6_parseShape 157 = .ok (.aload_n 0, 1) := by decide +kernel
theorem dX6_parseShape_158 : decode cX6_parseShape 158 = .ok (.iconst 3, 1) := by decide +kernel
theorem dX6_parseShape_159 : decode cX6_parseShape 159 = .ok (.invokevirtual 175, 3) := by decide +kernel
theorem dX6_parseShape_162 : decode cX6_parseShape 162 = .ok (.astore_n 3, 1) := by decide +kernel
theorem dX6_parseShape_163 : decode cX6_parseShape 163 = .ok (.aload_n 0, 1) := by decide +kernel
theorem dX6_parseShape_164 : decode cX6_parseShape 164 = .ok (.invokevirtual 161, 3) := by decide +kernel
theorem dX6_parseShape_167 : decode cX6_parseShape 167 = .ok (.aload_n 0, 1) := by decide +kernel
theorem dX6_parseShape_168 : decode cX6_parseShape 168 = .ok (.aload_n 3, 1) := by decide +kernel
theorem dX6_parseShape_169 : decode cX6_parseShape 169 = .ok (.invokevirtual 229, 3) := by decide +kernel
theorem dX6_parseShape_172 : decode cX6_parseShape 172 = .ok (.aload_n 0, 1) := by decide +kernel
theorem dX6_parseShape_173 : decode cX6_parseShape 173 = .ok (.sipush 235, 3) := by decide +kernel
theorem dX6_parseShape_176 : decode cX6_parseShape 176 = .ok (.invokevirtual 83, 3) := by decide +kernel
theorem dX6_parseShape_179 : decode cX6_parseShape 179 = .ok (.aload_n 3, 1) := by decide +kernel
theorem dX6_parseShape_180 : decode cX6_parseShape 180 = .ok (.aload_n 0, 1) := by decide +kernel
theorem dX6_parseShape_181 : decode cX6_parseShape 181 = .ok (.invokevirtual 185, 3) := by decide +kernel
theorem dX6_parseShape_184 : decode cX6_parseShape 184 = .ok (.putfield 233, 3) := by decide +kernel
theorem dX6_parseShape_187 : decode cX6_parseShape 187 = .ok (.aload_n 3, 1) := by decide +kernel
theorem dX6_parseShape_188 : decode cX6_parseShape 188 = .ok (.areturn, 1) := by decide +kernel
theorem dX6_parseShape_189 : decode cX6_parseShape 189 = .ok (.aload_n 0, 1) := by decide +kernel
theorem dX6_parseShape_190 : decode cX6_parseShape 190 = .ok (.iconst 4, 1) := by decide +kernel
theorem dX6_parseShape_191 : decode cX6_parseShape 191 = .ok (.invokevirtual 175, 3) := by decide +kernel
theorem dX6_parseShape_194 : decode cX6_parseShape 194 = .ok (.astore 4, 2) := by decide +kernel
theorem dX6_parseShape_196 : decode cX6_parseShape 196 = .ok (.aload_n 0, 1) := by decide +kernel
theorem dX6_parseShape_197 : decode cX6_parseShape 197 = .ok (.invokevirtual 161, 3) := by decide +kernel
theorem dX6_parseShape_200 : decode cX6_parseShape 200 = .ok (.aload_n 0, 1) := by decide +kernel
theorem dX6_parseShape_201 : decode cX6_parseShape 201 = .ok (.aload 4, 2) := by decide +kernel
theorem dX6_parseShape_203 : decode cX6_parseShape 203 = .ok (.invokevirtual 236, 3) := by decide +kernel
theorem dX6_parseShape_206 : decode cX6_parseShape 206 = .ok (.pop, 1) := by decide +kernel
theorem dX6_parseShape_207 : decode cX6_parseShape 207 = .ok (.aload_n 0, 1) := by decide +kernel
theorem dX6_parseShape_208 : decode cX6_parseShape 208 = .ok (.sipush 210, 3) := by decide +kernel
theorem dX6_parseShape_211 : decode cX6_parseShape 211 = .ok (.invokevirtual 83, 3) := by decide +kernel
theorem dX6_parseShape_214 : decode cX6_parseShape 214 = .ok (.aload 4, 2) := by decide +kernel
theorem dX6_parseShape_216 : decode cX6_parseShape 216 = .ok (.areturn, 1) := by decide +kernel
theorem dX6_parseShape_217 : decode cX6_parseShape 217 = .ok (.aload_n 0, 1) := by decide +kernel
theorem dX6_parseShape_218 : decode cX6_parseShape 218 = .ok (.iconst 5, 1) := by decide +kernel
theorem dX6_parseShape_219 : decode cX6_parseShape 219 = .ok (.invokevirtual 175, 3) := by decide +kernel
theorem dX6_parseShape_222 : decode cX6_parseShape 222 = .ok (.astore 5, 2) := by decide +kernel
theorem dX6_parseShape_224 : decode cX6_parseShape 224 = .ok (.aload_n 0, 1) := by decide +kernel
theorem dX6_parseShape_225 : decode cX6_parseShape 225 = .ok (.invokevirtual 161, 3) := by decide +kernel
theorem dX6_parseShape_228 : decode cX6_parseShape 228 = .ok (.aload 5, 2) := by decide +kernel
theorem dX6_parseShape_230 : decode cX6_parseShape 230 = .ok (.aload_n 0, 1) := by decide +kernel
theorem dX6_parseShape_231 : decode cX6_parseShape 231 = .ok (.invokevirtual 185, 3) := by decide +kernel
theorem dX6_parseShape_234 : decode cX6_parseShape 234 = .ok (.putfield 233, 3) := by decide +kernel
theorem dX6_parseShape_237 : decode cX6_parseShape 237 = .ok (.aload 5, 2) := by decide +kernel
theorem dX6_parseShape_239 : decode cX6_parseShape 239 = .ok (.areturn, 1) := by decide +kernel
theorem dX6_parseShape_240 : decode cX6_parseShape 240 = .ok (.aload_n 0, 1) := by decide +kernel
theorem dX6_parseShape_241 : decode cX6_parseShape 241 = .ok (.invokevirtual 161, 3) := by decide +kernel
theorem dX6_parseShape_244 : decode cX6_parseShape 244 = .ok (.aload_n 0, 1) := by decide +kernel
theorem dX6_parseShape_245 : decode cX6_parseShape 245 = .ok (.invokevirtual 210, 3) := by decide +kernel
theorem dX6_parseShape_248 : decode cX6_parseShape 248 = .ok (.areturn, 1) := by decide +kernel
theorem dX6_parseShape_249 : decode cX6_parseShape 249 = .ok (.aload_n 0, 1) := by decide +kernel
theorem dX6_parseShape_250 : decode cX6_parseShape 250 = .ok (.invokevirtual 240, 3) := by decide +kernel
theorem dX6_parseShape_253 : decode cX6_parseShape 253 = .ok (.areturn, 1) := by decide +kernel
theorem dX6_parseSimple_0 : decode cX6_parseSimple 0 = .ok (.aload_n 0, 1) := by decide +kernel
theorem dX6_parseSimple_1 : decode cX6_parseSimple 1 = .ok (.getfield 55, 3) := by decide +kernel
theorem dX6_parseSimple_4 : decode cX6_parseSimple 4 = .ok (.istore_n 1, 1) := by decide +kernel
theorem dX6_parseSimple_5 : decode cX6_parseSimple 5 = .ok (.aload_n 0, 1) := by decide +kernel
theorem dX6_parseSimple_6 : decode cX6_parseSimple 6 = .ok (.invokevirtual 161, 3) := by decide +kernel
theorem dX6_parseSimple_9 : decode cX6_parseSimple 9 = .ok (.iload_n 1, 1) := by decide +kernel
theorem dX6_parseSimple_10 : decode cX6_parseSimple 10 = .ok (.lookupswitch 68 #[(203, 42), (205, 54), (229, 47), (249, 61)], 42) := by decide +kernel
theorem dX6_parseSimple_52 : decode cX6_parseSimple 52 = .ok (.aload_n 0, 1) := by decide +kernel
theorem dX6_parseSimple_53 : decode cX6_parseSimple 53 = .ok (.getfield 34, 3) := by decide +kernel
theorem dX6_parseSimple_56 : decode cX6_parseSimple 56 = .ok (.areturn, 1) := by decide +kernel
theorem dX6_parseSimple_57 : decode cX6_parseSimple 57 = .ok (.aload_n 0, 1) := by decide +kernel
theorem dX6_parseSimple_58 : decode cX6_parseSimple 58 = .ok (.bipush 7, 2) := by decide +kernel
theorem dX6_parseSimple_60 : decode cX6_parseSimple 60 = .ok (.invokevirtual 175, 3) := by decide +kernel
theorem dX6_parseSimple_63 : decode cX6_parseSimple 63 = .ok (.areturn, 1) := by decide +kernel
theorem dX6_parseSimple_64 : decode cX6_parseSimple 64 = .ok (.aload_n 0, 1) := by decide +kernel
theorem dX6_parseSimple_65 : decode cX6_parseSimple 65 = .ok (.bipush 8, 2) := by decide +kernel
theorem dX6_parseSimple_67 : decode cX6_parseSimple 67 = .ok (.invokevirtual 175, 3) := by decide +kernel
theorem dX6_parseSimple_70 : decode cX6_parseSimple 70 = .ok (.areturn, 1) := by decide +kernel
theorem dX6_parseSimple_71 : decode cX6_parseSimple 71 = .ok (.aload_n 0, 1) := by decide +kernel
theorem dX6_parseSimple_72 : decode cX6_parseSimple 72 = .ok (.bipush 9, 2) := by decide +kernel
theorem dX6_parseSimple_74 : decode cX6_parseSimple 74 = .ok (.invokevirtual 175, 3) := by decide +kernel
theorem dX6_parseSimple_77 : decode cX6_parseSimple 77 = .ok (.areturn, 1) := by decide +kernel
theorem dX6_parseSimple_78 : decode cX6_parseSimple 78 = .ok (.aload_n 0, 1) := by decide +kernel
theorem dX6_parseSimple_79 : decode cX6_parseSimple 79 = .ok (.getfield 31, 3) := by decide +kernel
theorem dX6_parseSimple_82 : decode cX6_parseSimple 82 = .ok (.areturn, 1) := by decide +kernel
theorem dX6_parseNamed_0 : decode cX6_parseNamed 0 = .ok (.aload_n 0, 1) := by decide +kernel
theorem dX6_parseNamed_1 : decode cX6_parseNamed 1 = .ok (.bipush 13, 2) := by decide +kernel
theorem dX6_parseNamed_3 : decode cX6_parseNamed 3 = .ok (.invokevirtual 175, 3) := by decide +kernel
theorem dX6_parseNamed_6 : decode cX6_parseNamed 6 = .ok (.astore_n 1, 1) := by decide +kernel
theorem dX6_parseNamed_7 : decode cX6_parseNamed 7 = .ok (.aload_n 1, 1) := by decide +kernel
theorem dX6_parseNamed_8 : decode cX6_parseNamed 8 = .ok (.aload_n 0, 1) := by decide +kernel
theorem dX6_parseNamed_9 : decode cX6_parseNamed 9 = .ok (.invokevirtual 195, 3) := by decide +kernel
theorem dX6_parseNamed_12 : decode cX6_parseNamed 12 = .ok (.putfield 243, 3) := by decide +kernel
theorem dX6_parseNamed_15 : decode cX6_parseNamed 15 = .ok (.aload_n 0, 1) := by decide +kernel
theorem dX6_parseNamed_16 : decode cX6_parseNamed 16 = .ok (.getfield 192, 3) := by decide +kernel
theorem dX6_parseNamed_19 : decode cX6_parseNamed 19 = .ok (.ifnull 32, 3) := by decide +kernel
theorem dX6_parseNamed_22 : decode cX6_parseNamed 22 = .ok (.aload_n 0, 1) := by decide +kernel
theorem dX6_parseNamed_23 : decode cX6_parseNamed 23 = .ok (.getfield 55, 3) := by decide +kernel
theorem dX6_parseNamed_26 : decode cX6_parseNamed 26 = .ok (.sipush 234, 3) := by decide +kernel
theorem dX6_parseNamed_29 : decode cX6_parseNamed 29 = .ok (.if_icmp .eq 22, 3) := by decide +kernel
theorem dX6_parseNamed_32 : decode cX6_parseNamed 32 = .ok (.aload_n 1, 1) := by decide +kernel
theorem dX6_parseNamed_33 : decode cX6_parseNamed 33 = .ok (.aload_n 0, 1) := by decide +kernel
theorem dX6_parseNamed_34 : decode cX6_parseNamed 34 = .ok (.getfield 192, 3) := by decide +kernel
theorem dX6_parseNamed_37 : decode cX6_parseNamed 37 = .ok (.getfield 244, 3) := by decide +kernel
theorem dX6_parseNamed_40 : decode cX6_parseNamed 40 = .ok (.putfield 247, 3) := by decide +kernel
theorem dX6_parseNamed_43 : decode cX6_parseNamed 43 = .ok (.aload_n 0, 1) := by decide +kernel
theorem dX6_parseNamed_44 : decode cX6_parseNamed 44 = .ok (.getfield 192, 3) := by decide +kernel
theorem dX6_parseNamed_47 : decode cX6_parseNamed 47 = .ok (.aload_n 1, 1) := by decide +kernel
theorem dX6_parseNamed_48 : decode cX6_parseNamed 48 = .ok (.putfield 244, 3) := by decide +kernel
theorem dX6_parseNamed_51 : decode cX6_parseNamed 51 = .ok (.aload_n 1, 1) := by decide +kernel
theorem dX6_parseNamed_52 : decode cX6_parseNamed 52 = .ok (.areturn, 1) := by decide +kernel
theorem dX6_parseBounds_0 : decode cX6_parseBounds 0 = .ok (.aload_n 0, 1) := by decide +kernel
theorem dX6_parseBounds_1 : decode cX6_parseBounds 1 = .ok (.bipush 91, 2) := by decide +kernel
theorem dX6_parseBounds_3 : decode cX6_parseBounds 3 = .ok (.invokevirtual 250, 3) := by decide +kernel
theorem dX6_parseBounds_6 : decode cX6_parseBounds 6 = .ok (.aload_n 1, 1) := by decide +kernel
theorem dX6_parseBounds_7 : decode cX6_parseBounds 7 = .ok (.aload_n 0, 1) := by decide +kernel
theorem dX6_parseBounds_8 : decode cX6_parseBounds 8 = .ok (.invokevirtual 253, 3) := by decide +kernel
theorem dX6_parseBounds_11 : decode cX6_parseBounds 11 = .ok (.putfield 220, 3) := by decide +kernel
theorem dX6_parseBounds_14 : decode cX6_parseBounds 14 = .ok (.aload_n 0, 1) := by decide +kernel
theorem dX6_parseBounds_15 : decode cX6_parseBounds 15 = .ok (.iconst 4, 1) := by decide +kernel
theorem dX6_parseBounds_16 : decode cX6_parseBounds 16 = .ok (.invokevirtual 83, 3) := by decide +kernel
theorem dX6_parseBounds_19 : decode cX6_parseBounds 19 = .ok (.aload_n 1, 1) := by decide +kernel
theorem dX6_parseBounds_20 : decode cX6_parseBounds 20 = .ok (.aload_n 0, 1) := by decide +kernel
theorem dX6_parseBounds_21 : decode cX6_parseBounds 21 = .ok (.invokevirtual 253, 3) := by decide +kernel
theorem dX6_parseBounds_24 : decode cX6_parseBounds 24 = .ok (.putfield 256, 3) := by decide +kernel
theorem dX6_parseBounds_27 : decode cX6_parseBounds 27 = .ok (.aload_n 0, 1) := by decide +kernel
theorem dX6_parseBounds_28 : decode cX6_parseBounds 28 = .ok (.bipush 93, 2) := by decide +kernel
theorem dX6_parseBounds_30 : decode cX6_parseBounds 30 = .ok (.invokevirtual 259, 3) := by decide +kernel
theorem dX6_parseBounds_33 : decode cX6_parseBounds 33 = .ok (.return_, 1) := by decide +kernel
theorem dX6_parseBound_0 : decode cX6_parseBound 0 = .ok (.aload_n 0, 1) := by decide +kernel
theorem dX6_parseBound_1 : decode cX6_parseBound 1 = .ok (.bipush 45, 2) := by decide +kernel
theorem dX6_parseBound_3 : decode cX6_parseBound 3 = .ok (.invokevirtual 67, 3) := by decide +kernel
theorem dX6_parseBound_6 : decode cX6_parseBound 6 = .ok (.istore_n 1, 1) := by decide +kernel
theorem dX6_parseBound_7 : decode cX6_parseBound 7 = .ok (.aload_n 0, 1) := by decide +kernel
theorem dX6_parseBound_8 : decode cX6_parseBound 8 = .ok (.getfield 18, 3) := by decide +kernel
theorem dX6_parseBound_11 : decode cX6_parseBound 11 = .ok (.getfield 75, 3) := by decide +kernel
theorem dX6_parseBound_14 : decode cX6_parseBound 14 = .ok (.aload_n 0, 1) := by decide +kernel
theorem dX6_parseBound_15 : decode cX6_parseBound 15 = .ok (.getfield 61, 3) := by decide +kernel
theorem dX6_parseBound_18 : decode cX6_parseBound 18 = .ok (.iaload, 1) := by decide +kernel
theorem dX6_parseBound_19 : decode cX6_parseBound 19 = .ok (.istore_n 2, 1) := by decide +kernel
theorem dX6_parseBound_20 : decode cX6_parseBound 20 = .ok (.aload_n 0, 1) := by decide +kernel
theorem dX6_parseBound_21 : decode cX6_parseBound 21 = .ok (.iconst 3, 1) := by decide +kernel
theorem dX6_parseBound_22 : decode cX6_parseBound 22 = .ok (.invokevirtual 83, 3) := by decide +kernel
theorem dX6_parseBound_25 : decode cX6_parseBound 25 = .ok (.iload_n 1, 1) := by decide +kernel
theorem dX6_parseBound_26 : decode cX6_parseBound 26 = .ok (.ifCond .eq 8, 3) := by decide +kernel
theorem dX6_parseBound_29 : decode cX6_parseBound 29 = .ok (.iload_n 2, 1) := by decide +kernel
theorem dX6_parseBound_30 : decode cX6_parseBound 30 = .ok (.ineg, 1) := by decide +kernel
theorem dX6_parseBound_31 : decode cX6_parseBound 31 = .ok (.goto 4, 3) := by decide +kernel
theorem dX6_parseBound_34 : decode cX6_parseBound 34 = .ok (.iload_n 2, 1) := by decide +kernel
theorem dX6_parseBound_35 : decode cX6_parseBound 35 = .ok (.ireturn, 1) := by decide +kernel
theorem dX6_parseFields_0 : decode cX6_parseFields 0 = .ok (.aload_n 0, 1) := by decide +kernel
theorem dX6_parseFields_1 : decode cX6_parseFields 1 = .ok (.getfield 90, 3) := by decide +kernel
theorem dX6_parseFields_4 : decode cX6_parseFields 4 = .ok (.istore_n 2, 1) := by decide +kernel
theorem dX6_parseFields_5 : decode cX6_parseFields 5 = .ok (.aconst_null, 1) := by decide +kernel
theorem dX6_parseFields_6 : decode cX6_parseFields 6 = .ok (.astore_n 3, 1) := by decide +kernel
theorem dX6_parseFields_7 : decode cX6_parseFields 7 = .ok (.iconst 0, 1) := by decide +kernel
theorem dX6_parseFields_8 : decode cX6_parseFields 8 = .ok (.istore 4, 2) := by decide +kernel
theorem dX6_parseFields_10 : decode cX6_parseFields 10 = .ok (.iload 4, 2) := by decide +kernel
theorem dX6_parseFields_12 : decode cX6_parseFields 12 = .ok (.sipush 6000, 3) := by decide +kernel
theorem dX6_parseFields_15 : decode cX6_parseFields 15 = .ok (.if_icmp .ge 73, 3) := by decide +kernel
theorem dX6_parseFields_18 : decode cX6_parseFields 18 = .ok (.aload_n 0, 1) := by decide +kernel
theorem dX6_parseFields_19 : decode cX6_parseFields 19 = .ok (.getfield 55, 3) := by decide +kernel
theorem dX6_parseFields_22 : decode cX6_parseFields 22 = .ok (.iconst 2, 1) := by decide +kernel
theorem dX6_parseFields_23 : decode cX6_parseFields 23 = .ok (.if_icmp .ne 65, 3) := by decide +kernel
theorem dX6_parseFields_26 : decode cX6_parseFields 26 = .ok (.aload_n 0, 1) := by decide +kernel
theorem dX6_parseFields_27 : decode cX6_parseFields 27 = .ok (.aload_n 0, 1) := by decide +kernel
theorem dX6_parseFields_28 : decode cX6_parseFields 28 = .ok (.getfield 18, 3) := by decide +kernel
theorem dX6_parseFields_31 : decode cX6_parseFields 31 = .ok (.getfield 58, 3) := by decide +kernel
theorem dX6_parseFields_34 : decode cX6_parseFields 34 = .ok (.aload_n 0, 1) := by decide +kernel
theorem dX6_parseFields_35 : decode cX6_parseFields 35 = .ok (.getfield 61, 3) := by decide +kernel
theorem dX6_parseFields_38 : decode cX6_parseFields 38 = .ok (.iaload, 1) := by decide +kernel
theorem dX6_parseFields_39 : decode cX6_parseFields 39 = .ok (.putfield 90, 3) := by decide +kernel
theorem dX6_parseFields_42 : decode cX6_parseFields 42 = .ok (.aload_n 0, 1) := by decide +kernel
theorem dX6_parseFields_43 : decode cX6_parseFields 43 = .ok (.bipush 10, 2) := by decide +kernel
theorem dX6_parseFields_45 : decode cX6_parseFields 45 = .ok (.aconst_null, 1) := by decide +kernel
theorem dX6_parseFields_46 : decode cX6_parseFields 46 = .ok (.invokevirtual 170, 3) := by decide +kernel
theorem dX6_parseFields_49 : decode cX6_parseFields 49 = .ok (.astore 5, 2) := by decide +kernel
theorem dX6_parseFields_51 : decode cX6_parseFields 51 = .ok (.aload_n 3, 1) := by decide +kernel
theorem dX6_parseFields_52 : decode cX6_parseFields 52 = .ok (.ifnonnull 12, 3) := by decide +kernel
theorem dX6_parseFields_55 : decode cX6_parseFields 55 = .ok (.aload_n 1, 1) := by decide +kernel
theorem dX6_parseFields_56 : decode cX6_parseFields 56 = .ok (.aload 5, 2) := by decide +kernel
theorem dX6_parseFields_58 : decode cX6_parseFields 58 = .ok (.putfield 262, 3) := by decide +kernel
theorem dX6_parseFields_61 : decode cX6_parseFields 61 = .ok (.goto 9, 3) := by decide +kernel
theorem dX6_parseFields_64 : decode cX6_parseFields 64 = .ok (.aload_n 3, 1) := by decide +kernel
theorem dX6_parseFields_65 : decode cX6_parseFields 65 = .ok (.aload 5, 2) := by decide +kernel
theorem dX6_parseFields_67 : decode cX6_parseFields 67 = .ok (.putfield 114, 3) := by decide +kernel
theorem dX6_parseFields_70 : decode cX6_parseFields 70 = .ok (.aload 5, 2) := by decide +kernel
theorem dX6_parseFields_72 : decode cX6_parseFields 72 = .ok (.invokestatic 213, 3) := by decide +kernel
theorem dX6_parseFields_75 : decode cX6_parseFields 75 = .ok (.astore_n 3, 1) := by decide +kernel
theorem dX6_parseFields_76 : decode cX6_parseFields 76 = .ok (.aload_n 0, 1) := by decide +kernel
theorem dX6_parseFields_77 : decode cX6_parseFields 77 = .ok (.bipush 59, 2) := by decide +kernel
theorem dX6_parseFields_79 : decode cX6_parseFields 79 = .ok (.invokevirtual 83, 3) := by decide +kernel
theorem dX6_parseFields_82 : decode cX6_parseFields 82 = .ok (.iinc 4 1, 3) := by decide +kernel
theorem dX6_parseFields_85 : decode cX6_parseFields 85 = .ok (.goto (-75), 3) := by decide +kernel
theorem dX6_parseFields_88 : decode cX6_parseFields 88 = .ok (.aload_n 0, 1) := by decide +kernel
theorem dX6_parseFields_89 : decode cX6_parseFields 89 = .ok (.iload_n 2, 1) := by decide +kernel
theorem dX6_parseFields_90 : decode cX6_parseFields 90 = .ok (.putfield 90, 3) := by decide +kernel
theorem dX6_parseFields_93 : decode cX6_parseFields 93 = .ok (.aload_n 3, 1) := by decide +kernel
theorem dX6_parseFields_94 : decode cX6_parseFields 94 = .ok (.areturn, 1) := by decide +kernel
theorem dX6_parseLevel_0 : decode cX6_parseLevel 0 = .ok (.aload_n 0, 1) := by decide +kernel
theorem dX6_parseLevel_1 : decode cX6_parseLevel 1 = .ok (.bipush 11, 2) := by decide +kernel
theorem dX6_parseLevel_3 : decode cX6_parseLevel 3 = .ok (.invokevirtual 175, 3) := by decide +kernel
theorem dX6_parseLevel_6 : decode cX6_parseLevel 6 = .ok (.astore_n 2, 1) := by decide +kernel
theorem dX6_parseLevel_7 : decode cX6_parseLevel 7 = .ok (.aload_n 0, 1) := by decide +kernel
theorem dX6_parseLevel_8 : decode cX6_parseLevel 8 = .ok (.getfield 192, 3) := by decide +kernel
theorem dX6_parseLevel_11 : decode cX6_parseLevel 11 = .ok (.astore_n 3, 1) := by decide +kernel
theorem dX6_parseLevel_12 : decode cX6_parseLevel 12 = .ok (.aload_n 0, 1) := by decide +kernel
theorem dX6_parseLevel_13 : decode cX6_parseLevel 13 = .ok (.aconst_null, 1) := by decide +kernel
theorem dX6_parseLevel_14 : decode cX6_parseLevel 14 = .ok (.putfield 192, 3) := by decide +kernel
theorem dX6_parseLevel_17 : decode cX6_parseLevel 17 = .ok (.aload_n 2, 1) := by decide +kernel
theorem dX6_parseLevel_18 : decode cX6_parseLevel 18 = .ok (.aload_n 1, 1) := by decide +kernel
theorem dX6_parseLevel_19 : decode cX6_parseLevel 19 = .ok (.putfield 233, 3) := by decide +kernel
theorem dX6_parseLevel_22 : decode cX6_parseLevel 22 = .ok (.aload_n 0, 1) := by decide +kernel
theorem dX6_parseLevel_23 : decode cX6_parseLevel 23 = .ok (.sipush 234, 3) := by decide +kernel
theorem dX6_parseLevel_26 : decode cX6_parseLevel 26 = .ok (.invokevirtual 83, 3) := by decide +kernel
theorem dX6_parseLevel_29 : decode cX6_parseLevel 29 = .ok (.aload_n 0, 1) := by decide +kernel
theorem dX6_parseLevel_30 : decode cX6_parseLevel 30 = .ok (.aload_n 2, 1) := by decide +kernel
theorem dX6_parseLevel_31 : decode cX6_parseLevel 31 = .ok (.invokevirtual 236, 3) := by decide +kernel
theorem dX6_parseLevel_34 : decode cX6_parseLevel 34 = .ok (.astore 4, 2) := by decide +kernel
theorem dX6_parseLevel_36 : decode cX6_parseLevel 36 = .ok (.aload_n 0, 1) := by decide +kernel
theorem dX6_parseLevel_37 : decode cX6_parseLevel 37 = .ok (.sipush 226, 3) := by decide +kernel
theorem dX6_parseLevel_40 : decode cX6_parseLevel 40 = .ok (.invokevirtual 67, 3) := by decide +kernel
theorem dX6_parseLevel_43 : decode cX6_parseLevel 43 = .ok (.ifCond .eq 14, 3) := by decide +kernel
theorem dX6_parseLevel_46 : decode cX6_parseLevel 46 = .ok (.aload_n 0, 1) := by decide +kernel
theorem dX6_parseLevel_47 : decode cX6_parseLevel 47 = .ok (.aload_n 2, 1) := by decide +kernel
theorem dX6_parseLevel_48 : decode cX6_parseLevel 48 = .ok (.aload 4, 2) := by decide +kernel
theorem dX6_parseLevel_50 : decode cX6_parseLevel 50 = .ok (.bipush 11, 2) := by decide +kernel
theorem dX6_parseLevel_52 : decode cX6_parseLevel 52 = .ok (.invokevirtual 265, 3) := by decide +kernel
theorem dX6_parseLevel_55 : decode cX6_parseLevel 55 = .ok (.astore 4, 2) := by decide +kernel
theorem dX6_parseLevel_57 : decode cX6_parseLevel 57 = .ok (.aload_n 0, 1) := by decide +kernel
theorem dX6_parseLevel_58 : decode cX6_parseLevel 58 = .ok (.sipush 237, 3) := by decide +kernel
theorem dX6_parseLevel_61 : decode cX6_parseLevel 61 = .ok (.invokevirtual 67, 3) := by decide +kernel
theorem dX6_parseLevel_64 : decode cX6_parseLevel 64 = .ok (.ifCond .eq 13, 3) := by decide +kernel
theorem dX6_parseLevel_67 : decode cX6_parseLevel 67 = .ok (.aload_n 0, 1) := by decide +kernel
theorem dX6_parseLevel_68 : decode cX6_parseLevel 68 = .ok (.aload_n 2, 1) := by decide +kernel
theorem dX6_parseLevel_69 : decode cX6_parseLevel 69 = .ok (.aload 4, 2) := by decide +kernel
theorem dX6_parseLevel_71 : decode cX6_parseLevel 71 = .ok (.bipush 12, 2) := by decide +kernel
theorem dX6_parseLevel_73 : decode cX6_parseLevel 73 = .ok (.invokevirtual 265, 3) := by decide +kernel
theorem dX6_parseLevel_76 : decode cX6_parseLevel 76 = .ok (.pop, 1) := by decide +kernel
theorem dX6_parseLevel_77 : decode cX6_parseLevel 77 = .ok (.aload_n 0, 1) := by decide +kernel
theorem dX6_parseLevel_78 : decode cX6_parseLevel 78 = .ok (.sipush 210, 3) := by decide +kernel
theorem dX6_parseLevel_81 : decode cX6_parseLevel 81 = .ok (.invokevirtual 83, 3) := by decide +kernel
theorem dX6_parseLevel_84 : decode cX6_parseLevel 84 = .ok (.aload_n 0, 1) := by decide +kernel
theorem dX6_parseLevel_85 : decode cX6_parseLevel 85 = .ok (.aload_n 3, 1) := by decide +kernel
theorem dX6_parseLevel_86 : decode cX6_parseLevel 86 = .ok (.putfield 192, 3) := by decide +kernel
theorem dX6_parseLevel_89 : decode cX6_parseLevel 89 = .ok (.aload_n 2, 1) := by decide +kernel
theorem dX6_parseLevel_90 : decode cX6_parseLevel 90 = .ok (.areturn, 1) := by decide +kernel
theorem dX6_beginsStatement_0 : decode cX6_beginsStatement 0 = .ok (.aload_n 0, 1) := by decide +kernel
theorem dX6_beginsStatement_1 : decode cX6_beginsStatement 1 = .ok (.getfield 55, 3) := by decide +kernel
theorem dX6_beginsStatement_4 : decode cX6_beginsStatement 4 = .ok (.lookupswitch 142 #[(2, 140), (204, 140), (213, 140), (216, 140), (218, 140), (223, 140), (224, 140), (225, 140), (239, 140), (240, 140), (244, 140), (247, 140), (252, 140), (254, 140), (256, 140), (257, 140)], 140) := by decide +kernel
theorem dX6_beginsStatement_144 : decode cX6_beginsStatement 144 = .ok (.iconst 1, 1) := by decide +kernel
theorem dX6_beginsStatement_145 : decode cX6_beginsStatement 145 = .ok (.ireturn, 1) := by decide +kernel
theorem dX6_beginsStatement_146 : decode cX6_beginsStatement 146 = .ok (.iconst 0, 1) := by decide +kernel
theorem dX6_beginsStatement_147 : decode cX6_beginsStatement 147 = .ok (.ireturn, 1) := by decide +kernel
theorem dX6_parseStatements_0 : decode cX6_parseStatements 0 = .ok (.aconst_null, 1) := by decide +kernel
theorem dX6_parseStatements_1 : decode cX6_parseStatements 1 = .ok (.astore_n 2, 1) := by decide +kernel
theorem dX6_parseStatements_2 : decode cX6_parseStatements 2 = .ok (.iconst 0, 1) := by decide +kernel
theorem dX6_parseStatements_3 : decode cX6_parseStatements 3 = .ok (.istore_n 3, 1) := by decide +kernel
theorem dX6_parseStatements_4 : decode cX6_parseStatements 4 = .ok (.iload_n 3, 1) := by decide +kernel
theorem dX6_parseStatements_5 : decode cX6_parseStatements 5 = .ok (.sipush 6000, 3) := by decide +kernel
theorem dX6_parseStatements_8 : decode cX6_parseStatements 8 = .ok (.if_icmp .ge 51, 3) := by decide +kernel
theorem dX6_parseStatements_11 : decode cX6_parseStatements 11 = .ok (.aload_n 0, 1) := by decide +kernel
theorem dX6_parseStatements_12 : decode cX6_parseStatements 12 = .ok (.invokevirtual 277, 3) := by decide +kernel
theorem dX6_parseStatements_15 : decode cX6_parseStatements 15 = .ok (.ifCond .eq 44, 3) := by decide +kernel
theorem dX6_parseStatements_18 : decode cX6_parseStatements 18 = .ok (.aload_n 0, 1) := by decide +kernel
theorem dX6_parseStatements_19 : decode cX6_parseStatements 19 = .ok (.aload_n 1, 1) := by decide +kernel
theorem dX6_parseStatements_20 : decode cX6_parseStatements 20 = .ok (.invokevirtual 280, 3) := by decide +kernel
theorem dX6_parseStatements_23 : decode cX6_parseStatements 23 = .ok (.astore 4, 2) := by decide +kernel
theorem dX6_parseStatements_25 : decode cX6_parseStatements 25 = .ok (.aload_n 2, 1) := by decide +kernel
theorem dX6_parseStatements_26 : decode cX6_parseStatements 26 = .ok (.ifnonnull 12, 3) := by decide +kernel
theorem dX6_parseStatements_29 : decode cX6_parseStatements 29 = .ok (.aload_n 1, 1) := by decide +kernel
theorem dX6_parseStatements_30 : decode cX6_parseStatements 30 = .ok (.aload 4, 2) := by decide +kernel
theorem dX6_parseStatements_32 : decode cX6_parseStatements 32 = .ok (.putfield 284, 3) := by decide +kernel
theorem dX6_parseStatements_35 : decode cX6_parseStatements 35 = .ok (.goto 9, 3) := by decide +kernel
theorem dX6_parseStatements_38 : decode cX6_parseStatements 38 = .ok (.aload_n 2, 1) := by decide +kernel
theorem dX6_parseStatements_39 : decode cX6_parseStatements 39 = .ok (.aload 4, 2) := by decide +kernel
theorem dX6_parseStatements_41 : decode cX6_parseStatements 41 = .ok (.putfield 287, 3) := by decide +kernel
theorem dX6_parseStatements_44 : decode cX6_parseStatements 44 = .ok (.aload 4, 2) := by decide +kernel
theorem dX6_parseStatements_46 : decode cX6_parseStatements 46 = .ok (.astore_n 2, 1) := by decide +kernel
theorem dX6_parseStatements_47 : decode cX6_parseStatements 47 = .ok (.aload_n 0, 1) := by decide +kernel
theorem dX6_parseStatements_48 : decode cX6_parseStatements 48 = .ok (.bipush 59, 2) := by decide +kernel
theorem dX6_parseStatements_50 : decode cX6_parseStatements 50 = .ok (.invokevirtual 83, 3) := by decide +kernel
theorem dX6_parseStatements_53 : decode cX6_parseStatements 53 = .ok (.iinc 3 1, 3) := by decide +kernel
theorem dX6_parseStatements_56 : decode cX6_parseStatements 56 = .ok (.goto (-52), 3) := by decide +kernel
theorem dX6_parseStatements_59 : decode cX6_parseStatements 59 = .ok (.return_, 1) := by decide +kernel
theorem dX7_init_0 : decode cX7_init 0 = .ok (.aload_n 0, 1) := by decide +kernel
theorem dX7_init_1 : decode cX7_init 1 = .ok (.invokespecial 3, 3) := by decide +kernel
theorem dX7_init_4 : decode cX7_init 4 = .ok (.aload_n 0, 1) := by decide +kernel
theorem dX7_init_5 : decode cX7_init 5 = .ok (.sipush 6001, 3) := by decide +kernel
theorem dX7_init_8 : decode cX7_init 8 = .ok (.newarray .int, 2) := by decide +kernel
theorem dX7_init_10 : decode cX7_init 10 = .ok (.putfield 9, 3) := by decide +kernel
theorem dX7_init_13 : decode cX7_init 13 = .ok (.aload_n 0, 1) := by decide +kernel
theorem dX7_init_14 : decode cX7_init 14 = .ok (.sipush 6001, 3) := by decide +kernel
theorem dX7_init_17 : decode cX7_init 17 = .ok (.newarray .int, 2) := by decide +kernel
theorem dX7_init_19 : decode cX7_init 19 = .ok (.putfield 15, 3) := by decide +kernel
theorem dX7_init_22 : decode cX7_init 22 = .ok (.aload_n 0, 1) := by decide +kernel
theorem dX7_init_23 : decode cX7_init 23 = .ok (.sipush 6001, 3) := by decide +kernel
theorem dX7_init_26 : decode cX7_init 26 = .ok (.newarray .int, 2) := by decide +kernel
theorem dX7_init_28 : decode cX7_init 28 = .ok (.putfield 18, 3) := by decide +kernel
theorem dX7_init_31 : decode cX7_init 31 = .ok (.aload_n 0, 1) := by decide +kernel
theorem dX7_init_32 : decode cX7_init 32 = .ok (.sipush 256, 3) := by decide +kernel
theorem dX7_init_35 : decode cX7_init 35 = .ok (.newarray .int, 2) := by decide +kernel
theorem dX7_init_37 : decode cX7_init 37 = .ok (.putfield 21, 3) := by decide +kernel
theorem dX7_init_40 : decode cX7_init 40 = .ok (.aload_n 0, 1) := by decide +kernel
theorem dX7_init_41 : decode cX7_init 41 = .ok (.sipush 3001, 3) := by decide +kernel
theorem dX7_init_44 : decode cX7_init 44 = .ok (.newarray .int, 2) := by decide +kernel
theorem dX7_init_46 : decode cX7_init 46 = .ok (.putfield 24, 3) := by decide +kernel
theorem dX7_init_49 : decode cX7_init 49 = .ok (.aload_n 0, 1) := by decide +kernel
theorem dX7_init_50 : decode cX7_init 50 = .ok (.sipush 3001, 3) := by decide +kernel
theorem dX7_init_53 : decode cX7_init 53 = .ok (.newarray .int, 2) := by decide +kernel
theorem dX7_init_55 : decode cX7_init 55 = .ok (.putfield 27, 3) := by decide +kernel
theorem dX7_init_58 : decode cX7_init 58 = .ok (.aload_n 0, 1) := by decide +kernel
theorem dX7_init_59 : decode cX7_init 59 = .ok (.sipush 3001, 3) := by decide +kernel
theorem dX7_init_62 : decode cX7_init 62 = .ok (.newarray .int, 2) := by decide +kernel
theorem dX7_init_64 : decode cX7_init 64 = .ok (.putfield 30, 3) := by decide +kernel
theorem dX7_init_67 : decode cX7_init 67 = .ok (.return_, 1) := by decide +kernel
theorem dX7_scan_0 : decode cX7_scan 0 = .ok (.aload_n 0, 1) := by decide +kernel
theorem dX7_scan_1 : decode cX7_scan 1 = .ok (.aload_n 1, 1) := by decide +kernel
theorem dX7_scan_2 : decode cX7_scan 2 = .ok (.putfield 33, 3) := by decide +kernel
theorem dX7_scan_5 : decode cX7_scan 5 = .ok (.aload_n 0, 1) := by decide +kernel
theorem dX7_scan_6 : decode cX7_scan 6 = .ok (.iload_n 2, 1) := by decide +kernel
theorem dX7_scan_7 : decode cX7_scan 7 = .ok (.aload_n 1, 1) := by decide +kernel
theorem dX7_scan_8 : decode cX7_scan 8 = .ok (.arraylength, 1) := by decide +kernel
theorem dX7_scan_9 : decode cX7_scan 9 = .ok (.invokestatic 37, 3) := by decide +kernel
theorem dX7_scan_12 : decode cX7_scan 12 = .ok (.putfield 43, 3) := by decide +kernel
theorem dX7_scan_15 : decode cX7_scan 15 = .ok (.aload_n 0, 1) := by decide +kernel
theorem dX7_scan_16 : decode cX7_scan 16 = .ok (.iconst 0, 1) := by decide +kernel
theorem dX7_scan_17 : decode cX7_scan 17 = .ok (.putfield 47, 3) := by decide +kernel
theorem dX7_scan_20 : decode cX7_scan 20 = .ok (.aload_n 0, 1) := by decide +kernel
theorem dX7_scan_21 : decode cX7_scan 21 = .ok (.iconst 1, 1) := by decide +kernel
theorem dX7_scan_22 : decode cX7_scan 22 = .ok (.putfield 50, 3) := by decide +kernel
theorem dX7_scan_25 : decode cX7_scan 25 = .ok (.aload_n 0, 1) := by decide +kernel
theorem dX7_scan_26 : decode cX7_scan 26 = .ok (.iconst 0, 1) := by decide +kernel
theorem dX7_scan_27 : decode cX7_scan 27 = .ok (.putfield 53, 3) := by decide +kernel
theorem dX7_scan_30 : decode cX7_scan 30 = .ok (.aload_n 0, 1) := by decide +kernel
theorem dX7_scan_31 : decode cX7_scan 31 = .ok (.iconst 0, 1) := by decide +kernel
theorem dX7_scan_32 : decode cX7_scan 32 = .ok (.putfield 56, 3) := by decide +kernel
theorem dX7_scan_35 : decode cX7_scan 35 = .ok (.aload_n 0, 1) := by decide +kernel
theorem dX7_scan_36 : decode cX7_scan 36 = .ok (.getfield 21, 3) := by decide +kernel
theorem dX7_scan_39 : decode cX7_scan 39 = .ok (.iconst (-1), 1) := by decide +kernel
theorem dX7_scan_40 : decode cX7_scan 40 = .ok (.invokestatic 59, 3) := by decide +kernel
theorem dX7_scan_43 : decode cX7_scan 43 = .ok (.iconst 1, 1) := by decide +kernel
theorem dX7_scan_44 : decode cX7_scan 44 = .ok (.istore_n 3, 1) := by decide +kernel
theorem dX7_scan_45 : decode cX7_scan 45 = .ok (.iconst 0, 1) := by decide +kernel
theorem dX7_scan_46 : decode cX7_scan 46 = .ok (.istore 4, 2) := by decide +kernel
theorem dX7_scan_48 : decode cX7_scan 48 = .ok (.iload 4, 2) := by decide +kernel
theorem dX7_scan_50 : decode cX7_scan 50 = .ok (.sipush 6000, 3) := by decide +kernel
theorem dX7_scan_53 : decode cX7_scan 53 = .ok (.if_icmp .gt 18, 3) := by decide +kernel
theorem dX7_scan_56 : decode cX7_scan 56 = .ok (.iload_n 3, 1) := by decide +kernel
theorem dX7_scan_57 : decode cX7_scan 57 = .ok (.ifCond .eq 14, 3) := by decide +kernel
theorem dX7_scan_60 : decode cX7_scan 60 = .ok (.aload_n 0, 1) := by decide +kernel
theorem dX7_scan_61 : decode cX7_scan 61 = .ok (.invokevirtual 65, 3) := by decide +kernel
theorem dX7_scan_64 : decode cX7_scan 64 = .ok (.istore_n 3, 1) := by decide +kernel
theorem dX7_scan_65 : decode cX7_scan 65 = .ok (.iinc 4 1, 3) := by decide +kernel
theorem dX7_scan_68 : decode cX7_scan 68 = .ok (.goto (-20), 3) := by decide +kernel
theorem dX7_scan_71 : decode cX7_scan 71 = .ok (.return_, 1) := by decide +kernel
theorem dX7_scanToken_0 : decode cX7_scanToken 0 = .ok (.aload_n 0, 1) := by decide +kernel
theorem dX7_scanToken_1 : decode cX7_scanToken 1 = .ok (.invokevirtual 69, 3) := by decide +kernel
theorem dX7_scanToken_4 : decode cX7_scanToken 4 = .ok (.istore_n 1, 1) := by decide +kernel
theorem dX7_scanToken_5 : decode cX7_scanToken 5 = .ok (.iload_n 1, 1) := by decide +kernel
theorem dX7_scanToken_6 : decode cX7_scanToken 6 = .ok (.ifCond .le 11, 3) := by decide +kernel
theorem dX7_scanToken_9 : decode cX7_scanToken 9 = .ok (.aload_n 0, 1) := by decide +kernel
theorem dX7_scanToken_10 : decode cX7_scanToken 10 = .ok (.iconst 1, 1) := by decide +kernel
theorem dX7_scanToken_11 : decode cX7_scanToken 11 = .ok (.iconst 0, 1) := by decide +kernel
theorem dX7_scanToken_12 : decode cX7_scanToken 12 = .ok (.iload_n 1, 1) := by decide +kernel
theorem dX7_scanToken_13 : decode cX7_scanToken 13 = .ok (.invokevirtual 73, 3) := by decide +kernel
theorem dX7_scanToken_16 : decode cX7_scanToken 16 = .ok (.ireturn, 1) := by decide +kernel
theorem dX7_scanToken_17 : decode cX7_scanToken 17 = .ok (.aload_n 0, 1) := by decide +kernel
theorem dX7_scanToken_18 : decode cX7_scanToken 18 = .ok (.getfield 47, 3) := by decide +kernel
theorem dX7_scanToken_21 : decode cX7_scanToken 21 = .ok (.aload_n 0, 1) := by decide +kernel
theorem dX7_scanToken_22 : decode cX7_scanToken 22 = .ok (.getfield 43, 3) := by decide +kernel
theorem dX7_scanToken_25 : decode cX7_scanToken 25 = .ok (.if_icmp .lt 14, 3) := by decide +kernel
theorem dX7_scanToken_28 : decode cX7_scanToken 28 = .ok (.aload_n 0, 1) := by decide +kernel
theorem dX7_scanToken_29 : decode cX7_scanToken 29 = .ok (.iconst 0, 1) := by decide +kernel
theorem dX7_scanToken_30 : decode cX7_scanToken 30 = .ok (.iconst 0, 1) := by decide +kernel
theorem dX7_scanToken_31 : decode cX7_scanToken 31 = .ok (.aload_n 0, 1) := by decide +kernel
theorem dX7_scanToken_32 : decode cX7_scanToken 32 = .ok (.getfield 50, 3) := by decide +kernel
theorem dX7_scanToken_35 : decode cX7_scanToken 35 = .ok (.invokevirtual 73, 3) := by decide +kernel
theorem dX7_scanToken_38 : decode cX7_scanToken 38 = .ok (.ireturn, 1) := by decide +kernel
theorem dX7_scanToken_39 : decode cX7_scanToken 39 = .ok (.aload_n 0, 1) := by decide +kernel
theorem dX7_scanToken_40 : decode cX7_scanToken 40 = .ok (.getfield 33, 3) := by decide +kernel
theorem dX7_scanToken_43 : decode cX7_scanToken 43 = .ok (.aload_n 0, 1) := by decide +kernel
theorem dX7_scanToken_44 : decode cX7_scanToken 44 = .ok (.getfield 47, 3) := by decide +kernel
theorem dX7_scanToken_47 : decode cX7_scanToken 47 = .ok (.baload, 1) := by decide +kernel
theorem dX7_scanToken_48 : decode cX7_scanToken 48 = .ok (.sipush 255, 3) := by decide +kernel
theorem dX7_scanToken_51 : decode cX7_scanToken 51 = .ok (.iand, 1) := by decide +kernel
theorem dX7_scanToken_52 : decode cX7_scanToken 52 = .ok (.istore_n 2, 1) := by decide +kernel
theorem dX7_scanToken_53 : decode cX7_scanToken 53 = .ok (.iload_n 2, 1) := by decide +kernel
theorem dX7_scanToken_54 : decode cX7_scanToken 54 = .ok (.invokestatic 77, 3) := by decide +kernel
theorem dX7_scanToken_57 : decode cX7_scanToken 57 = .ok (.ifCond .eq 8, 3) := by decide +kernel
theorem dX7_scanToken_60 : decode cX7_scanToken 60 = .ok (.aload_n 0, 1) := by decide +kernel
theorem dX7_scanToken_61 : decode cX7_scanToken 61 = .ok (.invokevirtual 81, 3) := by decide +kernel
theorem dX7_scanToken_64 : decode cX7_scanToken 64 = .ok (.ireturn, 1) := by decide +kernel
theorem dX7_scanToken_65 : decode cX7_scanToken 65 = .ok (.iload_n 2, 1) := by decide +kernel
theorem dX7_scanToken_66 : decode cX7_scanToken 66 = .ok (.invokestatic 84, 3) := by decide +kernel
theorem dX7_scanToken_69 : decode cX7_scanToken 69 = .ok (.ifCond .eq 8, 3) := by decide +kernel
theorem dX7_scanToken_72 : decode cX7_scanToken 72 = .ok (.aload_n 0, 1) := by decide +kernel
theorem dX7_scanToken_73 : decode cX7_scanToken 73 = .ok (.invokevirtual 87, 3) := by decide +kernel
theorem dX7_scanToken_76 : decode cX7_scanToken 76 = .ok (.ireturn, 1) := by decide +kernel
theorem dX7_scanToken_77 : decode cX7_scanToken 77 = .ok (.aload_n 0, 1) := by decide +kernel
theorem dX7_scanToken_78 : decode cX7_scanToken 78 = .ok (.iload_n 2, 1) := by decide +kernel
theorem dX7_scanToken_79 : decode cX7_scanToken 79 = .ok (.invokevirtual 90, 3) := by decide +kernel
theorem dX7_scanToken_82 : decode cX7_scanToken 82 = .ok (.ireturn, 1) := by decide +kernel
theorem dX7_putToken_0 : decode cX7_putToken 0 = .ok (.aload_n 0, 1) := by decide +kernel
theorem dX7_putToken_1 : decode cX7_putToken 1 = .ok (.getfield 53, 3) := by decide +kernel
theorem dX7_putToken_4 : decode cX7_putToken 4 = .ok (.sipush 6000, 3) := by decide +kernel
theorem dX7_putToken_7 : decode cX7_putToken 7 = .ok (.if_icmp .le 5, 3) := by decide +kernel
theorem dX7_putToken_10 : decode cX7_putToken 10 = .ok (.iconst 0, 1) := by decide +kernel
theorem dX7_putToken_11 : decode cX7_putToken 11 = .ok (.ireturn, 1) := by decide +kernel
theorem dX7_putToken_12 : decode cX7_putToken 12 = .ok (.aload_n 0, 1) := by decide +kernel
theorem dX7_putToken_13 : decode cX7_putToken 13 = .ok (.getfield 9, 3) := by decide +kernel
theorem dX7_putToken_16 : decode cX7_putToken 16 = .ok (.aload_n 0, 1) := by decide +kernel
theorem dX7_putToken_17 : decode cX7_putToken 17 = .ok (.getfield 53, 3) := by decide +kernel
theorem dX7_putToken_20 : decode cX7_putToken 20 = .ok (.iload_n 1, 1) := by decide +kernel
theorem dX7_putToken_21 : decode cX7_putToken 21 = .ok (.iastore, 1) := by decide +kernel
theorem dX7_putToken_22 : decode cX7_putToken 22 = .ok (.aload_n 0, 1) := by decide +kernel
theorem dX7_putToken_23 : decode cX7_putToken 23 = .ok (.getfield 15, 3) := by decide +kernel
theorem dX7_putToken_26 : decode cX7_putToken 26 = .ok (.aload_n 0, 1) := by decide +kernel
theorem dX7_putToken_27 : decode cX7_putToken 27 = .ok (.getfield 53, 3) := by decide +kernel
theorem dX7_putToken_30 : decode cX7_putToken 30 = .ok (.iload_n 2, 1) := by decide +kernel
theorem dX7_putToken_31 : decode cX7_putToken 31 = .ok (.iastore, 1) := by decide +kernel
theorem dX7_putToken_32 : decode cX7_putToken 32 = .ok (.aload_n 0, 1) := by decide +kernel
theorem dX7_putToken_33 : decode cX7_putToken 33 = .ok (.getfield 18, 3) := by decide +kernel
theorem dX7_putToken_36 : decode cX7_putToken 36 = .ok (.aload_n 0, 1) := by decide +kernel
theorem dX7_putToken_37 : decode cX7_putToken 37 = .ok (.getfield 53, 3) := by decide +kernel
theorem dX7_putToken_40 : decode cX7_putToken 40 = .ok (.iload_n 3, 1) := by decide +kernel
theorem dX7_putToken_41 : decode cX7_putToken 41 = .ok (.iastore, 1) := by decide +kernel
theorem dX7_putToken_42 : decode cX7_putToken 42 = .ok (.iload_n 1, 1) := by decide +kernel
theorem dX7_putToken_43 : decode cX7_putToken 43 = .ok (.iconst 1, 1) := by decide +kernel
theorem dX7_putToken_44 : decode cX7_putToken 44 = .ok (.if_icmp .eq 7, 3) := by decide +kernel
theorem dX7_putToken_47 : decode cX7_putToken 47 = .ok (.iload_n 1, 1) := by decide +kernel
theorem dX7_putToken_48 : decode cX7_putToken 48 = .ok (.ifCond .ne 5, 3) := by decide +kernel
theorem dX7_putToken_51 : decode cX7_putToken 51 = .ok (.iconst 0, 1) := by decide +kernel
theorem dX7_putToken_52 : decode cX7_putToken 52 = .ok (.ireturn, 1) := by decide +kernel
theorem dX7_putToken_53 : decode cX7_putToken 53 = .ok (.aload_n 0, 1) := by decide +kernel
theorem dX7_putToken_54 : decode cX7_putToken 54 = .ok (.dup, 1) := by decide +kernel
theorem dX7_putToken_55 : decode cX7_putToken 55 = .ok (.getfield 53, 3) := by decide +kernel
theorem dX7_putToken_58 : decode cX7_putToken 58 = .ok (.iconst 1, 1) := by decide +kernel
theorem dX7_putToken_59 : decode cX7_putToken 59 = .ok (.iadd, 1) := by decide +kernel
theorem dX7_putToken_60 : decode cX7_putToken 60 = .ok (.putfield 53, 3) := by decide +kernel
theorem dX7_putToken_63 : decode cX7_putToken 63 = .ok (.iconst 1, 1) := by decide +kernel
theorem dX7_putToken_64 : decode cX7_putToken 64 = .ok (.ireturn, 1) := by decide +kernel
theorem dX7_skipBlanks_0 : decode cX7_skipBlanks 0 = .ok (.aload_n 0, 1) := by decide +kernel
theorem dX7_skipBlanks_1 : decode cX7_skipBlanks 1 = .ok (.getfield 47, 3) := by decide +kernel
theorem dX7_skipBlanks_4 : decode cX7_skipBlanks 4 = .ok (.aload_n 0, 1) := by decide +kernel
theorem dX7_skipBlanks_5 : decode cX7_skipBlanks 5 = .ok (.getfield 43, 3) := by decide +kernel
theorem dX7_skipBlanks_8 : decode cX7_skipBlanks 8 = .ok (.if_icmp .ge 97, 3) := by decide +kernel
theorem dX7_skipBlanks_11 : decode cX7_skipBlanks 11 = .ok (.aload_n 0, 1) := by decide +kernel
theorem dX7_skipBlanks_12 : decode cX7_skipBlanks 12 = .ok (.getfield 33, 3) := by decide +kernel
theorem dX7_skipBlanks_15 : decode cX7_skipBlanks 15 = .ok (.aload_n 0, 1) := by decide +kernel
theorem dX7_skipBlanks_16 : decode cX7_skipBlanks 16 = .ok (.getfield 47, 3) := by decide +kernel
theorem dX7_skipBlanks_19 : decode cX7_skipBlanks 19 = .ok (.baload, 1) := by decide +kernel
theorem dX7_skipBlanks_20 : decode cX7_skipBlanks 20 = .ok (.sipush 255, 3) := by decide +kernel
theorem dX7_skipBlanks_23 : decode cX7_skipBlanks 23 = .ok (.iand, 1) := by decide +kernel
theorem dX7_skipBlanks_24 : decode cX7_skipBlanks 24 = .ok (.istore_n 1, 1) := by decide +kernel
theorem dX7_skipBlanks_25 : decode cX7_skipBlanks 25 = .ok (.iload_n 1, 1) := by decide +kernel
theorem dX7_skipBlanks_26 : decode cX7_skipBlanks 26 = .ok (.bipush 10, 2) := by decide +kernel
theorem dX7_skipBlanks_28 : decode cX7_skipBlanks 28 = .ok (.if_icmp .ne 16, 3) := by decide +kernel
theorem dX7_skipBlanks_31 : decode cX7_skipBlanks 31 = .ok (.aload_n 0, 1) := by decide +kernel
theorem dX7_skipBlanks_32 : decode cX7_skipBlanks 32 = .ok (.dup, 1) := by decide +kernel
theorem dX7_skipBlanks_33 : decode cX7_skipBlanks 33 = .ok (.getfield 50, 3) := by decide +kernel
theorem dX7_skipBlanks_36 : decode cX7_skipBlanks 36 = .ok (.iconst 1, 1) := by decide +kernel
theorem dX7_skipBlanks_37 : decode cX7_skipBlanks 37 = .ok (.iadd, 1) := by decide +kernel
theorem dX7_skipBlanks_38 : decode cX7_skipBlanks 38 = .ok (.putfield 50, 3) := by decide +kernel
theorem dX7_skipBlanks_41 : decode cX7_skipBlanks 41 = .ok (.goto 51, 3) := by decide +kernel
theorem dX7_skipBlanks_44 : decode cX7_skipBlanks 44 = .ok (.aload_n 0, 1) := by decide +kernel
theorem dX7_skipBlanks_45 : decode cX7_skipBlanks 45 = .ok (.bipush 40, 2) := by decide +kernel
theorem dX7_skipBlanks_47 : decode cX7_skipBlanks 47 = .ok (.bipush 42, 2) := by decide +kernel
theorem dX7_skipBlanks_49 : decode cX7_skipBlanks 49 = .ok (.invokevirtual 93, 3) := by decide +kernel
theorem dX7_skipBlanks_52 : decode cX7_skipBlanks 52 = .ok (.ifCond .eq 20, 3) := by decide +kernel
theorem dX7_skipBlanks_55 : decode cX7_skipBlanks 55 = .ok (.aload_n 0, 1) := by decide +kernel
theorem dX7_skipBlanks_56 : decode cX7_skipBlanks 56 = .ok (.getfield 50, 3) := by decide +kernel
theorem dX7_skipBlanks_59 : decode cX7_skipBlanks 59 = .ok (.istore_n 2, 1) := by decide +kernel
theorem dX7_skipBlanks_60 : decode cX7_skipBlanks 60 = .ok (.aload_n 0, 1) := by decide +kernel
theorem dX7_skipBlanks_61 : decode cX7_skipBlanks 61 = .ok (.invokevirtual 97, 3) := by decide +kernel
theorem dX7_skipBlanks_64 : decode cX7_skipBlanks 64 = .ok (.ifCond .ne 5, 3) := by decide +kernel
theorem dX7_skipBlanks_67 : decode cX7_skipBlanks 67 = .ok (.iload_n 2, 1) := by decide +kernel
theorem dX7_skipBlanks_68 : decode cX7_skipBlanks 68 = .ok (.ireturn, 1) := by decide +kernel
theorem dX7_skipBlanks_69 : decode cX7_skipBlanks 69 = .ok (.goto 23, 3) := by decide +kernel
theorem dX7_skipBlanks_72 : decode cX7_skipBlanks 72 = .ok (.iload_n 1, 1) := by decide +kernel
theorem dX7_skipBlanks_73 : decode cX7_skipBlanks 73 = .ok (.bipush 32, 2) := by decide +kernel
theorem dX7_skipBlanks_75 : decode cX7_skipBlanks 75 = .ok (.if_icmp .eq 17, 3) := by decide +kernel
theorem dX7_skipBlanks_78 : decode cX7_skipBlanks 78 = .ok (.iload_n 1, 1) := by decide +kernel
theorem dX7_skipBlanks_79 : decode cX7_skipBlanks 79 = .ok (.bipush 9, 2) := by decide +kernel
theorem dX7_skipBlanks_81 : decode cX7_skipBlanks 81 = .ok (.if_icmp .eq 11, 3) := by decide +kernel
theorem dX7_skipBlanks_84 : decode cX7_skipBlanks 84 = .ok (.iload_n 1, 1) := by decide +kernel
theorem dX7_skipBlanks_85 : decode cX7_skipBlanks 85 = .ok (.bipush 13, 2) := by decide +kernel
theorem dX7_skipBlanks_87 : decode cX7_skipBlanks 87 = .ok (.if_icmp .eq 5, 3) := by decide +kernel
theorem dX7_skipBlanks_90 : decode cX7_skipBlanks 90 = .ok (.iconst 0, 1) := by decide +kernel
theorem dX7_skipBlanks_91 : decode cX7_skipBlanks 91 = .ok (.ireturn, 1) := by decide +kernel
theorem dX7_skipBlanks_92 : decode cX7_skipBlanks 92 = .ok (.aload_n 0, 1) := by decide +kernel
theorem dX7_skipBlanks_93 : decode cX7_skipBlanks 93 = .ok (.dup, 1) := by decide +kernel
theorem dX7_skipBlanks_94 : decode cX7_skipBlanks 94 = .ok (.getfield 47, 3) := by decide +kernel
theorem dX7_skipBlanks_97 : decode cX7_skipBlanks 97 = .ok (.iconst 1, 1) := by decide +kernel
theorem dX7_skipBlanks_98 : decode cX7_skipBlanks 98 = .ok (.iadd, 1) := by decide +kernel
theorem dX7_skipBlanks_99 : decode cX7_skipBlanks 99 = .ok (.putfield 47, 3) := by decide +kernel
theorem dX7_skipBlanks_102 : decode cX7_skipBlanks 102 = .ok (.goto (-102), 3) := by decide +kernel
theorem dX7_skipBlanks_105 : decode cX7_skipBlanks 105 = .ok (.iconst 0, 1) := by decide +kernel
theorem dX7_skipBlanks_106 : decode cX7_skipBlanks 106 = .ok (.ireturn, 1) := by decide +kernel
theorem dX7_isPair_0 : decode cX7_isPair 0 = .ok (.aload_n 0, 1) := by decide +kernel
theorem dX7_isPair_1 : decode cX7_isPair 1 = .ok (.getfield 47, 3) := by decide +kernel
theorem dX7_isPair_4 : decode cX7_isPair 4 = .ok (.iconst 1, 1) := by decide +kernel
theorem dX7_isPair_5 : decode cX7_isPair 5 = .ok (.iadd, 1) := by decide +kernel
theorem dX7_isPair_6 : decode cX7_isPair 6 = .ok (.aload_n 0, 1) := by decide +kernel
theorem dX7_isPair_7 : decode cX7_isPair 7 = .ok (.getfield 43, 3) := by decide +kernel
theorem dX7_isPair_10 : decode cX7_isPair 10 = .ok (.if_icmp .ge 35, 3) := by decide +kernel
theorem dX7_isPair_13 : decode cX7_isPair 13 = .ok (.aload_n 0, 1) := by decide +kernel
theorem dX7_isPair_14 : decode cX7_isPair 14 = .ok (.getfield 33, 3) := by decide +kernel
theorem dX7_isPair_17 : decode cX7_isPair 17 = .ok (.aload_n 0, 1) := by decide +kernel
theorem dX7_isPair_18 : decode cX7_isPair 18 = .ok (.getfield 47, 3) := by decide +kernel
theorem dX7_isPair_21 : decode cX7_isPair 21 = .ok (.baload, 1) := by decide +kernel
theorem dX7_isPair_22 : decode cX7_isPair 22 = .ok (.iload_n 1, 1) := by decide +kernel
theorem dX7_isPair_23 : decode cX7_isPair 23 = .ok (.if_icmp .ne 22, 3) := by decide +kernel
theorem dX7_isPair_26 : decode cX7_isPair 26 = .ok (.aload_n 0, 1) := by decide +kernel
theorem dX7_isPair_27 : decode cX7_isPair 27 = .ok (.getfield 33, 3) := by decide +kernel
theorem dX7_isPair_30 : decode cX7_isPair 30 = .ok (.aload_n 0, 1) := by decide +kernel
theorem dX7_isPair_31 : decode cX7_isPair 31 = .ok (.getfield 47, 3) := by decide +kernel
theorem dX7_isPair_34 : decode cX7_isPair 34 = .ok (.iconst 1, 1) := by decide +kernel
theorem dX7_isPair_35 : decode cX7_isPair 35 = .ok (.iadd, 1) := by decide +kernel
theorem dX7_isPair_36 : decode cX7_isPair 36 = .ok (.baload, 1) := by decide +kernel
theorem dX7_isPair_37 : decode cX7_isPair 37 = .ok (.iload_n 2, 1) := by decide +kernel
theorem dX7_isPair_38 : decode cX7_isPair 38 = .ok (.if_icmp .ne 7, 3) := by decide +kernel
theorem dX7_isPair_41 : decode cX7_isPair 41 = .ok (.iconst 1, 1) := by decide +kernel
theorem dX7_isPair_42 : decode cX7_isPair 42 = .ok (.goto 4, 3) := by decide +kernel
theorem dX7_isPair_45 : decode cX7_isPair 45 = .ok (.iconst 0, 1) := by decide +kernel
theorem dX7_isPair_46 : decode cX7_isPair 46 = .ok (.ireturn, 1) := by decide +kernel
theorem dX7_isLetter_0 : decode cX7_isLetter 0 = .ok (.iload_n 0, 1) := by decide +kernel
theorem dX7_isLetter_1 : decode cX7_isLetter 1 = .ok (.bipush 65, 2) := by decide +kernel
theorem dX7_isLetter_3 : decode cX7_isLetter 3 = .ok (.if_icmp .lt 9, 3) := by decide +kernel
theorem dX7_isLetter_6 : decode cX7_isLetter 6 = .ok (.iload_n 0, 1) := by decide +kernel
theorem dX7_isLetter_7 : decode cX7_isLetter 7 = .ok (.bipush 90, 2) := by decide +kernel
theorem dX7_isLetter_9 : decode cX7_isLetter 9 = .ok (.if_icmp .le 15, 3) := by decide +kernel
theorem dX7_isLetter_12 : decode cX7_isLetter 12 = .ok (.iload_n 0, 1) := by decide +kernel
theorem dX7_isLetter_13 : decode cX7_isLetter 13 = .ok (.bipush 97, 2) := by decide +kernel
theorem dX7_isLetter_15 : decode cX7_isLetter 15 = .ok (.if_icmp .lt 13, 3) := by decide +kernel
theorem dX7_isLetter_18 : decode cX7_isLetter 18 = .ok (.iload_n 0, 1) := by decide +kernel
theorem dX7_isLetter_19 : decode cX7_isLetter 19 = .ok (.bipush 122, 2) := by decide +kernel
theorem dX7_isLetter_21 : decode cX7_isLetter 21 = .ok (.if_icmp .gt 7, 3) := by decide +kernel
theorem dX7_isLetter_24 : decode cX7_isLetter 24 = .ok (.iconst 1, 1) := by decide +kernel
theorem dX7_isLetter_25 : decode cX7_isLetter 25 = .ok (.goto 4, 3) := by decide +kernel
theorem dX7_isLetter_28 : decode cX7_isLetter 28 = .ok (.iconst 0, 1) := by decide +kernel
theorem dX7_isLetter_29 : decode cX7_isLetter 29 = .ok (.ireturn, 1) := by decide +kernel
theorem dX7_isDigit_0 : decode cX7_isDigit 0 = .ok (.iload_n 0, 1) := by decide +kernel
theorem dX7_isDigit_1 : decode cX7_isDigit 1 = .ok (.bipush 48, 2) := by decide +kernel
theorem dX7_isDigit_3 : decode cX7_isDigit 3 = .ok (.if_icmp .lt 13, 3) := by decide +kernel
theorem dX7_isDigit_6 : decode cX7_isDigit 6 = .ok (.iload_n 0, 1) := by decide +kernel
theorem dX7_isDigit_7 : decode cX7_isDigit 7 = .ok (.bipush 57, 2) := by decide +kernel
theorem dX7_isDigit_9 : decode cX7_isDigit 9 = .ok (.if_icmp .gt 7, 3) := by decide +kernel
theorem dX7_isDigit_12 : decode cX7_isDigit 12 = .ok (.iconst 1, 1) := by decide +kernel
theorem dX7_isDigit_13 : decode cX7_isDigit 13 = .ok (.goto 4, 3) := by decide +kernel
theorem dX7_isDigit_16 : decode cX7_isDigit 16 = .ok (.iconst 0, 1) := by decide +kernel
theorem dX7_isDigit_17 : decode cX7_isDigit 17 = .ok (.ireturn, 1) := by decide +kernel
theorem dX7_scanName_0 : decode cX7_scanName 0 = .ok (.aload_n 0, 1) := by decide +kernel
theorem dX7_scanName_1 : decode cX7_scanName 1 = .ok (.getfield 47, 3) := by decide +kernel
theorem dX7_scanName_4 : decode cX7_scanName 4 = .ok (.istore_n 1, 1) := by decide +kernel
theorem dX7_scanName_5 : decode cX7_scanName 5 = .ok (.aload_n 0, 1) := by decide +kernel
theorem dX7_scanName_6 : decode cX7_scanName 6 = .ok (.getfield 47, 3) := by decide +kernel
theorem dX7_scanName_9 : decode cX7_scanName 9 = .ok (.aload_n 0, 1) := by decide +kernel
theorem dX7_scanName_10 : decode cX7_scanName 10 = .ok (.getfield 43, 3) := by decide +kernel
theorem dX7_scanName_13 : decode cX7_scanName 13 = .ok (.if_icmp .ge 53, 3) := by decide +kernel
theorem dX7_scanName_16 : decode cX7_scanName 16 = .ok (.aload_n 0, 1) := by decide +kernel
theorem dX7_scanName_17 : decode cX7_scanName 17 = .ok (.getfield 33, 3) := by decide +kernel
theorem dX7_scanName_20 : decode cX7_scanName 20 = .ok (.aload_n 0, 1) := by decide +kernel
theorem dX7_scanName_21 : decode cX7_scanName 21 = .ok (.getfield 47, 3) := by decide +kernel
theorem dX7_scanName_24 : decode cX7_scanName 24 = .ok (.baload, 1) := by decide +kernel
theorem dX7_scanName_25 : decode cX7_scanName 25 = .ok (.sipush 255, 3) := by decide +kernel
theorem dX7_scanName_28 : decode cX7_scanName 28 = .ok (.iand, 1) := by decide +kernel
theorem dX7_scanName_29 : decode cX7_scanName 29 = .ok (.istore_n 2, 1) := by decide +kernel
theorem dX7_scanName_30 : decode cX7_scanName 30 = .ok (.iload_n 2, 1) := by decide +kernel
theorem dX7_scanName_31 : decode cX7_scanName 31 = .ok (.invokestatic 77, 3) := by decide +kernel
theorem dX7_scanName_34 : decode cX7_scanName 34 = .ok (.ifCond .ne 19, 3) := by decide +kernel
theorem dX7_scanName_37 : decode cX7_scanName 37 = .ok (.iload_n 2, 1) := by decide +kernel
theorem dX7_scanName_38 : decode cX7_scanName 38 = .ok (.invokestatic 84, 3) := by decide +kernel
theorem dX7_scanName_41 : decode cX7_scanName 41 = .ok (.ifCond .ne 12, 3) := by decide +kernel
theorem dX7_scanName_44 : decode cX7_scanName 44 = .ok (.iload_n 2, 1) := by decide +kernel
theorem dX7_scanName_45 : decode cX7_scanName 45 = .ok (.bipush 95, 2) := by decide +kernel
theorem dX7_scanName_47 : decode cX7_scanName 47 = .ok (.if_icmp .eq 6, 3) := by decide +kernel
theorem dX7_scanName_50 : decode cX7_scanName 50 = .ok (.goto 16, 3) := by decide +kernel
theorem dX7_scanName_53 : decode cX7_scanName 53 = .ok (.aload_n 0, 1) := by decide +kernel
theorem dX7_scanName_54 : decode cX7_scanName 54 = .ok (.dup, 1) := by decide +kernel
theorem dX7_scanName_55 : decode cX7_scanName 55 = .ok (.getfield 47, 3) := by decide +kernel
theorem dX7_scanName_58 : decode cX7_scanName 58 = .ok (.iconst 1, 1) := by decide +kernel
theorem dX7_scanName_59 : decode cX7_scanName 59 = .ok (.iadd, 1) := by decide +kernel
theorem dX7_scanName_60 : decode cX7_scanName 60 = .ok (.putfield 47, 3) := by decide +kernel
theorem dX7_scanName_63 : decode cX7_scanName 63 = .ok (.goto (-58), 3) := by decide +kernel
theorem dX7_scanName_66 : decode cX7_scanName 66 = .ok (.aload_n 0, 1) := by decide +kernel
theorem dX7_scanName_67 : decode cX7_scanName 67 = .ok (.getfield 47, 3) := by decide +kernel
theorem dX7_scanName_70 : decode cX7_scanName 70 = .ok (.iload_n 1, 1) := by decide +kernel
theorem dX7_scanName_71 : decode cX7_scanName 71 = .ok (.isub, 1) := by decide +kernel
theorem dX7_scanName_72 : decode cX7_scanName 72 = .ok (.istore_n 2, 1) := by decide +kernel
theorem dX7_scanName_73 : decode cX7_scanName 73 = .ok (.iload_n 2, 1) := by decide +kernel
theorem dX7_scanName_74 : decode cX7_scanName 74 = .ok (.bipush 16, 2) := by decide +kernel
theorem dX7_scanName_76 : decode cX7_scanName 76 = .ok (.if_icmp .le 14, 3) := by decide +kernel
theorem dX7_scanName_79 : decode cX7_scanName 79 = .ok (.aload_n 0, 1) := by decide +kernel
theorem dX7_scanName_80 : decode cX7_scanName 80 = .ok (.iconst 1, 1) := by decide +kernel
theorem dX7_scanName_81 : decode cX7_scanName 81 = .ok (.iconst 0, 1) := by decide +kernel
theorem dX7_scanName_82 : decode cX7_scanName 82 = .ok (.aload_n 0, 1) := by decide +kernel
theorem dX7_scanName_83 : decode cX7_scanName 83 = .ok (.getfield 50, 3) := by decide +kernel
theorem dX7_scanName_86 : decode cX7_scanName 86 = .ok (.invokevirtual 73, 3) := by decide +kernel
theorem dX7_scanName_89 : decode cX7_scanName 89 = .ok (.ireturn, 1) := by decide +kernel
theorem dX7_scanName_90 : decode cX7_scanName 90 = .ok (.aload_n 0, 1) := by decide +kernel
theorem dX7_scanName_91 : decode cX7_scanName 91 = .ok (.iload_n 1, 1) := by decide +kernel
theorem dX7_scanName_92 : decode cX7_scanName 92 = .ok (.iload_n 2, 1) := by decide +kernel
theorem dX7_scanName_93 : decode cX7_scanName 93 = .ok (.invokevirtual 100, 3) := by decide +kernel
theorem dX7_scanName_96 : decode cX7_scanName 96 = .ok (.istore_n 3, 1) := by decide +kernel
theorem dX7_scanName_97 : decode cX7_scanName 97 = .ok (.iload_n 3, 1) := by decide +kernel
theorem dX7_scanName_98 : decode cX7_scanName 98 = .ok (.iconst (-1), 1) := by decide +kernel
theorem dX7_scanName_99 : decode cX7_scanName 99 = .ok (.if_icmp .eq 14, 3) := by decide +kernel
theorem dX7_scanName_102 : decode cX7_scanName 102 = .ok (.aload_n 0, 1) := by decide +kernel
theorem dX7_scanName_103 : decode cX7_scanName 103 = .ok (.iload_n 3, 1) := by decide +kernel
theorem dX7_scanName_104 : decode cX7_scanName 104 = .ok (.iconst 0, 1) := by decide +kernel
theorem dX7_scanName_105 : decode cX7_scanName 105 = .ok (.aload_n 0, 1) := by decide +kernel
theorem dX7_scanName_106 : decode cX7_scanName 106 = .ok (.getfield 50, 3) := by decide +kernel
theorem dX7_scanName_109 : decode cX7_scanName 109 = .ok (.invokevirtual 73, 3) := by decide +kernel
theorem dX7_scanName_112 : decode cX7_scanName 112 = .ok (.ireturn, 1) := by decide +kernel
theorem dX7_scanName_113 : decode cX7_scanName 113 = .ok (.aload_n 0, 1) := by decide +kernel
theorem dX7_scanName_114 : decode cX7_scanName 114 = .ok (.iconst 2, 1) := by decide +kernel
theorem dX7_scanName_115 : decode cX7_scanName 115 = .ok (.aload_n 0, 1) := by decide +kernel
theorem dX7_scanName_116 : decode cX7_scanName 116 = .ok (.iload_n 1, 1) := by decide +kernel
theorem dX7_scanName_117 : decode cX7_scanName 117 = .ok (.iload_n 2, 1) := by decide +kernel
theorem dX7_scanName_118 : decode cX7_scanName 118 = .ok (.invokevirtual 103, 3) := by decide +kernel
theorem dX7_scanName_121 : decode cX7_scanName 121 = .ok (.aload_n 0, 1) := by decide +kernel
theorem dX7_scanName_122 : decode cX7_scanName 122 = .ok (.getfield 50, 3) := by decide +kernel
theorem dX7_scanName_125 : decode cX7_scanName 125 = .ok (.invokevirtual 73, 3) := by decide +kernel
theorem dX7_scanName_128 : decode cX7_scanName 128 = .ok (.ireturn, 1) := by decide +kernel
theorem dX7_wordAt_0 : decode cX7_wordAt 0 = .ok (.sipush 200, 3) := by decide +kernel
theorem dX7_wordAt_3 : decode cX7_wordAt 3 = .ok (.istore_n 3, 1) := by decide +kernel
theorem dX7_wordAt_4 : decode cX7_wordAt 4 = .ok (.iconst 0, 1) := by decide +kernel
theorem dX7_wordAt_5 : decode cX7_wordAt 5 = .ok (.istore 4, 2) := by decide +kernel
theorem dX7_wordAt_7 : decode cX7_wordAt 7 = .ok (.iconst 1, 1) := by decide +kernel
theorem dX7_wordAt_8 : decode cX7_wordAt 8 = .ok (.istore 5, 2) := by decide +kernel
theorem dX7_wordAt_10 : decode cX7_wordAt 10 = .ok (.iconst 0, 1) := by decide +kernel
theorem dX7_wordAt_11 : decode cX7_wordAt 11 = .ok (.istore 6, 2) := by decide +kernel
theorem dX7_wordAt_13 : decode cX7_wordAt 13 = .ok (.iload 6, 2) := by decide +kernel
theorem dX7_wordAt_15 : decode cX7_wordAt 15 = .ok (.ldc 106, 2) := by decide +kernel
theorem dX7_wordAt_17 : decode cX7_wordAt 17 = .ok (.invokevirtual 108, 3) := by decide +kernel
theorem dX7_wordAt_20 : decode cX7_wordAt 20 = .ok (.if_icmp .ge 84, 3) := by decide +kernel
theorem dX7_wordAt_23 : decode cX7_wordAt 23 = .ok (.ldc 106, 2) := by decide +kernel
theorem dX7_wordAt_25 : decode cX7_wordAt 25 = .ok (.iload 6, 2) := by decide +kernel
theorem dX7_wordAt_27 : decode cX7_wordAt 27 = .ok (.invokevirtual 113, 3) := by decide +kernel
theorem dX7_wordAt_30 : decode cX7_wordAt 30 = .ok (.istore 7, 2) := by decide +kernel
theorem dX7_wordAt_32 : decode cX7_wordAt 32 = .ok (.iload 7, 2) := by decide +kernel
theorem dX7_wordAt_34 : decode cX7_wordAt 34 = .ok (.bipush 32, 2) := by decide +kernel
theorem dX7_wordAt_36 : decode cX7_wordAt 36 = .ok (.if_icmp .ne 28, 3) := by decide +kernel
theorem dX7_wordAt_39 : decode cX7_wordAt 39 = .ok (.iload 5, 2) := by decide +kernel
theorem dX7_wordAt_41 : decode cX7_wordAt 41 = .ok (.ifCond .eq 11, 3) := by decide +kernel
theorem dX7_wordAt_44 : decode cX7_wordAt 44 = .ok (.iload 4, 2) := by decide +kernel
theorem dX7_wordAt_46 : decode cX7_wordAt 46 = .ok (.iload_n 2, 1) := by decide +kernel
theorem dX7_wordAt_47 : decode cX7_wordAt 47 = .ok (.if_icmp .ne 5, 3) := by decide +kernel
theorem dX7_wordAt_50 : decode cX7_wordAt 50 = .ok (.iload_n 3, 1) := by decide +kernel
theorem dX7_wordAt_51 : decode cX7_wordAt 51 = .ok (.ireturn, 1) := by decide +kernel
theorem dX7_wordAt_52 : decode cX7_wordAt 52 = .ok (.iinc 3 1, 3) := by decide +kernel
theorem dX7_wordAt_55 : decode cX7_wordAt 55 = .ok (.iconst 0, 1) := by decide +kernel
theorem dX7_wordAt_56 : decode cX7_wordAt 56 = .ok (.istore 4, 2) := by decide +kernel
theorem dX7_wordAt_58 : decode cX7_wordAt 58 = .ok (.iconst 1, 1) := by decide +kernel
theorem dX7_wordAt_59 : decode cX7_wordAt 59 = .ok (.istore 5, 2) := by decide +kernel
theorem dX7_wordAt_61 : decode cX7_wordAt 61 = .ok (.goto 37, 3) := by decide +kernel
theorem dX7_wordAt_64 : decode cX7_wordAt 64 = .ok (.iload 5, 2) := by decide +kernel
theorem dX7_wordAt_66 : decode cX7_wordAt 66 = .ok (.ifCond .eq 29, 3) := by decide +kernel
theorem dX7_wordAt_69 : decode cX7_wordAt 69 = .ok (.iload 4, 2) := by decide +kernel
theorem dX7_wordAt_71 : decode cX7_wordAt 71 = .ok (.iload_n 2, 1) := by decide +kernel
theorem dX7_wordAt_72 : decode cX7_wordAt 72 = .ok (.if_icmp .ge 23, 3) := by decide +kernel
theorem dX7_wordAt_75 : decode cX7_wordAt 75 = .ok (.aload_n 0, 1) := by decide +kernel
theorem dX7_wordAt_76 : decode cX7_wordAt 76 = .ok (.getfield 33, 3) := by decide +kernel
theorem dX7_wordAt_79 : decode cX7_wordAt 79 = .ok (.iload_n 1, 1) := by decide +kernel
theorem dX7_wordAt_80 : decode cX7_wordAt 80 = .ok (.iload 4, 2) := by decide +kernel
theorem dX7_wordAt_82 : decode cX7_wordAt 82 = .ok (.iadd, 1) := by decide +kernel
theorem dX7_wordAt_83 : decode cX7_wordAt 83 = .ok (.baload, 1) := by decide +kernel
theorem dX7_wordAt_84 : decode cX7_wordAt 84 = .ok (.iload 7, 2) := by decide +kernel
theorem dX7_wordAt_86 : decode cX7_wordAt 86 = .ok (.if_icmp .ne 9, 3) := by decide +kernel
theorem dX7_wordAt_89 : decode cX7_wordAt 89 = .ok (.iinc 4 1, 3) := by decide +kernel
theorem dX7_wordAt_92 : decode cX7_wordAt 92 = .ok (.goto 6, 3) := by decide +kernel
theorem dX7_wordAt_95 : decode cX7_wordAt 95 = .ok (.iconst 0, 1) := by decide +kernel
theorem dX7_wordAt_96 : decode cX7_wordAt 96 = .ok (.istore 5, 2) := by decide +kernel
theorem dX7_wordAt_98 : decode cX7_wordAt 98 = .ok (.iinc 6 1, 3) := by decide +kernel
theorem dX7_wordAt_101 : decode cX7_wordAt 101 = .ok (.goto (-88), 3) := by decide +kernel
theorem dX7_wordAt_104 : decode cX7_wordAt 104 = .ok (.iconst (-1), 1) := by decide +kernel
theorem dX7_wordAt_105 : decode cX7_wordAt 105 = .ok (.ireturn, 1) := by decide +kernel
theorem dX7_nameAt_0 : decode cX7_nameAt 0 = .ok (.iload_n 2, 1) := by decide +kernel
theorem dX7_nameAt_1 : decode cX7_nameAt 1 = .ok (.istore_n 3, 1) := by decide +kernel
theorem dX7_nameAt_2 : decode cX7_nameAt 2 = .ok (.iconst 0, 1) := by decide +kernel
theorem dX7_nameAt_3 : decode cX7_nameAt 3 = .ok (.istore 4, 2) := by decide +kernel
theorem dX7_nameAt_5 : decode cX7_nameAt 5 = .ok (.iload 4, 2) := by decide +kernel
theorem dX7_nameAt_7 : decode cX7_nameAt 7 = .ok (.iload_n 2, 1) := by decide +kernel
theorem dX7_nameAt_8 : decode cX7_nameAt 8 = .ok (.if_icmp .ge 24, 3) := by decide +kernel
theorem dX7_nameAt_11 : decode cX7_nameAt 11 = .ok (.iload_n 3, 1) := by decide +kernel
theorem dX7_nameAt_12 : decode cX7_nameAt 12 = .ok (.bipush 31, 2) := by decide +kernel
theorem dX7_nameAt_14 : decode cX7_nameAt 14 = .ok (.imul, 1) := by decide +kernel
theorem dX7_nameAt_15 : decode cX7_nameAt 15 = .ok (.aload_n 0, 1) := by decide +kernel
theorem dX7_nameAt_16 : decode cX7_nameAt 16 = .ok (.getfield 33, 3) := by decide +kernel
theorem dX7_nameAt_19 : decode cX7_nameAt 19 = .ok (.iload_n 1, 1) := by decide +kernel
theorem dX7_nameAt_20 : decode cX7_nameAt 20 = .ok (.iload 4, 2) := by decide +kernel
theorem dX7_nameAt_22 : decode cX7_nameAt 22 = .ok (.iadd, 1) := by decide +kernel
theorem dX7_nameAt_23 : decode cX7_nameAt 23 = .ok (.baload, 1) := by decide +kernel
theorem dX7_nameAt_24 : decode cX7_nameAt 24 = .ok (.iadd, 1) := by decide +kernel
theorem dX7_nameAt_25 : decode cX7_nameAt 25 = .ok (.istore_n 3, 1) := by decide +kernel
theorem dX7_nameAt_26 : decode cX7_nameAt 26 = .ok (.iinc 4 1, 3) := by decide +kernel
theorem dX7_nameAt_29 : decode cX7_nameAt 29 = .ok (.goto (-24), 3) := by decide +kernel
theorem dX7_nameAt_32 : decode cX7_nameAt 32 = .ok (.iload_n 3, 1) := by decide +kernel
theorem dX7_nameAt_33 : decode cX7_nameAt 33 = .ok (.iload_n 3, 1) := by decide +kernel
theorem dX7_nameAt_34 : decode cX7_nameAt 34 = .ok (.bipush 8, 2) := by decide +kernel
theorem dX7_nameAt_36 : decode cX7_nameAt 36 = .ok (.iushr, 1) := by decide +kernel
theorem dX7_nameAt_37 : decode cX7_nameAt 37 = .ok (.ixor, 1) := by decide +kernel
theorem dX7_nameAt_38 : decode cX7_nameAt 38 = .ok (.sipush 255, 3) := by decide +kernel
theorem dX7_nameAt_41 : decode cX7_nameAt 41 = .ok (.iand, 1) := by decide +kernel
theorem dX7_nameAt_42 : decode cX7_nameAt 42 = .ok (.istore_n 3, 1) := by decide +kernel
theorem dX7_nameAt_43 : decode cX7_nameAt 43 = .ok (.aload_n 0, 1) := by decide +kernel
theorem dX7_nameAt_44 : decode cX7_nameAt 44 = .ok (.getfield 21, 3) := by decide +kernel
theorem dX7_nameAt_47 : decode cX7_nameAt 47 = .ok (.iload_n 3, 1) := by decide +kernel
theorem dX7_nameAt_48 : decode cX7_nameAt 48 = .ok (.iaload, 1) := by decide +kernel
theorem dX7_nameAt_49 : decode cX7_nameAt 49 = .ok (.istore 4, 2) := by decide +kernel
theorem dX7_nameAt_51 : decode cX7_nameAt 51 = .ok (.iconst 0, 1) := by decide +kernel
theorem dX7_nameAt_52 : decode cX7_nameAt 52 = .ok (.istore 5, 2) := by decide +kernel
theorem dX7_nameAt_54 : decode cX7_nameAt 54 = .ok (.iload 4, 2) := by decide +kernel
theorem dX7_nameAt_56 : decode cX7_nameAt 56 = .ok (.iconst (-1), 1) := by decide +kernel
theorem dX7_nameAt_57 : decode cX7_nameAt 57 = .ok (.if_icmp .eq 57, 3) := by decide +kernel
theorem dX7_nameAt_60 : decode cX7_nameAt 60 = .ok (.iload 5, 2) := by decide +kernel
theorem dX7_nameAt_62 : decode cX7_nameAt 62 = .ok (.aload_n 0, 1) := by decide +kernel
theorem dX7_nameAt_63 : decode cX7_nameAt 63 = .ok (.getfield 56, 3) := by decide +kernel
theorem dX7_nameAt_66 : decode cX7_nameAt 66 = .ok (.if_icmp .ge 48, 3) := by decide +kernel
theorem dX7_nameAt_69 : decode cX7_nameAt 69 = .ok (.aload_n 0, 1) := by decide +kernel
theorem dX7_nameAt_70 : decode cX7_nameAt 70 = .ok (.getfield 30, 3) := by decide +kernel
theorem dX7_nameAt_73 : decode cX7_nameAt 73 = .ok (.iload 4, 2) := by decide +kernel
theorem dX7_nameAt_75 : decode cX7_nameAt 75 = .ok (.iaload, 1) := by decide +kernel
theorem dX7_nameAt_76 : decode cX7_nameAt 76 = .ok (.iload_n 2, 1) := by decide +kernel
theorem dX7_nameAt_77 : decode cX7_nameAt 77 = .ok (.if_icmp .ne 22, 3) := by decide +kernel
theorem dX7_nameAt_80 : decode cX7_nameAt 80 = .ok (.aload_n 0, 1) := by decide +kernel
theorem dX7_nameAt_81 : decode cX7_nameAt 81 = .ok (.aload_n 0, 1) := by decide +kernel
theorem dX7_nameAt_82 : decode cX7_nameAt 82 = .ok (.getfield 27, 3) := by decide +kernel
theorem dX7_nameAt_85 : decode cX7_nameAt 85 = .ok (.iload 4, 2) := by decide +kernel
theorem dX7_nameAt_87 : decode cX7_nameAt 87 = .ok (.iaload, 1) := by decide +kernel
theorem dX7_nameAt_88 : decode cX7_nameAt 88 = .ok (.iload_n 1, 1) := by decide +kernel
theorem dX7_nameAt_89 : decode cX7_nameAt 89 = .ok (.iload_n 2, 1) := by decide +kernel
theorem dX7_nameAt_90 : decode cX7_nameAt 90 = .ok (.invokevirtual 117, 3) := by decide +kernel
theorem dX7_nameAt_93 : decode cX7_nameAt 93 = .ok (.ifCond .eq 6, 3) := by decide +kernel
theorem dX7_nameAt_96 : decode cX7_nameAt 96 = .ok (.iload 4, 2) := by decide +kernel
theorem dX7_nameAt_98 : decode cX7_nameAt 98 = .ok (.ireturn, 1) := by decide +kernel
theorem dX7_nameAt_99 : decode cX7_nameAt 99 = .ok (.aload_n 0, 1) := by decide +kernel
theorem dX7_nameAt_100 : decode cX7_nameAt 100 = .ok (.getfield 24, 3) := by decide +kernel
theorem dX7_nameAt_103 : decode cX7_nameAt 103 = .ok (.iload 4, 2) := by decide +kernel
theorem dX7_nameAt_105 : decode cX7_nameAt 105 = .ok (.iaload, 1) := by decide +kernel
theorem dX7_nameAt_106 : decode cX7_nameAt 106 = .ok (.istore 4, 2) := by decide +kernel
theorem dX7_nameAt_108 : decode cX7_nameAt 108 = .ok (.iinc 5 1, 3) := by decide +kernel
theorem dX7_nameAt_111 : decode cX7_nameAt 111 = .ok (.goto (-57), 3) := by decide +kernel
theorem dX7_nameAt_114 : decode cX7_nameAt 114 = .ok (.aload_n 0, 1) := by decide +kernel
theorem dX7_nameAt_115 : decode cX7_nameAt 115 = .ok (.getfield 56, 3) := by decide +kernel
theorem dX7_nameAt_118 : decode cX7_nameAt 118 = .ok (.sipush 3001, 3) := by decide +kernel
theorem dX7_nameAt_121 : decode cX7_nameAt 121 = .ok (.if_icmp .lt 5, 3) := by decide +kernel
theorem dX7_nameAt_124 : decode cX7_nameAt 124 = .ok (.iconst 0, 1) := by decide +kernel
theorem dX7_nameAt_125 : decode cX7_nameAt 125 = .ok (.ireturn, 1) := by decide +kernel
theorem dX7_nameAt_126 : decode cX7_nameAt 126 = .ok (.aload_n 0, 1) := by decide +kernel
theorem dX7_nameAt_127 : decode cX7_nameAt 127 = .ok (.getfield 27, 3) := by decide +kernel
theorem dX7_nameAt_130 : decode cX7_nameAt 130 = .ok (.aload_n 0, 1) := by decide +kernel
theorem dX7_nameAt_131 : decode cX7_nameAt 131 = .ok (.getfield 56, 3) := by decide +kernel
theorem dX7_nameAt_134 : decode cX7_nameAt 134 = .ok (.iload_n 1, 1) := by decide +kernel
theorem dX7_nameAt_135 : decode cX7_nameAt 135 = .ok (.iastore, 1) := by decide +kernel
theorem dX7_nameAt_136 : decode cX7_nameAt 136 = .ok (.aload_n 0, 1) := by decide +kernel
theorem dX7_nameAt_137 : decode cX7_nameAt 137 = .ok (.getfield 30, 3) := by decide +kernel
theorem dX7_nameAt_140 : decode cX7_nameAt 140 = .ok (.aload_n 0, 1) := by decide +kernel
theorem dX7_nameAt_141 : decode cX7_nameAt 141 = .ok (.getfield 56, 3) := by decide +kernel
theorem dX7_nameAt_144 : decode cX7_nameAt 144 = .ok (.iload_n 2, 1) := by decide +kernel
theorem dX7_nameAt_145 : decode cX7_nameAt 145 = .ok (.iastore, 1) := by decide +kernel
theorem dX7_nameAt_146 : decode cX7_nameAt 146 = .ok (.aload_n 0, 1) := by decide +kernel
theorem dX7_nameAt_147 : decode cX7_nameAt 147 = .ok (.getfield 24, 3) := by decide +kernel
theorem dX7_nameAt_150 : decode cX7_nameAt 150 = .ok (.aload_n 0, 1) := by decide +kernel
theorem dX7_nameAt_151 : decode cX7_nameAt 151 = .ok (.getfield 56, 3) := by decide +kernel
theorem dX7_nameAt_154 : decode cX7_nameAt 154 = .ok (.aload_n 0, 1) := by decide +kernel
theorem dX7_nameAt_155 : decode cX7_nameAt 155 = .ok (.getfield 21, 3) := by decide +kernel
theorem dX7_nameAt_158 : decode cX7_nameAt 158 = .ok (.iload_n 3, 1) := by decide +kernel
theorem dX7_nameAt_159 : decode cX7_nameAt 159 = .ok (.iaload, 1) := by decide +kernel
theorem dX7_nameAt_160 : decode cX7_nameAt 160 = .ok (.iastore, 1) := by decide +kernel
theorem dX7_nameAt_161 : decode cX7_nameAt 161 = .ok (.aload_n 0, 1) := by decide +kernel
theorem dX7_nameAt_162 : decode cX7_nameAt 162 = .ok (.getfield 21, 3) := by decide +kernel
theorem dX7_nameAt_165 : decode cX7_nameAt 165 = .ok (.iload_n 3, 1) := by decide +kernel
theorem dX7_nameAt_166 : decode cX7_nameAt 166 = .ok (.aload_n 0, 1) := by decide +kernel
theorem dX7_nameAt_167 : decode cX7_nameAt 167 = .ok (.getfield 56, 3) := by decide +kernel
theorem dX7_nameAt_170 : decode cX7_nameAt 170 = .ok (.iastore, 1) := by decide +kernel
theorem dX7_nameAt_171 : decode cX7_nameAt 171 = .ok (.aload_n 0, 1) := by decide +kernel
theorem dX7_nameAt_172 : decode cX7_nameAt 172 = .ok (.dup, 1) := by decide +kernel
theorem dX7_nameAt_173 : decode cX7_nameAt 173 = .ok (.getfield 56, 3) := by decide +kernel
theorem dX7_nameAt_176 : decode cX7_nameAt 176 = .ok (.iconst 1, 1) := by decide +kernel
theorem dX7_nameAt_177 : decode cX7_nameAt 177 = .ok (.iadd, 1) := by decide +kernel
theorem dX7_nameAt_178 : decode cX7_nameAt 178 = .ok (.putfield 56, 3) := by decide +kernel
theorem dX7_nameAt_181 : decode cX7_nameAt 181 = .ok (.aload_n 0, 1) := by decide +kernel
theorem dX7_nameAt_182 : decode cX7_nameAt 182 = .ok (.getfield 56, 3) := by decide +kernel
theorem dX7_nameAt_185 : decode cX7_nameAt 185 = .ok (.iconst 1, 1) := by decide +kernel
theorem dX7_nameAt_186 : decode cX7_nameAt 186 = .ok (.isub, 1) := by decide +kernel
theorem dX7_nameAt_187 : decode cX7_nameAt 187 = .ok (.ireturn, 1) := by decide +kernel
theorem dX7_isSameText_0 : decode cX7_isSameText 0 = .ok (.iconst 0, 1) := by decide +kernel
theorem dX7_isSameText_1 : decode cX7_isSameText 1 = .ok (.istore 4, 2) := by decide +kernel
theorem dX7_isSameText_3 : decode cX7_isSameText 3 = .ok (.iload 4, 2) := by decide +kernel
theorem dX7_isSameText_5 : decode cX7_isSameText 5 = .ok (.iload_n 3, 1) := by decide +kernel
theorem dX7_isSameText_6 : decode cX7_isSameText 6 = .ok (.if_icmp .ge 32, 3) := by decide +kernel
theorem dX7_isSameText_9 : decode cX7_isSameText 9 = .ok (.aload_n 0, 1) := by decide +kernel
theorem dX7_isSameText_10 : decode cX7_isSameText 10 = .ok (.getfield 33, 3) := by decide +kernel
theorem dX7_isSameText_13 : decode cX7_isSameText 13 = .ok (.iload_n 1, 1) := by decide +kernel
theorem dX7_isSameText_14 : decode cX7_isSameText 14 = .ok (.iload 4, 2) := by decide +kernel
theorem dX7_isSameText_16 : decode cX7_isSameText 16 = .ok (.iadd, 1) := by decide +kernel
theorem dX7_isSameText_17 : decode cX7_isSameText 17 = .ok (.baload, 1) := by decide +kernel
theorem dX7_isSameText_18 : decode cX7_isSameText 18 = .ok (.aload_n 0, 1) := by decide +kernel
theorem dX7_isSameText_19 : decode cX7_isSameText 19 = .ok (.getfield 33, 3) := by decide +kernel
theorem dX7_isSameText_22 : decode cX7_isSameText 22 = .ok (.iload_n 2, 1) := by decide +kernel
theorem dX7_isSameText_23 : decode cX7_isSameText 23 = .ok (.iload 4, 2) := by decide +kernel
theorem dX7_isSameText_25 : decode cX7_isSameText 25 = .ok (.iadd, 1) := by decide +kernel
theorem dX7_isSameText_26 : decode cX7_isSameText 26 = .ok (.baload, 1) := by decide +kernel
theorem dX7_isSameText_27 : decode cX7_isSameText 27 = .ok (.if_icmp .eq 5, 3) := by decide +kernel
theorem dX7_isSameText_30 : decode cX7_isSameText 30 = .ok (.iconst 0, 1) := by decide +kernel
theorem dX7_isSameText_31 : decode cX7_isSameText 31 = .ok (.ireturn, 1) := by decide +kernel
theorem dX7_isSameText_32 : decode cX7_isSameText 32 = .ok (.iinc 4 1, 3) := by decide +kernel
theorem dX7_isSameText_35 : decode cX7_isSameText 35 = .ok (.goto (-32), 3) := by decide +kernel
theorem dX7_isSameText_38 : decode cX7_isSameText 38 = .ok (.iconst 1, 1) := by decide +kernel
theorem dX7_isSameText_39 : decode cX7_isSameText 39 = .ok (.ireturn, 1) := by decide +kernel
theorem dX7_scanNumber_0 : decode cX7_scanNumber 0 = .ok (.aload_n 0, 1) := by decide +kernel
theorem dX7_scanNumber_1 : decode cX7_scanNumber 1 = .ok (.getfield 47, 3) := by decide +kernel
theorem dX7_scanNumber_4 : decode cX7_scanNumber 4 = .ok (.istore_n 1, 1) := by decide +kernel
theorem dX7_scanNumber_5 : decode cX7_scanNumber 5 = .ok (.lconst 0, 1) := by decide +kernel
theorem dX7_scanNumber_6 : decode cX7_scanNumber 6 = .ok (.lstore_n 2, 1) := by decide +kernel
theorem dX7_scanNumber_7 : decode cX7_scanNumber 7 = .ok (.aload_n 0, 1) := by decide +kernel
theorem dX7_scanNumber_8 : decode cX7_scanNumber 8 = .ok (.getfield 47, 3) := by decide +kernel
theorem dX7_scanNumber_11 : decode cX7_scanNumber 11 = .ok (.aload_n 0, 1) := by decide +kernel
theorem dX7_scanNumber_12 : decode cX7_scanNumber 12 = .ok (.getfield 43, 3) := by decide +kernel
theorem dX7_scanNumber_15 : decode cX7_scanNumber 15 = .ok (.if_icmp .ge 62, 3) := by decide +kernel
theorem dX7_scanNumber_18 : decode cX7_scanNumber 18 = .ok (.aload_n 0, 1) := by decide +kernel
theorem dX7_scanNumber_19 : decode cX7_scanNumber 19 = .ok (.getfield 33, 3) := by decide +kernel
theorem dX7_scanNumber_22 : decode cX7_scanNumber 22 = .ok (.aload_n 0, 1) := by decide +kernel
theorem dX7_scanNumber_23 : decode cX7_scanNumber 23 = .ok (.getfield 47, 3) := by decide +kernel
theorem dX7_scanNumber_26 : decode cX7_scanNumber 26 = .ok (.baload, 1) := by decide +kernel
theorem dX7_scanNumber_27 : decode cX7_scanNumber 27 = .ok (.sipush 255, 3) := by decide +kernel
theorem dX7_scanNumber_30 : decode cX7_scanNumber 30 = .ok (.iand, 1) := by decide +kernel
theorem dX7_scanNumber_31 : decode cX7_scanNumber 31 = .ok (.invokestatic 84, 3) := by decide +kernel
theorem dX7_scanNumber_34 : decode cX7_scanNumber 34 = .ok (.ifCond .eq 43, 3) := by decide +kernel
theorem dX7_scanNumber_37 : decode cX7_scanNumber 37 = .ok (.lload_n 2, 1) := by decide +kernel
theorem dX7_scanNumber_38 : decode cX7_scanNumber 38 = .ok (.ldc2_w 120, 3) := by decide +kernel
theorem dX7_scanNumber_41 : decode cX7_scanNumber 41 = .ok (.lmul, 1) := by decide +kernel
theorem dX7_scanNumber_42 : decode cX7_scanNumber 42 = .ok (.aload_n 0, 1) := by decide +kernel
theorem dX7_scanNumber_43 : decode cX7_scanNumber 43 = .ok (.getfield 33, 3) := by decide +kernel
theorem dX7_scanNumber_46 : decode cX7_scanNumber 46 = .ok (.aload_n 0, 1) := by decide +kernel
theorem dX7_scanNumber_47 : decode cX7_scanNumber 47 = .ok (.getfield 47, 3) := by decide +kernel
theorem dX7_scanNumber_50 : decode cX7_scanNumber 50 = .ok (.baload, 1) := by decide +kernel
theorem dX7_scanNumber_51 : decode cX7_scanNumber 51 = .ok (.i2l, 1) := by decide +kernel
theorem dX7_scanNumber_52 : decode cX7_scanNumber 52 = .ok (.ladd, 1) := by decide +kernel
theorem dX7_scanNumber_53 : decode cX7_scanNumber 53 = .ok (.ldc2_w 122, 3) := by decide +kernel
theorem dX7_scanNumber_56 : decode cX7_scanNumber 56 = .ok (.lsub, 1) := by decide +kernel
theorem dX7_scanNumber_57 : decode cX7_scanNumber 57 = .ok (.ldc2_w 124, 3) := by decide +kernel
theorem dX7_scanNumber_60 : decode cX7_scanNumber 60 = .ok (.invokestatic 126, 3) := by decide +kernel
theorem dX7_scanNumber_63 : decode cX7_scanNumber 63 = .ok (.lstore_n 2, 1) := by decide +kernel
theorem dX7_scanNumber_64 : decode cX7_scanNumber 64 = .ok (.aload_n 0, 1) := by decide +kernel
theorem dX7_scanNumber_65 : decode cX7_scanNumber 65 = .ok (.dup, 1) := by decide +kernel
theorem dX7_scanNumber_66 : decode cX7_scanNumber 66 = .ok (.getfield 47, 3) := by decide +kernel
theorem dX7_scanNumber_69 : decode cX7_scanNumber 69 = .ok (.iconst 1, 1) := by decide +kernel
theorem dX7_scanNumber_70 : decode cX7_scanNumber 70 = .ok (.iadd, 1) := by decide +kernel
theorem dX7_scanNumber_71 : decode cX7_scanNumber 71 = .ok (.putfield 47, 3) := by decide +kernel
theorem dX7_scanNumber_74 : decode cX7_scanNumber 74 = .ok (.goto (-67), 3) := by decide +kernel
theorem dX7_scanNumber_77 : decode cX7_scanNumber 77 = .ok (.aload_n 0, 1) := by decide +kernel
theorem dX7_scanNumber_78 : decode cX7_scanNumber 78 = .ok (.getfield 47, 3) := by decide +kernel
theorem dX7_scanNumber_81 : decode cX7_scanNumber 81 = .ok (.iload_n 1, 1) := by decide +kernel
theorem dX7_scanNumber_82 : decode cX7_scanNumber 82 = .ok (.isub, 1) := by decide +kernel
theorem dX7_scanNumber_83 : decode cX7_scanNumber 83 = .ok (.bipush 10, 2) := by decide +kernel
theorem dX7_scanNumber_85 : decode cX7_scanNumber 85 = .ok (.if_icmp .gt 11, 3) := by decide +kernel
theorem dX7_scanNumber_88 : decode cX7_scanNumber 88 = .ok (.lload_n 2, 1) := by decide +kernel
theorem dX7_scanNumber_89 : decode cX7_scanNumber 89 = .ok (.ldc2_w 129, 3) := by decide +kernel
theorem dX7_scanNumber_92 : decode cX7_scanNumber 92 = .ok (.lcmp, 1) := by decide +kernel
theorem dX7_scanNumber_93 : decode cX7_scanNumber 93 = .ok (.ifCond .le 14, 3) := by decide +kernel
theorem dX7_scanNumber_96 : decode cX7_scanNumber 96 = .ok (.aload_n 0, 1) := by decide +kernel
theorem dX7_scanNumber_97 : decode cX7_scanNumber 97 = .ok (.iconst 1, 1) := by decide +kernel
theorem dX7_scanNumber_98 : decode cX7_scanNumber 98 = .ok (.iconst 0, 1) := by decide +kernel
theorem dX7_scanNumber_99 : decode cX7_scanNumber 99 = .ok (.aload_n 0, 1) := by decide +kernel
theorem dX7_scanNumber_100 : decode cX7_scanNumber 100 = .ok (.getfield 50, 3) := by decide +kernel
theorem dX7_scanNumber_103 : decode cX7_scanNumber 103 = .ok (.invokevirtual 73, 3) := by decide +kernel
theorem dX7_scanNumber_106 : decode cX7_scanNumber 106 = .ok (.ireturn, 1) := by decide +kernel
theorem dX7_scanNumber_107 : decode cX7_scanNumber 107 = .ok (.aload_n 0, 1) := by decide +kernel
theorem dX7_scanNumber_108 : decode cX7_scanNumber 108 = .ok (.getfield 47, 3) := by decide +kernel
theorem dX7_scanNumber_111 : decode cX7_scanNumber 111 = .ok (.aload_n 0, 1) := by decide +kernel
theorem dX7_scanNumber_112 : decode cX7_scanNumber 112 = .ok (.getfield 43, 3) := by decide +kernel
theorem dX7_scanNumber_115 : decode cX7_scanNumber 115 = .ok (.if_icmp .ge 47, 3) := by decide +kernel
theorem dX7_scanNumber_118 : decode cX7_scanNumber 118 = .ok (.aload_n 0, 1) := by decide +kernel
theorem dX7_scanNumber_119 : decode cX7_scanNumber 119 = .ok (.getfield 33, 3) := by decide +kernel
theorem dX7_scanNumber_122 : decode cX7_scanNumber 122 = .ok (.aload_n 0, 1) := by decide +kernel
theorem dX7_scanNumber_123 : decode cX7_scanNumber 123 = .ok (.getfield 47, 3) := by decide +kernel
theorem dX7_scanNumber_126 : decode cX7_scanNumber 126 = .ok (.baload, 1) := by decide +kernel
theorem dX7_scanNumber_127 : decode cX7_scanNumber 127 = .ok (.sipush 255, 3) := by decide +kernel
theorem dX7_scanNumber_130 : decode cX7_scanNumber 130 = .ok (.iand, 1) := by decide +kernel
theorem dX7_scanNumber_131 : decode cX7_scanNumber 131 = .ok (.invokestatic 77, 3) := by decide +kernel
theorem dX7_scanNumber_134 : decode cX7_scanNumber 134 = .ok (.ifCond .ne 17, 3) := by decide +kernel
theorem dX7_scanNumber_137 : decode cX7_scanNumber 137 = .ok (.aload_n 0, 1) := by decide +kernel
theorem dX7_scanNumber_138 : decode cX7_scanNumber 138 = .ok (.getfield 33, 3) := by decide +kernel
theorem dX7_scanNumber_141 : decode cX7_scanNumber 141 = .ok (.aload_n 0, 1) := by decide +kernel
theorem dX7_scanNumber_142 : decode cX7_scanNumber 142 = .ok (.getfield 47, 3) := by decide +kernel
theorem dX7_scanNumber_145 : decode cX7_scanNumber 145 = .ok (.baload, 1) := by decide +kernel
theorem dX7_scanNumber_146 : decode cX7_scanNumber 146 = .ok (.bipush 95, 2) := by decide +kernel
theorem dX7_scanNumber_148 : decode cX7_scanNumber 148 = .ok (.if_icmp .ne 14, 3) := by decide +kernel
theorem dX7_scanNumber_151 : decode cX7_scanNumber 151 = .ok (.aload_n 0, 1) := by decide +kernel
theorem dX7_scanNumber_152 : decode cX7_scanNumber 152 = .ok (.iconst 1, 1) := by decide +kernel
theorem dX7_scanNumber_153 : decode cX7_scanNumber 153 = .ok (.iconst 0, 1) := by decide +kernel
theorem dX7_scanNumber_154 : decode cX7_scanNumber 154 = .ok (.aload_n 0, 1) := by decide +kernel
theorem dX7_scanNumber_155 : decode cX7_scanNumber 155 = .ok (.getfield 50, 3) := by decide +kernel
theorem dX7_scanNumber_158 : decode cX7_scanNumber 158 = .ok (.invokevirtual 73, 3) := by decide +kernel
theorem dX7_scanNumber_161 : decode cX7_scanNumber 161 = .ok (.ireturn, 1) := by decide +kernel
theorem dX7_scanNumber_162 : decode cX7_scanNumber 162 = .ok (.aload_n 0, 1) := by decide +kernel
theorem dX7_scanNumber_163 : decode cX7_scanNumber 163 = .ok (.iconst 3, 1) := by decide +kernel
theorem dX7_scanNumber_164 : decode cX7_scanNumber 164 = .ok (.lload_n 2, 1) := by decide +kernel
theorem dX7_scanNumber_165 : decode cX7_scanNumber 165 = .ok (.l2i, 1) := by decide +kernel
theorem dX7_scanNumber_166 : decode cX7_scanNumber 166 = .ok (.aload_n 0, 1) := by decide +kernel
theorem dX7_scanNumber_167 : decode cX7_scanNumber 167 = .ok (.getfield 50, 3) := by decide +kernel
theorem dX7_scanNumber_170 : decode cX7_scanNumber 170 = .ok (.invokevirtual 73, 3) := by decide +kernel
theorem dX7_scanNumber_173 : decode cX7_scanNumber 173 = .ok (.ireturn, 1) := by decide +kernel
theorem dX7_scanSign_0 : decode cX7_scanSign 0 = .ok (.iconst (-1), 1) := by decide +kernel
theorem dX7_scanSign_1 : decode cX7_scanSign 1 = .ok (.istore_n 2, 1) := by decide +kernel
theorem dX7_scanSign_2 : decode cX7_scanSign 2 = .ok (.aload_n 0, 1) := by decide +kernel
theorem dX7_scanSign_3 : decode cX7_scanSign 3 = .ok (.bipush 46, 2) := by decide +kernel
theorem dX7_scanSign_5 : decode cX7_scanSign 5 = .ok (.bipush 46, 2) := by decide +kernel
theorem dX7_scanSign_7 : decode cX7_scanSign 7 = .ok (.invokevirtual 93, 3) := by decide +kernel
theorem dX7_scanSign_10 : decode cX7_scanSign 10 = .ok (.ifCond .eq 8, 3) := by decide +kernel
theorem dX7_scanSign_13 : decode cX7_scanSign 13 = .ok (.iconst 4, 1) := by decide +kernel
theorem dX7_scanSign_14 : decode cX7_scanSign 14 = .ok (.istore_n 2, 1) := by decide +kernel
theorem dX7_scanSign_15 : decode cX7_scanSign 15 = .ok (.goto 84, 3) := by decide +kernel
theorem dX7_scanSign_18 : decode cX7_scanSign 18 = .ok (.aload_n 0, 1) := by decide +kernel
theorem dX7_scanSign_19 : decode cX7_scanSign 19 = .ok (.bipush 58, 2) := by decide +kernel
theorem dX7_scanSign_21 : decode cX7_scanSign 21 = .ok (.bipush 61, 2) := by decide +kernel
theorem dX7_scanSign_23 : decode cX7_scanSign 23 = .ok (.invokevirtual 93, 3) := by decide +kernel
theorem dX7_scanSign_26 : decode cX7_scanSign 26 = .ok (.ifCond .eq 8, 3) := by decide +kernel
theorem dX7_scanSign_29 : decode cX7_scanSign 29 = .ok (.iconst 5, 1) := by decide +kernel
theorem dX7_scanSign_30 : decode cX7_scanSign 30 = .ok (.istore_n 2, 1) := by decide +kernel
theorem dX7_scanSign_31 : decode cX7_scanSign 31 = .ok (.goto 68, 3) := by decide +kernel
theorem dX7_scanSign_34 : decode cX7_scanSign 34 = .ok (.aload_n 0, 1) := by decide +kernel
theorem dX7_scanSign_35 : decode cX7_scanSign 35 = .ok (.bipush 60, 2) := by decide +kernel
theorem dX7_scanSign_37 : decode cX7_scanSign 37 = .ok (.bipush 61, 2) := by decide +kernel
theorem dX7_scanSign_39 : decode cX7_scanSign 39 = .ok (.invokevirtual 93, 3) := by decide +kernel
theorem dX7_scanSign_42 : decode cX7_scanSign 42 = .ok (.ifCond .eq 9, 3) := by decide +kernel
theorem dX7_scanSign_45 : decode cX7_scanSign 45 = .ok (.bipush 6, 2) := by decide +kernel
theorem dX7_scanSign_47 : decode cX7_scanSign 47 = .ok (.istore_n 2, 1) := by decide +kernel
theorem dX7_scanSign_48 : decode cX7_scanSign 48 = .ok (.goto 51, 3) := by decide +kernel
theorem dX7_scanSign_51 : decode cX7_scanSign 51 = .ok (.aload_n 0, 1) := by decide +kernel
theorem dX7_scanSign_52 : decode cX7_scanSign 52 = .ok (.bipush 62, 2) := by decide +kernel
theorem dX7_scanSign_54 : decode cX7_scanSign 54 = .ok (.bipush 61, 2) := by decide +kernel
theorem dX7_scanSign_56 : decode cX7_scanSign 56 = .ok (.invokevirtual 93, 3) := by decide +kernel
theorem dX7_scanSign_59 : decode cX7_scanSign 59 = .ok (.ifCond .eq 9, 3) := by decide +kernel
theorem dX7_scanSign_62 : decode cX7_scanSign 62 = .ok (.bipush 7, 2) := by decide +kernel
theorem dX7_scanSign_64 : decode cX7_scanSign 64 = .ok (.istore_n 2, 1) := by decide +kernel
theorem dX7_scanSign_65 : decode cX7_scanSign 65 = .ok (.goto 34, 3) := by decide +kernel
theorem dX7_scanSign_68 : decode cX7_scanSign 68 = .ok (.aload_n 0, 1) := by decide +kernel
theorem dX7_scanSign_69 : decode cX7_scanSign 69 = .ok (.bipush 60, 2) := by decide +kernel
theorem dX7_scanSign_71 : decode cX7_scanSign 71 = .ok (.bipush 58, 2) := by decide +kernel
theorem dX7_scanSign_73 : decode cX7_scanSign 73 = .ok (.invokevirtual 93, 3) := by decide +kernel
theorem dX7_scanSign_76 : decode cX7_scanSign 76 = .ok (.ifCond .eq 9, 3) := by decide +kernel
theorem dX7_scanSign_79 : decode cX7_scanSign 79 = .ok (.bipush 8, 2) := by decide +kernel
theorem dX7_scanSign_81 : decode cX7_scanSign 81 = .ok (.istore_n 2, 1) := by decide +kernel
theorem dX7_scanSign_82 : decode cX7_scanSign 82 = .ok (.goto 17, 3) := by decide +kernel
theorem dX7_scanSign_85 : decode cX7_scanSign 85 = .ok (.aload_n 0, 1) := by decide +kernel
theorem dX7_scanSign_86 : decode cX7_scanSign 86 = .ok (.bipush 61, 2) := by decide +kernel
theorem dX7_scanSign_88 : decode cX7_scanSign 88 = .ok (.bipush 62, 2) := by decide +kernel
theorem dX7_scanSign_90 : decode cX7_scanSign 90 = .ok (.invokevirtual 93, 3) := by decide +kernel
theorem dX7_scanSign_93 : decode cX7_scanSign 93 = .ok (.ifCond .eq 6, 3) := by decide +kernel
theorem dX7_scanSign_96 : decode cX7_scanSign 96 = .ok (.bipush 9, 2) := by decide +kernel
theorem dX7_scanSign_98 : decode cX7_scanSign 98 = .ok (.istore_n 2, 1) := by decide +kernel
theorem dX7_scanSign_99 : decode cX7_scanSign 99 = .ok (.iload_n 2, 1) := by decide +kernel
theorem dX7_scanSign_100 : decode cX7_scanSign 100 = .ok (.iconst (-1), 1) := by decide +kernel
theorem dX7_scanSign_101 : decode cX7_scanSign 101 = .ok (.if_icmp .eq 24, 3) := by decide +kernel
theorem dX7_scanSign_104 : decode cX7_scanSign 104 = .ok (.aload_n 0, 1) := by decide +kernel
theorem dX7_scanSign_105 : decode cX7_scanSign 105 = .ok (.dup, 1) := by decide +kernel
theorem dX7_scanSign_106 : decode cX7_scanSign 106 = .ok (.getfield 47, 3) := by decide +kernel
theorem dX7_scanSign_109 : decode cX7_scanSign 109 = .ok (.iconst 2, 1) := by decide +kernel
theorem dX7_scanSign_110 : decode cX7_scanSign 110 = .ok (.iadd, 1) := by decide +kernel
theorem dX7_scanSign_111 : decode cX7_scanSign 111 = .ok (.putfield 47, 3) := by decide +kernel
theorem dX7_scanSign_114 : decode cX7_scanSign 114 = .ok (.aload_n 0, 1) := by decide +kernel
theorem dX7_scanSign_115 : decode cX7_scanSign 115 = .ok (.iload_n 2, 1) := by decide +kernel
theorem dX7_scanSign_116 : decode cX7_scanSign 116 = .ok (.iconst 0, 1) := by decide +kernel
theorem dX7_scanSign_117 : decode cX7_scanSign 117 = .ok (.aload_n 0, 1) := by decide +kernel
theorem dX7_scanSign_118 : decode cX7_scanSign 118 = .ok (.getfield 50, 3) := by decide +kernel
theorem dX7_scanSign_121 : decode cX7_scanSign 121 = .ok (.invokevirtual 73, 3) := by decide +kernel
theorem dX7_scanSign_124 : decode cX7_scanSign 124 = .ok (.ireturn, 1) := by decide +kernel
theorem dX7_scanSign_125 : decode cX7_scanSign 125 = .ok (.ldc 131, 2) := by decide +kernel
theorem dX7_scanSign_127 : decode cX7_scanSign 127 = .ok (.iload_n 1, 1) := by decide +kernel
theorem dX7_scanSign_128 : decode cX7_scanSign 128 = .ok (.i2c, 1) := by decide +kernel
theorem dX7_scanSign_129 : decode cX7_scanSign 129 = .ok (.invokevirtual 133, 3) := by decide +kernel
theorem dX7_scanSign_132 : decode cX7_scanSign 132 = .ok (.ifCond .ge 14, 3) := by decide +kernel
theorem dX7_scanSign_135 : decode cX7_scanSign 135 = .ok (.aload_n 0, 1) := by decide +kernel
theorem dX7_scanSign_136 : decode cX7_scanSign 136 = .ok (.iconst 1, 1) := by decide +kernel
theorem dX7_scanSign_137 : decode cX7_scanSign 137 = .ok (.iconst 0, 1) := by decide +kernel
theorem dX7_scanSign_138 : decode cX7_scanSign 138 = .ok (.aload_n 0, 1) := by decide +kernel
theorem dX7_scanSign_139 : decode cX7_scanSign 139 = .ok (.getfield 50, 3) := by decide +kernel
theorem dX7_scanSign_142 : decode cX7_scanSign 142 = .ok (.invokevirtual 73, 3) := by decide +kernel
theorem dX7_scanSign_145 : decode cX7_scanSign 145 = .ok (.ireturn, 1) := by decide +kernel
theorem dX7_scanSign_146 : decode cX7_scanSign 146 = .ok (.aload_n 0, 1) := by decide +kernel
theorem dX7_scanSign_147 : decode cX7_scanSign 147 = .ok (.dup, 1) := by decide +kernel
theorem dX7_scanSign_148 : decode cX7_scanSign 148 = .ok (.getfield 47, 3) := by decide +kernel
theorem dX7_scanSign_151 : decode cX7_scanSign 151 = .ok (.iconst 1, 1) := by decide +kernel
theorem dX7_scanSign_152 : decode cX7_scanSign 152 = .ok (.iadd, 1) := by decide +kernel
theorem dX7_scanSign_153 : decode cX7_scanSign 153 = .ok (.putfield 47, 3) := by decide +kernel
theorem dX7_scanSign_156 : decode cX7_scanSign 156 = .ok (.aload_n 0, 1) := by decide +kernel
theorem dX7_scanSign_157 : decode cX7_scanSign 157 = .ok (.iload_n 1, 1) := by decide +kernel
theorem dX7_scanSign_158 : decode cX7_scanSign 158 = .ok (.iconst 0, 1) := by decide +kernel
theorem dX7_scanSign_159 : decode cX7_scanSign 159 = .ok (.aload_n 0, 1) := by decide +kernel
theorem dX7_scanSign_160 : decode cX7_scanSign 160 = .ok (.getfield 50, 3) := by decide +kernel
theorem dX7_scanSign_163 : decode cX7_scanSign 163 = .ok (.invokevirtual 73, 3) := by decide +kernel
theorem dX7_scanSign_166 : decode cX7_scanSign 166 = .ok (.ireturn, 1) := by decide +kernel
theorem dX8_init_0 : decode cX8_init 0 = .ok (.aload_n 0, 1) := by decide +kernel
theorem dX8_init_1 : decode cX8_init 1 = .ok (.invokespecial 1, 3) := by decide +kernel
theorem dX8_init_4 : decode cX8_init 4 = .ok (.aload_n 0, 1) := by decide +kernel
theorem dX8_init_5 : decode cX8_init 5 = .ok (.iload_n 1, 1) := by decide +kernel
theorem dX8_init_6 : decode cX8_init 6 = .ok (.putfield 7, 3) := by decide +kernel
theorem dX8_init_9 : decode cX8_init 9 = .ok (.aload_n 0, 1) := by decide +kernel
theorem dX8_init_10 : decode cX8_init 10 = .ok (.iload_n 2, 1) := by decide +kernel
theorem dX8_init_11 : decode cX8_init 11 = .ok (.putfield 13, 3) := by decide +kernel
theorem dX8_init_14 : decode cX8_init 14 = .ok (.aload_n 0, 1) := by decide +kernel
theorem dX8_init_15 : decode cX8_init 15 = .ok (.aload_n 3, 1) := by decide +kernel
theorem dX8_init_16 : decode cX8_init 16 = .ok (.putfield 16, 3) := by decide +kernel
theorem dX8_init_19 : decode cX8_init 19 = .ok (.aload_n 0, 1) := by decide +kernel
theorem dX8_init_20 : decode cX8_init 20 = .ok (.aload 4, 2) := by decide +kernel
theorem dX8_init_22 : decode cX8_init 22 = .ok (.putfield 20, 3) := by decide +kernel
theorem dX8_init_25 : decode cX8_init 25 = .ok (.return_, 1) := by decide +kernel
theorem dX10_init_0 : decode cX10_init 0 = .ok (.aload_n 0, 1) := by decide +kernel
theorem dX10_init_1 : decode cX10_init 1 = .ok (.invokespecial 3, 3) := by decide +kernel
theorem dX10_init_4 : decode cX10_init 4 = .ok (.aload_n 0, 1) := by decide +kernel
theorem dX10_init_5 : decode cX10_init 5 = .ok (.ldc 9, 2) := by decide +kernel
theorem dX10_init_7 : decode cX10_init 7 = .ok (.putfield 10, 3) := by decide +kernel
theorem dX10_init_10 : decode cX10_init 10 = .ok (.aload_n 0, 1) := by decide +kernel
theorem dX10_init_11 : decode cX10_init 11 = .ok (.aload_n 1, 1) := by decide +kernel
