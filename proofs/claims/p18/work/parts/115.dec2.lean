theorem dX10_init_12 : decode cX10_init 12 = .ok (.invokevirtual 16, 3) := by decide +kernel
theorem dX10_init_15 : decode cX10_init 15 = .ok (.putfield 22, 3) := by decide +kernel
theorem dX10_init_18 : decode cX10_init 18 = .ok (.aload_n 0, 1) := by decide +kernel
theorem dX10_init_19 : decode cX10_init 19 = .ok (.aload_n 1, 1) := by decide +kernel
theorem dX10_init_20 : decode cX10_init 20 = .ok (.getfield 24, 3) := by decide +kernel
theorem dX10_init_23 : decode cX10_init 23 = .ok (.putfield 28, 3) := by decide +kernel
theorem dX10_init_26 : decode cX10_init 26 = .ok (.aload_n 0, 1) := by decide +kernel
theorem dX10_init_27 : decode cX10_init 27 = .ok (.aload_n 1, 1) := by decide +kernel
theorem dX10_init_28 : decode cX10_init 28 = .ok (.getfield 29, 3) := by decide +kernel
theorem dX10_init_31 : decode cX10_init 31 = .ok (.putfield 32, 3) := by decide +kernel
theorem dX10_init_34 : decode cX10_init 34 = .ok (.aload_n 0, 1) := by decide +kernel
theorem dX10_init_35 : decode cX10_init 35 = .ok (.new 33, 3) := by decide +kernel
theorem dX10_init_38 : decode cX10_init 38 = .ok (.dup, 1) := by decide +kernel
theorem dX10_init_39 : decode cX10_init 39 = .ok (.bipush 14, 2) := by decide +kernel
theorem dX10_init_41 : decode cX10_init 41 = .ok (.iconst (-1), 1) := by decide +kernel
theorem dX10_init_42 : decode cX10_init 42 = .ok (.iconst 0, 1) := by decide +kernel
theorem dX10_init_43 : decode cX10_init 43 = .ok (.aconst_null, 1) := by decide +kernel
theorem dX10_init_44 : decode cX10_init 44 = .ok (.invokespecial 35, 3) := by decide +kernel
theorem dX10_init_47 : decode cX10_init 47 = .ok (.putfield 38, 3) := by decide +kernel
theorem dX10_init_50 : decode cX10_init 50 = .ok (.aload_n 0, 1) := by decide +kernel
theorem dX10_init_51 : decode cX10_init 51 = .ok (.getfield 38, 3) := by decide +kernel
theorem dX10_init_54 : decode cX10_init 54 = .ok (.iconst (-1), 1) := by decide +kernel
theorem dX10_init_55 : decode cX10_init 55 = .ok (.putfield 41, 3) := by decide +kernel
theorem dX10_init_58 : decode cX10_init 58 = .ok (.aload_n 0, 1) := by decide +kernel
theorem dX10_init_59 : decode cX10_init 59 = .ok (.aload_n 1, 1) := by decide +kernel
theorem dX10_init_60 : decode cX10_init 60 = .ok (.getfield 44, 3) := by decide +kernel
theorem dX10_init_63 : decode cX10_init 63 = .ok (.putfield 47, 3) := by decide +kernel
theorem dX10_init_66 : decode cX10_init 66 = .ok (.aload_n 0, 1) := by decide +kernel
theorem dX10_init_67 : decode cX10_init 67 = .ok (.aload_n 1, 1) := by decide +kernel
theorem dX10_init_68 : decode cX10_init 68 = .ok (.invokevirtual 50, 3) := by decide +kernel
theorem dX10_init_71 : decode cX10_init 71 = .ok (.putfield 53, 3) := by decide +kernel
theorem dX10_init_74 : decode cX10_init 74 = .ok (.iconst 0, 1) := by decide +kernel
theorem dX10_init_75 : decode cX10_init 75 = .ok (.istore_n 2, 1) := by decide +kernel
theorem dX10_init_76 : decode cX10_init 76 = .ok (.iconst 0, 1) := by decide +kernel
theorem dX10_init_77 : decode cX10_init 77 = .ok (.istore_n 3, 1) := by decide +kernel
theorem dX10_init_78 : decode cX10_init 78 = .ok (.iconst 0, 1) := by decide +kernel
theorem dX10_init_79 : decode cX10_init 79 = .ok (.istore 4, 2) := by decide +kernel
theorem dX10_init_81 : decode cX10_init 81 = .ok (.aload_n 1, 1) := by decide +kernel
theorem dX10_init_82 : decode cX10_init 82 = .ok (.getfield 55, 3) := by decide +kernel
theorem dX10_init_85 : decode cX10_init 85 = .ok (.astore 5, 2) := by decide +kernel
theorem dX10_init_87 : decode cX10_init 87 = .ok (.aload 5, 2) := by decide +kernel
theorem dX10_init_89 : decode cX10_init 89 = .ok (.ifnull 84, 3) := by decide +kernel
theorem dX10_init_92 : decode cX10_init 92 = .ok (.iinc 2 1, 3) := by decide +kernel
theorem dX10_init_95 : decode cX10_init 95 = .ok (.aload 5, 2) := by decide +kernel
theorem dX10_init_97 : decode cX10_init 97 = .ok (.getfield 59, 3) := by decide +kernel
theorem dX10_init_100 : decode cX10_init 100 = .ok (.astore 6, 2) := by decide +kernel
theorem dX10_init_102 : decode cX10_init 102 = .ok (.aload 6, 2) := by decide +kernel
theorem dX10_init_104 : decode cX10_init 104 = .ok (.ifnull 59, 3) := by decide +kernel
theorem dX10_init_107 : decode cX10_init 107 = .ok (.iload_n 3, 1) := by decide +kernel
theorem dX10_init_108 : decode cX10_init 108 = .ok (.aload 6, 2) := by decide +kernel
theorem dX10_init_110 : decode cX10_init 110 = .ok (.getfield 64, 3) := by decide +kernel
theorem dX10_init_113 : decode cX10_init 113 = .ok (.iconst 3, 1) := by decide +kernel
theorem dX10_init_114 : decode cX10_init 114 = .ok (.if_icmp .eq 12, 3) := by decide +kernel
theorem dX10_init_117 : decode cX10_init 117 = .ok (.aload 6, 2) := by decide +kernel
theorem dX10_init_119 : decode cX10_init 119 = .ok (.getfield 64, 3) := by decide +kernel
theorem dX10_init_122 : decode cX10_init 122 = .ok (.iconst 4, 1) := by decide +kernel
theorem dX10_init_123 : decode cX10_init 123 = .ok (.if_icmp .ne 7, 3) := by decide +kernel
theorem dX10_init_126 : decode cX10_init 126 = .ok (.iconst 1, 1) := by decide +kernel
theorem dX10_init_127 : decode cX10_init 127 = .ok (.goto 4, 3) := by decide +kernel
theorem dX10_init_130 : decode cX10_init 130 = .ok (.iconst 0, 1) := by decide +kernel
theorem dX10_init_131 : decode cX10_init 131 = .ok (.iadd, 1) := by decide +kernel
theorem dX10_init_132 : decode cX10_init 132 = .ok (.istore_n 3, 1) := by decide +kernel
theorem dX10_init_133 : decode cX10_init 133 = .ok (.iload 4, 2) := by decide +kernel
theorem dX10_init_135 : decode cX10_init 135 = .ok (.aload 6, 2) := by decide +kernel
theorem dX10_init_137 : decode cX10_init 137 = .ok (.getfield 64, 3) := by decide +kernel
theorem dX10_init_140 : decode cX10_init 140 = .ok (.bipush 9, 2) := by decide +kernel
theorem dX10_init_142 : decode cX10_init 142 = .ok (.if_icmp .ne 7, 3) := by decide +kernel
theorem dX10_init_145 : decode cX10_init 145 = .ok (.iconst 1, 1) := by decide +kernel
theorem dX10_init_146 : decode cX10_init 146 = .ok (.goto 4, 3) := by decide +kernel
theorem dX10_init_149 : decode cX10_init 149 = .ok (.iconst 0, 1) := by decide +kernel
theorem dX10_init_150 : decode cX10_init 150 = .ok (.iadd, 1) := by decide +kernel
theorem dX10_init_151 : decode cX10_init 151 = .ok (.istore 4, 2) := by decide +kernel
theorem dX10_init_153 : decode cX10_init 153 = .ok (.aload 6, 2) := by decide +kernel
theorem dX10_init_155 : decode cX10_init 155 = .ok (.getfield 67, 3) := by decide +kernel
theorem dX10_init_158 : decode cX10_init 158 = .ok (.astore 6, 2) := by decide +kernel
theorem dX10_init_160 : decode cX10_init 160 = .ok (.goto (-58), 3) := by decide +kernel
theorem dX10_init_163 : decode cX10_init 163 = .ok (.aload 5, 2) := by decide +kernel
theorem dX10_init_165 : decode cX10_init 165 = .ok (.getfield 67, 3) := by decide +kernel
theorem dX10_init_168 : decode cX10_init 168 = .ok (.astore 5, 2) := by decide +kernel
theorem dX10_init_170 : decode cX10_init 170 = .ok (.goto (-83), 3) := by decide +kernel
theorem dX10_init_173 : decode cX10_init 173 = .ok (.aload_n 0, 1) := by decide +kernel
theorem dX10_init_174 : decode cX10_init 174 = .ok (.iload_n 2, 1) := by decide +kernel
theorem dX10_init_175 : decode cX10_init 175 = .ok (.anewarray 60, 3) := by decide +kernel
theorem dX10_init_178 : decode cX10_init 178 = .ok (.putfield 70, 3) := by decide +kernel
theorem dX10_init_181 : decode cX10_init 181 = .ok (.aload_n 0, 1) := by decide +kernel
theorem dX10_init_182 : decode cX10_init 182 = .ok (.iload_n 3, 1) := by decide +kernel
theorem dX10_init_183 : decode cX10_init 183 = .ok (.anewarray 60, 3) := by decide +kernel
theorem dX10_init_186 : decode cX10_init 186 = .ok (.putfield 74, 3) := by decide +kernel
theorem dX10_init_189 : decode cX10_init 189 = .ok (.aload_n 0, 1) := by decide +kernel
theorem dX10_init_190 : decode cX10_init 190 = .ok (.iload_n 3, 1) := by decide +kernel
theorem dX10_init_191 : decode cX10_init 191 = .ok (.anewarray 60, 3) := by decide +kernel
theorem dX10_init_194 : decode cX10_init 194 = .ok (.putfield 77, 3) := by decide +kernel
theorem dX10_init_197 : decode cX10_init 197 = .ok (.aload_n 0, 1) := by decide +kernel
theorem dX10_init_198 : decode cX10_init 198 = .ok (.iload 4, 2) := by decide +kernel
theorem dX10_init_200 : decode cX10_init 200 = .ok (.anewarray 60, 3) := by decide +kernel
theorem dX10_init_203 : decode cX10_init 203 = .ok (.putfield 80, 3) := by decide +kernel
theorem dX10_init_206 : decode cX10_init 206 = .ok (.iconst 0, 1) := by decide +kernel
theorem dX10_init_207 : decode cX10_init 207 = .ok (.istore 5, 2) := by decide +kernel
theorem dX10_init_209 : decode cX10_init 209 = .ok (.aload_n 1, 1) := by decide +kernel
theorem dX10_init_210 : decode cX10_init 210 = .ok (.getfield 55, 3) := by decide +kernel
theorem dX10_init_213 : decode cX10_init 213 = .ok (.astore 6, 2) := by decide +kernel
theorem dX10_init_215 : decode cX10_init 215 = .ok (.aload 6, 2) := by decide +kernel
theorem dX10_init_217 : decode cX10_init 217 = .ok (.ifnull 31, 3) := by decide +kernel
theorem dX10_init_220 : decode cX10_init 220 = .ok (.iload 5, 2) := by decide +kernel
theorem dX10_init_222 : decode cX10_init 222 = .ok (.iload_n 2, 1) := by decide +kernel
theorem dX10_init_223 : decode cX10_init 223 = .ok (.if_icmp .ge 25, 3) := by decide +kernel
theorem dX10_init_226 : decode cX10_init 226 = .ok (.aload_n 0, 1) := by decide +kernel
theorem dX10_init_227 : decode cX10_init 227 = .ok (.getfield 70, 3) := by decide +kernel
theorem dX10_init_230 : decode cX10_init 230 = .ok (.iload 5, 2) := by decide +kernel
theorem dX10_init_232 : decode cX10_init 232 = .ok (.aload 6, 2) := by decide +kernel
theorem dX10_init_234 : decode cX10_init 234 = .ok (.aastore, 1) := by decide +kernel
theorem dX10_init_235 : decode cX10_init 235 = .ok (.iinc 5 1, 3) := by decide +kernel
theorem dX10_init_238 : decode cX10_init 238 = .ok (.aload 6, 2) := by decide +kernel
theorem dX10_init_240 : decode cX10_init 240 = .ok (.getfield 67, 3) := by decide +kernel
theorem dX10_init_243 : decode cX10_init 243 = .ok (.astore 6, 2) := by decide +kernel
theorem dX10_init_245 : decode cX10_init 245 = .ok (.goto (-30), 3) := by decide +kernel
theorem dX10_init_248 : decode cX10_init 248 = .ok (.return_, 1) := by decide +kernel
theorem dX10_prepare_0 : decode cX10_prepare 0 = .ok (.aload_n 0, 1) := by decide +kernel
theorem dX10_prepare_1 : decode cX10_prepare 1 = .ok (.invokevirtual 83, 3) := by decide +kernel
theorem dX10_prepare_4 : decode cX10_prepare 4 = .ok (.aload_n 0, 1) := by decide +kernel
theorem dX10_prepare_5 : decode cX10_prepare 5 = .ok (.getfield 47, 3) := by decide +kernel
theorem dX10_prepare_8 : decode cX10_prepare 8 = .ok (.astore_n 1, 1) := by decide +kernel
theorem dX10_prepare_9 : decode cX10_prepare 9 = .ok (.aload_n 1, 1) := by decide +kernel
theorem dX10_prepare_10 : decode cX10_prepare 10 = .ok (.ifnull 20, 3) := by decide +kernel
theorem dX10_prepare_13 : decode cX10_prepare 13 = .ok (.aload_n 1, 1) := by decide +kernel
theorem dX10_prepare_14 : decode cX10_prepare 14 = .ok (.aload_n 0, 1) := by decide +kernel
theorem dX10_prepare_15 : decode cX10_prepare 15 = .ok (.aload_n 1, 1) := by decide +kernel
theorem dX10_prepare_16 : decode cX10_prepare 16 = .ok (.invokevirtual 86, 3) := by decide +kernel
theorem dX10_prepare_19 : decode cX10_prepare 19 = .ok (.putfield 90, 3) := by decide +kernel
theorem dX10_prepare_22 : decode cX10_prepare 22 = .ok (.aload_n 1, 1) := by decide +kernel
theorem dX10_prepare_23 : decode cX10_prepare 23 = .ok (.getfield 93, 3) := by decide +kernel
theorem dX10_prepare_26 : decode cX10_prepare 26 = .ok (.astore_n 1, 1) := by decide +kernel
theorem dX10_prepare_27 : decode cX10_prepare 27 = .ok (.goto (-18), 3) := by decide +kernel
theorem dX10_prepare_30 : decode cX10_prepare 30 = .ok (.aload_n 0, 1) := by decide +kernel
theorem dX10_prepare_31 : decode cX10_prepare 31 = .ok (.invokevirtual 95, 3) := by decide +kernel
theorem dX10_prepare_34 : decode cX10_prepare 34 = .ok (.aload_n 0, 1) := by decide +kernel
theorem dX10_prepare_35 : decode cX10_prepare 35 = .ok (.getfield 47, 3) := by decide +kernel
theorem dX10_prepare_38 : decode cX10_prepare 38 = .ok (.astore_n 1, 1) := by decide +kernel
theorem dX10_prepare_39 : decode cX10_prepare 39 = .ok (.aload_n 1, 1) := by decide +kernel
theorem dX10_prepare_40 : decode cX10_prepare 40 = .ok (.ifnull 20, 3) := by decide +kernel
theorem dX10_prepare_43 : decode cX10_prepare 43 = .ok (.aload_n 1, 1) := by decide +kernel
theorem dX10_prepare_44 : decode cX10_prepare 44 = .ok (.aload_n 0, 1) := by decide +kernel
theorem dX10_prepare_45 : decode cX10_prepare 45 = .ok (.aload_n 1, 1) := by decide +kernel
theorem dX10_prepare_46 : decode cX10_prepare 46 = .ok (.invokevirtual 98, 3) := by decide +kernel
theorem dX10_prepare_49 : decode cX10_prepare 49 = .ok (.putfield 101, 3) := by decide +kernel
theorem dX10_prepare_52 : decode cX10_prepare 52 = .ok (.aload_n 1, 1) := by decide +kernel
theorem dX10_prepare_53 : decode cX10_prepare 53 = .ok (.getfield 93, 3) := by decide +kernel
theorem dX10_prepare_56 : decode cX10_prepare 56 = .ok (.astore_n 1, 1) := by decide +kernel
theorem dX10_prepare_57 : decode cX10_prepare 57 = .ok (.goto (-18), 3) := by decide +kernel
theorem dX10_prepare_60 : decode cX10_prepare 60 = .ok (.aload_n 0, 1) := by decide +kernel
theorem dX10_prepare_61 : decode cX10_prepare 61 = .ok (.invokevirtual 104, 3) := by decide +kernel
theorem dX10_prepare_64 : decode cX10_prepare 64 = .ok (.aload_n 0, 1) := by decide +kernel
theorem dX10_prepare_65 : decode cX10_prepare 65 = .ok (.invokevirtual 107, 3) := by decide +kernel
theorem dX10_prepare_68 : decode cX10_prepare 68 = .ok (.iconst 1, 1) := by decide +kernel
theorem dX10_prepare_69 : decode cX10_prepare 69 = .ok (.istore_n 1, 1) := by decide +kernel
theorem dX10_prepare_70 : decode cX10_prepare 70 = .ok (.iconst 0, 1) := by decide +kernel
theorem dX10_prepare_71 : decode cX10_prepare 71 = .ok (.istore_n 2, 1) := by decide +kernel
theorem dX10_prepare_72 : decode cX10_prepare 72 = .ok (.iload_n 2, 1) := by decide +kernel
theorem dX10_prepare_73 : decode cX10_prepare 73 = .ok (.aload_n 0, 1) := by decide +kernel
theorem dX10_prepare_74 : decode cX10_prepare 74 = .ok (.getfield 53, 3) := by decide +kernel
theorem dX10_prepare_77 : decode cX10_prepare 77 = .ok (.if_icmp .gt 18, 3) := by decide +kernel
theorem dX10_prepare_80 : decode cX10_prepare 80 = .ok (.iload_n 1, 1) := by decide +kernel
theorem dX10_prepare_81 : decode cX10_prepare 81 = .ok (.ifCond .eq 14, 3) := by decide +kernel
theorem dX10_prepare_84 : decode cX10_prepare 84 = .ok (.aload_n 0, 1) := by decide +kernel
theorem dX10_prepare_85 : decode cX10_prepare 85 = .ok (.invokevirtual 110, 3) := by decide +kernel
theorem dX10_prepare_88 : decode cX10_prepare 88 = .ok (.istore_n 1, 1) := by decide +kernel
theorem dX10_prepare_89 : decode cX10_prepare 89 = .ok (.iinc 2 1, 3) := by decide +kernel
theorem dX10_prepare_92 : decode cX10_prepare 92 = .ok (.goto (-20), 3) := by decide +kernel
theorem dX10_prepare_95 : decode cX10_prepare 95 = .ok (.return_, 1) := by decide +kernel
theorem dX10_number_0 : decode cX10_number 0 = .ok (.iconst 0, 1) := by decide +kernel
theorem dX10_number_1 : decode cX10_number 1 = .ok (.istore_n 1, 1) := by decide +kernel
theorem dX10_number_2 : decode cX10_number 2 = .ok (.iconst 0, 1) := by decide +kernel
theorem dX10_number_3 : decode cX10_number 3 = .ok (.istore_n 2, 1) := by decide +kernel
theorem dX10_number_4 : decode cX10_number 4 = .ok (.iconst 0, 1) := by decide +kernel
theorem dX10_number_5 : decode cX10_number 5 = .ok (.istore_n 3, 1) := by decide +kernel
theorem dX10_number_6 : decode cX10_number 6 = .ok (.iconst 0, 1) := by decide +kernel
theorem dX10_number_7 : decode cX10_number 7 = .ok (.istore 4, 2) := by decide +kernel
theorem dX10_number_9 : decode cX10_number 9 = .ok (.iload 4, 2) := by decide +kernel
theorem dX10_number_11 : decode cX10_number 11 = .ok (.aload_n 0, 1) := by decide +kernel
theorem dX10_number_12 : decode cX10_number 12 = .ok (.getfield 70, 3) := by decide +kernel
theorem dX10_number_15 : decode cX10_number 15 = .ok (.arraylength, 1) := by decide +kernel
theorem dX10_number_16 : decode cX10_number 16 = .ok (.if_icmp .ge 217, 3) := by decide +kernel
theorem dX10_number_19 : decode cX10_number 19 = .ok (.aload_n 0, 1) := by decide +kernel
theorem dX10_number_20 : decode cX10_number 20 = .ok (.getfield 70, 3) := by decide +kernel
theorem dX10_number_23 : decode cX10_number 23 = .ok (.iload 4, 2) := by decide +kernel
theorem dX10_number_25 : decode cX10_number 25 = .ok (.aaload, 1) := by decide +kernel
theorem dX10_number_26 : decode cX10_number 26 = .ok (.getfield 59, 3) := by decide +kernel
theorem dX10_number_29 : decode cX10_number 29 = .ok (.astore 5, 2) := by decide +kernel
theorem dX10_number_31 : decode cX10_number 31 = .ok (.aload 5, 2) := by decide +kernel
theorem dX10_number_33 : decode cX10_number 33 = .ok (.ifnull 194, 3) := by decide +kernel
theorem dX10_number_36 : decode cX10_number 36 = .ok (.aload 5, 2) := by decide +kernel
theorem dX10_number_38 : decode cX10_number 38 = .ok (.getfield 64, 3) := by decide +kernel
theorem dX10_number_41 : decode cX10_number 41 = .ok (.iconst 3, 1) := by decide +kernel
theorem dX10_number_42 : decode cX10_number 42 = .ok (.if_icmp .eq 12, 3) := by decide +kernel
theorem dX10_number_45 : decode cX10_number 45 = .ok (.aload 5, 2) := by decide +kernel
theorem dX10_number_47 : decode cX10_number 47 = .ok (.getfield 64, 3) := by decide +kernel
theorem dX10_number_50 : decode cX10_number 50 = .ok (.iconst 4, 1) := by decide +kernel
theorem dX10_number_51 : decode cX10_number 51 = .ok (.if_icmp .ne 32, 3) := by decide +kernel
theorem dX10_number_54 : decode cX10_number 54 = .ok (.iload_n 1, 1) := by decide +kernel
theorem dX10_number_55 : decode cX10_number 55 = .ok (.aload_n 0, 1) := by decide +kernel
theorem dX10_number_56 : decode cX10_number 56 = .ok (.getfield 74, 3) := by decide +kernel
theorem dX10_number_59 : decode cX10_number 59 = .ok (.arraylength, 1) := by decide +kernel
theorem dX10_number_60 : decode cX10_number 60 = .ok (.if_icmp .ge 23, 3) := by decide +kernel
theorem dX10_number_63 : decode cX10_number 63 = .ok (.aload 5, 2) := by decide +kernel
theorem dX10_number_65 : decode cX10_number 65 = .ok (.iload_n 1, 1) := by decide +kernel
theorem dX10_number_66 : decode cX10_number 66 = .ok (.putfield 114, 3) := by decide +kernel
theorem dX10_number_69 : decode cX10_number 69 = .ok (.aload_n 0, 1) := by decide +kernel
theorem dX10_number_70 : decode cX10_number 70 = .ok (.getfield 74, 3) := by decide +kernel
theorem dX10_number_73 : decode cX10_number 73 = .ok (.iload_n 1, 1) := by decide +kernel
theorem dX10_number_74 : decode cX10_number 74 = .ok (.aload 5, 2) := by decide +kernel
theorem dX10_number_76 : decode cX10_number 76 = .ok (.aastore, 1) := by decide +kernel
theorem dX10_number_77 : decode cX10_number 77 = .ok (.iinc 1 1, 3) := by decide +kernel
theorem dX10_number_80 : decode cX10_number 80 = .ok (.goto 92, 3) := by decide +kernel
theorem dX10_number_83 : decode cX10_number 83 = .ok (.aload 5, 2) := by decide +kernel
theorem dX10_number_85 : decode cX10_number 85 = .ok (.getfield 64, 3) := by decide +kernel
theorem dX10_number_88 : decode cX10_number 88 = .ok (.bipush 8, 2) := by decide +kernel
theorem dX10_number_90 : decode cX10_number 90 = .ok (.if_icmp .ne 15, 3) := by decide +kernel
theorem dX10_number_93 : decode cX10_number 93 = .ok (.aload 5, 2) := by decide +kernel
theorem dX10_number_95 : decode cX10_number 95 = .ok (.iload_n 2, 1) := by decide +kernel
theorem dX10_number_96 : decode cX10_number 96 = .ok (.putfield 114, 3) := by decide +kernel
theorem dX10_number_99 : decode cX10_number 99 = .ok (.iinc 2 1, 3) := by decide +kernel
theorem dX10_number_102 : decode cX10_number 102 = .ok (.goto 70, 3) := by decide +kernel
theorem dX10_number_105 : decode cX10_number 105 = .ok (.aload 5, 2) := by decide +kernel
theorem dX10_number_107 : decode cX10_number 107 = .ok (.getfield 64, 3) := by decide +kernel
theorem dX10_number_110 : decode cX10_number 110 = .ok (.bipush 9, 2) := by decide +kernel
theorem dX10_number_112 : decode cX10_number 112 = .ok (.if_icmp .ne 41, 3) := by decide +kernel
theorem dX10_number_115 : decode cX10_number 115 = .ok (.aload_n 0, 1) := by decide +kernel
theorem dX10_number_116 : decode cX10_number 116 = .ok (.getfield 70, 3) := by decide +kernel
theorem dX10_number_119 : decode cX10_number 119 = .ok (.iload 4, 2) := by decide +kernel
theorem dX10_number_121 : decode cX10_number 121 = .ok (.aaload, 1) := by decide +kernel
theorem dX10_number_122 : decode cX10_number 122 = .ok (.getfield 64, 3) := by decide +kernel
theorem dX10_number_125 : decode cX10_number 125 = .ok (.iconst 1, 1) := by decide +kernel
theorem dX10_number_126 : decode cX10_number 126 = .ok (.if_icmp .ne 27, 3) := by decide +kernel
theorem dX10_number_129 : decode cX10_number 129 = .ok (.aload 5, 2) := by decide +kernel
theorem dX10_number_131 : decode cX10_number 131 = .ok (.getfield 116, 3) := by decide +kernel
theorem dX10_number_134 : decode cX10_number 134 = .ok (.ifnull 19, 3) := by decide +kernel
theorem dX10_number_137 : decode cX10_number 137 = .ok (.aload 5, 2) := by decide +kernel
theorem dX10_number_139 : decode cX10_number 139 = .ok (.aload 5, 2) := by decide +kernel
theorem dX10_number_141 : decode cX10_number 141 = .ok (.getfield 116, 3) := by decide +kernel
theorem dX10_number_144 : decode cX10_number 144 = .ok (.getfield 114, 3) := by decide +kernel
theorem dX10_number_147 : decode cX10_number 147 = .ok (.putfield 114, 3) := by decide +kernel
theorem dX10_number_150 : decode cX10_number 150 = .ok (.goto 22, 3) := by decide +kernel
theorem dX10_number_153 : decode cX10_number 153 = .ok (.aload 5, 2) := by decide +kernel
theorem dX10_number_155 : decode cX10_number 155 = .ok (.getfield 64, 3) := by decide +kernel
theorem dX10_number_158 : decode cX10_number 158 = .ok (.bipush 9, 2) := by decide +kernel
theorem dX10_number_160 : decode cX10_number 160 = .ok (.if_icmp .ne 12, 3) := by decide +kernel
theorem dX10_number_163 : decode cX10_number 163 = .ok (.iinc 3 1, 3) := by decide +kernel
theorem dX10_number_166 : decode cX10_number 166 = .ok (.aload 5, 2) := by decide +kernel
theorem dX10_number_168 : decode cX10_number 168 = .ok (.iload_n 3, 1) := by decide +kernel
theorem dX10_number_169 : decode cX10_number 169 = .ok (.putfield 114, 3) := by decide +kernel
theorem dX10_number_172 : decode cX10_number 172 = .ok (.aload 5, 2) := by decide +kernel
theorem dX10_number_174 : decode cX10_number 174 = .ok (.getfield 64, 3) := by decide +kernel
theorem dX10_number_177 : decode cX10_number 177 = .ok (.bipush 9, 2) := by decide +kernel
theorem dX10_number_179 : decode cX10_number 179 = .ok (.if_icmp .ne 38, 3) := by decide +kernel
theorem dX10_number_182 : decode cX10_number 182 = .ok (.aload 5, 2) := by decide +kernel
theorem dX10_number_184 : decode cX10_number 184 = .ok (.getfield 114, 3) := by decide +kernel
theorem dX10_number_187 : decode cX10_number 187 = .ok (.ifCond .le 30, 3) := by decide +kernel
theorem dX10_number_190 : decode cX10_number 190 = .ok (.aload 5, 2) := by decide +kernel
theorem dX10_number_192 : decode cX10_number 192 = .ok (.getfield 114, 3) := by decide +kernel
theorem dX10_number_195 : decode cX10_number 195 = .ok (.aload_n 0, 1) := by decide +kernel
theorem dX10_number_196 : decode cX10_number 196 = .ok (.getfield 80, 3) := by decide +kernel
theorem dX10_number_199 : decode cX10_number 199 = .ok (.arraylength, 1) := by decide +kernel
theorem dX10_number_200 : decode cX10_number 200 = .ok (.if_icmp .gt 17, 3) := by decide +kernel
theorem dX10_number_203 : decode cX10_number 203 = .ok (.aload_n 0, 1) := by decide +kernel
theorem dX10_number_204 : decode cX10_number 204 = .ok (.getfield 80, 3) := by decide +kernel
theorem dX10_number_207 : decode cX10_number 207 = .ok (.aload 5, 2) := by decide +kernel
theorem dX10_number_209 : decode cX10_number 209 = .ok (.getfield 114, 3) := by decide +kernel
theorem dX10_number_212 : decode cX10_number 212 = .ok (.iconst 1, 1) := by decide +kernel
theorem dX10_number_213 : decode cX10_number 213 = .ok (.isub, 1) := by decide +kernel
theorem dX10_number_214 : decode cX10_number 214 = .ok (.aload 5, 2) := by decide +kernel
theorem dX10_number_216 : decode cX10_number 216 = .ok (.aastore, 1) := by decide +kernel
theorem dX10_number_217 : decode cX10_number 217 = .ok (.aload 5, 2) := by decide +kernel
theorem dX10_number_219 : decode cX10_number 219 = .ok (.getfield 67, 3) := by decide +kernel
theorem dX10_number_222 : decode cX10_number 222 = .ok (.astore 5, 2) := by decide +kernel
theorem dX10_number_224 : decode cX10_number 224 = .ok (.goto (-193), 3) := by decide +kernel
theorem dX10_number_227 : decode cX10_number 227 = .ok (.iinc 4 1, 3) := by decide +kernel
theorem dX10_number_230 : decode cX10_number 230 = .ok (.goto (-221), 3) := by decide +kernel
theorem dX10_number_233 : decode cX10_number 233 = .ok (.return_, 1) := by decide +kernel
theorem dX10_replaced_0 : decode cX10_replaced 0 = .ok (.aload_n 1, 1) := by decide +kernel
theorem dX10_replaced_1 : decode cX10_replaced 1 = .ok (.astore_n 2, 1) := by decide +kernel
theorem dX10_replaced_2 : decode cX10_replaced 2 = .ok (.iconst 0, 1) := by decide +kernel
theorem dX10_replaced_3 : decode cX10_replaced 3 = .ok (.istore_n 3, 1) := by decide +kernel
theorem dX10_replaced_4 : decode cX10_replaced 4 = .ok (.iload_n 3, 1) := by decide +kernel
theorem dX10_replaced_5 : decode cX10_replaced 5 = .ok (.aload_n 0, 1) := by decide +kernel
theorem dX10_replaced_6 : decode cX10_replaced 6 = .ok (.getfield 74, 3) := by decide +kernel
theorem dX10_replaced_9 : decode cX10_replaced 9 = .ok (.arraylength, 1) := by decide +kernel
theorem dX10_replaced_10 : decode cX10_replaced 10 = .ok (.if_icmp .gt 29, 3) := by decide +kernel
theorem dX10_replaced_13 : decode cX10_replaced 13 = .ok (.aload_n 2, 1) := by decide +kernel
theorem dX10_replaced_14 : decode cX10_replaced 14 = .ok (.getfield 119, 3) := by decide +kernel
theorem dX10_replaced_17 : decode cX10_replaced 17 = .ok (.bipush 13, 2) := by decide +kernel
theorem dX10_replaced_19 : decode cX10_replaced 19 = .ok (.if_icmp .ne 20, 3) := by decide +kernel
theorem dX10_replaced_22 : decode cX10_replaced 22 = .ok (.aload_n 2, 1) := by decide +kernel
theorem dX10_replaced_23 : decode cX10_replaced 23 = .ok (.getfield 120, 3) := by decide +kernel
theorem dX10_replaced_26 : decode cX10_replaced 26 = .ok (.getfield 124, 3) := by decide +kernel
theorem dX10_replaced_29 : decode cX10_replaced 29 = .ok (.getfield 129, 3) := by decide +kernel
theorem dX10_replaced_32 : decode cX10_replaced 32 = .ok (.astore_n 2, 1) := by decide +kernel
theorem dX10_replaced_33 : decode cX10_replaced 33 = .ok (.iinc 3 1, 3) := by decide +kernel
theorem dX10_replaced_36 : decode cX10_replaced 36 = .ok (.goto (-32), 3) := by decide +kernel
theorem dX10_replaced_39 : decode cX10_replaced 39 = .ok (.aload_n 2, 1) := by decide +kernel
theorem dX10_replaced_40 : decode cX10_replaced 40 = .ok (.getfield 119, 3) := by decide +kernel
theorem dX10_replaced_43 : decode cX10_replaced 43 = .ok (.bipush 13, 2) := by decide +kernel
theorem dX10_replaced_45 : decode cX10_replaced 45 = .ok (.if_icmp .eq 5, 3) := by decide +kernel
theorem dX10_replaced_48 : decode cX10_replaced 48 = .ok (.aload_n 2, 1) := by decide +kernel
theorem dX10_replaced_49 : decode cX10_replaced 49 = .ok (.areturn, 1) := by decide +kernel
theorem dX10_replaced_50 : decode cX10_replaced 50 = .ok (.aload_n 2, 1) := by decide +kernel
theorem dX10_replaced_51 : decode cX10_replaced 51 = .ok (.astore_n 3, 1) := by decide +kernel
theorem dX10_replaced_52 : decode cX10_replaced 52 = .ok (.aload_n 2, 1) := by decide +kernel
theorem dX10_replaced_53 : decode cX10_replaced 53 = .ok (.getfield 120, 3) := by decide +kernel
theorem dX10_replaced_56 : decode cX10_replaced 56 = .ok (.getfield 124, 3) := by decide +kernel
theorem dX10_replaced_59 : decode cX10_replaced 59 = .ok (.getfield 129, 3) := by decide +kernel
theorem dX10_replaced_62 : decode cX10_replaced 62 = .ok (.astore 4, 2) := by decide +kernel
theorem dX10_replaced_64 : decode cX10_replaced 64 = .ok (.iconst 0, 1) := by decide +kernel
theorem dX10_replaced_65 : decode cX10_replaced 65 = .ok (.istore 5, 2) := by decide +kernel
theorem dX10_replaced_67 : decode cX10_replaced 67 = .ok (.iload 5, 2) := by decide +kernel
theorem dX10_replaced_69 : decode cX10_replaced 69 = .ok (.aload_n 0, 1) := by decide +kernel
theorem dX10_replaced_70 : decode cX10_replaced 70 = .ok (.getfield 74, 3) := by decide +kernel
theorem dX10_replaced_73 : decode cX10_replaced 73 = .ok (.arraylength, 1) := by decide +kernel
theorem dX10_replaced_74 : decode cX10_replaced 74 = .ok (.if_icmp .gt 43, 3) := by decide +kernel
theorem dX10_replaced_77 : decode cX10_replaced 77 = .ok (.aload 4, 2) := by decide +kernel
theorem dX10_replaced_79 : decode cX10_replaced 79 = .ok (.aload_n 2, 1) := by decide +kernel
theorem dX10_replaced_80 : decode cX10_replaced 80 = .ok (.if_acmp .eq 37, 3) := by decide +kernel
theorem dX10_replaced_83 : decode cX10_replaced 83 = .ok (.aload 4, 2) := by decide +kernel
theorem dX10_replaced_85 : decode cX10_replaced 85 = .ok (.getfield 132, 3) := by decide +kernel
theorem dX10_replaced_88 : decode cX10_replaced 88 = .ok (.aload_n 3, 1) := by decide +kernel
theorem dX10_replaced_89 : decode cX10_replaced 89 = .ok (.getfield 132, 3) := by decide +kernel
theorem dX10_replaced_92 : decode cX10_replaced 92 = .ok (.if_icmp .ge 6, 3) := by decide +kernel
theorem dX10_replaced_95 : decode cX10_replaced 95 = .ok (.aload 4, 2) := by decide +kernel
theorem dX10_replaced_97 : decode cX10_replaced 97 = .ok (.astore_n 3, 1) := by decide +kernel
theorem dX10_replaced_98 : decode cX10_replaced 98 = .ok (.aload 4, 2) := by decide +kernel
theorem dX10_replaced_100 : decode cX10_replaced 100 = .ok (.getfield 120, 3) := by decide +kernel
theorem dX10_replaced_103 : decode cX10_replaced 103 = .ok (.getfield 124, 3) := by decide +kernel
theorem dX10_replaced_106 : decode cX10_replaced 106 = .ok (.getfield 129, 3) := by decide +kernel
theorem dX10_replaced_109 : decode cX10_replaced 109 = .ok (.astore 4, 2) := by decide +kernel
theorem dX10_replaced_111 : decode cX10_replaced 111 = .ok (.iinc 5 1, 3) := by decide +kernel
theorem dX10_replaced_114 : decode cX10_replaced 114 = .ok (.goto (-47), 3) := by decide +kernel
theorem dX10_replaced_117 : decode cX10_replaced 117 = .ok (.aload_n 3, 1) := by decide +kernel
theorem dX10_replaced_118 : decode cX10_replaced 118 = .ok (.areturn, 1) := by decide +kernel
theorem dX10_linkReveals_0 : decode cX10_linkReveals 0 = .ok (.iconst 0, 1) := by decide +kernel
theorem dX10_linkReveals_1 : decode cX10_linkReveals 1 = .ok (.istore_n 1, 1) := by decide +kernel
theorem dX10_linkReveals_2 : decode cX10_linkReveals 2 = .ok (.iload_n 1, 1) := by decide +kernel
theorem dX10_linkReveals_3 : decode cX10_linkReveals 3 = .ok (.aload_n 0, 1) := by decide +kernel
theorem dX10_linkReveals_4 : decode cX10_linkReveals 4 = .ok (.getfield 70, 3) := by decide +kernel
theorem dX10_linkReveals_7 : decode cX10_linkReveals 7 = .ok (.arraylength, 1) := by decide +kernel
theorem dX10_linkReveals_8 : decode cX10_linkReveals 8 = .ok (.if_icmp .ge 98, 3) := by decide +kernel
theorem dX10_linkReveals_11 : decode cX10_linkReveals 11 = .ok (.aload_n 0, 1) := by decide +kernel
theorem dX10_linkReveals_12 : decode cX10_linkReveals 12 = .ok (.getfield 70, 3) := by decide +kernel
theorem dX10_linkReveals_15 : decode cX10_linkReveals 15 = .ok (.iload_n 1, 1) := by decide +kernel
theorem dX10_linkReveals_16 : decode cX10_linkReveals 16 = .ok (.aaload, 1) := by decide +kernel
theorem dX10_linkReveals_17 : decode cX10_linkReveals 17 = .ok (.getfield 59, 3) := by decide +kernel
theorem dX10_linkReveals_20 : decode cX10_linkReveals 20 = .ok (.astore_n 2, 1) := by decide +kernel
theorem dX10_linkReveals_21 : decode cX10_linkReveals 21 = .ok (.aload_n 2, 1) := by decide +kernel
theorem dX10_linkReveals_22 : decode cX10_linkReveals 22 = .ok (.ifnull 78, 3) := by decide +kernel
theorem dX10_linkReveals_25 : decode cX10_linkReveals 25 = .ok (.aload_n 2, 1) := by decide +kernel
theorem dX10_linkReveals_26 : decode cX10_linkReveals 26 = .ok (.getfield 64, 3) := by decide +kernel
theorem dX10_linkReveals_29 : decode cX10_linkReveals 29 = .ok (.iconst 5, 1) := by decide +kernel
theorem dX10_linkReveals_30 : decode cX10_linkReveals 30 = .ok (.if_icmp .eq 12, 3) := by decide +kernel
theorem dX10_linkReveals_33 : decode cX10_linkReveals 33 = .ok (.aload_n 2, 1) := by decide +kernel
theorem dX10_linkReveals_34 : decode cX10_linkReveals 34 = .ok (.getfield 64, 3) := by decide +kernel
theorem dX10_linkReveals_37 : decode cX10_linkReveals 37 = .ok (.bipush 6, 2) := by decide +kernel
theorem dX10_linkReveals_39 : decode cX10_linkReveals 39 = .ok (.if_icmp .ne 53, 3) := by decide +kernel
theorem dX10_linkReveals_42 : decode cX10_linkReveals 42 = .ok (.aload_n 2, 1) := by decide +kernel
theorem dX10_linkReveals_43 : decode cX10_linkReveals 43 = .ok (.invokestatic 135, 3) := by decide +kernel
theorem dX10_linkReveals_46 : decode cX10_linkReveals 46 = .ok (.getfield 139, 3) := by decide +kernel
theorem dX10_linkReveals_49 : decode cX10_linkReveals 49 = .ok (.astore_n 3, 1) := by decide +kernel
theorem dX10_linkReveals_50 : decode cX10_linkReveals 50 = .ok (.iconst 0, 1) := by decide +kernel
theorem dX10_linkReveals_51 : decode cX10_linkReveals 51 = .ok (.istore 4, 2) := by decide +kernel
theorem dX10_linkReveals_53 : decode cX10_linkReveals 53 = .ok (.iload 4, 2) := by decide +kernel
theorem dX10_linkReveals_55 : decode cX10_linkReveals 55 = .ok (.sipush 6000, 3) := by decide +kernel
theorem dX10_linkReveals_58 : decode cX10_linkReveals 58 = .ok (.if_icmp .ge 25, 3) := by decide +kernel
theorem dX10_linkReveals_61 : decode cX10_linkReveals 61 = .ok (.aload_n 3, 1) := by decide +kernel
theorem dX10_linkReveals_62 : decode cX10_linkReveals 62 = .ok (.ifnull 21, 3) := by decide +kernel
theorem dX10_linkReveals_65 : decode cX10_linkReveals 65 = .ok (.aload_n 3, 1) := by decide +kernel
theorem dX10_linkReveals_66 : decode cX10_linkReveals 66 = .ok (.getfield 142, 3) := by decide +kernel
theorem dX10_linkReveals_69 : decode cX10_linkReveals 69 = .ok (.ifnull 14, 3) := by decide +kernel
theorem dX10_linkReveals_72 : decode cX10_linkReveals 72 = .ok (.aload_n 3, 1) := by decide +kernel
theorem dX10_linkReveals_73 : decode cX10_linkReveals 73 = .ok (.getfield 142, 3) := by decide +kernel
theorem dX10_linkReveals_76 : decode cX10_linkReveals 76 = .ok (.astore_n 3, 1) := by decide +kernel
theorem dX10_linkReveals_77 : decode cX10_linkReveals 77 = .ok (.iinc 4 1, 3) := by decide +kernel
theorem dX10_linkReveals_80 : decode cX10_linkReveals 80 = .ok (.goto (-27), 3) := by decide +kernel
theorem dX10_linkReveals_83 : decode cX10_linkReveals 83 = .ok (.aload_n 3, 1) := by decide +kernel
theorem dX10_linkReveals_84 : decode cX10_linkReveals 84 = .ok (.ifnull 8, 3) := by decide +kernel
theorem dX10_linkReveals_87 : decode cX10_linkReveals 87 = .ok (.aload_n 3, 1) := by decide +kernel
theorem dX10_linkReveals_88 : decode cX10_linkReveals 88 = .ok (.aload_n 2, 1) := by decide +kernel
theorem dX10_linkReveals_89 : decode cX10_linkReveals 89 = .ok (.putfield 142, 3) := by decide +kernel
theorem dX10_linkReveals_92 : decode cX10_linkReveals 92 = .ok (.aload_n 2, 1) := by decide +kernel
theorem dX10_linkReveals_93 : decode cX10_linkReveals 93 = .ok (.getfield 67, 3) := by decide +kernel
theorem dX10_linkReveals_96 : decode cX10_linkReveals 96 = .ok (.astore_n 2, 1) := by decide +kernel
theorem dX10_linkReveals_97 : decode cX10_linkReveals 97 = .ok (.goto (-76), 3) := by decide +kernel
theorem dX10_linkReveals_100 : decode cX10_linkReveals 100 = .ok (.iinc 1 1, 3) := by decide +kernel
theorem dX10_linkReveals_103 : decode cX10_linkReveals 103 = .ok (.goto (-101), 3) := by decide +kernel
theorem dX10_linkReveals_106 : decode cX10_linkReveals 106 = .ok (.return_, 1) := by decide +kernel
theorem dX10_revealed_0 : decode cX10_revealed 0 = .ok (.aload_n 0, 1) := by decide +kernel
theorem dX10_revealed_1 : decode cX10_revealed 1 = .ok (.getfield 145, 3) := by decide +kernel
theorem dX10_revealed_4 : decode cX10_revealed 4 = .ok (.getfield 124, 3) := by decide +kernel
theorem dX10_revealed_7 : decode cX10_revealed 7 = .ok (.getfield 129, 3) := by decide +kernel
theorem dX10_revealed_10 : decode cX10_revealed 10 = .ok (.getfield 90, 3) := by decide +kernel
theorem dX10_revealed_13 : decode cX10_revealed 13 = .ok (.areturn, 1) := by decide +kernel
theorem dX10_levelOf_0 : decode cX10_levelOf 0 = .ok (.aload_n 2, 1) := by decide +kernel
theorem dX10_levelOf_1 : decode cX10_levelOf 1 = .ok (.getfield 119, 3) := by decide +kernel
theorem dX10_levelOf_4 : decode cX10_levelOf 4 = .ok (.bipush 11, 2) := by decide +kernel
theorem dX10_levelOf_6 : decode cX10_levelOf 6 = .ok (.if_icmp .ne 5, 3) := by decide +kernel
theorem dX10_levelOf_9 : decode cX10_levelOf 9 = .ok (.aload_n 2, 1) := by decide +kernel
theorem dX10_levelOf_10 : decode cX10_levelOf 10 = .ok (.areturn, 1) := by decide +kernel
theorem dX10_levelOf_11 : decode cX10_levelOf 11 = .ok (.aload_n 2, 1) := by decide +kernel
theorem dX10_levelOf_12 : decode cX10_levelOf 12 = .ok (.getfield 119, 3) := by decide +kernel
theorem dX10_levelOf_15 : decode cX10_levelOf 15 = .ok (.bipush 12, 2) := by decide +kernel
theorem dX10_levelOf_17 : decode cX10_levelOf 17 = .ok (.if_icmp .eq 5, 3) := by decide +kernel
theorem dX10_levelOf_20 : decode cX10_levelOf 20 = .ok (.aconst_null, 1) := by decide +kernel
theorem dX10_levelOf_21 : decode cX10_levelOf 21 = .ok (.areturn, 1) := by decide +kernel
theorem dX10_levelOf_22 : decode cX10_levelOf 22 = .ok (.aload_n 2, 1) := by decide +kernel
theorem dX10_levelOf_23 : decode cX10_levelOf 23 = .ok (.getfield 139, 3) := by decide +kernel
theorem dX10_levelOf_26 : decode cX10_levelOf 26 = .ok (.getfield 142, 3) := by decide +kernel
theorem dX10_levelOf_29 : decode cX10_levelOf 29 = .ok (.astore_n 3, 1) := by decide +kernel
theorem dX10_levelOf_30 : decode cX10_levelOf 30 = .ok (.aload_n 3, 1) := by decide +kernel
theorem dX10_levelOf_31 : decode cX10_levelOf 31 = .ok (.ifnull 46, 3) := by decide +kernel
theorem dX10_levelOf_34 : decode cX10_levelOf 34 = .ok (.aload_n 3, 1) := by decide +kernel
theorem dX10_levelOf_35 : decode cX10_levelOf 35 = .ok (.getfield 64, 3) := by decide +kernel
theorem dX10_levelOf_38 : decode cX10_levelOf 38 = .ok (.iconst 5, 1) := by decide +kernel
theorem dX10_levelOf_39 : decode cX10_levelOf 39 = .ok (.if_icmp .ne 30, 3) := by decide +kernel
theorem dX10_levelOf_42 : decode cX10_levelOf 42 = .ok (.aload_n 1, 1) := by decide +kernel
theorem dX10_levelOf_43 : decode cX10_levelOf 43 = .ok (.ifnull 21, 3) := by decide +kernel
theorem dX10_levelOf_46 : decode cX10_levelOf 46 = .ok (.aload_n 1, 1) := by decide +kernel
theorem dX10_levelOf_47 : decode cX10_levelOf 47 = .ok (.getfield 146, 3) := by decide +kernel
theorem dX10_levelOf_50 : decode cX10_levelOf 50 = .ok (.aload_n 3, 1) := by decide +kernel
theorem dX10_levelOf_51 : decode cX10_levelOf 51 = .ok (.getfield 149, 3) := by decide +kernel
theorem dX10_levelOf_54 : decode cX10_levelOf 54 = .ok (.getfield 114, 3) := by decide +kernel
theorem dX10_levelOf_57 : decode cX10_levelOf 57 = .ok (.ishr, 1) := by decide +kernel
theorem dX10_levelOf_58 : decode cX10_levelOf 58 = .ok (.iconst 1, 1) := by decide +kernel
theorem dX10_levelOf_59 : decode cX10_levelOf 59 = .ok (.iand, 1) := by decide +kernel
theorem dX10_levelOf_60 : decode cX10_levelOf 60 = .ok (.iconst 1, 1) := by decide +kernel
theorem dX10_levelOf_61 : decode cX10_levelOf 61 = .ok (.if_icmp .ne 8, 3) := by decide +kernel
theorem dX10_levelOf_64 : decode cX10_levelOf 64 = .ok (.aload_n 3, 1) := by decide +kernel
theorem dX10_levelOf_65 : decode cX10_levelOf 65 = .ok (.getfield 129, 3) := by decide +kernel
theorem dX10_levelOf_68 : decode cX10_levelOf 68 = .ok (.areturn, 1) := by decide +kernel
theorem dX10_levelOf_69 : decode cX10_levelOf 69 = .ok (.aload_n 3, 1) := by decide +kernel
theorem dX10_levelOf_70 : decode cX10_levelOf 70 = .ok (.getfield 142, 3) := by decide +kernel
theorem dX10_levelOf_73 : decode cX10_levelOf 73 = .ok (.astore_n 3, 1) := by decide +kernel
theorem dX10_levelOf_74 : decode cX10_levelOf 74 = .ok (.goto (-44), 3) := by decide +kernel
theorem dX10_levelOf_77 : decode cX10_levelOf 77 = .ok (.aconst_null, 1) := by decide +kernel
theorem dX10_levelOf_78 : decode cX10_levelOf 78 = .ok (.areturn, 1) := by decide +kernel
theorem dX10_aboveInWhole_0 : decode cX10_aboveInWhole 0 = .ok (.aload_n 0, 1) := by decide +kernel
theorem dX10_aboveInWhole_1 : decode cX10_aboveInWhole 1 = .ok (.aconst_null, 1) := by decide +kernel
theorem dX10_aboveInWhole_2 : decode cX10_aboveInWhole 2 = .ok (.aload_n 1, 1) := by decide +kernel
theorem dX10_aboveInWhole_3 : decode cX10_aboveInWhole 3 = .ok (.invokevirtual 152, 3) := by decide +kernel
theorem dX10_aboveInWhole_6 : decode cX10_aboveInWhole 6 = .ok (.astore_n 2, 1) := by decide +kernel
theorem dX10_aboveInWhole_7 : decode cX10_aboveInWhole 7 = .ok (.aload_n 2, 1) := by decide +kernel
theorem dX10_aboveInWhole_8 : decode cX10_aboveInWhole 8 = .ok (.ifnonnull 7, 3) := by decide +kernel
theorem dX10_aboveInWhole_11 : decode cX10_aboveInWhole 11 = .ok (.aconst_null, 1) := by decide +kernel
theorem dX10_aboveInWhole_12 : decode cX10_aboveInWhole 12 = .ok (.goto 10, 3) := by decide +kernel
theorem dX10_aboveInWhole_15 : decode cX10_aboveInWhole 15 = .ok (.aload_n 2, 1) := by decide +kernel
theorem dX10_aboveInWhole_16 : decode cX10_aboveInWhole 16 = .ok (.getfield 156, 3) := by decide +kernel
theorem dX10_aboveInWhole_19 : decode cX10_aboveInWhole 19 = .ok (.getfield 90, 3) := by decide +kernel
theorem dX10_aboveInWhole_22 : decode cX10_aboveInWhole 22 = .ok (.areturn, 1) := by decide +kernel
theorem dX10_above_0 : decode cX10_above 0 = .ok (.aload_n 2, 1) := by decide +kernel
theorem dX10_above_1 : decode cX10_above 1 = .ok (.getfield 119, 3) := by decide +kernel
theorem dX10_above_4 : decode cX10_above 4 = .ok (.bipush 11, 2) := by decide +kernel
theorem dX10_above_6 : decode cX10_above 6 = .ok (.if_icmp .ne 11, 3) := by decide +kernel
theorem dX10_above_9 : decode cX10_above 9 = .ok (.aload_n 2, 1) := by decide +kernel
theorem dX10_above_10 : decode cX10_above 10 = .ok (.getfield 156, 3) := by decide +kernel
theorem dX10_above_13 : decode cX10_above 13 = .ok (.getfield 90, 3) := by decide +kernel
theorem dX10_above_16 : decode cX10_above 16 = .ok (.areturn, 1) := by decide +kernel
theorem dX10_above_17 : decode cX10_above 17 = .ok (.aload_n 2, 1) := by decide +kernel
theorem dX10_above_18 : decode cX10_above 18 = .ok (.getfield 119, 3) := by decide +kernel
theorem dX10_above_21 : decode cX10_above 21 = .ok (.bipush 12, 2) := by decide +kernel
theorem dX10_above_23 : decode cX10_above 23 = .ok (.if_icmp .ne 32, 3) := by decide +kernel
theorem dX10_above_26 : decode cX10_above 26 = .ok (.aload_n 2, 1) := by decide +kernel
theorem dX10_above_27 : decode cX10_above 27 = .ok (.getfield 159, 3) := by decide +kernel
theorem dX10_above_30 : decode cX10_above 30 = .ok (.ifnull 25, 3) := by decide +kernel
theorem dX10_above_33 : decode cX10_above 33 = .ok (.aload_n 1, 1) := by decide +kernel
theorem dX10_above_34 : decode cX10_above 34 = .ok (.getfield 114, 3) := by decide +kernel
theorem dX10_above_37 : decode cX10_above 37 = .ok (.aload_n 2, 1) := by decide +kernel
theorem dX10_above_38 : decode cX10_above 38 = .ok (.getfield 159, 3) := by decide +kernel
theorem dX10_above_41 : decode cX10_above 41 = .ok (.arraylength, 1) := by decide +kernel
theorem dX10_above_42 : decode cX10_above 42 = .ok (.if_icmp .ge 13, 3) := by decide +kernel
theorem dX10_above_45 : decode cX10_above 45 = .ok (.aload_n 2, 1) := by decide +kernel
theorem dX10_above_46 : decode cX10_above 46 = .ok (.getfield 159, 3) := by decide +kernel
theorem dX10_above_49 : decode cX10_above 49 = .ok (.aload_n 1, 1) := by decide +kernel
theorem dX10_above_50 : decode cX10_above 50 = .ok (.getfield 114, 3) := by decide +kernel
theorem dX10_above_53 : decode cX10_above 53 = .ok (.aaload, 1) := by decide +kernel
theorem dX10_above_54 : decode cX10_above 54 = .ok (.areturn, 1) := by decide +kernel
theorem dX10_above_55 : decode cX10_above 55 = .ok (.aconst_null, 1) := by decide +kernel
theorem dX10_above_56 : decode cX10_above 56 = .ok (.areturn, 1) := by decide +kernel
theorem dX10_findViews_0 : decode cX10_findViews 0 = .ok (.aload_n 0, 1) := by decide +kernel
theorem dX10_findViews_1 : decode cX10_findViews 1 = .ok (.getfield 47, 3) := by decide +kernel
theorem dX10_findViews_4 : decode cX10_findViews 4 = .ok (.astore_n 1, 1) := by decide +kernel
theorem dX10_findViews_5 : decode cX10_findViews 5 = .ok (.aload_n 1, 1) := by decide +kernel
theorem dX10_findViews_6 : decode cX10_findViews 6 = .ok (.ifnull 66, 3) := by decide +kernel
theorem dX10_findViews_9 : decode cX10_findViews 9 = .ok (.aload_n 1, 1) := by decide +kernel
theorem dX10_findViews_10 : decode cX10_findViews 10 = .ok (.getfield 119, 3) := by decide +kernel
theorem dX10_findViews_13 : decode cX10_findViews 13 = .ok (.bipush 12, 2) := by decide +kernel
theorem dX10_findViews_15 : decode cX10_findViews 15 = .ok (.if_icmp .ne 49, 3) := by decide +kernel
theorem dX10_findViews_18 : decode cX10_findViews 18 = .ok (.aload_n 1, 1) := by decide +kernel
theorem dX10_findViews_19 : decode cX10_findViews 19 = .ok (.aload_n 0, 1) := by decide +kernel
theorem dX10_findViews_20 : decode cX10_findViews 20 = .ok (.getfield 70, 3) := by decide +kernel
theorem dX10_findViews_23 : decode cX10_findViews 23 = .ok (.arraylength, 1) := by decide +kernel
theorem dX10_findViews_24 : decode cX10_findViews 24 = .ok (.anewarray 33, 3) := by decide +kernel
theorem dX10_findViews_27 : decode cX10_findViews 27 = .ok (.putfield 159, 3) := by decide +kernel
theorem dX10_findViews_30 : decode cX10_findViews 30 = .ok (.iconst 0, 1) := by decide +kernel
theorem dX10_findViews_31 : decode cX10_findViews 31 = .ok (.istore_n 2, 1) := by decide +kernel
theorem dX10_findViews_32 : decode cX10_findViews 32 = .ok (.iload_n 2, 1) := by decide +kernel
theorem dX10_findViews_33 : decode cX10_findViews 33 = .ok (.aload_n 0, 1) := by decide +kernel
theorem dX10_findViews_34 : decode cX10_findViews 34 = .ok (.getfield 70, 3) := by decide +kernel
theorem dX10_findViews_37 : decode cX10_findViews 37 = .ok (.arraylength, 1) := by decide +kernel
theorem dX10_findViews_38 : decode cX10_findViews 38 = .ok (.if_icmp .ge 26, 3) := by decide +kernel
theorem dX10_findViews_41 : decode cX10_findViews 41 = .ok (.aload_n 1, 1) := by decide +kernel
theorem dX10_findViews_42 : decode cX10_findViews 42 = .ok (.getfield 159, 3) := by decide +kernel
theorem dX10_findViews_45 : decode cX10_findViews 45 = .ok (.iload_n 2, 1) := by decide +kernel
theorem dX10_findViews_46 : decode cX10_findViews 46 = .ok (.aload_n 0, 1) := by decide +kernel
theorem dX10_findViews_47 : decode cX10_findViews 47 = .ok (.aload_n 0, 1) := by decide +kernel
theorem dX10_findViews_48 : decode cX10_findViews 48 = .ok (.getfield 70, 3) := by decide +kernel
theorem dX10_findViews_51 : decode cX10_findViews 51 = .ok (.iload_n 2, 1) := by decide +kernel
theorem dX10_findViews_52 : decode cX10_findViews 52 = .ok (.aaload, 1) := by decide +kernel
theorem dX10_findViews_53 : decode cX10_findViews 53 = .ok (.aload_n 1, 1) := by decide +kernel
theorem dX10_findViews_54 : decode cX10_findViews 54 = .ok (.invokevirtual 163, 3) := by decide +kernel
theorem dX10_findViews_57 : decode cX10_findViews 57 = .ok (.aastore, 1) := by decide +kernel
theorem dX10_findViews_58 : decode cX10_findViews 58 = .ok (.iinc 2 1, 3) := by decide +kernel
theorem dX10_findViews_61 : decode cX10_findViews 61 = .ok (.goto (-29), 3) := by decide +kernel
theorem dX10_findViews_64 : decode cX10_findViews 64 = .ok (.aload_n 1, 1) := by decide +kernel
theorem dX10_findViews_65 : decode cX10_findViews 65 = .ok (.getfield 93, 3) := by decide +kernel
theorem dX10_findViews_68 : decode cX10_findViews 68 = .ok (.astore_n 1, 1) := by decide +kernel
theorem dX10_findViews_69 : decode cX10_findViews 69 = .ok (.goto (-64), 3) := by decide +kernel
theorem dX10_findViews_72 : decode cX10_findViews 72 = .ok (.return_, 1) := by decide +kernel
theorem dX10_viewed_0 : decode cX10_viewed 0 = .ok (.aload_n 0, 1) := by decide +kernel
theorem dX10_viewed_1 : decode cX10_viewed 1 = .ok (.aload_n 1, 1) := by decide +kernel
theorem dX10_viewed_2 : decode cX10_viewed 2 = .ok (.aload_n 2, 1) := by decide +kernel
theorem dX10_viewed_3 : decode cX10_viewed 3 = .ok (.invokevirtual 152, 3) := by decide +kernel
theorem dX10_viewed_6 : decode cX10_viewed 6 = .ok (.astore_n 3, 1) := by decide +kernel
theorem dX10_viewed_7 : decode cX10_viewed 7 = .ok (.aload_n 3, 1) := by decide +kernel
theorem dX10_viewed_8 : decode cX10_viewed 8 = .ok (.ifnull 11, 3) := by decide +kernel
theorem dX10_viewed_11 : decode cX10_viewed 11 = .ok (.aload_n 3, 1) := by decide +kernel
theorem dX10_viewed_12 : decode cX10_viewed 12 = .ok (.getfield 156, 3) := by decide +kernel
theorem dX10_viewed_15 : decode cX10_viewed 15 = .ok (.getfield 90, 3) := by decide +kernel
theorem dX10_viewed_18 : decode cX10_viewed 18 = .ok (.areturn, 1) := by decide +kernel
theorem dX10_viewed_19 : decode cX10_viewed 19 = .ok (.aload_n 2, 1) := by decide +kernel
theorem dX10_viewed_20 : decode cX10_viewed 20 = .ok (.getfield 101, 3) := by decide +kernel
theorem dX10_viewed_23 : decode cX10_viewed 23 = .ok (.astore 4, 2) := by decide +kernel
theorem dX10_viewed_25 : decode cX10_viewed 25 = .ok (.iconst 0, 1) := by decide +kernel
theorem dX10_viewed_26 : decode cX10_viewed 26 = .ok (.istore 5, 2) := by decide +kernel
theorem dX10_viewed_28 : decode cX10_viewed 28 = .ok (.iload 5, 2) := by decide +kernel
theorem dX10_viewed_30 : decode cX10_viewed 30 = .ok (.aload_n 0, 1) := by decide +kernel
theorem dX10_viewed_31 : decode cX10_viewed 31 = .ok (.getfield 53, 3) := by decide +kernel
theorem dX10_viewed_34 : decode cX10_viewed 34 = .ok (.if_icmp .ge 46, 3) := by decide +kernel
theorem dX10_viewed_37 : decode cX10_viewed 37 = .ok (.aload 4, 2) := by decide +kernel
theorem dX10_viewed_39 : decode cX10_viewed 39 = .ok (.ifnull 41, 3) := by decide +kernel
theorem dX10_viewed_42 : decode cX10_viewed 42 = .ok (.aload 4, 2) := by decide +kernel
theorem dX10_viewed_44 : decode cX10_viewed 44 = .ok (.getfield 41, 3) := by decide +kernel
theorem dX10_viewed_47 : decode cX10_viewed 47 = .ok (.aload_n 2, 1) := by decide +kernel
theorem dX10_viewed_48 : decode cX10_viewed 48 = .ok (.getfield 41, 3) := by decide +kernel
theorem dX10_viewed_51 : decode cX10_viewed 51 = .ok (.if_icmp .eq 16, 3) := by decide +kernel
theorem dX10_viewed_54 : decode cX10_viewed 54 = .ok (.aload_n 1, 1) := by decide +kernel
theorem dX10_viewed_55 : decode cX10_viewed 55 = .ok (.aload_n 2, 1) := by decide +kernel
theorem dX10_viewed_56 : decode cX10_viewed 56 = .ok (.aload 4, 2) := by decide +kernel
theorem dX10_viewed_58 : decode cX10_viewed 58 = .ok (.invokestatic 166, 3) := by decide +kernel
theorem dX10_viewed_61 : decode cX10_viewed 61 = .ok (.ifCond .eq 6, 3) := by decide +kernel
theorem dX10_viewed_64 : decode cX10_viewed 64 = .ok (.aload 4, 2) := by decide +kernel
theorem dX10_viewed_66 : decode cX10_viewed 66 = .ok (.areturn, 1) := by decide +kernel
theorem dX10_viewed_67 : decode cX10_viewed 67 = .ok (.aload 4, 2) := by decide +kernel
theorem dX10_viewed_69 : decode cX10_viewed 69 = .ok (.getfield 101, 3) := by decide +kernel
theorem dX10_viewed_72 : decode cX10_viewed 72 = .ok (.astore 4, 2) := by decide +kernel
theorem dX10_viewed_74 : decode cX10_viewed 74 = .ok (.iinc 5 1, 3) := by decide +kernel
theorem dX10_viewed_77 : decode cX10_viewed 77 = .ok (.goto (-49), 3) := by decide +kernel
theorem dX10_viewed_80 : decode cX10_viewed 80 = .ok (.aconst_null, 1) := by decide +kernel
theorem dX10_viewed_81 : decode cX10_viewed 81 = .ok (.areturn, 1) := by decide +kernel
theorem dX10_isToldAbove_0 : decode cX10_isToldAbove 0 = .ok (.aload_n 1, 1) := by decide +kernel
theorem dX10_isToldAbove_1 : decode cX10_isToldAbove 1 = .ok (.getfield 139, 3) := by decide +kernel
theorem dX10_isToldAbove_4 : decode cX10_isToldAbove 4 = .ok (.getfield 170, 3) := by decide +kernel
theorem dX10_isToldAbove_7 : decode cX10_isToldAbove 7 = .ok (.getfield 90, 3) := by decide +kernel
theorem dX10_isToldAbove_10 : decode cX10_isToldAbove 10 = .ok (.getfield 41, 3) := by decide +kernel
theorem dX10_isToldAbove_13 : decode cX10_isToldAbove 13 = .ok (.aload_n 2, 1) := by decide +kernel
theorem dX10_isToldAbove_14 : decode cX10_isToldAbove 14 = .ok (.getfield 41, 3) := by decide +kernel
theorem dX10_isToldAbove_17 : decode cX10_isToldAbove 17 = .ok (.if_icmp .ne 5, 3) := by decide +kernel
theorem dX10_isToldAbove_20 : decode cX10_isToldAbove 20 = .ok (.iconst 1, 1) := by decide +kernel
theorem dX10_isToldAbove_21 : decode cX10_isToldAbove 21 = .ok (.ireturn, 1) := by decide +kernel
theorem dX10_isToldAbove_22 : decode cX10_isToldAbove 22 = .ok (.aload_n 1, 1) := by decide +kernel
theorem dX10_isToldAbove_23 : decode cX10_isToldAbove 23 = .ok (.getfield 139, 3) := by decide +kernel
theorem dX10_isToldAbove_26 : decode cX10_isToldAbove 26 = .ok (.getfield 142, 3) := by decide +kernel
theorem dX10_isToldAbove_29 : decode cX10_isToldAbove 29 = .ok (.astore_n 3, 1) := by decide +kernel
theorem dX10_isToldAbove_30 : decode cX10_isToldAbove 30 = .ok (.aload_n 3, 1) := by decide +kernel
theorem dX10_isToldAbove_31 : decode cX10_isToldAbove 31 = .ok (.ifnull 57, 3) := by decide +kernel
theorem dX10_isToldAbove_34 : decode cX10_isToldAbove 34 = .ok (.aload_n 3, 1) := by decide +kernel
theorem dX10_isToldAbove_35 : decode cX10_isToldAbove 35 = .ok (.getfield 64, 3) := by decide +kernel
theorem dX10_isToldAbove_38 : decode cX10_isToldAbove 38 = .ok (.bipush 6, 2) := by decide +kernel
theorem dX10_isToldAbove_40 : decode cX10_isToldAbove 40 = .ok (.if_icmp .ne 40, 3) := by decide +kernel
theorem dX10_isToldAbove_43 : decode cX10_isToldAbove 43 = .ok (.aload_n 0, 1) := by decide +kernel
theorem dX10_isToldAbove_44 : decode cX10_isToldAbove 44 = .ok (.getfield 146, 3) := by decide +kernel
theorem dX10_isToldAbove_47 : decode cX10_isToldAbove 47 = .ok (.aload_n 3, 1) := by decide +kernel
theorem dX10_isToldAbove_48 : decode cX10_isToldAbove 48 = .ok (.getfield 149, 3) := by decide +kernel
theorem dX10_isToldAbove_51 : decode cX10_isToldAbove 51 = .ok (.getfield 114, 3) := by decide +kernel
theorem dX10_isToldAbove_54 : decode cX10_isToldAbove 54 = .ok (.ishr, 1) := by decide +kernel
theorem dX10_isToldAbove_55 : decode cX10_isToldAbove 55 = .ok (.iconst 1, 1) := by decide +kernel
theorem dX10_isToldAbove_56 : decode cX10_isToldAbove 56 = .ok (.iand, 1) := by decide +kernel
theorem dX10_isToldAbove_57 : decode cX10_isToldAbove 57 = .ok (.iconst 1, 1) := by decide +kernel
theorem dX10_isToldAbove_58 : decode cX10_isToldAbove 58 = .ok (.if_icmp .ne 22, 3) := by decide +kernel
theorem dX10_isToldAbove_61 : decode cX10_isToldAbove 61 = .ok (.aload_n 3, 1) := by decide +kernel
theorem dX10_isToldAbove_62 : decode cX10_isToldAbove 62 = .ok (.getfield 170, 3) := by decide +kernel
theorem dX10_isToldAbove_65 : decode cX10_isToldAbove 65 = .ok (.getfield 90, 3) := by decide +kernel
theorem dX10_isToldAbove_68 : decode cX10_isToldAbove 68 = .ok (.getfield 41, 3) := by decide +kernel
theorem dX10_isToldAbove_71 : decode cX10_isToldAbove 71 = .ok (.aload_n 2, 1) := by decide +kernel
theorem dX10_isToldAbove_72 : decode cX10_isToldAbove 72 = .ok (.getfield 41, 3) := by decide +kernel
theorem dX10_isToldAbove_75 : decode cX10_isToldAbove 75 = .ok (.if_icmp .ne 5, 3) := by decide +kernel
theorem dX10_isToldAbove_78 : decode cX10_isToldAbove 78 = .ok (.iconst 1, 1) := by decide +kernel
theorem dX10_isToldAbove_79 : decode cX10_isToldAbove 79 = .ok (.ireturn, 1) := by decide +kernel
theorem dX10_isToldAbove_80 : decode cX10_isToldAbove 80 = .ok (.aload_n 3, 1) := by decide +kernel
theorem dX10_isToldAbove_81 : decode cX10_isToldAbove 81 = .ok (.getfield 142, 3) := by decide +kernel
theorem dX10_isToldAbove_84 : decode cX10_isToldAbove 84 = .ok (.astore_n 3, 1) := by decide +kernel
theorem dX10_isToldAbove_85 : decode cX10_isToldAbove 85 = .ok (.goto (-55), 3) := by decide +kernel
theorem dX10_isToldAbove_88 : decode cX10_isToldAbove 88 = .ok (.iconst 0, 1) := by decide +kernel
theorem dX10_isToldAbove_89 : decode cX10_isToldAbove 89 = .ok (.ireturn, 1) := by decide +kernel
theorem dX10_wholeChain_0 : decode cX10_wholeChain 0 = .ok (.aload_n 1, 1) := by decide +kernel
theorem dX10_wholeChain_1 : decode cX10_wholeChain 1 = .ok (.invokestatic 173, 3) := by decide +kernel
theorem dX10_wholeChain_4 : decode cX10_wholeChain 4 = .ok (.ifCond .ne 5, 3) := by decide +kernel
theorem dX10_wholeChain_7 : decode cX10_wholeChain 7 = .ok (.iconst 0, 1) := by decide +kernel
theorem dX10_wholeChain_8 : decode cX10_wholeChain 8 = .ok (.ireturn, 1) := by decide +kernel
theorem dX10_wholeChain_9 : decode cX10_wholeChain 9 = .ok (.iconst 0, 1) := by decide +kernel
theorem dX10_wholeChain_10 : decode cX10_wholeChain 10 = .ok (.istore_n 2, 1) := by decide +kernel
theorem dX10_wholeChain_11 : decode cX10_wholeChain 11 = .ok (.aload_n 1, 1) := by decide +kernel
theorem dX10_wholeChain_12 : decode cX10_wholeChain 12 = .ok (.astore_n 3, 1) := by decide +kernel
theorem dX10_wholeChain_13 : decode cX10_wholeChain 13 = .ok (.aload_n 3, 1) := by decide +kernel
theorem dX10_wholeChain_14 : decode cX10_wholeChain 14 = .ok (.ifnull 22, 3) := by decide +kernel
theorem dX10_wholeChain_17 : decode cX10_wholeChain 17 = .ok (.iload_n 2, 1) := by decide +kernel
theorem dX10_wholeChain_18 : decode cX10_wholeChain 18 = .ok (.aload_n 0, 1) := by decide +kernel
theorem dX10_wholeChain_19 : decode cX10_wholeChain 19 = .ok (.getfield 53, 3) := by decide +kernel
theorem dX10_wholeChain_22 : decode cX10_wholeChain 22 = .ok (.if_icmp .ge 14, 3) := by decide +kernel
theorem dX10_wholeChain_25 : decode cX10_wholeChain 25 = .ok (.iinc 2 1, 3) := by decide +kernel
theorem dX10_wholeChain_28 : decode cX10_wholeChain 28 = .ok (.aload_n 3, 1) := by decide +kernel
theorem dX10_wholeChain_29 : decode cX10_wholeChain 29 = .ok (.getfield 101, 3) := by decide +kernel
theorem dX10_wholeChain_32 : decode cX10_wholeChain 32 = .ok (.astore_n 3, 1) := by decide +kernel
theorem dX10_wholeChain_33 : decode cX10_wholeChain 33 = .ok (.goto (-20), 3) := by decide +kernel
theorem dX10_wholeChain_36 : decode cX10_wholeChain 36 = .ok (.iload_n 2, 1) := by decide +kernel
theorem dX10_wholeChain_37 : decode cX10_wholeChain 37 = .ok (.ireturn, 1) := by decide +kernel
theorem dX10_chainSeen_0 : decode cX10_chainSeen 0 = .ok (.iconst 0, 1) := by decide +kernel
theorem dX10_chainSeen_1 : decode cX10_chainSeen 1 = .ok (.istore_n 3, 1) := by decide +kernel
theorem dX10_chainSeen_2 : decode cX10_chainSeen 2 = .ok (.aload_n 2, 1) := by decide +kernel
theorem dX10_chainSeen_3 : decode cX10_chainSeen 3 = .ok (.astore 4, 2) := by decide +kernel
theorem dX10_chainSeen_5 : decode cX10_chainSeen 5 = .ok (.aload 4, 2) := by decide +kernel
theorem dX10_chainSeen_7 : decode cX10_chainSeen 7 = .ok (.ifnull 26, 3) := by decide +kernel
theorem dX10_chainSeen_10 : decode cX10_chainSeen 10 = .ok (.iload_n 3, 1) := by decide +kernel
theorem dX10_chainSeen_11 : decode cX10_chainSeen 11 = .ok (.aload_n 0, 1) := by decide +kernel
theorem dX10_chainSeen_12 : decode cX10_chainSeen 12 = .ok (.getfield 53, 3) := by decide +kernel
theorem dX10_chainSeen_15 : decode cX10_chainSeen 15 = .ok (.if_icmp .ge 18, 3) := by decide +kernel
theorem dX10_chainSeen_18 : decode cX10_chainSeen 18 = .ok (.iinc 3 1, 3) := by decide +kernel
theorem dX10_chainSeen_21 : decode cX10_chainSeen 21 = .ok (.aload_n 0, 1) := by decide +kernel
theorem dX10_chainSeen_22 : decode cX10_chainSeen 22 = .ok (.aload_n 1, 1) := by decide +kernel
theorem dX10_chainSeen_23 : decode cX10_chainSeen 23 = .ok (.aload 4, 2) := by decide +kernel
theorem dX10_chainSeen_25 : decode cX10_chainSeen 25 = .ok (.invokevirtual 177, 3) := by decide +kernel
theorem dX10_chainSeen_28 : decode cX10_chainSeen 28 = .ok (.astore 4, 2) := by decide +kernel
theorem dX10_chainSeen_30 : decode cX10_chainSeen 30 = .ok (.goto (-25), 3) := by decide +kernel
theorem dX10_chainSeen_33 : decode cX10_chainSeen 33 = .ok (.iload_n 3, 1) := by decide +kernel
theorem dX10_chainSeen_34 : decode cX10_chainSeen 34 = .ok (.ireturn, 1) := by decide +kernel
theorem dX10_findShapes_0 : decode cX10_findShapes 0 = .ok (.aload_n 0, 1) := by decide +kernel
theorem dX10_findShapes_1 : decode cX10_findShapes 1 = .ok (.getfield 53, 3) := by decide +kernel
theorem dX10_findShapes_4 : decode cX10_findShapes 4 = .ok (.newarray .int, 2) := by decide +kernel
theorem dX10_findShapes_6 : decode cX10_findShapes 6 = .ok (.astore_n 1, 1) := by decide +kernel
theorem dX10_findShapes_7 : decode cX10_findShapes 7 = .ok (.aload_n 0, 1) := by decide +kernel
theorem dX10_findShapes_8 : decode cX10_findShapes 8 = .ok (.getfield 53, 3) := by decide +kernel
theorem dX10_findShapes_11 : decode cX10_findShapes 11 = .ok (.newarray .int, 2) := by decide +kernel
theorem dX10_findShapes_13 : decode cX10_findShapes 13 = .ok (.astore_n 2, 1) := by decide +kernel
theorem dX10_findShapes_14 : decode cX10_findShapes 14 = .ok (.aload_n 0, 1) := by decide +kernel
theorem dX10_findShapes_15 : decode cX10_findShapes 15 = .ok (.getfield 53, 3) := by decide +kernel
theorem dX10_findShapes_18 : decode cX10_findShapes 18 = .ok (.newarray .int, 2) := by decide +kernel
theorem dX10_findShapes_20 : decode cX10_findShapes 20 = .ok (.astore_n 3, 1) := by decide +kernel
theorem dX10_findShapes_21 : decode cX10_findShapes 21 = .ok (.aload_n 0, 1) := by decide +kernel
theorem dX10_findShapes_22 : decode cX10_findShapes 22 = .ok (.getfield 53, 3) := by decide +kernel
theorem dX10_findShapes_25 : decode cX10_findShapes 25 = .ok (.anewarray 33, 3) := by decide +kernel
theorem dX10_findShapes_28 : decode cX10_findShapes 28 = .ok (.astore 4, 2) := by decide +kernel
theorem dX10_findShapes_30 : decode cX10_findShapes 30 = .ok (.iconst 1, 1) := by decide +kernel
theorem dX10_findShapes_31 : decode cX10_findShapes 31 = .ok (.istore 5, 2) := by decide +kernel
theorem dX10_findShapes_33 : decode cX10_findShapes 33 = .ok (.iconst 1, 1) := by decide +kernel
theorem dX10_findShapes_34 : decode cX10_findShapes 34 = .ok (.istore 6, 2) := by decide +kernel
theorem dX10_findShapes_36 : decode cX10_findShapes 36 = .ok (.iconst 0, 1) := by decide +kernel
theorem dX10_findShapes_37 : decode cX10_findShapes 37 = .ok (.istore 7, 2) := by decide +kernel
theorem dX10_findShapes_39 : decode cX10_findShapes 39 = .ok (.iload 7, 2) := by decide +kernel
theorem dX10_findShapes_41 : decode cX10_findShapes 41 = .ok (.aload_n 0, 1) := by decide +kernel
theorem dX10_findShapes_42 : decode cX10_findShapes 42 = .ok (.getfield 53, 3) := by decide +kernel
theorem dX10_findShapes_45 : decode cX10_findShapes 45 = .ok (.if_icmp .gt 162, 3) := by decide +kernel
theorem dX10_findShapes_48 : decode cX10_findShapes 48 = .ok (.iload 6, 2) := by decide +kernel
theorem dX10_findShapes_50 : decode cX10_findShapes 50 = .ok (.ifCond .eq 157, 3) := by decide +kernel
theorem dX10_findShapes_53 : decode cX10_findShapes 53 = .ok (.aload_n 1, 1) := by decide +kernel
theorem dX10_findShapes_54 : decode cX10_findShapes 54 = .ok (.iconst (-1), 1) := by decide +kernel
theorem dX10_findShapes_55 : decode cX10_findShapes 55 = .ok (.invokestatic 180, 3) := by decide +kernel
theorem dX10_findShapes_58 : decode cX10_findShapes 58 = .ok (.iconst 0, 1) := by decide +kernel
theorem dX10_findShapes_59 : decode cX10_findShapes 59 = .ok (.istore 8, 2) := by decide +kernel
theorem dX10_findShapes_61 : decode cX10_findShapes 61 = .ok (.aload_n 0, 1) := by decide +kernel
theorem dX10_findShapes_62 : decode cX10_findShapes 62 = .ok (.getfield 47, 3) := by decide +kernel
theorem dX10_findShapes_65 : decode cX10_findShapes 65 = .ok (.astore 9, 2) := by decide +kernel
theorem dX10_findShapes_67 : decode cX10_findShapes 67 = .ok (.aload 9, 2) := by decide +kernel
theorem dX10_findShapes_69 : decode cX10_findShapes 69 = .ok (.ifnull 81, 3) := by decide +kernel
theorem dX10_findShapes_72 : decode cX10_findShapes 72 = .ok (.aload 9, 2) := by decide +kernel
theorem dX10_findShapes_74 : decode cX10_findShapes 74 = .ok (.invokestatic 186, 3) := by decide +kernel
theorem dX10_findShapes_77 : decode cX10_findShapes 77 = .ok (.ifCond .eq 63, 3) := by decide +kernel
theorem dX10_findShapes_80 : decode cX10_findShapes 80 = .ok (.aload 9, 2) := by decide +kernel
theorem dX10_findShapes_82 : decode cX10_findShapes 82 = .ok (.aload_n 1, 1) := by decide +kernel
theorem dX10_findShapes_83 : decode cX10_findShapes 83 = .ok (.aload_n 2, 1) := by decide +kernel
theorem dX10_findShapes_84 : decode cX10_findShapes 84 = .ok (.aload 4, 2) := by decide +kernel
theorem dX10_findShapes_86 : decode cX10_findShapes 86 = .ok (.invokestatic 189, 3) := by decide +kernel
theorem dX10_findShapes_89 : decode cX10_findShapes 89 = .ok (.istore 10, 2) := by decide +kernel
theorem dX10_findShapes_91 : decode cX10_findShapes 91 = .ok (.iload 10, 2) := by decide +kernel
theorem dX10_findShapes_93 : decode cX10_findShapes 93 = .ok (.iconst (-1), 1) := by decide +kernel
theorem dX10_findShapes_94 : decode cX10_findShapes 94 = .ok (.if_icmp .ne 37, 3) := by decide +kernel
theorem dX10_findShapes_97 : decode cX10_findShapes 97 = .ok (.iload 8, 2) := by decide +kernel
theorem dX10_findShapes_99 : decode cX10_findShapes 99 = .ok (.istore 10, 2) := by decide +kernel
theorem dX10_findShapes_101 : decode cX10_findShapes 101 = .ok (.iinc 8 1, 3) := by decide +kernel
theorem dX10_findShapes_104 : decode cX10_findShapes 104 = .ok (.aload 4, 2) := by decide +kernel
theorem dX10_findShapes_106 : decode cX10_findShapes 106 = .ok (.iload 10, 2) := by decide +kernel
theorem dX10_findShapes_108 : decode cX10_findShapes 108 = .ok (.aload 9, 2) := by decide +kernel
theorem dX10_findShapes_110 : decode cX10_findShapes 110 = .ok (.aastore, 1) := by decide +kernel
theorem dX10_findShapes_111 : decode cX10_findShapes 111 = .ok (.aload_n 2, 1) := by decide +kernel
theorem dX10_findShapes_112 : decode cX10_findShapes 112 = .ok (.iload 10, 2) := by decide +kernel
theorem dX10_findShapes_114 : decode cX10_findShapes 114 = .ok (.aload_n 1, 1) := by decide +kernel
theorem dX10_findShapes_115 : decode cX10_findShapes 115 = .ok (.aload 9, 2) := by decide +kernel
theorem dX10_findShapes_117 : decode cX10_findShapes 117 = .ok (.getfield 41, 3) := by decide +kernel
theorem dX10_findShapes_120 : decode cX10_findShapes 120 = .ok (.iaload, 1) := by decide +kernel
theorem dX10_findShapes_121 : decode cX10_findShapes 121 = .ok (.iastore, 1) := by decide +kernel
theorem dX10_findShapes_122 : decode cX10_findShapes 122 = .ok (.aload_n 1, 1) := by decide +kernel
theorem dX10_findShapes_123 : decode cX10_findShapes 123 = .ok (.aload 9, 2) := by decide +kernel
theorem dX10_findShapes_125 : decode cX10_findShapes 125 = .ok (.getfield 41, 3) := by decide +kernel
theorem dX10_findShapes_128 : decode cX10_findShapes 128 = .ok (.iload 10, 2) := by decide +kernel
theorem dX10_findShapes_130 : decode cX10_findShapes 130 = .ok (.iastore, 1) := by decide +kernel
theorem dX10_findShapes_131 : decode cX10_findShapes 131 = .ok (.aload_n 3, 1) := by decide +kernel
theorem dX10_findShapes_132 : decode cX10_findShapes 132 = .ok (.aload 9, 2) := by decide +kernel
theorem dX10_findShapes_134 : decode cX10_findShapes 134 = .ok (.getfield 132, 3) := by decide +kernel
theorem dX10_findShapes_137 : decode cX10_findShapes 137 = .ok (.iload 10, 2) := by decide +kernel
theorem dX10_findShapes_139 : decode cX10_findShapes 139 = .ok (.iastore, 1) := by decide +kernel
theorem dX10_findShapes_140 : decode cX10_findShapes 140 = .ok (.aload 9, 2) := by decide +kernel
theorem dX10_findShapes_142 : decode cX10_findShapes 142 = .ok (.getfield 93, 3) := by decide +kernel
theorem dX10_findShapes_145 : decode cX10_findShapes 145 = .ok (.astore 9, 2) := by decide +kernel
theorem dX10_findShapes_147 : decode cX10_findShapes 147 = .ok (.goto (-80), 3) := by decide +kernel
theorem dX10_findShapes_150 : decode cX10_findShapes 150 = .ok (.aload_n 0, 1) := by decide +kernel
theorem dX10_findShapes_151 : decode cX10_findShapes 151 = .ok (.getfield 47, 3) := by decide +kernel
theorem dX10_findShapes_154 : decode cX10_findShapes 154 = .ok (.astore 9, 2) := by decide +kernel
theorem dX10_findShapes_156 : decode cX10_findShapes 156 = .ok (.aload 9, 2) := by decide +kernel
theorem dX10_findShapes_158 : decode cX10_findShapes 158 = .ok (.ifnull 25, 3) := by decide +kernel
theorem dX10_findShapes_161 : decode cX10_findShapes 161 = .ok (.aload 9, 2) := by decide +kernel
theorem dX10_findShapes_163 : decode cX10_findShapes 163 = .ok (.aload_n 3, 1) := by decide +kernel
theorem dX10_findShapes_164 : decode cX10_findShapes 164 = .ok (.aload 9, 2) := by decide +kernel
theorem dX10_findShapes_166 : decode cX10_findShapes 166 = .ok (.getfield 132, 3) := by decide +kernel
theorem dX10_findShapes_169 : decode cX10_findShapes 169 = .ok (.iaload, 1) := by decide +kernel
theorem dX10_findShapes_170 : decode cX10_findShapes 170 = .ok (.putfield 41, 3) := by decide +kernel
theorem dX10_findShapes_173 : decode cX10_findShapes 173 = .ok (.aload 9, 2) := by decide +kernel
theorem dX10_findShapes_175 : decode cX10_findShapes 175 = .ok (.getfield 93, 3) := by decide +kernel
theorem dX10_findShapes_178 : decode cX10_findShapes 178 = .ok (.astore 9, 2) := by decide +kernel
theorem dX10_findShapes_180 : decode cX10_findShapes 180 = .ok (.goto (-24), 3) := by decide +kernel
theorem dX10_findShapes_183 : decode cX10_findShapes 183 = .ok (.iload 8, 2) := by decide +kernel
theorem dX10_findShapes_185 : decode cX10_findShapes 185 = .ok (.iload 5, 2) := by decide +kernel
theorem dX10_findShapes_187 : decode cX10_findShapes 187 = .ok (.if_icmp .le 7, 3) := by decide +kernel
theorem dX10_findShapes_190 : decode cX10_findShapes 190 = .ok (.iconst 1, 1) := by decide +kernel
theorem dX10_findShapes_191 : decode cX10_findShapes 191 = .ok (.goto 4, 3) := by decide +kernel
theorem dX10_findShapes_194 : decode cX10_findShapes 194 = .ok (.iconst 0, 1) := by decide +kernel
theorem dX10_findShapes_195 : decode cX10_findShapes 195 = .ok (.istore 6, 2) := by decide +kernel
theorem dX10_findShapes_197 : decode cX10_findShapes 197 = .ok (.iload 8, 2) := by decide +kernel
theorem dX10_findShapes_199 : decode cX10_findShapes 199 = .ok (.istore 5, 2) := by decide +kernel
theorem dX10_findShapes_201 : decode cX10_findShapes 201 = .ok (.iinc 7 1, 3) := by decide +kernel
theorem dX10_findShapes_204 : decode cX10_findShapes 204 = .ok (.goto (-165), 3) := by decide +kernel
theorem dX10_findShapes_207 : decode cX10_findShapes 207 = .ok (.aload_n 0, 1) := by decide +kernel
theorem dX10_findShapes_208 : decode cX10_findShapes 208 = .ok (.iload 5, 2) := by decide +kernel
theorem dX10_findShapes_210 : decode cX10_findShapes 210 = .ok (.newarray .int, 2) := by decide +kernel
theorem dX10_findShapes_212 : decode cX10_findShapes 212 = .ok (.putfield 193, 3) := by decide +kernel
theorem dX10_findShapes_215 : decode cX10_findShapes 215 = .ok (.aload_n 0, 1) := by decide +kernel
theorem dX10_findShapes_216 : decode cX10_findShapes 216 = .ok (.getfield 193, 3) := by decide +kernel
theorem dX10_findShapes_219 : decode cX10_findShapes 219 = .ok (.iconst (-1), 1) := by decide +kernel
theorem dX10_findShapes_220 : decode cX10_findShapes 220 = .ok (.invokestatic 180, 3) := by decide +kernel
theorem dX10_findShapes_223 : decode cX10_findShapes 223 = .ok (.aload_n 0, 1) := by decide +kernel
theorem dX10_findShapes_224 : decode cX10_findShapes 224 = .ok (.getfield 74, 3) := by decide +kernel
theorem dX10_findShapes_227 : decode cX10_findShapes 227 = .ok (.arraylength, 1) := by decide +kernel
theorem dX10_findShapes_228 : decode cX10_findShapes 228 = .ok (.iconst 1, 1) := by decide +kernel
theorem dX10_findShapes_229 : decode cX10_findShapes 229 = .ok (.isub, 1) := by decide +kernel
theorem dX10_findShapes_230 : decode cX10_findShapes 230 = .ok (.istore 7, 2) := by decide +kernel
theorem dX10_findShapes_232 : decode cX10_findShapes 232 = .ok (.iload 7, 2) := by decide +kernel
theorem dX10_findShapes_234 : decode cX10_findShapes 234 = .ok (.ifCond .lt 32, 3) := by decide +kernel
theorem dX10_findShapes_237 : decode cX10_findShapes 237 = .ok (.aload_n 0, 1) := by decide +kernel
theorem dX10_findShapes_238 : decode cX10_findShapes 238 = .ok (.getfield 193, 3) := by decide +kernel
theorem dX10_findShapes_241 : decode cX10_findShapes 241 = .ok (.aload_n 0, 1) := by decide +kernel
theorem dX10_findShapes_242 : decode cX10_findShapes 242 = .ok (.getfield 74, 3) := by decide +kernel
theorem dX10_findShapes_245 : decode cX10_findShapes 245 = .ok (.iload 7, 2) := by decide +kernel
theorem dX10_findShapes_247 : decode cX10_findShapes 247 = .ok (.aaload, 1) := by decide +kernel
theorem dX10_findShapes_248 : decode cX10_findShapes 248 = .ok (.getfield 129, 3) := by decide +kernel
theorem dX10_findShapes_251 : decode cX10_findShapes 251 = .ok (.getfield 90, 3) := by decide +kernel
theorem dX10_findShapes_254 : decode cX10_findShapes 254 = .ok (.getfield 41, 3) := by decide +kernel
theorem dX10_findShapes_257 : decode cX10_findShapes 257 = .ok (.iload 7, 2) := by decide +kernel
theorem dX10_findShapes_259 : decode cX10_findShapes 259 = .ok (.iastore, 1) := by decide +kernel
theorem dX10_findShapes_260 : decode cX10_findShapes 260 = .ok (.iinc 7 (-1), 3) := by decide +kernel
theorem dX10_findShapes_263 : decode cX10_findShapes 263 = .ok (.goto (-31), 3) := by decide +kernel
theorem dX10_findShapes_266 : decode cX10_findShapes 266 = .ok (.return_, 1) := by decide +kernel
theorem dX10_isOwnType_0 : decode cX10_isOwnType 0 = .ok (.aload_n 0, 1) := by decide +kernel
theorem dX10_isOwnType_1 : decode cX10_isOwnType 1 = .ok (.getfield 90, 3) := by decide +kernel
theorem dX10_isOwnType_4 : decode cX10_isOwnType 4 = .ok (.aload_n 0, 1) := by decide +kernel
theorem dX10_isOwnType_5 : decode cX10_isOwnType 5 = .ok (.if_acmp .ne 23, 3) := by decide +kernel
theorem dX10_isOwnType_8 : decode cX10_isOwnType 8 = .ok (.aload_n 0, 1) := by decide +kernel
theorem dX10_isOwnType_9 : decode cX10_isOwnType 9 = .ok (.getfield 119, 3) := by decide +kernel
theorem dX10_isOwnType_12 : decode cX10_isOwnType 12 = .ok (.bipush 11, 2) := by decide +kernel
theorem dX10_isOwnType_14 : decode cX10_isOwnType 14 = .ok (.if_icmp .ne 10, 3) := by decide +kernel
theorem dX10_isOwnType_17 : decode cX10_isOwnType 17 = .ok (.aload_n 0, 1) := by decide +kernel
theorem dX10_isOwnType_18 : decode cX10_isOwnType 18 = .ok (.getfield 139, 3) := by decide +kernel
theorem dX10_isOwnType_21 : decode cX10_isOwnType 21 = .ok (.ifnonnull 7, 3) := by decide +kernel
theorem dX10_isOwnType_24 : decode cX10_isOwnType 24 = .ok (.iconst 1, 1) := by decide +kernel
theorem dX10_isOwnType_25 : decode cX10_isOwnType 25 = .ok (.goto 4, 3) := by decide +kernel
theorem dX10_isOwnType_28 : decode cX10_isOwnType 28 = .ok (.iconst 0, 1) := by decide +kernel
theorem dX10_isOwnType_29 : decode cX10_isOwnType 29 = .ok (.ireturn, 1) := by decide +kernel
theorem dX10_modelOf_0 : decode cX10_modelOf 0 = .ok (.aload_n 1, 1) := by decide +kernel
theorem dX10_modelOf_1 : decode cX10_modelOf 1 = .ok (.aload_n 0, 1) := by decide +kernel
theorem dX10_modelOf_2 : decode cX10_modelOf 2 = .ok (.getfield 41, 3) := by decide +kernel
theorem dX10_modelOf_5 : decode cX10_modelOf 5 = .ok (.iaload, 1) := by decide +kernel
theorem dX10_modelOf_6 : decode cX10_modelOf 6 = .ok (.istore 4, 2) := by decide +kernel
theorem dX10_modelOf_8 : decode cX10_modelOf 8 = .ok (.iconst 0, 1) := by decide +kernel
theorem dX10_modelOf_9 : decode cX10_modelOf 9 = .ok (.istore 5, 2) := by decide +kernel
theorem dX10_modelOf_11 : decode cX10_modelOf 11 = .ok (.iload 5, 2) := by decide +kernel
theorem dX10_modelOf_13 : decode cX10_modelOf 13 = .ok (.aload_n 3, 1) := by decide +kernel
theorem dX10_modelOf_14 : decode cX10_modelOf 14 = .ok (.arraylength, 1) := by decide +kernel
theorem dX10_modelOf_15 : decode cX10_modelOf 15 = .ok (.if_icmp .ge 32, 3) := by decide +kernel
theorem dX10_modelOf_18 : decode cX10_modelOf 18 = .ok (.iload 4, 2) := by decide +kernel
theorem dX10_modelOf_20 : decode cX10_modelOf 20 = .ok (.iconst (-1), 1) := by decide +kernel
theorem dX10_modelOf_21 : decode cX10_modelOf 21 = .ok (.if_icmp .eq 26, 3) := by decide +kernel
theorem dX10_modelOf_24 : decode cX10_modelOf 24 = .ok (.aload_n 3, 1) := by decide +kernel
theorem dX10_modelOf_25 : decode cX10_modelOf 25 = .ok (.iload 4, 2) := by decide +kernel
theorem dX10_modelOf_27 : decode cX10_modelOf 27 = .ok (.aaload, 1) := by decide +kernel
theorem dX10_modelOf_28 : decode cX10_modelOf 28 = .ok (.aload_n 0, 1) := by decide +kernel
theorem dX10_modelOf_29 : decode cX10_modelOf 29 = .ok (.invokestatic 197, 3) := by decide +kernel
theorem dX10_modelOf_32 : decode cX10_modelOf 32 = .ok (.ifCond .ne 15, 3) := by decide +kernel
theorem dX10_modelOf_35 : decode cX10_modelOf 35 = .ok (.aload_n 2, 1) := by decide +kernel
theorem dX10_modelOf_36 : decode cX10_modelOf 36 = .ok (.iload 4, 2) := by decide +kernel
theorem dX10_modelOf_38 : decode cX10_modelOf 38 = .ok (.iaload, 1) := by decide +kernel
theorem dX10_modelOf_39 : decode cX10_modelOf 39 = .ok (.istore 4, 2) := by decide +kernel
theorem dX10_modelOf_41 : decode cX10_modelOf 41 = .ok (.iinc 5 1, 3) := by decide +kernel
theorem dX10_modelOf_44 : decode cX10_modelOf 44 = .ok (.goto (-33), 3) := by decide +kernel
theorem dX10_modelOf_47 : decode cX10_modelOf 47 = .ok (.iload 4, 2) := by decide +kernel
theorem dX10_modelOf_49 : decode cX10_modelOf 49 = .ok (.ireturn, 1) := by decide +kernel
theorem dX10_isLike_0 : decode cX10_isLike 0 = .ok (.aload_n 0, 1) := by decide +kernel
theorem dX10_isLike_1 : decode cX10_isLike 1 = .ok (.aload_n 1, 1) := by decide +kernel
theorem dX10_isLike_2 : decode cX10_isLike 2 = .ok (.if_acmp .ne 5, 3) := by decide +kernel
theorem dX10_isLike_5 : decode cX10_isLike 5 = .ok (.iconst 1, 1) := by decide +kernel
theorem dX10_isLike_6 : decode cX10_isLike 6 = .ok (.ireturn, 1) := by decide +kernel
theorem dX10_isLike_7 : decode cX10_isLike 7 = .ok (.aload_n 0, 1) := by decide +kernel
theorem dX10_isLike_8 : decode cX10_isLike 8 = .ok (.getfield 119, 3) := by decide +kernel
theorem dX10_isLike_11 : decode cX10_isLike 11 = .ok (.aload_n 1, 1) := by decide +kernel
theorem dX10_isLike_12 : decode cX10_isLike 12 = .ok (.getfield 119, 3) := by decide +kernel
theorem dX10_isLike_15 : decode cX10_isLike 15 = .ok (.if_icmp .ne 43, 3) := by decide +kernel
theorem dX10_isLike_18 : decode cX10_isLike 18 = .ok (.aload_n 0, 1) := by decide +kernel
theorem dX10_isLike_19 : decode cX10_isLike 19 = .ok (.getfield 119, 3) := by decide +kernel
theorem dX10_isLike_22 : decode cX10_isLike 22 = .ok (.bipush 12, 2) := by decide +kernel
theorem dX10_isLike_24 : decode cX10_isLike 24 = .ok (.if_icmp .eq 34, 3) := by decide +kernel
theorem dX10_isLike_27 : decode cX10_isLike 27 = .ok (.aload_n 0, 1) := by decide +kernel
theorem dX10_isLike_28 : decode cX10_isLike 28 = .ok (.getfield 119, 3) := by decide +kernel
theorem dX10_isLike_31 : decode cX10_isLike 31 = .ok (.bipush 13, 2) := by decide +kernel
theorem dX10_isLike_33 : decode cX10_isLike 33 = .ok (.if_icmp .eq 25, 3) := by decide +kernel
theorem dX10_isLike_36 : decode cX10_isLike 36 = .ok (.aload_n 0, 1) := by decide +kernel
theorem dX10_isLike_37 : decode cX10_isLike 37 = .ok (.getfield 201, 3) := by decide +kernel
theorem dX10_isLike_40 : decode cX10_isLike 40 = .ok (.aload_n 1, 1) := by decide +kernel
theorem dX10_isLike_41 : decode cX10_isLike 41 = .ok (.getfield 201, 3) := by decide +kernel
theorem dX10_isLike_44 : decode cX10_isLike 44 = .ok (.if_icmp .ne 14, 3) := by decide +kernel
theorem dX10_isLike_47 : decode cX10_isLike 47 = .ok (.aload_n 0, 1) := by decide +kernel
theorem dX10_isLike_48 : decode cX10_isLike 48 = .ok (.getfield 204, 3) := by decide +kernel
theorem dX10_isLike_51 : decode cX10_isLike 51 = .ok (.aload_n 1, 1) := by decide +kernel
theorem dX10_isLike_52 : decode cX10_isLike 52 = .ok (.getfield 204, 3) := by decide +kernel
theorem dX10_isLike_55 : decode cX10_isLike 55 = .ok (.if_icmp .eq 5, 3) := by decide +kernel
theorem dX10_isLike_58 : decode cX10_isLike 58 = .ok (.iconst 0, 1) := by decide +kernel
theorem dX10_isLike_59 : decode cX10_isLike 59 = .ok (.ireturn, 1) := by decide +kernel
theorem dX10_isLike_60 : decode cX10_isLike 60 = .ok (.aload_n 0, 1) := by decide +kernel
theorem dX10_isLike_61 : decode cX10_isLike 61 = .ok (.aload_n 1, 1) := by decide +kernel
theorem dX10_isLike_62 : decode cX10_isLike 62 = .ok (.invokestatic 207, 3) := by decide +kernel
theorem dX10_isLike_65 : decode cX10_isLike 65 = .ok (.ifCond .ne 5, 3) := by decide +kernel
theorem dX10_isLike_68 : decode cX10_isLike 68 = .ok (.iconst 0, 1) := by decide +kernel
theorem dX10_isLike_69 : decode cX10_isLike 69 = .ok (.ireturn, 1) := by decide +kernel
theorem dX10_isLike_70 : decode cX10_isLike 70 = .ok (.aload_n 0, 1) := by decide +kernel
theorem dX10_isLike_71 : decode cX10_isLike 71 = .ok (.getfield 210, 3) := by decide +kernel
theorem dX10_isLike_74 : decode cX10_isLike 74 = .ok (.astore_n 2, 1) := by decide +kernel
theorem dX10_isLike_75 : decode cX10_isLike 75 = .ok (.aload_n 1, 1) := by decide +kernel
theorem dX10_isLike_76 : decode cX10_isLike 76 = .ok (.getfield 210, 3) := by decide +kernel
theorem dX10_isLike_79 : decode cX10_isLike 79 = .ok (.astore_n 3, 1) := by decide +kernel
theorem dX10_isLike_80 : decode cX10_isLike 80 = .ok (.aload_n 2, 1) := by decide +kernel
theorem dX10_isLike_81 : decode cX10_isLike 81 = .ok (.ifnull 101, 3) := by decide +kernel
theorem dX10_isLike_84 : decode cX10_isLike 84 = .ok (.aload_n 3, 1) := by decide +kernel
theorem dX10_isLike_85 : decode cX10_isLike 85 = .ok (.ifnull 97, 3) := by decide +kernel
theorem dX10_isLike_88 : decode cX10_isLike 88 = .ok (.aload_n 2, 1) := by decide +kernel
theorem dX10_isLike_89 : decode cX10_isLike 89 = .ok (.getfield 64, 3) := by decide +kernel
theorem dX10_isLike_92 : decode cX10_isLike 92 = .ok (.aload_n 3, 1) := by decide +kernel
theorem dX10_isLike_93 : decode cX10_isLike 93 = .ok (.getfield 64, 3) := by decide +kernel
theorem dX10_isLike_96 : decode cX10_isLike 96 = .ok (.if_icmp .ne 86, 3) := by decide +kernel
theorem dX10_isLike_99 : decode cX10_isLike 99 = .ok (.aload_n 2, 1) := by decide +kernel
theorem dX10_isLike_100 : decode cX10_isLike 100 = .ok (.getfield 64, 3) := by decide +kernel
theorem dX10_isLike_103 : decode cX10_isLike 103 = .ok (.bipush 12, 2) := by decide +kernel
theorem dX10_isLike_105 : decode cX10_isLike 105 = .ok (.if_icmp .eq 77, 3) := by decide +kernel
theorem dX10_isLike_108 : decode cX10_isLike 108 = .ok (.aload_n 0, 1) := by decide +kernel
theorem dX10_isLike_109 : decode cX10_isLike 109 = .ok (.getfield 119, 3) := by decide +kernel
theorem dX10_isLike_112 : decode cX10_isLike 112 = .ok (.bipush 6, 2) := by decide +kernel
theorem dX10_isLike_114 : decode cX10_isLike 114 = .ok (.if_icmp .eq 16, 3) := by decide +kernel
theorem dX10_isLike_117 : decode cX10_isLike 117 = .ok (.aload_n 2, 1) := by decide +kernel
theorem dX10_isLike_118 : decode cX10_isLike 118 = .ok (.getfield 213, 3) := by decide +kernel
theorem dX10_isLike_121 : decode cX10_isLike 121 = .ok (.aload_n 3, 1) := by decide +kernel
theorem dX10_isLike_122 : decode cX10_isLike 122 = .ok (.getfield 213, 3) := by decide +kernel
theorem dX10_isLike_125 : decode cX10_isLike 125 = .ok (.if_icmp .eq 5, 3) := by decide +kernel
theorem dX10_isLike_128 : decode cX10_isLike 128 = .ok (.iconst 0, 1) := by decide +kernel
theorem dX10_isLike_129 : decode cX10_isLike 129 = .ok (.ireturn, 1) := by decide +kernel
theorem dX10_isLike_130 : decode cX10_isLike 130 = .ok (.aload_n 2, 1) := by decide +kernel
theorem dX10_isLike_131 : decode cX10_isLike 131 = .ok (.getfield 129, 3) := by decide +kernel
theorem dX10_isLike_134 : decode cX10_isLike 134 = .ok (.getfield 90, 3) := by decide +kernel
theorem dX10_isLike_137 : decode cX10_isLike 137 = .ok (.getfield 41, 3) := by decide +kernel
theorem dX10_isLike_140 : decode cX10_isLike 140 = .ok (.aload_n 3, 1) := by decide +kernel
theorem dX10_isLike_141 : decode cX10_isLike 141 = .ok (.getfield 129, 3) := by decide +kernel
theorem dX10_isLike_144 : decode cX10_isLike 144 = .ok (.getfield 90, 3) := by decide +kernel
theorem dX10_isLike_147 : decode cX10_isLike 147 = .ok (.getfield 41, 3) := by decide +kernel
theorem dX10_isLike_150 : decode cX10_isLike 150 = .ok (.if_icmp .ne 17, 3) := by decide +kernel
theorem dX10_isLike_153 : decode cX10_isLike 153 = .ok (.aload_n 2, 1) := by decide +kernel
theorem dX10_isLike_154 : decode cX10_isLike 154 = .ok (.getfield 145, 3) := by decide +kernel
theorem dX10_isLike_157 : decode cX10_isLike 157 = .ok (.aload_n 3, 1) := by decide +kernel
theorem dX10_isLike_158 : decode cX10_isLike 158 = .ok (.getfield 145, 3) := by decide +kernel
theorem dX10_isLike_161 : decode cX10_isLike 161 = .ok (.invokestatic 216, 3) := by decide +kernel
theorem dX10_isLike_164 : decode cX10_isLike 164 = .ok (.ifCond .ne 5, 3) := by decide +kernel
theorem dX10_isLike_167 : decode cX10_isLike 167 = .ok (.iconst 0, 1) := by decide +kernel
theorem dX10_isLike_168 : decode cX10_isLike 168 = .ok (.ireturn, 1) := by decide +kernel
theorem dX10_isLike_169 : decode cX10_isLike 169 = .ok (.aload_n 3, 1) := by decide +kernel
theorem dX10_isLike_170 : decode cX10_isLike 170 = .ok (.getfield 67, 3) := by decide +kernel
theorem dX10_isLike_173 : decode cX10_isLike 173 = .ok (.astore_n 3, 1) := by decide +kernel
theorem dX10_isLike_174 : decode cX10_isLike 174 = .ok (.aload_n 2, 1) := by decide +kernel
theorem dX10_isLike_175 : decode cX10_isLike 175 = .ok (.getfield 67, 3) := by decide +kernel
theorem dX10_isLike_178 : decode cX10_isLike 178 = .ok (.astore_n 2, 1) := by decide +kernel
theorem dX10_isLike_179 : decode cX10_isLike 179 = .ok (.goto (-99), 3) := by decide +kernel
theorem dX10_isLike_182 : decode cX10_isLike 182 = .ok (.aload_n 2, 1) := by decide +kernel
theorem dX10_isLike_183 : decode cX10_isLike 183 = .ok (.ifnull 12, 3) := by decide +kernel
theorem dX10_isLike_186 : decode cX10_isLike 186 = .ok (.aload_n 2, 1) := by decide +kernel
theorem dX10_isLike_187 : decode cX10_isLike 187 = .ok (.getfield 64, 3) := by decide +kernel
theorem dX10_isLike_190 : decode cX10_isLike 190 = .ok (.bipush 12, 2) := by decide +kernel
theorem dX10_isLike_192 : decode cX10_isLike 192 = .ok (.if_icmp .ne 16, 3) := by decide +kernel
theorem dX10_isLike_195 : decode cX10_isLike 195 = .ok (.aload_n 3, 1) := by decide +kernel
theorem dX10_isLike_196 : decode cX10_isLike 196 = .ok (.ifnull 14, 3) := by decide +kernel
theorem dX10_isLike_199 : decode cX10_isLike 199 = .ok (.aload_n 3, 1) := by decide +kernel
theorem dX10_isLike_200 : decode cX10_isLike 200 = .ok (.getfield 64, 3) := by decide +kernel
theorem dX10_isLike_203 : decode cX10_isLike 203 = .ok (.bipush 12, 2) := by decide +kernel
theorem dX10_isLike_205 : decode cX10_isLike 205 = .ok (.if_icmp .eq 5, 3) := by decide +kernel
theorem dX10_isLike_208 : decode cX10_isLike 208 = .ok (.iconst 0, 1) := by decide +kernel
theorem dX10_isLike_209 : decode cX10_isLike 209 = .ok (.ireturn, 1) := by decide +kernel
theorem dX10_isLike_210 : decode cX10_isLike 210 = .ok (.aload_n 2, 1) := by decide +kernel
theorem dX10_isLike_211 : decode cX10_isLike 211 = .ok (.aload_n 3, 1) := by decide +kernel
theorem dX10_isLike_212 : decode cX10_isLike 212 = .ok (.invokestatic 220, 3) := by decide +kernel
theorem dX10_isLike_215 : decode cX10_isLike 215 = .ok (.ifCond .eq 43, 3) := by decide +kernel
theorem dX10_isLike_218 : decode cX10_isLike 218 = .ok (.aload_n 3, 1) := by decide +kernel
theorem dX10_isLike_219 : decode cX10_isLike 219 = .ok (.aload_n 2, 1) := by decide +kernel
theorem dX10_isLike_220 : decode cX10_isLike 220 = .ok (.invokestatic 220, 3) := by decide +kernel
theorem dX10_isLike_223 : decode cX10_isLike 223 = .ok (.ifCond .eq 35, 3) := by decide +kernel
theorem dX10_isLike_226 : decode cX10_isLike 226 = .ok (.aload_n 0, 1) := by decide +kernel
theorem dX10_isLike_227 : decode cX10_isLike 227 = .ok (.getfield 224, 3) := by decide +kernel
theorem dX10_isLike_230 : decode cX10_isLike 230 = .ok (.aload_n 1, 1) := by decide +kernel
theorem dX10_isLike_231 : decode cX10_isLike 231 = .ok (.getfield 224, 3) := by decide +kernel
theorem dX10_isLike_234 : decode cX10_isLike 234 = .ok (.invokestatic 227, 3) := by decide +kernel
theorem dX10_isLike_237 : decode cX10_isLike 237 = .ok (.ifCond .eq 21, 3) := by decide +kernel
theorem dX10_isLike_240 : decode cX10_isLike 240 = .ok (.aload_n 1, 1) := by decide +kernel
theorem dX10_isLike_241 : decode cX10_isLike 241 = .ok (.getfield 224, 3) := by decide +kernel
theorem dX10_isLike_244 : decode cX10_isLike 244 = .ok (.aload_n 0, 1) := by decide +kernel
theorem dX10_isLike_245 : decode cX10_isLike 245 = .ok (.getfield 224, 3) := by decide +kernel
theorem dX10_isLike_248 : decode cX10_isLike 248 = .ok (.invokestatic 227, 3) := by decide +kernel
theorem dX10_isLike_251 : decode cX10_isLike 251 = .ok (.ifCond .eq 7, 3) := by decide +kernel
theorem dX10_isLike_254 : decode cX10_isLike 254 = .ok (.iconst 1, 1) := by decide +kernel
theorem dX10_isLike_255 : decode cX10_isLike 255 = .ok (.goto 4, 3) := by decide +kernel
theorem dX10_isLike_258 : decode cX10_isLike 258 = .ok (.iconst 0, 1) := by decide +kernel
theorem dX10_isLike_259 : decode cX10_isLike 259 = .ok (.ireturn, 1) := by decide +kernel
theorem dX10_isSameElem_0 : decode cX10_isSameElem 0 = .ok (.aload_n 0, 1) := by decide +kernel
theorem dX10_isSameElem_1 : decode cX10_isSameElem 1 = .ok (.getfield 156, 3) := by decide +kernel
theorem dX10_isSameElem_4 : decode cX10_isSameElem 4 = .ok (.ifnull 10, 3) := by decide +kernel
theorem dX10_isSameElem_7 : decode cX10_isSameElem 7 = .ok (.aload_n 1, 1) := by decide +kernel
theorem dX10_isSameElem_8 : decode cX10_isSameElem 8 = .ok (.getfield 156, 3) := by decide +kernel
theorem dX10_isSameElem_11 : decode cX10_isSameElem 11 = .ok (.ifnonnull 20, 3) := by decide +kernel
theorem dX10_isSameElem_14 : decode cX10_isSameElem 14 = .ok (.aload_n 0, 1) := by decide +kernel
theorem dX10_isSameElem_15 : decode cX10_isSameElem 15 = .ok (.getfield 156, 3) := by decide +kernel
theorem dX10_isSameElem_18 : decode cX10_isSameElem 18 = .ok (.aload_n 1, 1) := by decide +kernel
theorem dX10_isSameElem_19 : decode cX10_isSameElem 19 = .ok (.getfield 156, 3) := by decide +kernel
theorem dX10_isSameElem_22 : decode cX10_isSameElem 22 = .ok (.if_acmp .ne 7, 3) := by decide +kernel
theorem dX10_isSameElem_25 : decode cX10_isSameElem 25 = .ok (.iconst 1, 1) := by decide +kernel
theorem dX10_isSameElem_26 : decode cX10_isSameElem 26 = .ok (.goto 4, 3) := by decide +kernel
theorem dX10_isSameElem_29 : decode cX10_isSameElem 29 = .ok (.iconst 0, 1) := by decide +kernel
theorem dX10_isSameElem_30 : decode cX10_isSameElem 30 = .ok (.ireturn, 1) := by decide +kernel
theorem dX10_isSameElem_31 : decode cX10_isSameElem 31 = .ok (.aload_n 0, 1) := by decide +kernel
theorem dX10_isSameElem_32 : decode cX10_isSameElem 32 = .ok (.getfield 156, 3) := by decide +kernel
theorem dX10_isSameElem_35 : decode cX10_isSameElem 35 = .ok (.getfield 90, 3) := by decide +kernel
theorem dX10_isSameElem_38 : decode cX10_isSameElem 38 = .ok (.getfield 41, 3) := by decide +kernel
theorem dX10_isSameElem_41 : decode cX10_isSameElem 41 = .ok (.aload_n 1, 1) := by decide +kernel
theorem dX10_isSameElem_42 : decode cX10_isSameElem 42 = .ok (.getfield 156, 3) := by decide +kernel
theorem dX10_isSameElem_45 : decode cX10_isSameElem 45 = .ok (.getfield 90, 3) := by decide +kernel
theorem dX10_isSameElem_48 : decode cX10_isSameElem 48 = .ok (.getfield 41, 3) := by decide +kernel
theorem dX10_isSameElem_51 : decode cX10_isSameElem 51 = .ok (.if_icmp .ne 7, 3) := by decide +kernel
theorem dX10_isSameElem_54 : decode cX10_isSameElem 54 = .ok (.iconst 1, 1) := by decide +kernel
theorem dX10_isSameElem_55 : decode cX10_isSameElem 55 = .ok (.goto 4, 3) := by decide +kernel
theorem dX10_isSameElem_58 : decode cX10_isSameElem 58 = .ok (.iconst 0, 1) := by decide +kernel
theorem dX10_isSameElem_59 : decode cX10_isSameElem 59 = .ok (.ireturn, 1) := by decide +kernel
theorem dX10_isSameProcedure_0 : decode cX10_isSameProcedure 0 = .ok (.aload_n 0, 1) := by decide +kernel
theorem dX10_isSameProcedure_1 : decode cX10_isSameProcedure 1 = .ok (.ifnull 7, 3) := by decide +kernel
theorem dX10_isSameProcedure_4 : decode cX10_isSameProcedure 4 = .ok (.aload_n 1, 1) := by decide +kernel
theorem dX10_isSameProcedure_5 : decode cX10_isSameProcedure 5 = .ok (.ifnonnull 14, 3) := by decide +kernel
theorem dX10_isSameProcedure_8 : decode cX10_isSameProcedure 8 = .ok (.aload_n 0, 1) := by decide +kernel
theorem dX10_isSameProcedure_9 : decode cX10_isSameProcedure 9 = .ok (.aload_n 1, 1) := by decide +kernel
theorem dX10_isSameProcedure_10 : decode cX10_isSameProcedure 10 = .ok (.if_acmp .ne 7, 3) := by decide +kernel
theorem dX10_isSameProcedure_13 : decode cX10_isSameProcedure 13 = .ok (.iconst 1, 1) := by decide +kernel
theorem dX10_isSameProcedure_14 : decode cX10_isSameProcedure 14 = .ok (.goto 4, 3) := by decide +kernel
theorem dX10_isSameProcedure_17 : decode cX10_isSameProcedure 17 = .ok (.iconst 0, 1) := by decide +kernel
theorem dX10_isSameProcedure_18 : decode cX10_isSameProcedure 18 = .ok (.ireturn, 1) := by decide +kernel
theorem dX10_isSameProcedure_19 : decode cX10_isSameProcedure 19 = .ok (.aload_n 0, 1) := by decide +kernel
theorem dX10_isSameProcedure_20 : decode cX10_isSameProcedure 20 = .ok (.getfield 124, 3) := by decide +kernel
theorem dX10_isSameProcedure_23 : decode cX10_isSameProcedure 23 = .ok (.getfield 114, 3) := by decide +kernel
theorem dX10_isSameProcedure_26 : decode cX10_isSameProcedure 26 = .ok (.aload_n 1, 1) := by decide +kernel
theorem dX10_isSameProcedure_27 : decode cX10_isSameProcedure 27 = .ok (.getfield 124, 3) := by decide +kernel
theorem dX10_isSameProcedure_30 : decode cX10_isSameProcedure 30 = .ok (.getfield 114, 3) := by decide +kernel
theorem dX10_isSameProcedure_33 : decode cX10_isSameProcedure 33 = .ok (.if_icmp .ne 7, 3) := by decide +kernel
theorem dX10_isSameProcedure_36 : decode cX10_isSameProcedure 36 = .ok (.iconst 1, 1) := by decide +kernel
theorem dX10_isSameProcedure_37 : decode cX10_isSameProcedure 37 = .ok (.goto 4, 3) := by decide +kernel
theorem dX10_isSameProcedure_40 : decode cX10_isSameProcedure 40 = .ok (.iconst 0, 1) := by decide +kernel
theorem dX10_isSameProcedure_41 : decode cX10_isSameProcedure 41 = .ok (.ireturn, 1) := by decide +kernel
theorem dX10_hasOverrides_0 : decode cX10_hasOverrides 0 = .ok (.aload_n 0, 1) := by decide +kernel
theorem dX10_hasOverrides_1 : decode cX10_hasOverrides 1 = .ok (.astore_n 2, 1) := by decide +kernel
theorem dX10_hasOverrides_2 : decode cX10_hasOverrides 2 = .ok (.aload_n 2, 1) := by decide +kernel
theorem dX10_hasOverrides_3 : decode cX10_hasOverrides 3 = .ok (.ifnull 56, 3) := by decide +kernel
theorem dX10_hasOverrides_6 : decode cX10_hasOverrides 6 = .ok (.aload_n 1, 1) := by decide +kernel
theorem dX10_hasOverrides_7 : decode cX10_hasOverrides 7 = .ok (.astore_n 3, 1) := by decide +kernel
theorem dX10_hasOverrides_8 : decode cX10_hasOverrides 8 = .ok (.aload_n 3, 1) := by decide +kernel
theorem dX10_hasOverrides_9 : decode cX10_hasOverrides 9 = .ok (.ifnull 36, 3) := by decide +kernel
theorem dX10_hasOverrides_12 : decode cX10_hasOverrides 12 = .ok (.aload_n 3, 1) := by decide +kernel
theorem dX10_hasOverrides_13 : decode cX10_hasOverrides 13 = .ok (.getfield 213, 3) := by decide +kernel
theorem dX10_hasOverrides_16 : decode cX10_hasOverrides 16 = .ok (.aload_n 2, 1) := by decide +kernel
theorem dX10_hasOverrides_17 : decode cX10_hasOverrides 17 = .ok (.getfield 213, 3) := by decide +kernel
theorem dX10_hasOverrides_20 : decode cX10_hasOverrides 20 = .ok (.if_icmp .ne 17, 3) := by decide +kernel
theorem dX10_hasOverrides_23 : decode cX10_hasOverrides 23 = .ok (.aload_n 2, 1) := by decide +kernel
theorem dX10_hasOverrides_24 : decode cX10_hasOverrides 24 = .ok (.getfield 145, 3) := by decide +kernel
theorem dX10_hasOverrides_27 : decode cX10_hasOverrides 27 = .ok (.aload_n 3, 1) := by decide +kernel
theorem dX10_hasOverrides_28 : decode cX10_hasOverrides 28 = .ok (.getfield 145, 3) := by decide +kernel
theorem dX10_hasOverrides_31 : decode cX10_hasOverrides 31 = .ok (.invokestatic 216, 3) := by decide +kernel
theorem dX10_hasOverrides_34 : decode cX10_hasOverrides 34 = .ok (.ifCond .ne 11, 3) := by decide +kernel
theorem dX10_hasOverrides_37 : decode cX10_hasOverrides 37 = .ok (.aload_n 3, 1) := by decide +kernel
theorem dX10_hasOverrides_38 : decode cX10_hasOverrides 38 = .ok (.getfield 67, 3) := by decide +kernel
theorem dX10_hasOverrides_41 : decode cX10_hasOverrides 41 = .ok (.astore_n 3, 1) := by decide +kernel
theorem dX10_hasOverrides_42 : decode cX10_hasOverrides 42 = .ok (.goto (-34), 3) := by decide +kernel
theorem dX10_hasOverrides_45 : decode cX10_hasOverrides 45 = .ok (.aload_n 3, 1) := by decide +kernel
theorem dX10_hasOverrides_46 : decode cX10_hasOverrides 46 = .ok (.ifnonnull 5, 3) := by decide +kernel
theorem dX10_hasOverrides_49 : decode cX10_hasOverrides 49 = .ok (.iconst 0, 1) := by decide +kernel
theorem dX10_hasOverrides_50 : decode cX10_hasOverrides 50 = .ok (.ireturn, 1) := by decide +kernel
theorem dX10_hasOverrides_51 : decode cX10_hasOverrides 51 = .ok (.aload_n 2, 1) := by decide +kernel
theorem dX10_hasOverrides_52 : decode cX10_hasOverrides 52 = .ok (.getfield 67, 3) := by decide +kernel
theorem dX10_hasOverrides_55 : decode cX10_hasOverrides 55 = .ok (.astore_n 2, 1) := by decide +kernel
theorem dX10_hasOverrides_56 : decode cX10_hasOverrides 56 = .ok (.goto (-54), 3) := by decide +kernel
theorem dX10_hasOverrides_59 : decode cX10_hasOverrides 59 = .ok (.iconst 1, 1) := by decide +kernel
theorem dX10_hasOverrides_60 : decode cX10_hasOverrides 60 = .ok (.ireturn, 1) := by decide +kernel
theorem dX10_isWithin_0 : decode cX10_isWithin 0 = .ok (.aload_n 0, 1) := by decide +kernel
theorem dX10_isWithin_1 : decode cX10_isWithin 1 = .ok (.astore_n 2, 1) := by decide +kernel
theorem dX10_isWithin_2 : decode cX10_isWithin 2 = .ok (.aload_n 2, 1) := by decide +kernel
theorem dX10_isWithin_3 : decode cX10_isWithin 3 = .ok (.ifnull 42, 3) := by decide +kernel
theorem dX10_isWithin_6 : decode cX10_isWithin 6 = .ok (.aload_n 1, 1) := by decide +kernel
theorem dX10_isWithin_7 : decode cX10_isWithin 7 = .ok (.astore_n 3, 1) := by decide +kernel
theorem dX10_isWithin_8 : decode cX10_isWithin 8 = .ok (.aload_n 3, 1) := by decide +kernel
theorem dX10_isWithin_9 : decode cX10_isWithin 9 = .ok (.ifnull 22, 3) := by decide +kernel
theorem dX10_isWithin_12 : decode cX10_isWithin 12 = .ok (.aload_n 3, 1) := by decide +kernel
theorem dX10_isWithin_13 : decode cX10_isWithin 13 = .ok (.getfield 124, 3) := by decide +kernel
theorem dX10_isWithin_16 : decode cX10_isWithin 16 = .ok (.aload_n 2, 1) := by decide +kernel
theorem dX10_isWithin_17 : decode cX10_isWithin 17 = .ok (.getfield 124, 3) := by decide +kernel
theorem dX10_isWithin_20 : decode cX10_isWithin 20 = .ok (.if_acmp .eq 11, 3) := by decide +kernel
theorem dX10_isWithin_23 : decode cX10_isWithin 23 = .ok (.aload_n 3, 1) := by decide +kernel
theorem dX10_isWithin_24 : decode cX10_isWithin 24 = .ok (.getfield 230, 3) := by decide +kernel
theorem dX10_isWithin_27 : decode cX10_isWithin 27 = .ok (.astore_n 3, 1) := by decide +kernel
theorem dX10_isWithin_28 : decode cX10_isWithin 28 = .ok (.goto (-20), 3) := by decide +kernel
theorem dX10_isWithin_31 : decode cX10_isWithin 31 = .ok (.aload_n 3, 1) := by decide +kernel
theorem dX10_isWithin_32 : decode cX10_isWithin 32 = .ok (.ifnonnull 5, 3) := by decide +kernel
theorem dX10_isWithin_35 : decode cX10_isWithin 35 = .ok (.iconst 0, 1) := by decide +kernel
theorem dX10_isWithin_36 : decode cX10_isWithin 36 = .ok (.ireturn, 1) := by decide +kernel
theorem dX10_isWithin_37 : decode cX10_isWithin 37 = .ok (.aload_n 2, 1) := by decide +kernel
theorem dX10_isWithin_38 : decode cX10_isWithin 38 = .ok (.getfield 230, 3) := by decide +kernel
theorem dX10_isWithin_41 : decode cX10_isWithin 41 = .ok (.astore_n 2, 1) := by decide +kernel
theorem dX10_isWithin_42 : decode cX10_isWithin 42 = .ok (.goto (-40), 3) := by decide +kernel
theorem dX10_isWithin_45 : decode cX10_isWithin 45 = .ok (.iconst 1, 1) := by decide +kernel
theorem dX10_isWithin_46 : decode cX10_isWithin 46 = .ok (.ireturn, 1) := by decide +kernel
theorem dX10_isBelow_0 : decode cX10_isBelow 0 = .ok (.aload_n 2, 1) := by decide +kernel
theorem dX10_isBelow_1 : decode cX10_isBelow 1 = .ok (.getfield 41, 3) := by decide +kernel
theorem dX10_isBelow_4 : decode cX10_isBelow 4 = .ok (.aload_n 3, 1) := by decide +kernel
theorem dX10_isBelow_5 : decode cX10_isBelow 5 = .ok (.getfield 41, 3) := by decide +kernel
theorem dX10_isBelow_8 : decode cX10_isBelow 8 = .ok (.if_icmp .ne 5, 3) := by decide +kernel
theorem dX10_isBelow_11 : decode cX10_isBelow 11 = .ok (.iconst 1, 1) := by decide +kernel
theorem dX10_isBelow_12 : decode cX10_isBelow 12 = .ok (.ireturn, 1) := by decide +kernel
theorem dX10_isBelow_13 : decode cX10_isBelow 13 = .ok (.aload_n 2, 1) := by decide +kernel
theorem dX10_isBelow_14 : decode cX10_isBelow 14 = .ok (.getfield 119, 3) := by decide +kernel
theorem dX10_isBelow_17 : decode cX10_isBelow 17 = .ok (.iconst 2, 1) := by decide +kernel
theorem dX10_isBelow_18 : decode cX10_isBelow 18 = .ok (.if_icmp .ne 46, 3) := by decide +kernel
theorem dX10_isBelow_21 : decode cX10_isBelow 21 = .ok (.aload_n 3, 1) := by decide +kernel
theorem dX10_isBelow_22 : decode cX10_isBelow 22 = .ok (.getfield 119, 3) := by decide +kernel
theorem dX10_isBelow_25 : decode cX10_isBelow 25 = .ok (.ifCond .eq 33, 3) := by decide +kernel
theorem dX10_isBelow_28 : decode cX10_isBelow 28 = .ok (.aload_n 3, 1) := by decide +kernel
theorem dX10_isBelow_29 : decode cX10_isBelow 29 = .ok (.getfield 119, 3) := by decide +kernel
theorem dX10_isBelow_32 : decode cX10_isBelow 32 = .ok (.iconst 2, 1) := by decide +kernel
theorem dX10_isBelow_33 : decode cX10_isBelow 33 = .ok (.if_icmp .ne 29, 3) := by decide +kernel
theorem dX10_isBelow_36 : decode cX10_isBelow 36 = .ok (.aload_n 3, 1) := by decide +kernel
theorem dX10_isBelow_37 : decode cX10_isBelow 37 = .ok (.getfield 201, 3) := by decide +kernel
theorem dX10_isBelow_40 : decode cX10_isBelow 40 = .ok (.aload_n 2, 1) := by decide +kernel
theorem dX10_isBelow_41 : decode cX10_isBelow 41 = .ok (.getfield 201, 3) := by decide +kernel
theorem dX10_isBelow_44 : decode cX10_isBelow 44 = .ok (.if_icmp .gt 18, 3) := by decide +kernel
theorem dX10_isBelow_47 : decode cX10_isBelow 47 = .ok (.aload_n 2, 1) := by decide +kernel
theorem dX10_isBelow_48 : decode cX10_isBelow 48 = .ok (.getfield 204, 3) := by decide +kernel
theorem dX10_isBelow_51 : decode cX10_isBelow 51 = .ok (.aload_n 3, 1) := by decide +kernel
theorem dX10_isBelow_52 : decode cX10_isBelow 52 = .ok (.getfield 204, 3) := by decide +kernel
theorem dX10_isBelow_55 : decode cX10_isBelow 55 = .ok (.if_icmp .gt 7, 3) := by decide +kernel
theorem dX10_isBelow_58 : decode cX10_isBelow 58 = .ok (.iconst 1, 1) := by decide +kernel
theorem dX10_isBelow_59 : decode cX10_isBelow 59 = .ok (.goto 4, 3) := by decide +kernel
theorem dX10_isBelow_62 : decode cX10_isBelow 62 = .ok (.iconst 0, 1) := by decide +kernel
theorem dX10_isBelow_63 : decode cX10_isBelow 63 = .ok (.ireturn, 1) := by decide +kernel
theorem dX10_isBelow_64 : decode cX10_isBelow 64 = .ok (.aload_n 2, 1) := by decide +kernel
theorem dX10_isBelow_65 : decode cX10_isBelow 65 = .ok (.getfield 119, 3) := by decide +kernel
theorem dX10_isBelow_68 : decode cX10_isBelow 68 = .ok (.bipush 6, 2) := by decide +kernel
theorem dX10_isBelow_70 : decode cX10_isBelow 70 = .ok (.if_icmp .ne 54, 3) := by decide +kernel
theorem dX10_isBelow_73 : decode cX10_isBelow 73 = .ok (.aload_n 3, 1) := by decide +kernel
theorem dX10_isBelow_74 : decode cX10_isBelow 74 = .ok (.getfield 119, 3) := by decide +kernel
theorem dX10_isBelow_77 : decode cX10_isBelow 77 = .ok (.bipush 6, 2) := by decide +kernel
theorem dX10_isBelow_79 : decode cX10_isBelow 79 = .ok (.if_icmp .ne 43, 3) := by decide +kernel
theorem dX10_isBelow_82 : decode cX10_isBelow 82 = .ok (.aload_n 2, 1) := by decide +kernel
theorem dX10_isBelow_83 : decode cX10_isBelow 83 = .ok (.getfield 210, 3) := by decide +kernel
theorem dX10_isBelow_86 : decode cX10_isBelow 86 = .ok (.aload_n 3, 1) := by decide +kernel
theorem dX10_isBelow_87 : decode cX10_isBelow 87 = .ok (.getfield 210, 3) := by decide +kernel
theorem dX10_isBelow_90 : decode cX10_isBelow 90 = .ok (.invokestatic 232, 3) := by decide +kernel
theorem dX10_isBelow_93 : decode cX10_isBelow 93 = .ok (.ifCond .eq 29, 3) := by decide +kernel
theorem dX10_isBelow_96 : decode cX10_isBelow 96 = .ok (.aload_n 2, 1) := by decide +kernel
theorem dX10_isBelow_97 : decode cX10_isBelow 97 = .ok (.aload_n 3, 1) := by decide +kernel
theorem dX10_isBelow_98 : decode cX10_isBelow 98 = .ok (.invokestatic 207, 3) := by decide +kernel
theorem dX10_isBelow_101 : decode cX10_isBelow 101 = .ok (.ifCond .eq 21, 3) := by decide +kernel
theorem dX10_isBelow_104 : decode cX10_isBelow 104 = .ok (.aload_n 2, 1) := by decide +kernel
theorem dX10_isBelow_105 : decode cX10_isBelow 105 = .ok (.getfield 224, 3) := by decide +kernel
theorem dX10_isBelow_108 : decode cX10_isBelow 108 = .ok (.aload_n 3, 1) := by decide +kernel
theorem dX10_isBelow_109 : decode cX10_isBelow 109 = .ok (.getfield 224, 3) := by decide +kernel
theorem dX10_isBelow_112 : decode cX10_isBelow 112 = .ok (.invokestatic 227, 3) := by decide +kernel
theorem dX10_isBelow_115 : decode cX10_isBelow 115 = .ok (.ifCond .eq 7, 3) := by decide +kernel
theorem dX10_isBelow_118 : decode cX10_isBelow 118 = .ok (.iconst 1, 1) := by decide +kernel
theorem dX10_isBelow_119 : decode cX10_isBelow 119 = .ok (.goto 4, 3) := by decide +kernel
theorem dX10_isBelow_122 : decode cX10_isBelow 122 = .ok (.iconst 0, 1) := by decide +kernel
theorem dX10_isBelow_123 : decode cX10_isBelow 123 = .ok (.ireturn, 1) := by decide +kernel
theorem dX10_isBelow_124 : decode cX10_isBelow 124 = .ok (.aload_n 0, 1) := by decide +kernel
theorem dX10_isBelow_125 : decode cX10_isBelow 125 = .ok (.aload_n 1, 1) := by decide +kernel
theorem dX10_isBelow_126 : decode cX10_isBelow 126 = .ok (.aload_n 2, 1) := by decide +kernel
theorem dX10_isBelow_127 : decode cX10_isBelow 127 = .ok (.invokevirtual 177, 3) := by decide +kernel
theorem dX10_isBelow_130 : decode cX10_isBelow 130 = .ok (.astore 4, 2) := by decide +kernel
theorem dX10_isBelow_132 : decode cX10_isBelow 132 = .ok (.iconst 0, 1) := by decide +kernel
theorem dX10_isBelow_133 : decode cX10_isBelow 133 = .ok (.istore 5, 2) := by decide +kernel
theorem dX10_isBelow_135 : decode cX10_isBelow 135 = .ok (.iload 5, 2) := by decide +kernel
theorem dX10_isBelow_137 : decode cX10_isBelow 137 = .ok (.aload_n 0, 1) := by decide +kernel
theorem dX10_isBelow_138 : decode cX10_isBelow 138 = .ok (.getfield 53, 3) := by decide +kernel
theorem dX10_isBelow_141 : decode cX10_isBelow 141 = .ok (.if_icmp .ge 37, 3) := by decide +kernel
theorem dX10_isBelow_144 : decode cX10_isBelow 144 = .ok (.aload 4, 2) := by decide +kernel
theorem dX10_isBelow_146 : decode cX10_isBelow 146 = .ok (.ifnull 32, 3) := by decide +kernel
theorem dX10_isBelow_149 : decode cX10_isBelow 149 = .ok (.aload 4, 2) := by decide +kernel
theorem dX10_isBelow_151 : decode cX10_isBelow 151 = .ok (.getfield 41, 3) := by decide +kernel
theorem dX10_isBelow_154 : decode cX10_isBelow 154 = .ok (.aload_n 3, 1) := by decide +kernel
theorem dX10_isBelow_155 : decode cX10_isBelow 155 = .ok (.getfield 41, 3) := by decide +kernel
theorem dX10_isBelow_158 : decode cX10_isBelow 158 = .ok (.if_icmp .ne 5, 3) := by decide +kernel
theorem dX10_isBelow_161 : decode cX10_isBelow 161 = .ok (.iconst 1, 1) := by decide +kernel
theorem dX10_isBelow_162 : decode cX10_isBelow 162 = .ok (.ireturn, 1) := by decide +kernel
theorem dX10_isBelow_163 : decode cX10_isBelow 163 = .ok (.aload_n 0, 1) := by decide +kernel
theorem dX10_isBelow_164 : decode cX10_isBelow 164 = .ok (.aload_n 1, 1) := by decide +kernel
theorem dX10_isBelow_165 : decode cX10_isBelow 165 = .ok (.aload 4, 2) := by decide +kernel
theorem dX10_isBelow_167 : decode cX10_isBelow 167 = .ok (.invokevirtual 177, 3) := by decide +kernel
theorem dX10_isBelow_170 : decode cX10_isBelow 170 = .ok (.astore 4, 2) := by decide +kernel
theorem dX10_isBelow_172 : decode cX10_isBelow 172 = .ok (.iinc 5 1, 3) := by decide +kernel
theorem dX10_isBelow_175 : decode cX10_isBelow 175 = .ok (.goto (-40), 3) := by decide +kernel
theorem dX10_isBelow_178 : decode cX10_isBelow 178 = .ok (.iconst 0, 1) := by decide +kernel
theorem dX10_isBelow_179 : decode cX10_isBelow 179 = .ok (.ireturn, 1) := by decide +kernel
theorem dX10_findCells_0 : decode cX10_findCells 0 = .ok (.iconst 0, 1) := by decide +kernel
theorem dX10_findCells_1 : decode cX10_findCells 1 = .ok (.istore_n 1, 1) := by decide +kernel
theorem dX10_findCells_2 : decode cX10_findCells 2 = .ok (.aload_n 0, 1) := by decide +kernel
theorem dX10_findCells_3 : decode cX10_findCells 3 = .ok (.getfield 47, 3) := by decide +kernel
theorem dX10_findCells_6 : decode cX10_findCells 6 = .ok (.astore_n 2, 1) := by decide +kernel
theorem dX10_findCells_7 : decode cX10_findCells 7 = .ok (.aload_n 2, 1) := by decide +kernel
theorem dX10_findCells_8 : decode cX10_findCells 8 = .ok (.ifnull 68, 3) := by decide +kernel
theorem dX10_findCells_11 : decode cX10_findCells 11 = .ok (.aload_n 2, 1) := by decide +kernel
theorem dX10_findCells_12 : decode cX10_findCells 12 = .ok (.getfield 235, 3) := by decide +kernel
theorem dX10_findCells_15 : decode cX10_findCells 15 = .ok (.iconst (-1), 1) := by decide +kernel
theorem dX10_findCells_16 : decode cX10_findCells 16 = .ok (.if_icmp .ne 52, 3) := by decide +kernel
theorem dX10_findCells_19 : decode cX10_findCells 19 = .ok (.aload_n 2, 1) := by decide +kernel
theorem dX10_findCells_20 : decode cX10_findCells 20 = .ok (.getfield 90, 3) := by decide +kernel
theorem dX10_findCells_23 : decode cX10_findCells 23 = .ok (.aload_n 2, 1) := by decide +kernel
theorem dX10_findCells_24 : decode cX10_findCells 24 = .ok (.if_acmp .ne 44, 3) := by decide +kernel
theorem dX10_findCells_27 : decode cX10_findCells 27 = .ok (.aload_n 2, 1) := by decide +kernel
theorem dX10_findCells_28 : decode cX10_findCells 28 = .ok (.getfield 119, 3) := by decide +kernel
theorem dX10_findCells_31 : decode cX10_findCells 31 = .ok (.bipush 13, 2) := by decide +kernel
theorem dX10_findCells_33 : decode cX10_findCells 33 = .ok (.if_icmp .eq 35, 3) := by decide +kernel
theorem dX10_findCells_36 : decode cX10_findCells 36 = .ok (.aload_n 2, 1) := by decide +kernel
theorem dX10_findCells_37 : decode cX10_findCells 37 = .ok (.aload_n 2, 1) := by decide +kernel
theorem dX10_findCells_38 : decode cX10_findCells 38 = .ok (.invokestatic 238, 3) := by decide +kernel
theorem dX10_findCells_41 : decode cX10_findCells 41 = .ok (.putfield 235, 3) := by decide +kernel
theorem dX10_findCells_44 : decode cX10_findCells 44 = .ok (.aload_n 2, 1) := by decide +kernel
theorem dX10_findCells_45 : decode cX10_findCells 45 = .ok (.aload_n 2, 1) := by decide +kernel
theorem dX10_findCells_46 : decode cX10_findCells 46 = .ok (.invokestatic 242, 3) := by decide +kernel
theorem dX10_findCells_49 : decode cX10_findCells 49 = .ok (.putfield 246, 3) := by decide +kernel
theorem dX10_findCells_52 : decode cX10_findCells 52 = .ok (.iload_n 1, 1) := by decide +kernel
theorem dX10_findCells_53 : decode cX10_findCells 53 = .ok (.aload_n 2, 1) := by decide +kernel
theorem dX10_findCells_54 : decode cX10_findCells 54 = .ok (.getfield 235, 3) := by decide +kernel
theorem dX10_findCells_57 : decode cX10_findCells 57 = .ok (.iconst (-1), 1) := by decide +kernel
theorem dX10_findCells_58 : decode cX10_findCells 58 = .ok (.if_icmp .eq 7, 3) := by decide +kernel
theorem dX10_findCells_61 : decode cX10_findCells 61 = .ok (.iconst 1, 1) := by decide +kernel
theorem dX10_findCells_62 : decode cX10_findCells 62 = .ok (.goto 4, 3) := by decide +kernel
theorem dX10_findCells_65 : decode cX10_findCells 65 = .ok (.iconst 0, 1) := by decide +kernel
theorem dX10_findCells_66 : decode cX10_findCells 66 = .ok (.ior, 1) := by decide +kernel
theorem dX10_findCells_67 : decode cX10_findCells 67 = .ok (.istore_n 1, 1) := by decide +kernel
theorem dX10_findCells_68 : decode cX10_findCells 68 = .ok (.aload_n 2, 1) := by decide +kernel
theorem dX10_findCells_69 : decode cX10_findCells 69 = .ok (.getfield 93, 3) := by decide +kernel
theorem dX10_findCells_72 : decode cX10_findCells 72 = .ok (.astore_n 2, 1) := by decide +kernel
theorem dX10_findCells_73 : decode cX10_findCells 73 = .ok (.goto (-66), 3) := by decide +kernel
theorem dX10_findCells_76 : decode cX10_findCells 76 = .ok (.iload_n 1, 1) := by decide +kernel
theorem dX10_findCells_77 : decode cX10_findCells 77 = .ok (.ireturn, 1) := by decide +kernel
theorem dX10_cellsOf_0 : decode cX10_cellsOf 0 = .ok (.aload_n 0, 1) := by decide +kernel
theorem dX10_cellsOf_1 : decode cX10_cellsOf 1 = .ok (.getfield 119, 3) := by decide +kernel
theorem dX10_cellsOf_4 : decode cX10_cellsOf 4 = .ok (.iconst 3, 1) := by decide +kernel
theorem dX10_cellsOf_5 : decode cX10_cellsOf 5 = .ok (.if_icmp .ne 59, 3) := by decide +kernel
theorem dX10_cellsOf_8 : decode cX10_cellsOf 8 = .ok (.aload_n 0, 1) := by decide +kernel
theorem dX10_cellsOf_9 : decode cX10_cellsOf 9 = .ok (.getfield 156, 3) := by decide +kernel
theorem dX10_cellsOf_12 : decode cX10_cellsOf 12 = .ok (.getfield 90, 3) := by decide +kernel
theorem dX10_cellsOf_15 : decode cX10_cellsOf 15 = .ok (.astore_n 1, 1) := by decide +kernel
theorem dX10_cellsOf_16 : decode cX10_cellsOf 16 = .ok (.aload_n 0, 1) := by decide +kernel
theorem dX10_cellsOf_17 : decode cX10_cellsOf 17 = .ok (.getfield 201, 3) := by decide +kernel
theorem dX10_cellsOf_20 : decode cX10_cellsOf 20 = .ok (.aload_n 0, 1) := by decide +kernel
theorem dX10_cellsOf_21 : decode cX10_cellsOf 21 = .ok (.getfield 204, 3) := by decide +kernel
theorem dX10_cellsOf_24 : decode cX10_cellsOf 24 = .ok (.if_icmp .gt 11, 3) := by decide +kernel
theorem dX10_cellsOf_27 : decode cX10_cellsOf 27 = .ok (.aload_n 1, 1) := by decide +kernel
theorem dX10_cellsOf_28 : decode cX10_cellsOf 28 = .ok (.getfield 235, 3) := by decide +kernel
theorem dX10_cellsOf_31 : decode cX10_cellsOf 31 = .ok (.iconst (-1), 1) := by decide +kernel
theorem dX10_cellsOf_32 : decode cX10_cellsOf 32 = .ok (.if_icmp .ne 5, 3) := by decide +kernel
theorem dX10_cellsOf_35 : decode cX10_cellsOf 35 = .ok (.iconst (-1), 1) := by decide +kernel
theorem dX10_cellsOf_36 : decode cX10_cellsOf 36 = .ok (.ireturn, 1) := by decide +kernel
theorem dX10_cellsOf_37 : decode cX10_cellsOf 37 = .ok (.ldc2_w 249, 3) := by decide +kernel
theorem dX10_cellsOf_40 : decode cX10_cellsOf 40 = .ok (.aload_n 0, 1) := by decide +kernel
theorem dX10_cellsOf_41 : decode cX10_cellsOf 41 = .ok (.getfield 204, 3) := by decide +kernel
theorem dX10_cellsOf_44 : decode cX10_cellsOf 44 = .ok (.i2l, 1) := by decide +kernel
theorem dX10_cellsOf_45 : decode cX10_cellsOf 45 = .ok (.aload_n 0, 1) := by decide +kernel
theorem dX10_cellsOf_46 : decode cX10_cellsOf 46 = .ok (.getfield 201, 3) := by decide +kernel
theorem dX10_cellsOf_49 : decode cX10_cellsOf 49 = .ok (.i2l, 1) := by decide +kernel
theorem dX10_cellsOf_50 : decode cX10_cellsOf 50 = .ok (.lsub, 1) := by decide +kernel
theorem dX10_cellsOf_51 : decode cX10_cellsOf 51 = .ok (.lconst 1, 1) := by decide +kernel
theorem dX10_cellsOf_52 : decode cX10_cellsOf 52 = .ok (.ladd, 1) := by decide +kernel
theorem dX10_cellsOf_53 : decode cX10_cellsOf 53 = .ok (.aload_n 1, 1) := by decide +kernel
theorem dX10_cellsOf_54 : decode cX10_cellsOf 54 = .ok (.getfield 235, 3) := by decide +kernel
theorem dX10_cellsOf_57 : decode cX10_cellsOf 57 = .ok (.i2l, 1) := by decide +kernel
theorem dX10_cellsOf_58 : decode cX10_cellsOf 58 = .ok (.lmul, 1) := by decide +kernel
theorem dX10_cellsOf_59 : decode cX10_cellsOf 59 = .ok (.invokestatic 251, 3) := by decide +kernel
theorem dX10_cellsOf_62 : decode cX10_cellsOf 62 = .ok (.l2i, 1) := by decide +kernel
theorem dX10_cellsOf_63 : decode cX10_cellsOf 63 = .ok (.ireturn, 1) := by decide +kernel
theorem dX10_cellsOf_64 : decode cX10_cellsOf 64 = .ok (.aload_n 0, 1) := by decide +kernel
theorem dX10_cellsOf_65 : decode cX10_cellsOf 65 = .ok (.getfield 119, 3) := by decide +kernel
theorem dX10_cellsOf_68 : decode cX10_cellsOf 68 = .ok (.iconst 4, 1) := by decide +kernel
theorem dX10_cellsOf_69 : decode cX10_cellsOf 69 = .ok (.if_icmp .eq 5, 3) := by decide +kernel
theorem dX10_cellsOf_72 : decode cX10_cellsOf 72 = .ok (.iconst 1, 1) := by decide +kernel
theorem dX10_cellsOf_73 : decode cX10_cellsOf 73 = .ok (.ireturn, 1) := by decide +kernel
theorem dX10_cellsOf_74 : decode cX10_cellsOf 74 = .ok (.lconst 0, 1) := by decide +kernel
theorem dX10_cellsOf_75 : decode cX10_cellsOf 75 = .ok (.lstore_n 1, 1) := by decide +kernel
theorem dX10_cellsOf_76 : decode cX10_cellsOf 76 = .ok (.aload_n 0, 1) := by decide +kernel
theorem dX10_cellsOf_77 : decode cX10_cellsOf 77 = .ok (.getfield 210, 3) := by decide +kernel
theorem dX10_cellsOf_80 : decode cX10_cellsOf 80 = .ok (.astore_n 3, 1) := by decide +kernel
theorem dX10_cellsOf_81 : decode cX10_cellsOf 81 = .ok (.aload_n 3, 1) := by decide +kernel
theorem dX10_cellsOf_82 : decode cX10_cellsOf 82 = .ok (.ifnull 52, 3) := by decide +kernel
theorem dX10_cellsOf_85 : decode cX10_cellsOf 85 = .ok (.aload_n 3, 1) := by decide +kernel
theorem dX10_cellsOf_86 : decode cX10_cellsOf 86 = .ok (.getfield 129, 3) := by decide +kernel
theorem dX10_cellsOf_89 : decode cX10_cellsOf 89 = .ok (.getfield 90, 3) := by decide +kernel
theorem dX10_cellsOf_92 : decode cX10_cellsOf 92 = .ok (.astore 4, 2) := by decide +kernel
theorem dX10_cellsOf_94 : decode cX10_cellsOf 94 = .ok (.aload 4, 2) := by decide +kernel
theorem dX10_cellsOf_96 : decode cX10_cellsOf 96 = .ok (.getfield 235, 3) := by decide +kernel
theorem dX10_cellsOf_99 : decode cX10_cellsOf 99 = .ok (.iconst (-1), 1) := by decide +kernel
theorem dX10_cellsOf_100 : decode cX10_cellsOf 100 = .ok (.if_icmp .ne 5, 3) := by decide +kernel
theorem dX10_cellsOf_103 : decode cX10_cellsOf 103 = .ok (.iconst (-1), 1) := by decide +kernel
theorem dX10_cellsOf_104 : decode cX10_cellsOf 104 = .ok (.ireturn, 1) := by decide +kernel
theorem dX10_cellsOf_105 : decode cX10_cellsOf 105 = .ok (.aload_n 3, 1) := by decide +kernel
theorem dX10_cellsOf_106 : decode cX10_cellsOf 106 = .ok (.ldc2_w 249, 3) := by decide +kernel
theorem dX10_cellsOf_109 : decode cX10_cellsOf 109 = .ok (.lload_n 1, 1) := by decide +kernel
theorem dX10_cellsOf_110 : decode cX10_cellsOf 110 = .ok (.invokestatic 251, 3) := by decide +kernel
theorem dX10_cellsOf_113 : decode cX10_cellsOf 113 = .ok (.l2i, 1) := by decide +kernel
theorem dX10_cellsOf_114 : decode cX10_cellsOf 114 = .ok (.putfield 257, 3) := by decide +kernel
theorem dX10_cellsOf_117 : decode cX10_cellsOf 117 = .ok (.lload_n 1, 1) := by decide +kernel
theorem dX10_cellsOf_118 : decode cX10_cellsOf 118 = .ok (.aload 4, 2) := by decide +kernel
theorem dX10_cellsOf_120 : decode cX10_cellsOf 120 = .ok (.getfield 235, 3) := by decide +kernel
theorem dX10_cellsOf_123 : decode cX10_cellsOf 123 = .ok (.i2l, 1) := by decide +kernel
theorem dX10_cellsOf_124 : decode cX10_cellsOf 124 = .ok (.ladd, 1) := by decide +kernel
theorem dX10_cellsOf_125 : decode cX10_cellsOf 125 = .ok (.lstore_n 1, 1) := by decide +kernel
theorem dX10_cellsOf_126 : decode cX10_cellsOf 126 = .ok (.aload_n 3, 1) := by decide +kernel
theorem dX10_cellsOf_127 : decode cX10_cellsOf 127 = .ok (.getfield 67, 3) := by decide +kernel
theorem dX10_cellsOf_130 : decode cX10_cellsOf 130 = .ok (.astore_n 3, 1) := by decide +kernel
theorem dX10_cellsOf_131 : decode cX10_cellsOf 131 = .ok (.goto (-50), 3) := by decide +kernel
theorem dX10_cellsOf_134 : decode cX10_cellsOf 134 = .ok (.ldc2_w 249, 3) := by decide +kernel
theorem dX10_cellsOf_137 : decode cX10_cellsOf 137 = .ok (.lload_n 1, 1) := by decide +kernel
theorem dX10_cellsOf_138 : decode cX10_cellsOf 138 = .ok (.invokestatic 251, 3) := by decide +kernel
theorem dX10_cellsOf_141 : decode cX10_cellsOf 141 = .ok (.l2i, 1) := by decide +kernel
theorem dX10_cellsOf_142 : decode cX10_cellsOf 142 = .ok (.ireturn, 1) := by decide +kernel
theorem dX10_firstsOf_0 : decode cX10_firstsOf 0 = .ok (.aload_n 0, 1) := by decide +kernel
theorem dX10_firstsOf_1 : decode cX10_firstsOf 1 = .ok (.getfield 235, 3) := by decide +kernel
theorem dX10_firstsOf_4 : decode cX10_firstsOf 4 = .ok (.iconst 1, 1) := by decide +kernel
theorem dX10_firstsOf_5 : decode cX10_firstsOf 5 = .ok (.if_icmp .lt 13, 3) := by decide +kernel
theorem dX10_firstsOf_8 : decode cX10_firstsOf 8 = .ok (.aload_n 0, 1) := by decide +kernel
theorem dX10_firstsOf_9 : decode cX10_firstsOf 9 = .ok (.getfield 235, 3) := by decide +kernel
theorem dX10_firstsOf_12 : decode cX10_firstsOf 12 = .ok (.sipush 2000, 3) := by decide +kernel
theorem dX10_firstsOf_15 : decode cX10_firstsOf 15 = .ok (.if_icmp .le 5, 3) := by decide +kernel
theorem dX10_firstsOf_18 : decode cX10_firstsOf 18 = .ok (.aconst_null, 1) := by decide +kernel
theorem dX10_firstsOf_19 : decode cX10_firstsOf 19 = .ok (.areturn, 1) := by decide +kernel
theorem dX10_firstsOf_20 : decode cX10_firstsOf 20 = .ok (.aconst_null, 1) := by decide +kernel
theorem dX10_firstsOf_21 : decode cX10_firstsOf 21 = .ok (.astore_n 1, 1) := by decide +kernel
theorem dX10_firstsOf_22 : decode cX10_firstsOf 22 = .ok (.aload_n 0, 1) := by decide +kernel
theorem dX10_firstsOf_23 : decode cX10_firstsOf 23 = .ok (.getfield 119, 3) := by decide +kernel
theorem dX10_firstsOf_26 : decode cX10_firstsOf 26 = .ok (.iconst 2, 1) := by decide +kernel
theorem dX10_firstsOf_27 : decode cX10_firstsOf 27 = .ok (.if_icmp .ne 45, 3) := by decide +kernel
theorem dX10_firstsOf_30 : decode cX10_firstsOf 30 = .ok (.aload_n 0, 1) := by decide +kernel
theorem dX10_firstsOf_31 : decode cX10_firstsOf 31 = .ok (.getfield 201, 3) := by decide +kernel
theorem dX10_firstsOf_34 : decode cX10_firstsOf 34 = .ok (.ifCond .gt 10, 3) := by decide +kernel
theorem dX10_firstsOf_37 : decode cX10_firstsOf 37 = .ok (.aload_n 0, 1) := by decide +kernel
theorem dX10_firstsOf_38 : decode cX10_firstsOf 38 = .ok (.getfield 204, 3) := by decide +kernel
theorem dX10_firstsOf_41 : decode cX10_firstsOf 41 = .ok (.ifCond .ge 31, 3) := by decide +kernel
theorem dX10_firstsOf_44 : decode cX10_firstsOf 44 = .ok (.iconst 1, 1) := by decide +kernel
theorem dX10_firstsOf_45 : decode cX10_firstsOf 45 = .ok (.newarray .int, 2) := by decide +kernel
