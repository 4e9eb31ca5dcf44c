theorem dX10_firstsOf_47 : decode cX10_firstsOf 47 = .ok (.astore_n 1, 1) := by decide +kernel
theorem dX10_firstsOf_48 : decode cX10_firstsOf 48 = .ok (.aload_n 1, 1) := by decide +kernel
theorem dX10_firstsOf_49 : decode cX10_firstsOf 49 = .ok (.iconst 0, 1) := by decide +kernel
theorem dX10_firstsOf_50 : decode cX10_firstsOf 50 = .ok (.aload_n 0, 1) := by decide +kernel
theorem dX10_firstsOf_51 : decode cX10_firstsOf 51 = .ok (.getfield 201, 3) := by decide +kernel
theorem dX10_firstsOf_54 : decode cX10_firstsOf 54 = .ok (.ifCond .le 10, 3) := by decide +kernel
theorem dX10_firstsOf_57 : decode cX10_firstsOf 57 = .ok (.aload_n 0, 1) := by decide +kernel
theorem dX10_firstsOf_58 : decode cX10_firstsOf 58 = .ok (.getfield 201, 3) := by decide +kernel
theorem dX10_firstsOf_61 : decode cX10_firstsOf 61 = .ok (.goto 7, 3) := by decide +kernel
theorem dX10_firstsOf_64 : decode cX10_firstsOf 64 = .ok (.aload_n 0, 1) := by decide +kernel
theorem dX10_firstsOf_65 : decode cX10_firstsOf 65 = .ok (.getfield 204, 3) := by decide +kernel
theorem dX10_firstsOf_68 : decode cX10_firstsOf 68 = .ok (.iastore, 1) := by decide +kernel
theorem dX10_firstsOf_69 : decode cX10_firstsOf 69 = .ok (.goto 161, 3) := by decide +kernel
theorem dX10_firstsOf_72 : decode cX10_firstsOf 72 = .ok (.aload_n 0, 1) := by decide +kernel
theorem dX10_firstsOf_73 : decode cX10_firstsOf 73 = .ok (.getfield 119, 3) := by decide +kernel
theorem dX10_firstsOf_76 : decode cX10_firstsOf 76 = .ok (.iconst 3, 1) := by decide +kernel
theorem dX10_firstsOf_77 : decode cX10_firstsOf 77 = .ok (.if_icmp .ne 72, 3) := by decide +kernel
theorem dX10_firstsOf_80 : decode cX10_firstsOf 80 = .ok (.aload_n 0, 1) := by decide +kernel
theorem dX10_firstsOf_81 : decode cX10_firstsOf 81 = .ok (.getfield 156, 3) := by decide +kernel
theorem dX10_firstsOf_84 : decode cX10_firstsOf 84 = .ok (.getfield 90, 3) := by decide +kernel
theorem dX10_firstsOf_87 : decode cX10_firstsOf 87 = .ok (.getfield 246, 3) := by decide +kernel
theorem dX10_firstsOf_90 : decode cX10_firstsOf 90 = .ok (.ifnull 59, 3) := by decide +kernel
theorem dX10_firstsOf_93 : decode cX10_firstsOf 93 = .ok (.aload_n 0, 1) := by decide +kernel
theorem dX10_firstsOf_94 : decode cX10_firstsOf 94 = .ok (.getfield 156, 3) := by decide +kernel
theorem dX10_firstsOf_97 : decode cX10_firstsOf 97 = .ok (.getfield 90, 3) := by decide +kernel
theorem dX10_firstsOf_100 : decode cX10_firstsOf 100 = .ok (.getfield 246, 3) := by decide +kernel
theorem dX10_firstsOf_103 : decode cX10_firstsOf 103 = .ok (.astore_n 2, 1) := by decide +kernel
theorem dX10_firstsOf_104 : decode cX10_firstsOf 104 = .ok (.aload_n 0, 1) := by decide +kernel
theorem dX10_firstsOf_105 : decode cX10_firstsOf 105 = .ok (.getfield 235, 3) := by decide +kernel
theorem dX10_firstsOf_108 : decode cX10_firstsOf 108 = .ok (.newarray .int, 2) := by decide +kernel
theorem dX10_firstsOf_110 : decode cX10_firstsOf 110 = .ok (.astore_n 1, 1) := by decide +kernel
theorem dX10_firstsOf_111 : decode cX10_firstsOf 111 = .ok (.iconst 0, 1) := by decide +kernel
theorem dX10_firstsOf_112 : decode cX10_firstsOf 112 = .ok (.istore_n 3, 1) := by decide +kernel
theorem dX10_firstsOf_113 : decode cX10_firstsOf 113 = .ok (.iload_n 3, 1) := by decide +kernel
theorem dX10_firstsOf_114 : decode cX10_firstsOf 114 = .ok (.aload_n 2, 1) := by decide +kernel
theorem dX10_firstsOf_115 : decode cX10_firstsOf 115 = .ok (.arraylength, 1) := by decide +kernel
theorem dX10_firstsOf_116 : decode cX10_firstsOf 116 = .ok (.iadd, 1) := by decide +kernel
theorem dX10_firstsOf_117 : decode cX10_firstsOf 117 = .ok (.aload_n 0, 1) := by decide +kernel
theorem dX10_firstsOf_118 : decode cX10_firstsOf 118 = .ok (.getfield 235, 3) := by decide +kernel
theorem dX10_firstsOf_121 : decode cX10_firstsOf 121 = .ok (.if_icmp .gt 25, 3) := by decide +kernel
theorem dX10_firstsOf_124 : decode cX10_firstsOf 124 = .ok (.aload_n 2, 1) := by decide +kernel
theorem dX10_firstsOf_125 : decode cX10_firstsOf 125 = .ok (.arraylength, 1) := by decide +kernel
theorem dX10_firstsOf_126 : decode cX10_firstsOf 126 = .ok (.ifCond .le 20, 3) := by decide +kernel
theorem dX10_firstsOf_129 : decode cX10_firstsOf 129 = .ok (.aload_n 2, 1) := by decide +kernel
theorem dX10_firstsOf_130 : decode cX10_firstsOf 130 = .ok (.iconst 0, 1) := by decide +kernel
theorem dX10_firstsOf_131 : decode cX10_firstsOf 131 = .ok (.aload_n 1, 1) := by decide +kernel
theorem dX10_firstsOf_132 : decode cX10_firstsOf 132 = .ok (.iload_n 3, 1) := by decide +kernel
theorem dX10_firstsOf_133 : decode cX10_firstsOf 133 = .ok (.aload_n 2, 1) := by decide +kernel
theorem dX10_firstsOf_134 : decode cX10_firstsOf 134 = .ok (.arraylength, 1) := by decide +kernel
theorem dX10_firstsOf_135 : decode cX10_firstsOf 135 = .ok (.invokestatic 260, 3) := by decide +kernel
theorem dX10_firstsOf_138 : decode cX10_firstsOf 138 = .ok (.iload_n 3, 1) := by decide +kernel
theorem dX10_firstsOf_139 : decode cX10_firstsOf 139 = .ok (.aload_n 2, 1) := by decide +kernel
theorem dX10_firstsOf_140 : decode cX10_firstsOf 140 = .ok (.arraylength, 1) := by decide +kernel
theorem dX10_firstsOf_141 : decode cX10_firstsOf 141 = .ok (.iadd, 1) := by decide +kernel
theorem dX10_firstsOf_142 : decode cX10_firstsOf 142 = .ok (.istore_n 3, 1) := by decide +kernel
theorem dX10_firstsOf_143 : decode cX10_firstsOf 143 = .ok (.goto (-30), 3) := by decide +kernel
theorem dX10_firstsOf_146 : decode cX10_firstsOf 146 = .ok (.goto 84, 3) := by decide +kernel
theorem dX10_firstsOf_149 : decode cX10_firstsOf 149 = .ok (.aload_n 0, 1) := by decide +kernel
theorem dX10_firstsOf_150 : decode cX10_firstsOf 150 = .ok (.getfield 119, 3) := by decide +kernel
theorem dX10_firstsOf_153 : decode cX10_firstsOf 153 = .ok (.iconst 4, 1) := by decide +kernel
theorem dX10_firstsOf_154 : decode cX10_firstsOf 154 = .ok (.if_icmp .ne 76, 3) := by decide +kernel
theorem dX10_firstsOf_157 : decode cX10_firstsOf 157 = .ok (.aload_n 0, 1) := by decide +kernel
theorem dX10_firstsOf_158 : decode cX10_firstsOf 158 = .ok (.getfield 210, 3) := by decide +kernel
theorem dX10_firstsOf_161 : decode cX10_firstsOf 161 = .ok (.astore_n 2, 1) := by decide +kernel
theorem dX10_firstsOf_162 : decode cX10_firstsOf 162 = .ok (.aload_n 2, 1) := by decide +kernel
theorem dX10_firstsOf_163 : decode cX10_firstsOf 163 = .ok (.ifnull 67, 3) := by decide +kernel
theorem dX10_firstsOf_166 : decode cX10_firstsOf 166 = .ok (.aload_n 2, 1) := by decide +kernel
theorem dX10_firstsOf_167 : decode cX10_firstsOf 167 = .ok (.getfield 129, 3) := by decide +kernel
theorem dX10_firstsOf_170 : decode cX10_firstsOf 170 = .ok (.getfield 90, 3) := by decide +kernel
theorem dX10_firstsOf_173 : decode cX10_firstsOf 173 = .ok (.getfield 246, 3) := by decide +kernel
theorem dX10_firstsOf_176 : decode cX10_firstsOf 176 = .ok (.astore_n 3, 1) := by decide +kernel
theorem dX10_firstsOf_177 : decode cX10_firstsOf 177 = .ok (.aload_n 3, 1) := by decide +kernel
theorem dX10_firstsOf_178 : decode cX10_firstsOf 178 = .ok (.ifnull 14, 3) := by decide +kernel
theorem dX10_firstsOf_181 : decode cX10_firstsOf 181 = .ok (.aload_n 1, 1) := by decide +kernel
theorem dX10_firstsOf_182 : decode cX10_firstsOf 182 = .ok (.ifnonnull 10, 3) := by decide +kernel
theorem dX10_firstsOf_185 : decode cX10_firstsOf 185 = .ok (.aload_n 0, 1) := by decide +kernel
theorem dX10_firstsOf_186 : decode cX10_firstsOf 186 = .ok (.getfield 235, 3) := by decide +kernel
theorem dX10_firstsOf_189 : decode cX10_firstsOf 189 = .ok (.newarray .int, 2) := by decide +kernel
theorem dX10_firstsOf_191 : decode cX10_firstsOf 191 = .ok (.astore_n 1, 1) := by decide +kernel
theorem dX10_firstsOf_192 : decode cX10_firstsOf 192 = .ok (.aload_n 3, 1) := by decide +kernel
theorem dX10_firstsOf_193 : decode cX10_firstsOf 193 = .ok (.ifnull 29, 3) := by decide +kernel
theorem dX10_firstsOf_196 : decode cX10_firstsOf 196 = .ok (.aload_n 2, 1) := by decide +kernel
theorem dX10_firstsOf_197 : decode cX10_firstsOf 197 = .ok (.getfield 257, 3) := by decide +kernel
theorem dX10_firstsOf_200 : decode cX10_firstsOf 200 = .ok (.aload_n 3, 1) := by decide +kernel
theorem dX10_firstsOf_201 : decode cX10_firstsOf 201 = .ok (.arraylength, 1) := by decide +kernel
theorem dX10_firstsOf_202 : decode cX10_firstsOf 202 = .ok (.iadd, 1) := by decide +kernel
theorem dX10_firstsOf_203 : decode cX10_firstsOf 203 = .ok (.aload_n 0, 1) := by decide +kernel
theorem dX10_firstsOf_204 : decode cX10_firstsOf 204 = .ok (.getfield 235, 3) := by decide +kernel
theorem dX10_firstsOf_207 : decode cX10_firstsOf 207 = .ok (.if_icmp .gt 15, 3) := by decide +kernel
theorem dX10_firstsOf_210 : decode cX10_firstsOf 210 = .ok (.aload_n 3, 1) := by decide +kernel
theorem dX10_firstsOf_211 : decode cX10_firstsOf 211 = .ok (.iconst 0, 1) := by decide +kernel
theorem dX10_firstsOf_212 : decode cX10_firstsOf 212 = .ok (.aload_n 1, 1) := by decide +kernel
theorem dX10_firstsOf_213 : decode cX10_firstsOf 213 = .ok (.aload_n 2, 1) := by decide +kernel
theorem dX10_firstsOf_214 : decode cX10_firstsOf 214 = .ok (.getfield 257, 3) := by decide +kernel
theorem dX10_firstsOf_217 : decode cX10_firstsOf 217 = .ok (.aload_n 3, 1) := by decide +kernel
theorem dX10_firstsOf_218 : decode cX10_firstsOf 218 = .ok (.arraylength, 1) := by decide +kernel
theorem dX10_firstsOf_219 : decode cX10_firstsOf 219 = .ok (.invokestatic 260, 3) := by decide +kernel
theorem dX10_firstsOf_222 : decode cX10_firstsOf 222 = .ok (.aload_n 2, 1) := by decide +kernel
theorem dX10_firstsOf_223 : decode cX10_firstsOf 223 = .ok (.getfield 67, 3) := by decide +kernel
theorem dX10_firstsOf_226 : decode cX10_firstsOf 226 = .ok (.astore_n 2, 1) := by decide +kernel
theorem dX10_firstsOf_227 : decode cX10_firstsOf 227 = .ok (.goto (-65), 3) := by decide +kernel
theorem dX10_firstsOf_230 : decode cX10_firstsOf 230 = .ok (.aload_n 1, 1) := by decide +kernel
theorem dX10_firstsOf_231 : decode cX10_firstsOf 231 = .ok (.areturn, 1) := by decide +kernel
theorem dX10_judge_0 : decode cX10_judge 0 = .ok (.iconst 0, 1) := by decide +kernel
theorem dX10_judge_1 : decode cX10_judge 1 = .ok (.istore_n 1, 1) := by decide +kernel
theorem dX10_judge_2 : decode cX10_judge 2 = .ok (.iload_n 1, 1) := by decide +kernel
theorem dX10_judge_3 : decode cX10_judge 3 = .ok (.aload_n 0, 1) := by decide +kernel
theorem dX10_judge_4 : decode cX10_judge 4 = .ok (.getfield 70, 3) := by decide +kernel
theorem dX10_judge_7 : decode cX10_judge 7 = .ok (.arraylength, 1) := by decide +kernel
theorem dX10_judge_8 : decode cX10_judge 8 = .ok (.if_icmp .ge 36, 3) := by decide +kernel
theorem dX10_judge_11 : decode cX10_judge 11 = .ok (.aload_n 0, 1) := by decide +kernel
theorem dX10_judge_12 : decode cX10_judge 12 = .ok (.getfield 70, 3) := by decide +kernel
theorem dX10_judge_15 : decode cX10_judge 15 = .ok (.iload_n 1, 1) := by decide +kernel
theorem dX10_judge_16 : decode cX10_judge 16 = .ok (.aaload, 1) := by decide +kernel
theorem dX10_judge_17 : decode cX10_judge 17 = .ok (.getfield 59, 3) := by decide +kernel
theorem dX10_judge_20 : decode cX10_judge 20 = .ok (.astore_n 2, 1) := by decide +kernel
theorem dX10_judge_21 : decode cX10_judge 21 = .ok (.aload_n 2, 1) := by decide +kernel
theorem dX10_judge_22 : decode cX10_judge 22 = .ok (.ifnull 16, 3) := by decide +kernel
theorem dX10_judge_25 : decode cX10_judge 25 = .ok (.aload_n 0, 1) := by decide +kernel
theorem dX10_judge_26 : decode cX10_judge 26 = .ok (.aload_n 2, 1) := by decide +kernel
theorem dX10_judge_27 : decode cX10_judge 27 = .ok (.invokevirtual 266, 3) := by decide +kernel
theorem dX10_judge_30 : decode cX10_judge 30 = .ok (.aload_n 2, 1) := by decide +kernel
theorem dX10_judge_31 : decode cX10_judge 31 = .ok (.getfield 67, 3) := by decide +kernel
theorem dX10_judge_34 : decode cX10_judge 34 = .ok (.astore_n 2, 1) := by decide +kernel
theorem dX10_judge_35 : decode cX10_judge 35 = .ok (.goto (-14), 3) := by decide +kernel
theorem dX10_judge_38 : decode cX10_judge 38 = .ok (.iinc 1 1, 3) := by decide +kernel
theorem dX10_judge_41 : decode cX10_judge 41 = .ok (.goto (-39), 3) := by decide +kernel
theorem dX10_judge_44 : decode cX10_judge 44 = .ok (.aload_n 0, 1) := by decide +kernel
theorem dX10_judge_45 : decode cX10_judge 45 = .ok (.getfield 47, 3) := by decide +kernel
theorem dX10_judge_48 : decode cX10_judge 48 = .ok (.astore_n 1, 1) := by decide +kernel
theorem dX10_judge_49 : decode cX10_judge 49 = .ok (.aload_n 1, 1) := by decide +kernel
theorem dX10_judge_50 : decode cX10_judge 50 = .ok (.ifnull 30, 3) := by decide +kernel
theorem dX10_judge_53 : decode cX10_judge 53 = .ok (.aload_n 0, 1) := by decide +kernel
theorem dX10_judge_54 : decode cX10_judge 54 = .ok (.aload_n 1, 1) := by decide +kernel
theorem dX10_judge_55 : decode cX10_judge 55 = .ok (.invokevirtual 270, 3) := by decide +kernel
theorem dX10_judge_58 : decode cX10_judge 58 = .ok (.aload_n 1, 1) := by decide +kernel
theorem dX10_judge_59 : decode cX10_judge 59 = .ok (.getfield 119, 3) := by decide +kernel
theorem dX10_judge_62 : decode cX10_judge 62 = .ok (.bipush 11, 2) := by decide +kernel
theorem dX10_judge_64 : decode cX10_judge 64 = .ok (.if_icmp .ne 8, 3) := by decide +kernel
theorem dX10_judge_67 : decode cX10_judge 67 = .ok (.aload_n 0, 1) := by decide +kernel
theorem dX10_judge_68 : decode cX10_judge 68 = .ok (.aload_n 1, 1) := by decide +kernel
theorem dX10_judge_69 : decode cX10_judge 69 = .ok (.invokevirtual 274, 3) := by decide +kernel
theorem dX10_judge_72 : decode cX10_judge 72 = .ok (.aload_n 1, 1) := by decide +kernel
theorem dX10_judge_73 : decode cX10_judge 73 = .ok (.getfield 93, 3) := by decide +kernel
theorem dX10_judge_76 : decode cX10_judge 76 = .ok (.astore_n 1, 1) := by decide +kernel
theorem dX10_judge_77 : decode cX10_judge 77 = .ok (.goto (-28), 3) := by decide +kernel
theorem dX10_judge_80 : decode cX10_judge 80 = .ok (.aload_n 0, 1) := by decide +kernel
theorem dX10_judge_81 : decode cX10_judge 81 = .ok (.getfield 10, 3) := by decide +kernel
theorem dX10_judge_84 : decode cX10_judge 84 = .ok (.ldc 9, 2) := by decide +kernel
theorem dX10_judge_86 : decode cX10_judge 86 = .ok (.if_icmp .ne 7, 3) := by decide +kernel
theorem dX10_judge_89 : decode cX10_judge 89 = .ok (.iconst 0, 1) := by decide +kernel
theorem dX10_judge_90 : decode cX10_judge 90 = .ok (.goto 7, 3) := by decide +kernel
theorem dX10_judge_93 : decode cX10_judge 93 = .ok (.aload_n 0, 1) := by decide +kernel
theorem dX10_judge_94 : decode cX10_judge 94 = .ok (.getfield 10, 3) := by decide +kernel
theorem dX10_judge_97 : decode cX10_judge 97 = .ok (.ireturn, 1) := by decide +kernel
theorem dX10_judgeDeclaration_0 : decode cX10_judgeDeclaration 0 = .ok (.aload_n 1, 1) := by decide +kernel
theorem dX10_judgeDeclaration_1 : decode cX10_judgeDeclaration 1 = .ok (.getfield 64, 3) := by decide +kernel
theorem dX10_judgeDeclaration_4 : decode cX10_judgeDeclaration 4 = .ok (.tableswitch 207 3 9 #[44, 87, 130, 130, 138, 207, 199], 44) := by decide +kernel
theorem dX10_judgeDeclaration_48 : decode cX10_judgeDeclaration 48 = .ok (.aload_n 0, 1) := by decide +kernel
theorem dX10_judgeDeclaration_49 : decode cX10_judgeDeclaration 49 = .ok (.aload_n 1, 1) := by decide +kernel
theorem dX10_judgeDeclaration_50 : decode cX10_judgeDeclaration 50 = .ok (.invokevirtual 280, 3) := by decide +kernel
theorem dX10_judgeDeclaration_53 : decode cX10_judgeDeclaration 53 = .ok (.ifCond .ne 25, 3) := by decide +kernel
theorem dX10_judgeDeclaration_56 : decode cX10_judgeDeclaration 56 = .ok (.aload_n 1, 1) := by decide +kernel
theorem dX10_judgeDeclaration_57 : decode cX10_judgeDeclaration 57 = .ok (.getfield 129, 3) := by decide +kernel
theorem dX10_judgeDeclaration_60 : decode cX10_judgeDeclaration 60 = .ok (.getfield 90, 3) := by decide +kernel
theorem dX10_judgeDeclaration_63 : decode cX10_judgeDeclaration 63 = .ok (.getfield 235, 3) := by decide +kernel
theorem dX10_judgeDeclaration_66 : decode cX10_judgeDeclaration 66 = .ok (.iconst (-1), 1) := by decide +kernel
theorem dX10_judgeDeclaration_67 : decode cX10_judgeDeclaration 67 = .ok (.if_icmp .ne 144, 3) := by decide +kernel
theorem dX10_judgeDeclaration_70 : decode cX10_judgeDeclaration 70 = .ok (.aload_n 0, 1) := by decide +kernel
theorem dX10_judgeDeclaration_71 : decode cX10_judgeDeclaration 71 = .ok (.aload_n 1, 1) := by decide +kernel
theorem dX10_judgeDeclaration_72 : decode cX10_judgeDeclaration 72 = .ok (.invokevirtual 284, 3) := by decide +kernel
theorem dX10_judgeDeclaration_75 : decode cX10_judgeDeclaration 75 = .ok (.ifCond .eq 136, 3) := by decide +kernel
theorem dX10_judgeDeclaration_78 : decode cX10_judgeDeclaration 78 = .ok (.aload_n 0, 1) := by decide +kernel
theorem dX10_judgeDeclaration_79 : decode cX10_judgeDeclaration 79 = .ok (.bipush 8, 2) := by decide +kernel
theorem dX10_judgeDeclaration_81 : decode cX10_judgeDeclaration 81 = .ok (.aload_n 1, 1) := by decide +kernel
theorem dX10_judgeDeclaration_82 : decode cX10_judgeDeclaration 82 = .ok (.getfield 287, 3) := by decide +kernel
theorem dX10_judgeDeclaration_85 : decode cX10_judgeDeclaration 85 = .ok (.invokevirtual 290, 3) := by decide +kernel
theorem dX10_judgeDeclaration_88 : decode cX10_judgeDeclaration 88 = .ok (.goto 123, 3) := by decide +kernel
theorem dX10_judgeDeclaration_91 : decode cX10_judgeDeclaration 91 = .ok (.aload_n 0, 1) := by decide +kernel
theorem dX10_judgeDeclaration_92 : decode cX10_judgeDeclaration 92 = .ok (.aconst_null, 1) := by decide +kernel
theorem dX10_judgeDeclaration_93 : decode cX10_judgeDeclaration 93 = .ok (.aload_n 1, 1) := by decide +kernel
theorem dX10_judgeDeclaration_94 : decode cX10_judgeDeclaration 94 = .ok (.getfield 129, 3) := by decide +kernel
theorem dX10_judgeDeclaration_97 : decode cX10_judgeDeclaration 97 = .ok (.invokevirtual 152, 3) := by decide +kernel
theorem dX10_judgeDeclaration_100 : decode cX10_judgeDeclaration 100 = .ok (.ifnull 21, 3) := by decide +kernel
theorem dX10_judgeDeclaration_103 : decode cX10_judgeDeclaration 103 = .ok (.aload_n 0, 1) := by decide +kernel
theorem dX10_judgeDeclaration_104 : decode cX10_judgeDeclaration 104 = .ok (.aload_n 1, 1) := by decide +kernel
theorem dX10_judgeDeclaration_105 : decode cX10_judgeDeclaration 105 = .ok (.getfield 129, 3) := by decide +kernel
theorem dX10_judgeDeclaration_108 : decode cX10_judgeDeclaration 108 = .ok (.aload_n 1, 1) := by decide +kernel
theorem dX10_judgeDeclaration_109 : decode cX10_judgeDeclaration 109 = .ok (.getfield 170, 3) := by decide +kernel
theorem dX10_judgeDeclaration_112 : decode cX10_judgeDeclaration 112 = .ok (.getfield 90, 3) := by decide +kernel
theorem dX10_judgeDeclaration_115 : decode cX10_judgeDeclaration 115 = .ok (.invokevirtual 294, 3) := by decide +kernel
theorem dX10_judgeDeclaration_118 : decode cX10_judgeDeclaration 118 = .ok (.ifCond .ne 93, 3) := by decide +kernel
theorem dX10_judgeDeclaration_121 : decode cX10_judgeDeclaration 121 = .ok (.aload_n 0, 1) := by decide +kernel
theorem dX10_judgeDeclaration_122 : decode cX10_judgeDeclaration 122 = .ok (.bipush 10, 2) := by decide +kernel
theorem dX10_judgeDeclaration_124 : decode cX10_judgeDeclaration 124 = .ok (.aload_n 1, 1) := by decide +kernel
theorem dX10_judgeDeclaration_125 : decode cX10_judgeDeclaration 125 = .ok (.getfield 287, 3) := by decide +kernel
theorem dX10_judgeDeclaration_128 : decode cX10_judgeDeclaration 128 = .ok (.invokevirtual 290, 3) := by decide +kernel
theorem dX10_judgeDeclaration_131 : decode cX10_judgeDeclaration 131 = .ok (.goto 80, 3) := by decide +kernel
theorem dX10_judgeDeclaration_134 : decode cX10_judgeDeclaration 134 = .ok (.aload_n 0, 1) := by decide +kernel
theorem dX10_judgeDeclaration_135 : decode cX10_judgeDeclaration 135 = .ok (.aload_n 1, 1) := by decide +kernel
theorem dX10_judgeDeclaration_136 : decode cX10_judgeDeclaration 136 = .ok (.invokevirtual 297, 3) := by decide +kernel
theorem dX10_judgeDeclaration_139 : decode cX10_judgeDeclaration 139 = .ok (.goto 72, 3) := by decide +kernel
theorem dX10_judgeDeclaration_142 : decode cX10_judgeDeclaration 142 = .ok (.aload_n 1, 1) := by decide +kernel
theorem dX10_judgeDeclaration_143 : decode cX10_judgeDeclaration 143 = .ok (.aload_n 0, 1) := by decide +kernel
theorem dX10_judgeDeclaration_144 : decode cX10_judgeDeclaration 144 = .ok (.getfield 300, 3) := by decide +kernel
theorem dX10_judgeDeclaration_147 : decode cX10_judgeDeclaration 147 = .ok (.putfield 257, 3) := by decide +kernel
theorem dX10_judgeDeclaration_150 : decode cX10_judgeDeclaration 150 = .ok (.aload_n 0, 1) := by decide +kernel
theorem dX10_judgeDeclaration_151 : decode cX10_judgeDeclaration 151 = .ok (.dup, 1) := by decide +kernel
theorem dX10_judgeDeclaration_152 : decode cX10_judgeDeclaration 152 = .ok (.getfield 300, 3) := by decide +kernel
theorem dX10_judgeDeclaration_155 : decode cX10_judgeDeclaration 155 = .ok (.iconst 0, 1) := by decide +kernel
theorem dX10_judgeDeclaration_156 : decode cX10_judgeDeclaration 156 = .ok (.aload_n 1, 1) := by decide +kernel
theorem dX10_judgeDeclaration_157 : decode cX10_judgeDeclaration 157 = .ok (.getfield 129, 3) := by decide +kernel
theorem dX10_judgeDeclaration_160 : decode cX10_judgeDeclaration 160 = .ok (.getfield 90, 3) := by decide +kernel
theorem dX10_judgeDeclaration_163 : decode cX10_judgeDeclaration 163 = .ok (.getfield 235, 3) := by decide +kernel
theorem dX10_judgeDeclaration_166 : decode cX10_judgeDeclaration 166 = .ok (.invokestatic 303, 3) := by decide +kernel
theorem dX10_judgeDeclaration_169 : decode cX10_judgeDeclaration 169 = .ok (.iadd, 1) := by decide +kernel
theorem dX10_judgeDeclaration_170 : decode cX10_judgeDeclaration 170 = .ok (.putfield 300, 3) := by decide +kernel
theorem dX10_judgeDeclaration_173 : decode cX10_judgeDeclaration 173 = .ok (.aload_n 0, 1) := by decide +kernel
theorem dX10_judgeDeclaration_174 : decode cX10_judgeDeclaration 174 = .ok (.getfield 300, 3) := by decide +kernel
theorem dX10_judgeDeclaration_177 : decode cX10_judgeDeclaration 177 = .ok (.sipush 5000, 3) := by decide +kernel
theorem dX10_judgeDeclaration_180 : decode cX10_judgeDeclaration 180 = .ok (.if_icmp .le 31, 3) := by decide +kernel
theorem dX10_judgeDeclaration_183 : decode cX10_judgeDeclaration 183 = .ok (.aload_n 0, 1) := by decide +kernel
theorem dX10_judgeDeclaration_184 : decode cX10_judgeDeclaration 184 = .ok (.bipush 9, 2) := by decide +kernel
theorem dX10_judgeDeclaration_186 : decode cX10_judgeDeclaration 186 = .ok (.aload_n 1, 1) := by decide +kernel
theorem dX10_judgeDeclaration_187 : decode cX10_judgeDeclaration 187 = .ok (.getfield 287, 3) := by decide +kernel
theorem dX10_judgeDeclaration_190 : decode cX10_judgeDeclaration 190 = .ok (.invokevirtual 290, 3) := by decide +kernel
theorem dX10_judgeDeclaration_193 : decode cX10_judgeDeclaration 193 = .ok (.aload_n 0, 1) := by decide +kernel
theorem dX10_judgeDeclaration_194 : decode cX10_judgeDeclaration 194 = .ok (.sipush 5001, 3) := by decide +kernel
theorem dX10_judgeDeclaration_197 : decode cX10_judgeDeclaration 197 = .ok (.putfield 300, 3) := by decide +kernel
theorem dX10_judgeDeclaration_200 : decode cX10_judgeDeclaration 200 = .ok (.goto 11, 3) := by decide +kernel
theorem dX10_judgeDeclaration_203 : decode cX10_judgeDeclaration 203 = .ok (.aload_n 0, 1) := by decide +kernel
theorem dX10_judgeDeclaration_204 : decode cX10_judgeDeclaration 204 = .ok (.aload_n 1, 1) := by decide +kernel
theorem dX10_judgeDeclaration_205 : decode cX10_judgeDeclaration 205 = .ok (.invokevirtual 306, 3) := by decide +kernel
theorem dX10_judgeDeclaration_208 : decode cX10_judgeDeclaration 208 = .ok (.goto 3, 3) := by decide +kernel
theorem dX10_judgeDeclaration_211 : decode cX10_judgeDeclaration 211 = .ok (.return_, 1) := by decide +kernel
theorem dX10_judgeReveal_0 : decode cX10_judgeReveal 0 = .ok (.aload_n 1, 1) := by decide +kernel
theorem dX10_judgeReveal_1 : decode cX10_judgeReveal 1 = .ok (.invokestatic 135, 3) := by decide +kernel
theorem dX10_judgeReveal_4 : decode cX10_judgeReveal 4 = .ok (.astore_n 2, 1) := by decide +kernel
theorem dX10_judgeReveal_5 : decode cX10_judgeReveal 5 = .ok (.aload_n 2, 1) := by decide +kernel
theorem dX10_judgeReveal_6 : decode cX10_judgeReveal 6 = .ok (.getfield 119, 3) := by decide +kernel
theorem dX10_judgeReveal_9 : decode cX10_judgeReveal 9 = .ok (.bipush 12, 2) := by decide +kernel
theorem dX10_judgeReveal_11 : decode cX10_judgeReveal 11 = .ok (.if_icmp .eq 16, 3) := by decide +kernel
theorem dX10_judgeReveal_14 : decode cX10_judgeReveal 14 = .ok (.aload_n 0, 1) := by decide +kernel
theorem dX10_judgeReveal_15 : decode cX10_judgeReveal 15 = .ok (.bipush 10, 2) := by decide +kernel
theorem dX10_judgeReveal_17 : decode cX10_judgeReveal 17 = .ok (.aload_n 1, 1) := by decide +kernel
theorem dX10_judgeReveal_18 : decode cX10_judgeReveal 18 = .ok (.getfield 287, 3) := by decide +kernel
theorem dX10_judgeReveal_21 : decode cX10_judgeReveal 21 = .ok (.invokevirtual 290, 3) := by decide +kernel
theorem dX10_judgeReveal_24 : decode cX10_judgeReveal 24 = .ok (.goto 87, 3) := by decide +kernel
theorem dX10_judgeReveal_27 : decode cX10_judgeReveal 27 = .ok (.aload_n 1, 1) := by decide +kernel
theorem dX10_judgeReveal_28 : decode cX10_judgeReveal 28 = .ok (.getfield 64, 3) := by decide +kernel
theorem dX10_judgeReveal_31 : decode cX10_judgeReveal 31 = .ok (.bipush 6, 2) := by decide +kernel
theorem dX10_judgeReveal_33 : decode cX10_judgeReveal 33 = .ok (.if_icmp .ne 31, 3) := by decide +kernel
theorem dX10_judgeReveal_36 : decode cX10_judgeReveal 36 = .ok (.aload_n 0, 1) := by decide +kernel
theorem dX10_judgeReveal_37 : decode cX10_judgeReveal 37 = .ok (.aload_n 2, 1) := by decide +kernel
theorem dX10_judgeReveal_38 : decode cX10_judgeReveal 38 = .ok (.aload_n 1, 1) := by decide +kernel
theorem dX10_judgeReveal_39 : decode cX10_judgeReveal 39 = .ok (.getfield 170, 3) := by decide +kernel
theorem dX10_judgeReveal_42 : decode cX10_judgeReveal 42 = .ok (.getfield 90, 3) := by decide +kernel
theorem dX10_judgeReveal_45 : decode cX10_judgeReveal 45 = .ok (.invokevirtual 294, 3) := by decide +kernel
theorem dX10_judgeReveal_48 : decode cX10_judgeReveal 48 = .ok (.ifCond .ne 63, 3) := by decide +kernel
theorem dX10_judgeReveal_51 : decode cX10_judgeReveal 51 = .ok (.aload_n 0, 1) := by decide +kernel
theorem dX10_judgeReveal_52 : decode cX10_judgeReveal 52 = .ok (.bipush 10, 2) := by decide +kernel
theorem dX10_judgeReveal_54 : decode cX10_judgeReveal 54 = .ok (.aload_n 1, 1) := by decide +kernel
theorem dX10_judgeReveal_55 : decode cX10_judgeReveal 55 = .ok (.getfield 287, 3) := by decide +kernel
theorem dX10_judgeReveal_58 : decode cX10_judgeReveal 58 = .ok (.invokevirtual 290, 3) := by decide +kernel
theorem dX10_judgeReveal_61 : decode cX10_judgeReveal 61 = .ok (.goto 50, 3) := by decide +kernel
theorem dX10_judgeReveal_64 : decode cX10_judgeReveal 64 = .ok (.aload_n 0, 1) := by decide +kernel
theorem dX10_judgeReveal_65 : decode cX10_judgeReveal 65 = .ok (.aconst_null, 1) := by decide +kernel
theorem dX10_judgeReveal_66 : decode cX10_judgeReveal 66 = .ok (.aload_n 2, 1) := by decide +kernel
theorem dX10_judgeReveal_67 : decode cX10_judgeReveal 67 = .ok (.invokevirtual 152, 3) := by decide +kernel
theorem dX10_judgeReveal_70 : decode cX10_judgeReveal 70 = .ok (.aload_n 1, 1) := by decide +kernel
theorem dX10_judgeReveal_71 : decode cX10_judgeReveal 71 = .ok (.getfield 129, 3) := by decide +kernel
theorem dX10_judgeReveal_74 : decode cX10_judgeReveal 74 = .ok (.if_acmp .eq 16, 3) := by decide +kernel
theorem dX10_judgeReveal_77 : decode cX10_judgeReveal 77 = .ok (.aload_n 0, 1) := by decide +kernel
theorem dX10_judgeReveal_78 : decode cX10_judgeReveal 78 = .ok (.bipush 10, 2) := by decide +kernel
theorem dX10_judgeReveal_80 : decode cX10_judgeReveal 80 = .ok (.aload_n 1, 1) := by decide +kernel
theorem dX10_judgeReveal_81 : decode cX10_judgeReveal 81 = .ok (.getfield 287, 3) := by decide +kernel
theorem dX10_judgeReveal_84 : decode cX10_judgeReveal 84 = .ok (.invokevirtual 290, 3) := by decide +kernel
theorem dX10_judgeReveal_87 : decode cX10_judgeReveal 87 = .ok (.goto 24, 3) := by decide +kernel
theorem dX10_judgeReveal_90 : decode cX10_judgeReveal 90 = .ok (.aload_n 0, 1) := by decide +kernel
theorem dX10_judgeReveal_91 : decode cX10_judgeReveal 91 = .ok (.aload_n 2, 1) := by decide +kernel
theorem dX10_judgeReveal_92 : decode cX10_judgeReveal 92 = .ok (.getfield 139, 3) := by decide +kernel
theorem dX10_judgeReveal_95 : decode cX10_judgeReveal 95 = .ok (.invokevirtual 280, 3) := by decide +kernel
theorem dX10_judgeReveal_98 : decode cX10_judgeReveal 98 = .ok (.ifCond .eq 13, 3) := by decide +kernel
theorem dX10_judgeReveal_101 : decode cX10_judgeReveal 101 = .ok (.aload_n 0, 1) := by decide +kernel
theorem dX10_judgeReveal_102 : decode cX10_judgeReveal 102 = .ok (.bipush 8, 2) := by decide +kernel
theorem dX10_judgeReveal_104 : decode cX10_judgeReveal 104 = .ok (.aload_n 1, 1) := by decide +kernel
theorem dX10_judgeReveal_105 : decode cX10_judgeReveal 105 = .ok (.getfield 287, 3) := by decide +kernel
theorem dX10_judgeReveal_108 : decode cX10_judgeReveal 108 = .ok (.invokevirtual 290, 3) := by decide +kernel
theorem dX10_judgeReveal_111 : decode cX10_judgeReveal 111 = .ok (.return_, 1) := by decide +kernel
theorem dX10_isAboveInWhole_0 : decode cX10_isAboveInWhole 0 = .ok (.aload_n 2, 1) := by decide +kernel
theorem dX10_isAboveInWhole_1 : decode cX10_isAboveInWhole 1 = .ok (.invokestatic 173, 3) := by decide +kernel
theorem dX10_isAboveInWhole_4 : decode cX10_isAboveInWhole 4 = .ok (.ifCond .ne 5, 3) := by decide +kernel
theorem dX10_isAboveInWhole_7 : decode cX10_isAboveInWhole 7 = .ok (.iconst 0, 1) := by decide +kernel
theorem dX10_isAboveInWhole_8 : decode cX10_isAboveInWhole 8 = .ok (.ireturn, 1) := by decide +kernel
theorem dX10_isAboveInWhole_9 : decode cX10_isAboveInWhole 9 = .ok (.aload_n 1, 1) := by decide +kernel
theorem dX10_isAboveInWhole_10 : decode cX10_isAboveInWhole 10 = .ok (.getfield 101, 3) := by decide +kernel
theorem dX10_isAboveInWhole_13 : decode cX10_isAboveInWhole 13 = .ok (.astore_n 3, 1) := by decide +kernel
theorem dX10_isAboveInWhole_14 : decode cX10_isAboveInWhole 14 = .ok (.iconst 0, 1) := by decide +kernel
theorem dX10_isAboveInWhole_15 : decode cX10_isAboveInWhole 15 = .ok (.istore 4, 2) := by decide +kernel
theorem dX10_isAboveInWhole_17 : decode cX10_isAboveInWhole 17 = .ok (.iload 4, 2) := by decide +kernel
theorem dX10_isAboveInWhole_19 : decode cX10_isAboveInWhole 19 = .ok (.aload_n 0, 1) := by decide +kernel
theorem dX10_isAboveInWhole_20 : decode cX10_isAboveInWhole 20 = .ok (.getfield 53, 3) := by decide +kernel
theorem dX10_isAboveInWhole_23 : decode cX10_isAboveInWhole 23 = .ok (.if_icmp .ge 42, 3) := by decide +kernel
theorem dX10_isAboveInWhole_26 : decode cX10_isAboveInWhole 26 = .ok (.aload_n 3, 1) := by decide +kernel
theorem dX10_isAboveInWhole_27 : decode cX10_isAboveInWhole 27 = .ok (.ifnull 38, 3) := by decide +kernel
theorem dX10_isAboveInWhole_30 : decode cX10_isAboveInWhole 30 = .ok (.aload_n 3, 1) := by decide +kernel
theorem dX10_isAboveInWhole_31 : decode cX10_isAboveInWhole 31 = .ok (.getfield 41, 3) := by decide +kernel
theorem dX10_isAboveInWhole_34 : decode cX10_isAboveInWhole 34 = .ok (.aload_n 2, 1) := by decide +kernel
theorem dX10_isAboveInWhole_35 : decode cX10_isAboveInWhole 35 = .ok (.getfield 41, 3) := by decide +kernel
theorem dX10_isAboveInWhole_38 : decode cX10_isAboveInWhole 38 = .ok (.if_icmp .ne 16, 3) := by decide +kernel
theorem dX10_isAboveInWhole_41 : decode cX10_isAboveInWhole 41 = .ok (.aload_n 3, 1) := by decide +kernel
theorem dX10_isAboveInWhole_42 : decode cX10_isAboveInWhole 42 = .ok (.getfield 41, 3) := by decide +kernel
theorem dX10_isAboveInWhole_45 : decode cX10_isAboveInWhole 45 = .ok (.aload_n 1, 1) := by decide +kernel
theorem dX10_isAboveInWhole_46 : decode cX10_isAboveInWhole 46 = .ok (.getfield 41, 3) := by decide +kernel
theorem dX10_isAboveInWhole_49 : decode cX10_isAboveInWhole 49 = .ok (.if_icmp .eq 5, 3) := by decide +kernel
theorem dX10_isAboveInWhole_52 : decode cX10_isAboveInWhole 52 = .ok (.iconst 1, 1) := by decide +kernel
theorem dX10_isAboveInWhole_53 : decode cX10_isAboveInWhole 53 = .ok (.ireturn, 1) := by decide +kernel
theorem dX10_isAboveInWhole_54 : decode cX10_isAboveInWhole 54 = .ok (.aload_n 3, 1) := by decide +kernel
theorem dX10_isAboveInWhole_55 : decode cX10_isAboveInWhole 55 = .ok (.getfield 101, 3) := by decide +kernel
theorem dX10_isAboveInWhole_58 : decode cX10_isAboveInWhole 58 = .ok (.astore_n 3, 1) := by decide +kernel
theorem dX10_isAboveInWhole_59 : decode cX10_isAboveInWhole 59 = .ok (.iinc 4 1, 3) := by decide +kernel
theorem dX10_isAboveInWhole_62 : decode cX10_isAboveInWhole 62 = .ok (.goto (-45), 3) := by decide +kernel
theorem dX10_isAboveInWhole_65 : decode cX10_isAboveInWhole 65 = .ok (.iconst 0, 1) := by decide +kernel
theorem dX10_isAboveInWhole_66 : decode cX10_isAboveInWhole 66 = .ok (.ireturn, 1) := by decide +kernel
theorem dX10_isInRing_0 : decode cX10_isInRing 0 = .ok (.aload_n 0, 1) := by decide +kernel
theorem dX10_isInRing_1 : decode cX10_isInRing 1 = .ok (.aload_n 1, 1) := by decide +kernel
theorem dX10_isInRing_2 : decode cX10_isInRing 2 = .ok (.invokevirtual 309, 3) := by decide +kernel
theorem dX10_isInRing_5 : decode cX10_isInRing 5 = .ok (.astore_n 2, 1) := by decide +kernel
theorem dX10_isInRing_6 : decode cX10_isInRing 6 = .ok (.iconst 0, 1) := by decide +kernel
theorem dX10_isInRing_7 : decode cX10_isInRing 7 = .ok (.istore_n 3, 1) := by decide +kernel
theorem dX10_isInRing_8 : decode cX10_isInRing 8 = .ok (.iload_n 3, 1) := by decide +kernel
theorem dX10_isInRing_9 : decode cX10_isInRing 9 = .ok (.aload_n 0, 1) := by decide +kernel
theorem dX10_isInRing_10 : decode cX10_isInRing 10 = .ok (.getfield 74, 3) := by decide +kernel
theorem dX10_isInRing_13 : decode cX10_isInRing 13 = .ok (.arraylength, 1) := by decide +kernel
theorem dX10_isInRing_14 : decode cX10_isInRing 14 = .ok (.if_icmp .gt 26, 3) := by decide +kernel
theorem dX10_isInRing_17 : decode cX10_isInRing 17 = .ok (.aload_n 2, 1) := by decide +kernel
theorem dX10_isInRing_18 : decode cX10_isInRing 18 = .ok (.ifnull 22, 3) := by decide +kernel
theorem dX10_isInRing_21 : decode cX10_isInRing 21 = .ok (.aload_n 2, 1) := by decide +kernel
theorem dX10_isInRing_22 : decode cX10_isInRing 22 = .ok (.aload_n 1, 1) := by decide +kernel
theorem dX10_isInRing_23 : decode cX10_isInRing 23 = .ok (.if_acmp .ne 5, 3) := by decide +kernel
theorem dX10_isInRing_26 : decode cX10_isInRing 26 = .ok (.iconst 1, 1) := by decide +kernel
theorem dX10_isInRing_27 : decode cX10_isInRing 27 = .ok (.ireturn, 1) := by decide +kernel
theorem dX10_isInRing_28 : decode cX10_isInRing 28 = .ok (.aload_n 0, 1) := by decide +kernel
theorem dX10_isInRing_29 : decode cX10_isInRing 29 = .ok (.aload_n 2, 1) := by decide +kernel
theorem dX10_isInRing_30 : decode cX10_isInRing 30 = .ok (.invokevirtual 309, 3) := by decide +kernel
theorem dX10_isInRing_33 : decode cX10_isInRing 33 = .ok (.astore_n 2, 1) := by decide +kernel
theorem dX10_isInRing_34 : decode cX10_isInRing 34 = .ok (.iinc 3 1, 3) := by decide +kernel
theorem dX10_isInRing_37 : decode cX10_isInRing 37 = .ok (.goto (-29), 3) := by decide +kernel
theorem dX10_isInRing_40 : decode cX10_isInRing 40 = .ok (.iconst 0, 1) := by decide +kernel
theorem dX10_isInRing_41 : decode cX10_isInRing 41 = .ok (.ireturn, 1) := by decide +kernel
theorem dX10_aboveByName_0 : decode cX10_aboveByName 0 = .ok (.aload_n 1, 1) := by decide +kernel
theorem dX10_aboveByName_1 : decode cX10_aboveByName 1 = .ok (.getfield 64, 3) := by decide +kernel
theorem dX10_aboveByName_4 : decode cX10_aboveByName 4 = .ok (.iconst 4, 1) := by decide +kernel
theorem dX10_aboveByName_5 : decode cX10_aboveByName 5 = .ok (.if_icmp .ne 15, 3) := by decide +kernel
theorem dX10_aboveByName_8 : decode cX10_aboveByName 8 = .ok (.aload_n 0, 1) := by decide +kernel
theorem dX10_aboveByName_9 : decode cX10_aboveByName 9 = .ok (.aconst_null, 1) := by decide +kernel
theorem dX10_aboveByName_10 : decode cX10_aboveByName 10 = .ok (.aload_n 1, 1) := by decide +kernel
theorem dX10_aboveByName_11 : decode cX10_aboveByName 11 = .ok (.getfield 129, 3) := by decide +kernel
theorem dX10_aboveByName_14 : decode cX10_aboveByName 14 = .ok (.invokevirtual 152, 3) := by decide +kernel
theorem dX10_aboveByName_17 : decode cX10_aboveByName 17 = .ok (.goto 7, 3) := by decide +kernel
theorem dX10_aboveByName_20 : decode cX10_aboveByName 20 = .ok (.aload_n 1, 1) := by decide +kernel
theorem dX10_aboveByName_21 : decode cX10_aboveByName 21 = .ok (.getfield 129, 3) := by decide +kernel
theorem dX10_aboveByName_24 : decode cX10_aboveByName 24 = .ok (.astore_n 2, 1) := by decide +kernel
theorem dX10_aboveByName_25 : decode cX10_aboveByName 25 = .ok (.aload_n 2, 1) := by decide +kernel
theorem dX10_aboveByName_26 : decode cX10_aboveByName 26 = .ok (.ifnull 17, 3) := by decide +kernel
theorem dX10_aboveByName_29 : decode cX10_aboveByName 29 = .ok (.aload_n 2, 1) := by decide +kernel
theorem dX10_aboveByName_30 : decode cX10_aboveByName 30 = .ok (.getfield 119, 3) := by decide +kernel
theorem dX10_aboveByName_33 : decode cX10_aboveByName 33 = .ok (.bipush 11, 2) := by decide +kernel
theorem dX10_aboveByName_35 : decode cX10_aboveByName 35 = .ok (.if_icmp .ne 8, 3) := by decide +kernel
theorem dX10_aboveByName_38 : decode cX10_aboveByName 38 = .ok (.aload_n 2, 1) := by decide +kernel
theorem dX10_aboveByName_39 : decode cX10_aboveByName 39 = .ok (.getfield 156, 3) := by decide +kernel
theorem dX10_aboveByName_42 : decode cX10_aboveByName 42 = .ok (.astore_n 2, 1) := by decide +kernel
theorem dX10_aboveByName_43 : decode cX10_aboveByName 43 = .ok (.aload_n 2, 1) := by decide +kernel
theorem dX10_aboveByName_44 : decode cX10_aboveByName 44 = .ok (.ifnull 22, 3) := by decide +kernel
theorem dX10_aboveByName_47 : decode cX10_aboveByName 47 = .ok (.aload_n 2, 1) := by decide +kernel
theorem dX10_aboveByName_48 : decode cX10_aboveByName 48 = .ok (.getfield 119, 3) := by decide +kernel
theorem dX10_aboveByName_51 : decode cX10_aboveByName 51 = .ok (.bipush 13, 2) := by decide +kernel
theorem dX10_aboveByName_53 : decode cX10_aboveByName 53 = .ok (.if_icmp .ne 13, 3) := by decide +kernel
theorem dX10_aboveByName_56 : decode cX10_aboveByName 56 = .ok (.aload_n 2, 1) := by decide +kernel
theorem dX10_aboveByName_57 : decode cX10_aboveByName 57 = .ok (.getfield 120, 3) := by decide +kernel
theorem dX10_aboveByName_60 : decode cX10_aboveByName 60 = .ok (.getfield 124, 3) := by decide +kernel
theorem dX10_aboveByName_63 : decode cX10_aboveByName 63 = .ok (.goto 4, 3) := by decide +kernel
theorem dX10_aboveByName_66 : decode cX10_aboveByName 66 = .ok (.aconst_null, 1) := by decide +kernel
theorem dX10_aboveByName_67 : decode cX10_aboveByName 67 = .ok (.areturn, 1) := by decide +kernel
theorem dX10_judgeNode_0 : decode cX10_judgeNode 0 = .ok (.aload_n 1, 1) := by decide +kernel
theorem dX10_judgeNode_1 : decode cX10_judgeNode 1 = .ok (.getfield 119, 3) := by decide +kernel
theorem dX10_judgeNode_4 : decode cX10_judgeNode 4 = .ok (.iconst 2, 1) := by decide +kernel
theorem dX10_judgeNode_5 : decode cX10_judgeNode 5 = .ok (.if_icmp .eq 11, 3) := by decide +kernel
theorem dX10_judgeNode_8 : decode cX10_judgeNode 8 = .ok (.aload_n 1, 1) := by decide +kernel
theorem dX10_judgeNode_9 : decode cX10_judgeNode 9 = .ok (.getfield 119, 3) := by decide +kernel
theorem dX10_judgeNode_12 : decode cX10_judgeNode 12 = .ok (.iconst 3, 1) := by decide +kernel
theorem dX10_judgeNode_13 : decode cX10_judgeNode 13 = .ok (.if_icmp .ne 24, 3) := by decide +kernel
theorem dX10_judgeNode_16 : decode cX10_judgeNode 16 = .ok (.aload_n 1, 1) := by decide +kernel
theorem dX10_judgeNode_17 : decode cX10_judgeNode 17 = .ok (.getfield 201, 3) := by decide +kernel
theorem dX10_judgeNode_20 : decode cX10_judgeNode 20 = .ok (.aload_n 1, 1) := by decide +kernel
theorem dX10_judgeNode_21 : decode cX10_judgeNode 21 = .ok (.getfield 204, 3) := by decide +kernel
theorem dX10_judgeNode_24 : decode cX10_judgeNode 24 = .ok (.if_icmp .le 13, 3) := by decide +kernel
theorem dX10_judgeNode_27 : decode cX10_judgeNode 27 = .ok (.aload_n 0, 1) := by decide +kernel
theorem dX10_judgeNode_28 : decode cX10_judgeNode 28 = .ok (.bipush 9, 2) := by decide +kernel
theorem dX10_judgeNode_30 : decode cX10_judgeNode 30 = .ok (.aload_n 1, 1) := by decide +kernel
theorem dX10_judgeNode_31 : decode cX10_judgeNode 31 = .ok (.getfield 319, 3) := by decide +kernel
theorem dX10_judgeNode_34 : decode cX10_judgeNode 34 = .ok (.invokevirtual 290, 3) := by decide +kernel
theorem dX10_judgeNode_37 : decode cX10_judgeNode 37 = .ok (.aload_n 1, 1) := by decide +kernel
theorem dX10_judgeNode_38 : decode cX10_judgeNode 38 = .ok (.getfield 119, 3) := by decide +kernel
theorem dX10_judgeNode_41 : decode cX10_judgeNode 41 = .ok (.iconst 3, 1) := by decide +kernel
theorem dX10_judgeNode_42 : decode cX10_judgeNode 42 = .ok (.if_icmp .ne 31, 3) := by decide +kernel
theorem dX10_judgeNode_45 : decode cX10_judgeNode 45 = .ok (.aload_n 1, 1) := by decide +kernel
theorem dX10_judgeNode_46 : decode cX10_judgeNode 46 = .ok (.getfield 204, 3) := by decide +kernel
theorem dX10_judgeNode_49 : decode cX10_judgeNode 49 = .ok (.i2l, 1) := by decide +kernel
theorem dX10_judgeNode_50 : decode cX10_judgeNode 50 = .ok (.aload_n 1, 1) := by decide +kernel
theorem dX10_judgeNode_51 : decode cX10_judgeNode 51 = .ok (.getfield 201, 3) := by decide +kernel
theorem dX10_judgeNode_54 : decode cX10_judgeNode 54 = .ok (.i2l, 1) := by decide +kernel
theorem dX10_judgeNode_55 : decode cX10_judgeNode 55 = .ok (.lsub, 1) := by decide +kernel
theorem dX10_judgeNode_56 : decode cX10_judgeNode 56 = .ok (.ldc2_w 320, 3) := by decide +kernel
theorem dX10_judgeNode_59 : decode cX10_judgeNode 59 = .ok (.lcmp, 1) := by decide +kernel
theorem dX10_judgeNode_60 : decode cX10_judgeNode 60 = .ok (.ifCond .lt 13, 3) := by decide +kernel
theorem dX10_judgeNode_63 : decode cX10_judgeNode 63 = .ok (.aload_n 0, 1) := by decide +kernel
theorem dX10_judgeNode_64 : decode cX10_judgeNode 64 = .ok (.bipush 9, 2) := by decide +kernel
theorem dX10_judgeNode_66 : decode cX10_judgeNode 66 = .ok (.aload_n 1, 1) := by decide +kernel
theorem dX10_judgeNode_67 : decode cX10_judgeNode 67 = .ok (.getfield 319, 3) := by decide +kernel
theorem dX10_judgeNode_70 : decode cX10_judgeNode 70 = .ok (.invokevirtual 290, 3) := by decide +kernel
theorem dX10_judgeNode_73 : decode cX10_judgeNode 73 = .ok (.aload_n 1, 1) := by decide +kernel
theorem dX10_judgeNode_74 : decode cX10_judgeNode 74 = .ok (.invokestatic 322, 3) := by decide +kernel
theorem dX10_judgeNode_77 : decode cX10_judgeNode 77 = .ok (.ifCond .eq 23, 3) := by decide +kernel
theorem dX10_judgeNode_80 : decode cX10_judgeNode 80 = .ok (.aload_n 1, 1) := by decide +kernel
theorem dX10_judgeNode_81 : decode cX10_judgeNode 81 = .ok (.getfield 235, 3) := by decide +kernel
theorem dX10_judgeNode_84 : decode cX10_judgeNode 84 = .ok (.sipush 2000, 3) := by decide +kernel
theorem dX10_judgeNode_87 : decode cX10_judgeNode 87 = .ok (.if_icmp .le 13, 3) := by decide +kernel
theorem dX10_judgeNode_90 : decode cX10_judgeNode 90 = .ok (.aload_n 0, 1) := by decide +kernel
theorem dX10_judgeNode_91 : decode cX10_judgeNode 91 = .ok (.bipush 9, 2) := by decide +kernel
theorem dX10_judgeNode_93 : decode cX10_judgeNode 93 = .ok (.aload_n 1, 1) := by decide +kernel
theorem dX10_judgeNode_94 : decode cX10_judgeNode 94 = .ok (.getfield 319, 3) := by decide +kernel
theorem dX10_judgeNode_97 : decode cX10_judgeNode 97 = .ok (.invokevirtual 290, 3) := by decide +kernel
theorem dX10_judgeNode_100 : decode cX10_judgeNode 100 = .ok (.aload_n 1, 1) := by decide +kernel
theorem dX10_judgeNode_101 : decode cX10_judgeNode 101 = .ok (.getfield 119, 3) := by decide +kernel
theorem dX10_judgeNode_104 : decode cX10_judgeNode 104 = .ok (.bipush 6, 2) := by decide +kernel
theorem dX10_judgeNode_106 : decode cX10_judgeNode 106 = .ok (.if_icmp .ne 33, 3) := by decide +kernel
theorem dX10_judgeNode_109 : decode cX10_judgeNode 109 = .ok (.aload_n 1, 1) := by decide +kernel
theorem dX10_judgeNode_110 : decode cX10_judgeNode 110 = .ok (.getfield 156, 3) := by decide +kernel
theorem dX10_judgeNode_113 : decode cX10_judgeNode 113 = .ok (.ifnull 26, 3) := by decide +kernel
theorem dX10_judgeNode_116 : decode cX10_judgeNode 116 = .ok (.aload_n 1, 1) := by decide +kernel
theorem dX10_judgeNode_117 : decode cX10_judgeNode 117 = .ok (.getfield 156, 3) := by decide +kernel
theorem dX10_judgeNode_120 : decode cX10_judgeNode 120 = .ok (.getfield 90, 3) := by decide +kernel
theorem dX10_judgeNode_123 : decode cX10_judgeNode 123 = .ok (.invokestatic 322, 3) := by decide +kernel
theorem dX10_judgeNode_126 : decode cX10_judgeNode 126 = .ok (.ifCond .eq 13, 3) := by decide +kernel
theorem dX10_judgeNode_129 : decode cX10_judgeNode 129 = .ok (.aload_n 0, 1) := by decide +kernel
theorem dX10_judgeNode_130 : decode cX10_judgeNode 130 = .ok (.bipush 9, 2) := by decide +kernel
theorem dX10_judgeNode_132 : decode cX10_judgeNode 132 = .ok (.aload_n 1, 1) := by decide +kernel
theorem dX10_judgeNode_133 : decode cX10_judgeNode 133 = .ok (.getfield 319, 3) := by decide +kernel
theorem dX10_judgeNode_136 : decode cX10_judgeNode 136 = .ok (.invokevirtual 290, 3) := by decide +kernel
theorem dX10_judgeNode_139 : decode cX10_judgeNode 139 = .ok (.aload_n 1, 1) := by decide +kernel
theorem dX10_judgeNode_140 : decode cX10_judgeNode 140 = .ok (.getfield 119, 3) := by decide +kernel
theorem dX10_judgeNode_143 : decode cX10_judgeNode 143 = .ok (.bipush 11, 2) := by decide +kernel
theorem dX10_judgeNode_145 : decode cX10_judgeNode 145 = .ok (.if_icmp .ne 26, 3) := by decide +kernel
theorem dX10_judgeNode_148 : decode cX10_judgeNode 148 = .ok (.aload_n 1, 1) := by decide +kernel
theorem dX10_judgeNode_149 : decode cX10_judgeNode 149 = .ok (.getfield 156, 3) := by decide +kernel
theorem dX10_judgeNode_152 : decode cX10_judgeNode 152 = .ok (.getfield 90, 3) := by decide +kernel
theorem dX10_judgeNode_155 : decode cX10_judgeNode 155 = .ok (.invokestatic 173, 3) := by decide +kernel
theorem dX10_judgeNode_158 : decode cX10_judgeNode 158 = .ok (.ifCond .ne 13, 3) := by decide +kernel
theorem dX10_judgeNode_161 : decode cX10_judgeNode 161 = .ok (.aload_n 0, 1) := by decide +kernel
theorem dX10_judgeNode_162 : decode cX10_judgeNode 162 = .ok (.bipush 10, 2) := by decide +kernel
theorem dX10_judgeNode_164 : decode cX10_judgeNode 164 = .ok (.aload_n 1, 1) := by decide +kernel
theorem dX10_judgeNode_165 : decode cX10_judgeNode 165 = .ok (.getfield 319, 3) := by decide +kernel
theorem dX10_judgeNode_168 : decode cX10_judgeNode 168 = .ok (.invokevirtual 290, 3) := by decide +kernel
theorem dX10_judgeNode_171 : decode cX10_judgeNode 171 = .ok (.return_, 1) := by decide +kernel
theorem dX10_judgeMethods_0 : decode cX10_judgeMethods 0 = .ok (.aload_n 1, 1) := by decide +kernel
theorem dX10_judgeMethods_1 : decode cX10_judgeMethods 1 = .ok (.getfield 139, 3) := by decide +kernel
theorem dX10_judgeMethods_4 : decode cX10_judgeMethods 4 = .ok (.ifnonnull 7, 3) := by decide +kernel
theorem dX10_judgeMethods_7 : decode cX10_judgeMethods 7 = .ok (.aload_n 1, 1) := by decide +kernel
theorem dX10_judgeMethods_8 : decode cX10_judgeMethods 8 = .ok (.goto 10, 3) := by decide +kernel
theorem dX10_judgeMethods_11 : decode cX10_judgeMethods 11 = .ok (.aload_n 1, 1) := by decide +kernel
theorem dX10_judgeMethods_12 : decode cX10_judgeMethods 12 = .ok (.getfield 139, 3) := by decide +kernel
theorem dX10_judgeMethods_15 : decode cX10_judgeMethods 15 = .ok (.invokestatic 135, 3) := by decide +kernel
theorem dX10_judgeMethods_18 : decode cX10_judgeMethods 18 = .ok (.astore_n 2, 1) := by decide +kernel
theorem dX10_judgeMethods_19 : decode cX10_judgeMethods 19 = .ok (.aload_n 1, 1) := by decide +kernel
theorem dX10_judgeMethods_20 : decode cX10_judgeMethods 20 = .ok (.getfield 325, 3) := by decide +kernel
theorem dX10_judgeMethods_23 : decode cX10_judgeMethods 23 = .ok (.astore_n 3, 1) := by decide +kernel
theorem dX10_judgeMethods_24 : decode cX10_judgeMethods 24 = .ok (.aload_n 1, 1) := by decide +kernel
theorem dX10_judgeMethods_25 : decode cX10_judgeMethods 25 = .ok (.getfield 210, 3) := by decide +kernel
theorem dX10_judgeMethods_28 : decode cX10_judgeMethods 28 = .ok (.astore 4, 2) := by decide +kernel
theorem dX10_judgeMethods_30 : decode cX10_judgeMethods 30 = .ok (.aload 4, 2) := by decide +kernel
theorem dX10_judgeMethods_32 : decode cX10_judgeMethods 32 = .ok (.ifnull 165, 3) := by decide +kernel
theorem dX10_judgeMethods_35 : decode cX10_judgeMethods 35 = .ok (.aload 4, 2) := by decide +kernel
theorem dX10_judgeMethods_37 : decode cX10_judgeMethods 37 = .ok (.getfield 64, 3) := by decide +kernel
theorem dX10_judgeMethods_40 : decode cX10_judgeMethods 40 = .ok (.bipush 11, 2) := by decide +kernel
theorem dX10_judgeMethods_42 : decode cX10_judgeMethods 42 = .ok (.if_icmp .ne 56, 3) := by decide +kernel
theorem dX10_judgeMethods_45 : decode cX10_judgeMethods 45 = .ok (.aload 4, 2) := by decide +kernel
theorem dX10_judgeMethods_47 : decode cX10_judgeMethods 47 = .ok (.aload_n 2, 1) := by decide +kernel
theorem dX10_judgeMethods_48 : decode cX10_judgeMethods 48 = .ok (.getfield 41, 3) := by decide +kernel
theorem dX10_judgeMethods_51 : decode cX10_judgeMethods 51 = .ok (.putfield 114, 3) := by decide +kernel
theorem dX10_judgeMethods_54 : decode cX10_judgeMethods 54 = .ok (.aload 4, 2) := by decide +kernel
theorem dX10_judgeMethods_56 : decode cX10_judgeMethods 56 = .ok (.getfield 145, 3) := by decide +kernel
theorem dX10_judgeMethods_59 : decode cX10_judgeMethods 59 = .ok (.ifnull 128, 3) := by decide +kernel
theorem dX10_judgeMethods_62 : decode cX10_judgeMethods 62 = .ok (.aload_n 0, 1) := by decide +kernel
theorem dX10_judgeMethods_63 : decode cX10_judgeMethods 63 = .ok (.aload 4, 2) := by decide +kernel
theorem dX10_judgeMethods_65 : decode cX10_judgeMethods 65 = .ok (.getfield 145, 3) := by decide +kernel
theorem dX10_judgeMethods_68 : decode cX10_judgeMethods 68 = .ok (.getfield 124, 3) := by decide +kernel
theorem dX10_judgeMethods_71 : decode cX10_judgeMethods 71 = .ok (.aload 4, 2) := by decide +kernel
theorem dX10_judgeMethods_73 : decode cX10_judgeMethods 73 = .ok (.getfield 129, 3) := by decide +kernel
theorem dX10_judgeMethods_76 : decode cX10_judgeMethods 76 = .ok (.aload_n 2, 1) := by decide +kernel
theorem dX10_judgeMethods_77 : decode cX10_judgeMethods 77 = .ok (.aload_n 3, 1) := by decide +kernel
theorem dX10_judgeMethods_78 : decode cX10_judgeMethods 78 = .ok (.invokevirtual 326, 3) := by decide +kernel
theorem dX10_judgeMethods_81 : decode cX10_judgeMethods 81 = .ok (.ifCond .ne 106, 3) := by decide +kernel
theorem dX10_judgeMethods_84 : decode cX10_judgeMethods 84 = .ok (.aload_n 0, 1) := by decide +kernel
theorem dX10_judgeMethods_85 : decode cX10_judgeMethods 85 = .ok (.bipush 11, 2) := by decide +kernel
theorem dX10_judgeMethods_87 : decode cX10_judgeMethods 87 = .ok (.aload 4, 2) := by decide +kernel
theorem dX10_judgeMethods_89 : decode cX10_judgeMethods 89 = .ok (.getfield 287, 3) := by decide +kernel
theorem dX10_judgeMethods_92 : decode cX10_judgeMethods 92 = .ok (.invokevirtual 290, 3) := by decide +kernel
theorem dX10_judgeMethods_95 : decode cX10_judgeMethods 95 = .ok (.goto 92, 3) := by decide +kernel
theorem dX10_judgeMethods_98 : decode cX10_judgeMethods 98 = .ok (.aload 4, 2) := by decide +kernel
theorem dX10_judgeMethods_100 : decode cX10_judgeMethods 100 = .ok (.getfield 64, 3) := by decide +kernel
theorem dX10_judgeMethods_103 : decode cX10_judgeMethods 103 = .ok (.bipush 12, 2) := by decide +kernel
theorem dX10_judgeMethods_105 : decode cX10_judgeMethods 105 = .ok (.if_icmp .ne 82, 3) := by decide +kernel
theorem dX10_judgeMethods_108 : decode cX10_judgeMethods 108 = .ok (.aload 4, 2) := by decide +kernel
theorem dX10_judgeMethods_110 : decode cX10_judgeMethods 110 = .ok (.aload_n 0, 1) := by decide +kernel
theorem dX10_judgeMethods_111 : decode cX10_judgeMethods 111 = .ok (.aload_n 3, 1) := by decide +kernel
theorem dX10_judgeMethods_112 : decode cX10_judgeMethods 112 = .ok (.aload_n 1, 1) := by decide +kernel
theorem dX10_judgeMethods_113 : decode cX10_judgeMethods 113 = .ok (.getfield 156, 3) := by decide +kernel
theorem dX10_judgeMethods_116 : decode cX10_judgeMethods 116 = .ok (.getfield 90, 3) := by decide +kernel
theorem dX10_judgeMethods_119 : decode cX10_judgeMethods 119 = .ok (.aload 4, 2) := by decide +kernel
theorem dX10_judgeMethods_121 : decode cX10_judgeMethods 121 = .ok (.getfield 213, 3) := by decide +kernel
theorem dX10_judgeMethods_124 : decode cX10_judgeMethods 124 = .ok (.invokevirtual 330, 3) := by decide +kernel
theorem dX10_judgeMethods_127 : decode cX10_judgeMethods 127 = .ok (.putfield 116, 3) := by decide +kernel
theorem dX10_judgeMethods_130 : decode cX10_judgeMethods 130 = .ok (.aload 4, 2) := by decide +kernel
theorem dX10_judgeMethods_132 : decode cX10_judgeMethods 132 = .ok (.getfield 116, 3) := by decide +kernel
theorem dX10_judgeMethods_135 : decode cX10_judgeMethods 135 = .ok (.ifnull 41, 3) := by decide +kernel
theorem dX10_judgeMethods_138 : decode cX10_judgeMethods 138 = .ok (.aload 4, 2) := by decide +kernel
theorem dX10_judgeMethods_140 : decode cX10_judgeMethods 140 = .ok (.getfield 116, 3) := by decide +kernel
theorem dX10_judgeMethods_143 : decode cX10_judgeMethods 143 = .ok (.getfield 64, 3) := by decide +kernel
theorem dX10_judgeMethods_146 : decode cX10_judgeMethods 146 = .ok (.bipush 11, 2) := by decide +kernel
theorem dX10_judgeMethods_148 : decode cX10_judgeMethods 148 = .ok (.if_icmp .ne 28, 3) := by decide +kernel
theorem dX10_judgeMethods_151 : decode cX10_judgeMethods 151 = .ok (.aload_n 0, 1) := by decide +kernel
theorem dX10_judgeMethods_152 : decode cX10_judgeMethods 152 = .ok (.aload 4, 2) := by decide +kernel
theorem dX10_judgeMethods_154 : decode cX10_judgeMethods 154 = .ok (.getfield 145, 3) := by decide +kernel
theorem dX10_judgeMethods_157 : decode cX10_judgeMethods 157 = .ok (.getfield 124, 3) := by decide +kernel
theorem dX10_judgeMethods_160 : decode cX10_judgeMethods 160 = .ok (.aload 4, 2) := by decide +kernel
theorem dX10_judgeMethods_162 : decode cX10_judgeMethods 162 = .ok (.getfield 116, 3) := by decide +kernel
theorem dX10_judgeMethods_165 : decode cX10_judgeMethods 165 = .ok (.getfield 129, 3) := by decide +kernel
theorem dX10_judgeMethods_168 : decode cX10_judgeMethods 168 = .ok (.aload_n 2, 1) := by decide +kernel
theorem dX10_judgeMethods_169 : decode cX10_judgeMethods 169 = .ok (.aload_n 3, 1) := by decide +kernel
theorem dX10_judgeMethods_170 : decode cX10_judgeMethods 170 = .ok (.invokevirtual 326, 3) := by decide +kernel
theorem dX10_judgeMethods_173 : decode cX10_judgeMethods 173 = .ok (.ifCond .ne 14, 3) := by decide +kernel
theorem dX10_judgeMethods_176 : decode cX10_judgeMethods 176 = .ok (.aload_n 0, 1) := by decide +kernel
theorem dX10_judgeMethods_177 : decode cX10_judgeMethods 177 = .ok (.bipush 11, 2) := by decide +kernel
theorem dX10_judgeMethods_179 : decode cX10_judgeMethods 179 = .ok (.aload 4, 2) := by decide +kernel
theorem dX10_judgeMethods_181 : decode cX10_judgeMethods 181 = .ok (.getfield 287, 3) := by decide +kernel
theorem dX10_judgeMethods_184 : decode cX10_judgeMethods 184 = .ok (.invokevirtual 290, 3) := by decide +kernel
theorem dX10_judgeMethods_187 : decode cX10_judgeMethods 187 = .ok (.aload 4, 2) := by decide +kernel
theorem dX10_judgeMethods_189 : decode cX10_judgeMethods 189 = .ok (.getfield 67, 3) := by decide +kernel
theorem dX10_judgeMethods_192 : decode cX10_judgeMethods 192 = .ok (.astore 4, 2) := by decide +kernel
theorem dX10_judgeMethods_194 : decode cX10_judgeMethods 194 = .ok (.goto (-164), 3) := by decide +kernel
theorem dX10_judgeMethods_197 : decode cX10_judgeMethods 197 = .ok (.return_, 1) := by decide +kernel
theorem dX10_layOut_0 : decode cX10_layOut 0 = .ok (.aload_n 0, 1) := by decide +kernel
theorem dX10_layOut_1 : decode cX10_layOut 1 = .ok (.getfield 47, 3) := by decide +kernel
theorem dX10_layOut_4 : decode cX10_layOut 4 = .ok (.astore_n 1, 1) := by decide +kernel
theorem dX10_layOut_5 : decode cX10_layOut 5 = .ok (.aload_n 1, 1) := by decide +kernel
theorem dX10_layOut_6 : decode cX10_layOut 6 = .ok (.ifnull 67, 3) := by decide +kernel
theorem dX10_layOut_9 : decode cX10_layOut 9 = .ok (.iconst 0, 1) := by decide +kernel
theorem dX10_layOut_10 : decode cX10_layOut 10 = .ok (.istore_n 2, 1) := by decide +kernel
theorem dX10_layOut_11 : decode cX10_layOut 11 = .ok (.aload_n 1, 1) := by decide +kernel
theorem dX10_layOut_12 : decode cX10_layOut 12 = .ok (.getfield 90, 3) := by decide +kernel
theorem dX10_layOut_15 : decode cX10_layOut 15 = .ok (.aload_n 1, 1) := by decide +kernel
theorem dX10_layOut_16 : decode cX10_layOut 16 = .ok (.if_acmp .ne 7, 3) := by decide +kernel
theorem dX10_layOut_19 : decode cX10_layOut 19 = .ok (.aload_n 1, 1) := by decide +kernel
theorem dX10_layOut_20 : decode cX10_layOut 20 = .ok (.goto 4, 3) := by decide +kernel
theorem dX10_layOut_23 : decode cX10_layOut 23 = .ok (.aconst_null, 1) := by decide +kernel
theorem dX10_layOut_24 : decode cX10_layOut 24 = .ok (.astore_n 3, 1) := by decide +kernel
theorem dX10_layOut_25 : decode cX10_layOut 25 = .ok (.iconst 0, 1) := by decide +kernel
theorem dX10_layOut_26 : decode cX10_layOut 26 = .ok (.istore 4, 2) := by decide +kernel
theorem dX10_layOut_28 : decode cX10_layOut 28 = .ok (.iload 4, 2) := by decide +kernel
theorem dX10_layOut_30 : decode cX10_layOut 30 = .ok (.aload_n 0, 1) := by decide +kernel
theorem dX10_layOut_31 : decode cX10_layOut 31 = .ok (.getfield 53, 3) := by decide +kernel
theorem dX10_layOut_34 : decode cX10_layOut 34 = .ok (.if_icmp .ge 26, 3) := by decide +kernel
theorem dX10_layOut_37 : decode cX10_layOut 37 = .ok (.aload_n 3, 1) := by decide +kernel
theorem dX10_layOut_38 : decode cX10_layOut 38 = .ok (.ifnull 22, 3) := by decide +kernel
theorem dX10_layOut_41 : decode cX10_layOut 41 = .ok (.iload_n 2, 1) := by decide +kernel
theorem dX10_layOut_42 : decode cX10_layOut 42 = .ok (.aload_n 0, 1) := by decide +kernel
theorem dX10_layOut_43 : decode cX10_layOut 43 = .ok (.aload_n 3, 1) := by decide +kernel
theorem dX10_layOut_44 : decode cX10_layOut 44 = .ok (.invokevirtual 337, 3) := by decide +kernel
theorem dX10_layOut_47 : decode cX10_layOut 47 = .ok (.iadd, 1) := by decide +kernel
theorem dX10_layOut_48 : decode cX10_layOut 48 = .ok (.istore_n 2, 1) := by decide +kernel
theorem dX10_layOut_49 : decode cX10_layOut 49 = .ok (.aload_n 3, 1) := by decide +kernel
theorem dX10_layOut_50 : decode cX10_layOut 50 = .ok (.getfield 101, 3) := by decide +kernel
theorem dX10_layOut_53 : decode cX10_layOut 53 = .ok (.astore_n 3, 1) := by decide +kernel
theorem dX10_layOut_54 : decode cX10_layOut 54 = .ok (.iinc 4 1, 3) := by decide +kernel
theorem dX10_layOut_57 : decode cX10_layOut 57 = .ok (.goto (-29), 3) := by decide +kernel
theorem dX10_layOut_60 : decode cX10_layOut 60 = .ok (.aload_n 1, 1) := by decide +kernel
theorem dX10_layOut_61 : decode cX10_layOut 61 = .ok (.iload_n 2, 1) := by decide +kernel
theorem dX10_layOut_62 : decode cX10_layOut 62 = .ok (.putfield 340, 3) := by decide +kernel
theorem dX10_layOut_65 : decode cX10_layOut 65 = .ok (.aload_n 1, 1) := by decide +kernel
theorem dX10_layOut_66 : decode cX10_layOut 66 = .ok (.getfield 93, 3) := by decide +kernel
theorem dX10_layOut_69 : decode cX10_layOut 69 = .ok (.astore_n 1, 1) := by decide +kernel
theorem dX10_layOut_70 : decode cX10_layOut 70 = .ok (.goto (-65), 3) := by decide +kernel
theorem dX10_layOut_73 : decode cX10_layOut 73 = .ok (.aload_n 0, 1) := by decide +kernel
theorem dX10_layOut_74 : decode cX10_layOut 74 = .ok (.getfield 47, 3) := by decide +kernel
theorem dX10_layOut_77 : decode cX10_layOut 77 = .ok (.astore_n 1, 1) := by decide +kernel
theorem dX10_layOut_78 : decode cX10_layOut 78 = .ok (.aload_n 1, 1) := by decide +kernel
theorem dX10_layOut_79 : decode cX10_layOut 79 = .ok (.ifnull 107, 3) := by decide +kernel
theorem dX10_layOut_82 : decode cX10_layOut 82 = .ok (.aload_n 1, 1) := by decide +kernel
theorem dX10_layOut_83 : decode cX10_layOut 83 = .ok (.invokestatic 186, 3) := by decide +kernel
theorem dX10_layOut_86 : decode cX10_layOut 86 = .ok (.ifCond .eq 12, 3) := by decide +kernel
theorem dX10_layOut_89 : decode cX10_layOut 89 = .ok (.aload_n 0, 1) := by decide +kernel
theorem dX10_layOut_90 : decode cX10_layOut 90 = .ok (.aconst_null, 1) := by decide +kernel
theorem dX10_layOut_91 : decode cX10_layOut 91 = .ok (.aload_n 1, 1) := by decide +kernel
theorem dX10_layOut_92 : decode cX10_layOut 92 = .ok (.invokevirtual 152, 3) := by decide +kernel
theorem dX10_layOut_95 : decode cX10_layOut 95 = .ok (.goto 4, 3) := by decide +kernel
theorem dX10_layOut_98 : decode cX10_layOut 98 = .ok (.aconst_null, 1) := by decide +kernel
theorem dX10_layOut_99 : decode cX10_layOut 99 = .ok (.astore_n 2, 1) := by decide +kernel
theorem dX10_layOut_100 : decode cX10_layOut 100 = .ok (.aload_n 1, 1) := by decide +kernel
theorem dX10_layOut_101 : decode cX10_layOut 101 = .ok (.getfield 101, 3) := by decide +kernel
theorem dX10_layOut_104 : decode cX10_layOut 104 = .ok (.ifnonnull 7, 3) := by decide +kernel
theorem dX10_layOut_107 : decode cX10_layOut 107 = .ok (.iconst 0, 1) := by decide +kernel
theorem dX10_layOut_108 : decode cX10_layOut 108 = .ok (.goto 10, 3) := by decide +kernel
theorem dX10_layOut_111 : decode cX10_layOut 111 = .ok (.aload_n 1, 1) := by decide +kernel
theorem dX10_layOut_112 : decode cX10_layOut 112 = .ok (.getfield 101, 3) := by decide +kernel
theorem dX10_layOut_115 : decode cX10_layOut 115 = .ok (.getfield 340, 3) := by decide +kernel
theorem dX10_layOut_118 : decode cX10_layOut 118 = .ok (.istore_n 3, 1) := by decide +kernel
theorem dX10_layOut_119 : decode cX10_layOut 119 = .ok (.aload_n 2, 1) := by decide +kernel
theorem dX10_layOut_120 : decode cX10_layOut 120 = .ok (.ifnonnull 7, 3) := by decide +kernel
theorem dX10_layOut_123 : decode cX10_layOut 123 = .ok (.aconst_null, 1) := by decide +kernel
theorem dX10_layOut_124 : decode cX10_layOut 124 = .ok (.goto 7, 3) := by decide +kernel
theorem dX10_layOut_127 : decode cX10_layOut 127 = .ok (.aload_n 2, 1) := by decide +kernel
theorem dX10_layOut_128 : decode cX10_layOut 128 = .ok (.getfield 210, 3) := by decide +kernel
theorem dX10_layOut_131 : decode cX10_layOut 131 = .ok (.astore 4, 2) := by decide +kernel
theorem dX10_layOut_133 : decode cX10_layOut 133 = .ok (.aload 4, 2) := by decide +kernel
theorem dX10_layOut_135 : decode cX10_layOut 135 = .ok (.ifnull 43, 3) := by decide +kernel
theorem dX10_layOut_138 : decode cX10_layOut 138 = .ok (.aload 4, 2) := by decide +kernel
theorem dX10_layOut_140 : decode cX10_layOut 140 = .ok (.getfield 64, 3) := by decide +kernel
theorem dX10_layOut_143 : decode cX10_layOut 143 = .ok (.bipush 10, 2) := by decide +kernel
theorem dX10_layOut_145 : decode cX10_layOut 145 = .ok (.if_icmp .ne 33, 3) := by decide +kernel
theorem dX10_layOut_148 : decode cX10_layOut 148 = .ok (.aload 4, 2) := by decide +kernel
theorem dX10_layOut_150 : decode cX10_layOut 150 = .ok (.iload_n 3, 1) := by decide +kernel
theorem dX10_layOut_151 : decode cX10_layOut 151 = .ok (.putfield 257, 3) := by decide +kernel
theorem dX10_layOut_154 : decode cX10_layOut 154 = .ok (.iload_n 3, 1) := by decide +kernel
theorem dX10_layOut_155 : decode cX10_layOut 155 = .ok (.aload 4, 2) := by decide +kernel
theorem dX10_layOut_157 : decode cX10_layOut 157 = .ok (.getfield 129, 3) := by decide +kernel
theorem dX10_layOut_160 : decode cX10_layOut 160 = .ok (.getfield 90, 3) := by decide +kernel
theorem dX10_layOut_163 : decode cX10_layOut 163 = .ok (.getfield 235, 3) := by decide +kernel
theorem dX10_layOut_166 : decode cX10_layOut 166 = .ok (.iadd, 1) := by decide +kernel
theorem dX10_layOut_167 : decode cX10_layOut 167 = .ok (.istore_n 3, 1) := by decide +kernel
theorem dX10_layOut_168 : decode cX10_layOut 168 = .ok (.aload 4, 2) := by decide +kernel
theorem dX10_layOut_170 : decode cX10_layOut 170 = .ok (.getfield 67, 3) := by decide +kernel
theorem dX10_layOut_173 : decode cX10_layOut 173 = .ok (.astore 4, 2) := by decide +kernel
theorem dX10_layOut_175 : decode cX10_layOut 175 = .ok (.goto (-42), 3) := by decide +kernel
theorem dX10_layOut_178 : decode cX10_layOut 178 = .ok (.aload_n 1, 1) := by decide +kernel
theorem dX10_layOut_179 : decode cX10_layOut 179 = .ok (.getfield 93, 3) := by decide +kernel
theorem dX10_layOut_182 : decode cX10_layOut 182 = .ok (.astore_n 1, 1) := by decide +kernel
theorem dX10_layOut_183 : decode cX10_layOut 183 = .ok (.goto (-105), 3) := by decide +kernel
theorem dX10_layOut_186 : decode cX10_layOut 186 = .ok (.iconst 0, 1) := by decide +kernel
theorem dX10_layOut_187 : decode cX10_layOut 187 = .ok (.istore_n 1, 1) := by decide +kernel
theorem dX10_layOut_188 : decode cX10_layOut 188 = .ok (.iload_n 1, 1) := by decide +kernel
theorem dX10_layOut_189 : decode cX10_layOut 189 = .ok (.aload_n 0, 1) := by decide +kernel
theorem dX10_layOut_190 : decode cX10_layOut 190 = .ok (.getfield 80, 3) := by decide +kernel
theorem dX10_layOut_193 : decode cX10_layOut 193 = .ok (.arraylength, 1) := by decide +kernel
theorem dX10_layOut_194 : decode cX10_layOut 194 = .ok (.if_icmp .ge 27, 3) := by decide +kernel
theorem dX10_layOut_197 : decode cX10_layOut 197 = .ok (.aload_n 0, 1) := by decide +kernel
theorem dX10_layOut_198 : decode cX10_layOut 198 = .ok (.getfield 80, 3) := by decide +kernel
theorem dX10_layOut_201 : decode cX10_layOut 201 = .ok (.iload_n 1, 1) := by decide +kernel
theorem dX10_layOut_202 : decode cX10_layOut 202 = .ok (.aaload, 1) := by decide +kernel
theorem dX10_layOut_203 : decode cX10_layOut 203 = .ok (.ifnull 12, 3) := by decide +kernel
theorem dX10_layOut_206 : decode cX10_layOut 206 = .ok (.aload_n 0, 1) := by decide +kernel
theorem dX10_layOut_207 : decode cX10_layOut 207 = .ok (.getfield 80, 3) := by decide +kernel
theorem dX10_layOut_210 : decode cX10_layOut 210 = .ok (.iload_n 1, 1) := by decide +kernel
theorem dX10_layOut_211 : decode cX10_layOut 211 = .ok (.aaload, 1) := by decide +kernel
theorem dX10_layOut_212 : decode cX10_layOut 212 = .ok (.invokestatic 343, 3) := by decide +kernel
theorem dX10_layOut_215 : decode cX10_layOut 215 = .ok (.iinc 1 1, 3) := by decide +kernel
theorem dX10_layOut_218 : decode cX10_layOut 218 = .ok (.goto (-30), 3) := by decide +kernel
theorem dX10_layOut_221 : decode cX10_layOut 221 = .ok (.return_, 1) := by decide +kernel
theorem dX10_fieldCells_0 : decode cX10_fieldCells 0 = .ok (.aload_n 0, 1) := by decide +kernel
theorem dX10_fieldCells_1 : decode cX10_fieldCells 1 = .ok (.aconst_null, 1) := by decide +kernel
theorem dX10_fieldCells_2 : decode cX10_fieldCells 2 = .ok (.aload_n 1, 1) := by decide +kernel
theorem dX10_fieldCells_3 : decode cX10_fieldCells 3 = .ok (.invokevirtual 152, 3) := by decide +kernel
theorem dX10_fieldCells_6 : decode cX10_fieldCells 6 = .ok (.astore_n 2, 1) := by decide +kernel
theorem dX10_fieldCells_7 : decode cX10_fieldCells 7 = .ok (.iconst 0, 1) := by decide +kernel
theorem dX10_fieldCells_8 : decode cX10_fieldCells 8 = .ok (.istore_n 3, 1) := by decide +kernel
theorem dX10_fieldCells_9 : decode cX10_fieldCells 9 = .ok (.aload_n 2, 1) := by decide +kernel
theorem dX10_fieldCells_10 : decode cX10_fieldCells 10 = .ok (.ifnonnull 7, 3) := by decide +kernel
theorem dX10_fieldCells_13 : decode cX10_fieldCells 13 = .ok (.aconst_null, 1) := by decide +kernel
theorem dX10_fieldCells_14 : decode cX10_fieldCells 14 = .ok (.goto 7, 3) := by decide +kernel
theorem dX10_fieldCells_17 : decode cX10_fieldCells 17 = .ok (.aload_n 2, 1) := by decide +kernel
theorem dX10_fieldCells_18 : decode cX10_fieldCells 18 = .ok (.getfield 210, 3) := by decide +kernel
theorem dX10_fieldCells_21 : decode cX10_fieldCells 21 = .ok (.astore 4, 2) := by decide +kernel
theorem dX10_fieldCells_23 : decode cX10_fieldCells 23 = .ok (.aload 4, 2) := by decide +kernel
theorem dX10_fieldCells_25 : decode cX10_fieldCells 25 = .ok (.ifnull 37, 3) := by decide +kernel
theorem dX10_fieldCells_28 : decode cX10_fieldCells 28 = .ok (.aload 4, 2) := by decide +kernel
theorem dX10_fieldCells_30 : decode cX10_fieldCells 30 = .ok (.getfield 64, 3) := by decide +kernel
theorem dX10_fieldCells_33 : decode cX10_fieldCells 33 = .ok (.bipush 10, 2) := by decide +kernel
theorem dX10_fieldCells_35 : decode cX10_fieldCells 35 = .ok (.if_icmp .ne 27, 3) := by decide +kernel
theorem dX10_fieldCells_38 : decode cX10_fieldCells 38 = .ok (.iload_n 3, 1) := by decide +kernel
theorem dX10_fieldCells_39 : decode cX10_fieldCells 39 = .ok (.aload 4, 2) := by decide +kernel
theorem dX10_fieldCells_41 : decode cX10_fieldCells 41 = .ok (.getfield 129, 3) := by decide +kernel
theorem dX10_fieldCells_44 : decode cX10_fieldCells 44 = .ok (.getfield 90, 3) := by decide +kernel
theorem dX10_fieldCells_47 : decode cX10_fieldCells 47 = .ok (.getfield 235, 3) := by decide +kernel
theorem dX10_fieldCells_50 : decode cX10_fieldCells 50 = .ok (.iadd, 1) := by decide +kernel
theorem dX10_fieldCells_51 : decode cX10_fieldCells 51 = .ok (.istore_n 3, 1) := by decide +kernel
theorem dX10_fieldCells_52 : decode cX10_fieldCells 52 = .ok (.aload 4, 2) := by decide +kernel
theorem dX10_fieldCells_54 : decode cX10_fieldCells 54 = .ok (.getfield 67, 3) := by decide +kernel
theorem dX10_fieldCells_57 : decode cX10_fieldCells 57 = .ok (.astore 4, 2) := by decide +kernel
theorem dX10_fieldCells_59 : decode cX10_fieldCells 59 = .ok (.goto (-36), 3) := by decide +kernel
theorem dX10_fieldCells_62 : decode cX10_fieldCells 62 = .ok (.iload_n 3, 1) := by decide +kernel
theorem dX10_fieldCells_63 : decode cX10_fieldCells 63 = .ok (.ireturn, 1) := by decide +kernel
theorem dX11_init_0 : decode cX11_init 0 = .ok (.aload_n 0, 1) := by decide +kernel
theorem dX11_init_1 : decode cX11_init 1 = .ok (.invokespecial 3, 3) := by decide +kernel
theorem dX11_init_4 : decode cX11_init 4 = .ok (.aload_n 0, 1) := by decide +kernel
theorem dX11_init_5 : decode cX11_init 5 = .ok (.sipush 6000, 3) := by decide +kernel
theorem dX11_init_8 : decode cX11_init 8 = .ok (.newarray .byte, 2) := by decide +kernel
theorem dX11_init_10 : decode cX11_init 10 = .ok (.putfield 9, 3) := by decide +kernel
theorem dX11_init_13 : decode cX11_init 13 = .ok (.aload_n 0, 1) := by decide +kernel
theorem dX11_init_14 : decode cX11_init 14 = .ok (.new 13, 3) := by decide +kernel
theorem dX11_init_17 : decode cX11_init 17 = .ok (.dup, 1) := by decide +kernel
theorem dX11_init_18 : decode cX11_init 18 = .ok (.invokespecial 15, 3) := by decide +kernel
theorem dX11_init_21 : decode cX11_init 21 = .ok (.putfield 16, 3) := by decide +kernel
theorem dX11_init_24 : decode cX11_init 24 = .ok (.aload_n 0, 1) := by decide +kernel
theorem dX11_init_25 : decode cX11_init 25 = .ok (.new 20, 3) := by decide +kernel
theorem dX11_init_28 : decode cX11_init 28 = .ok (.dup, 1) := by decide +kernel
theorem dX11_init_29 : decode cX11_init 29 = .ok (.invokespecial 22, 3) := by decide +kernel
theorem dX11_init_32 : decode cX11_init 32 = .ok (.putfield 23, 3) := by decide +kernel
theorem dX11_init_35 : decode cX11_init 35 = .ok (.return_, 1) := by decide +kernel
theorem dX11_feed_0 : decode cX11_feed 0 = .ok (.aload_n 0, 1) := by decide +kernel
theorem dX11_feed_1 : decode cX11_feed 1 = .ok (.getfield 27, 3) := by decide +kernel
theorem dX11_feed_4 : decode cX11_feed 4 = .ok (.bipush 20, 2) := by decide +kernel
theorem dX11_feed_6 : decode cX11_feed 6 = .ok (.iadd, 1) := by decide +kernel
theorem dX11_feed_7 : decode cX11_feed 7 = .ok (.sipush 6000, 3) := by decide +kernel
theorem dX11_feed_10 : decode cX11_feed 10 = .ok (.if_icmp .le 5, 3) := by decide +kernel
theorem dX11_feed_13 : decode cX11_feed 13 = .ok (.iconst (-1), 1) := by decide +kernel
theorem dX11_feed_14 : decode cX11_feed 14 = .ok (.ireturn, 1) := by decide +kernel
theorem dX11_feed_15 : decode cX11_feed 15 = .ok (.aload_n 0, 1) := by decide +kernel
theorem dX11_feed_16 : decode cX11_feed 16 = .ok (.iload_n 1, 1) := by decide +kernel
theorem dX11_feed_17 : decode cX11_feed 17 = .ok (.invokevirtual 31, 3) := by decide +kernel
theorem dX11_feed_20 : decode cX11_feed 20 = .ok (.aload_n 0, 1) := by decide +kernel
theorem dX11_feed_21 : decode cX11_feed 21 = .ok (.iload_n 2, 1) := by decide +kernel
theorem dX11_feed_22 : decode cX11_feed 22 = .ok (.invokevirtual 31, 3) := by decide +kernel
theorem dX11_feed_25 : decode cX11_feed 25 = .ok (.aload_n 0, 1) := by decide +kernel
theorem dX11_feed_26 : decode cX11_feed 26 = .ok (.iload_n 3, 1) := by decide +kernel
theorem dX11_feed_27 : decode cX11_feed 27 = .ok (.invokevirtual 31, 3) := by decide +kernel
theorem dX11_feed_30 : decode cX11_feed 30 = .ok (.aload_n 0, 1) := by decide +kernel
theorem dX11_feed_31 : decode cX11_feed 31 = .ok (.iload 4, 2) := by decide +kernel
theorem dX11_feed_33 : decode cX11_feed 33 = .ok (.invokevirtual 31, 3) := by decide +kernel
theorem dX11_feed_36 : decode cX11_feed 36 = .ok (.aload_n 0, 1) := by decide +kernel
theorem dX11_feed_37 : decode cX11_feed 37 = .ok (.iload 5, 2) := by decide +kernel
theorem dX11_feed_39 : decode cX11_feed 39 = .ok (.invokevirtual 31, 3) := by decide +kernel
theorem dX11_feed_42 : decode cX11_feed 42 = .ok (.aload_n 0, 1) := by decide +kernel
theorem dX11_feed_43 : decode cX11_feed 43 = .ok (.getfield 27, 3) := by decide +kernel
theorem dX11_feed_46 : decode cX11_feed 46 = .ok (.ireturn, 1) := by decide +kernel
theorem dX11_putBytes_0 : decode cX11_putBytes 0 = .ok (.bipush 24, 2) := by decide +kernel
theorem dX11_putBytes_2 : decode cX11_putBytes 2 = .ok (.istore_n 2, 1) := by decide +kernel
theorem dX11_putBytes_3 : decode cX11_putBytes 3 = .ok (.iload_n 2, 1) := by decide +kernel
theorem dX11_putBytes_4 : decode cX11_putBytes 4 = .ok (.ifCond .lt 42, 3) := by decide +kernel
theorem dX11_putBytes_7 : decode cX11_putBytes 7 = .ok (.aload_n 0, 1) := by decide +kernel
theorem dX11_putBytes_8 : decode cX11_putBytes 8 = .ok (.getfield 27, 3) := by decide +kernel
theorem dX11_putBytes_11 : decode cX11_putBytes 11 = .ok (.sipush 6000, 3) := by decide +kernel
theorem dX11_putBytes_14 : decode cX11_putBytes 14 = .ok (.if_icmp .ge 32, 3) := by decide +kernel
theorem dX11_putBytes_17 : decode cX11_putBytes 17 = .ok (.aload_n 0, 1) := by decide +kernel
theorem dX11_putBytes_18 : decode cX11_putBytes 18 = .ok (.getfield 9, 3) := by decide +kernel
theorem dX11_putBytes_21 : decode cX11_putBytes 21 = .ok (.aload_n 0, 1) := by decide +kernel
theorem dX11_putBytes_22 : decode cX11_putBytes 22 = .ok (.getfield 27, 3) := by decide +kernel
theorem dX11_putBytes_25 : decode cX11_putBytes 25 = .ok (.iload_n 1, 1) := by decide +kernel
theorem dX11_putBytes_26 : decode cX11_putBytes 26 = .ok (.iload_n 2, 1) := by decide +kernel
theorem dX11_putBytes_27 : decode cX11_putBytes 27 = .ok (.iushr, 1) := by decide +kernel
theorem dX11_putBytes_28 : decode cX11_putBytes 28 = .ok (.i2b, 1) := by decide +kernel
theorem dX11_putBytes_29 : decode cX11_putBytes 29 = .ok (.bastore, 1) := by decide +kernel
theorem dX11_putBytes_30 : decode cX11_putBytes 30 = .ok (.aload_n 0, 1) := by decide +kernel
theorem dX11_putBytes_31 : decode cX11_putBytes 31 = .ok (.dup, 1) := by decide +kernel
theorem dX11_putBytes_32 : decode cX11_putBytes 32 = .ok (.getfield 27, 3) := by decide +kernel
theorem dX11_putBytes_35 : decode cX11_putBytes 35 = .ok (.iconst 1, 1) := by decide +kernel
theorem dX11_putBytes_36 : decode cX11_putBytes 36 = .ok (.iadd, 1) := by decide +kernel
theorem dX11_putBytes_37 : decode cX11_putBytes 37 = .ok (.putfield 27, 3) := by decide +kernel
theorem dX11_putBytes_40 : decode cX11_putBytes 40 = .ok (.iinc 2 (-8), 3) := by decide +kernel
theorem dX11_putBytes_43 : decode cX11_putBytes 43 = .ok (.goto (-40), 3) := by decide +kernel
theorem dX11_putBytes_46 : decode cX11_putBytes 46 = .ok (.return_, 1) := by decide +kernel
theorem dX11_back_0 : decode cX11_back 0 = .ok (.iload_n 1, 1) := by decide +kernel
theorem dX11_back_1 : decode cX11_back 1 = .ok (.ifCond .lt 11, 3) := by decide +kernel
theorem dX11_back_4 : decode cX11_back 4 = .ok (.iload_n 1, 1) := by decide +kernel
theorem dX11_back_5 : decode cX11_back 5 = .ok (.aload_n 0, 1) := by decide +kernel
theorem dX11_back_6 : decode cX11_back 6 = .ok (.getfield 27, 3) := by decide +kernel
theorem dX11_back_9 : decode cX11_back 9 = .ok (.if_icmp .le 5, 3) := by decide +kernel
theorem dX11_back_12 : decode cX11_back 12 = .ok (.iconst (-1), 1) := by decide +kernel
theorem dX11_back_13 : decode cX11_back 13 = .ok (.ireturn, 1) := by decide +kernel
theorem dX11_back_14 : decode cX11_back 14 = .ok (.aload_n 0, 1) := by decide +kernel
theorem dX11_back_15 : decode cX11_back 15 = .ok (.dup, 1) := by decide +kernel
theorem dX11_back_16 : decode cX11_back 16 = .ok (.getfield 27, 3) := by decide +kernel
theorem dX11_back_19 : decode cX11_back 19 = .ok (.iload_n 1, 1) := by decide +kernel
theorem dX11_back_20 : decode cX11_back 20 = .ok (.isub, 1) := by decide +kernel
theorem dX11_back_21 : decode cX11_back 21 = .ok (.putfield 27, 3) := by decide +kernel
theorem dX11_back_24 : decode cX11_back 24 = .ok (.aload_n 0, 1) := by decide +kernel
theorem dX11_back_25 : decode cX11_back 25 = .ok (.getfield 27, 3) := by decide +kernel
theorem dX11_back_28 : decode cX11_back 28 = .ok (.ireturn, 1) := by decide +kernel
theorem dX11_read_0 : decode cX11_read 0 = .ok (.aload_n 0, 1) := by decide +kernel
theorem dX11_read_1 : decode cX11_read 1 = .ok (.aconst_null, 1) := by decide +kernel
theorem dX11_read_2 : decode cX11_read 2 = .ok (.putfield 35, 3) := by decide +kernel
theorem dX11_read_5 : decode cX11_read 5 = .ok (.aload_n 0, 1) := by decide +kernel
theorem dX11_read_6 : decode cX11_read 6 = .ok (.getfield 23, 3) := by decide +kernel
theorem dX11_read_9 : decode cX11_read 9 = .ok (.invokevirtual 39, 3) := by decide +kernel
theorem dX11_read_12 : decode cX11_read 12 = .ok (.aload_n 0, 1) := by decide +kernel
theorem dX11_read_13 : decode cX11_read 13 = .ok (.getfield 16, 3) := by decide +kernel
theorem dX11_read_16 : decode cX11_read 16 = .ok (.aload_n 0, 1) := by decide +kernel
theorem dX11_read_17 : decode cX11_read 17 = .ok (.getfield 9, 3) := by decide +kernel
theorem dX11_read_20 : decode cX11_read 20 = .ok (.aload_n 0, 1) := by decide +kernel
theorem dX11_read_21 : decode cX11_read 21 = .ok (.getfield 27, 3) := by decide +kernel
theorem dX11_read_24 : decode cX11_read 24 = .ok (.invokevirtual 42, 3) := by decide +kernel
theorem dX11_read_27 : decode cX11_read 27 = .ok (.aload_n 0, 1) := by decide +kernel
theorem dX11_read_28 : decode cX11_read 28 = .ok (.iconst 0, 1) := by decide +kernel
theorem dX11_read_29 : decode cX11_read 29 = .ok (.putfield 27, 3) := by decide +kernel
theorem dX11_read_32 : decode cX11_read 32 = .ok (.new 46, 3) := by decide +kernel
theorem dX11_read_35 : decode cX11_read 35 = .ok (.dup, 1) := by decide +kernel
theorem dX11_read_36 : decode cX11_read 36 = .ok (.aload_n 0, 1) := by decide +kernel
theorem dX11_read_37 : decode cX11_read 37 = .ok (.getfield 16, 3) := by decide +kernel
theorem dX11_read_40 : decode cX11_read 40 = .ok (.invokespecial 48, 3) := by decide +kernel
theorem dX11_read_43 : decode cX11_read 43 = .ok (.astore_n 1, 1) := by decide +kernel
theorem dX11_read_44 : decode cX11_read 44 = .ok (.aload_n 1, 1) := by decide +kernel
theorem dX11_read_45 : decode cX11_read 45 = .ok (.invokevirtual 51, 3) := by decide +kernel
theorem dX11_read_48 : decode cX11_read 48 = .ok (.aload_n 1, 1) := by decide +kernel
theorem dX11_read_49 : decode cX11_read 49 = .ok (.getfield 54, 3) := by decide +kernel
theorem dX11_read_52 : decode cX11_read 52 = .ok (.ifCond .eq 8, 3) := by decide +kernel
theorem dX11_read_55 : decode cX11_read 55 = .ok (.aload_n 1, 1) := by decide +kernel
theorem dX11_read_56 : decode cX11_read 56 = .ok (.getfield 54, 3) := by decide +kernel
theorem dX11_read_59 : decode cX11_read 59 = .ok (.ireturn, 1) := by decide +kernel
theorem dX11_read_60 : decode cX11_read 60 = .ok (.new 57, 3) := by decide +kernel
theorem dX11_read_63 : decode cX11_read 63 = .ok (.dup, 1) := by decide +kernel
theorem dX11_read_64 : decode cX11_read 64 = .ok (.aload_n 1, 1) := by decide +kernel
theorem dX11_read_65 : decode cX11_read 65 = .ok (.invokespecial 59, 3) := by decide +kernel
theorem dX11_read_68 : decode cX11_read 68 = .ok (.invokevirtual 62, 3) := by decide +kernel
theorem dX11_read_71 : decode cX11_read 71 = .ok (.istore_n 2, 1) := by decide +kernel
theorem dX11_read_72 : decode cX11_read 72 = .ok (.iload_n 2, 1) := by decide +kernel
theorem dX11_read_73 : decode cX11_read 73 = .ok (.ifCond .eq 5, 3) := by decide +kernel
theorem dX11_read_76 : decode cX11_read 76 = .ok (.iload_n 2, 1) := by decide +kernel
theorem dX11_read_77 : decode cX11_read 77 = .ok (.ireturn, 1) := by decide +kernel
theorem dX11_read_78 : decode cX11_read 78 = .ok (.new 66, 3) := by decide +kernel
theorem dX11_read_81 : decode cX11_read 81 = .ok (.dup, 1) := by decide +kernel
theorem dX11_read_82 : decode cX11_read 82 = .ok (.aload_n 1, 1) := by decide +kernel
theorem dX11_read_83 : decode cX11_read 83 = .ok (.invokespecial 68, 3) := by decide +kernel
theorem dX11_read_86 : decode cX11_read 86 = .ok (.astore_n 3, 1) := by decide +kernel
theorem dX11_read_87 : decode cX11_read 87 = .ok (.aload_n 3, 1) := by decide +kernel
theorem dX11_read_88 : decode cX11_read 88 = .ok (.invokevirtual 69, 3) := by decide +kernel
theorem dX11_read_91 : decode cX11_read 91 = .ok (.aload_n 3, 1) := by decide +kernel
theorem dX11_read_92 : decode cX11_read 92 = .ok (.invokevirtual 72, 3) := by decide +kernel
theorem dX11_read_95 : decode cX11_read 95 = .ok (.istore_n 2, 1) := by decide +kernel
theorem dX11_read_96 : decode cX11_read 96 = .ok (.iload_n 2, 1) := by decide +kernel
theorem dX11_read_97 : decode cX11_read 97 = .ok (.ifCond .eq 5, 3) := by decide +kernel
theorem dX11_read_100 : decode cX11_read 100 = .ok (.iload_n 2, 1) := by decide +kernel
theorem dX11_read_101 : decode cX11_read 101 = .ok (.ireturn, 1) := by decide +kernel
theorem dX11_read_102 : decode cX11_read 102 = .ok (.aload_n 3, 1) := by decide +kernel
theorem dX11_read_103 : decode cX11_read 103 = .ok (.invokevirtual 73, 3) := by decide +kernel
theorem dX11_read_106 : decode cX11_read 106 = .ok (.new 76, 3) := by decide +kernel
theorem dX11_read_109 : decode cX11_read 109 = .ok (.dup, 1) := by decide +kernel
theorem dX11_read_110 : decode cX11_read 110 = .ok (.aload_n 3, 1) := by decide +kernel
theorem dX11_read_111 : decode cX11_read 111 = .ok (.invokespecial 78, 3) := by decide +kernel
theorem dX11_read_114 : decode cX11_read 114 = .ok (.astore 4, 2) := by decide +kernel
theorem dX11_read_116 : decode cX11_read 116 = .ok (.aload 4, 2) := by decide +kernel
theorem dX11_read_118 : decode cX11_read 118 = .ok (.aload_n 1, 1) := by decide +kernel
theorem dX11_read_119 : decode cX11_read 119 = .ok (.getfield 81, 3) := by decide +kernel
theorem dX11_read_122 : decode cX11_read 122 = .ok (.invokevirtual 85, 3) := by decide +kernel
theorem dX11_read_125 : decode cX11_read 125 = .ok (.istore_n 2, 1) := by decide +kernel
theorem dX11_read_126 : decode cX11_read 126 = .ok (.iload_n 2, 1) := by decide +kernel
theorem dX11_read_127 : decode cX11_read 127 = .ok (.ifCond .ne 13, 3) := by decide +kernel
theorem dX11_read_130 : decode cX11_read 130 = .ok (.aload 4, 2) := by decide +kernel
theorem dX11_read_132 : decode cX11_read 132 = .ok (.aload_n 1, 1) := by decide +kernel
theorem dX11_read_133 : decode cX11_read 133 = .ok (.getfield 81, 3) := by decide +kernel
theorem dX11_read_136 : decode cX11_read 136 = .ok (.invokevirtual 89, 3) := by decide +kernel
theorem dX11_read_139 : decode cX11_read 139 = .ok (.istore_n 2, 1) := by decide +kernel
theorem dX11_read_140 : decode cX11_read 140 = .ok (.iload_n 2, 1) := by decide +kernel
theorem dX11_read_141 : decode cX11_read 141 = .ok (.ifCond .ne 8, 3) := by decide +kernel
theorem dX11_read_144 : decode cX11_read 144 = .ok (.aload_n 0, 1) := by decide +kernel
theorem dX11_read_145 : decode cX11_read 145 = .ok (.aload_n 3, 1) := by decide +kernel
theorem dX11_read_146 : decode cX11_read 146 = .ok (.putfield 35, 3) := by decide +kernel
theorem dX11_read_149 : decode cX11_read 149 = .ok (.iload_n 2, 1) := by decide +kernel
theorem dX11_read_150 : decode cX11_read 150 = .ok (.ireturn, 1) := by decide +kernel
theorem dX11_typeNumbered_0 : decode cX11_typeNumbered 0 = .ok (.aload_n 0, 1) := by decide +kernel
theorem dX11_typeNumbered_1 : decode cX11_typeNumbered 1 = .ok (.getfield 35, 3) := by decide +kernel
theorem dX11_typeNumbered_4 : decode cX11_typeNumbered 4 = .ok (.ifnull 19, 3) := by decide +kernel
theorem dX11_typeNumbered_7 : decode cX11_typeNumbered 7 = .ok (.iload_n 1, 1) := by decide +kernel
theorem dX11_typeNumbered_8 : decode cX11_typeNumbered 8 = .ok (.ifCond .lt 15, 3) := by decide +kernel
theorem dX11_typeNumbered_11 : decode cX11_typeNumbered 11 = .ok (.iload_n 1, 1) := by decide +kernel
theorem dX11_typeNumbered_12 : decode cX11_typeNumbered 12 = .ok (.aload_n 0, 1) := by decide +kernel
theorem dX11_typeNumbered_13 : decode cX11_typeNumbered 13 = .ok (.getfield 35, 3) := by decide +kernel
theorem dX11_typeNumbered_16 : decode cX11_typeNumbered 16 = .ok (.getfield 103, 3) := by decide +kernel
theorem dX11_typeNumbered_19 : decode cX11_typeNumbered 19 = .ok (.arraylength, 1) := by decide +kernel
theorem dX11_typeNumbered_20 : decode cX11_typeNumbered 20 = .ok (.if_icmp .lt 5, 3) := by decide +kernel
theorem dX11_typeNumbered_23 : decode cX11_typeNumbered 23 = .ok (.aconst_null, 1) := by decide +kernel
theorem dX11_typeNumbered_24 : decode cX11_typeNumbered 24 = .ok (.areturn, 1) := by decide +kernel
theorem dX11_typeNumbered_25 : decode cX11_typeNumbered 25 = .ok (.aload_n 0, 1) := by decide +kernel
theorem dX11_typeNumbered_26 : decode cX11_typeNumbered 26 = .ok (.getfield 35, 3) := by decide +kernel
theorem dX11_typeNumbered_29 : decode cX11_typeNumbered 29 = .ok (.getfield 103, 3) := by decide +kernel
theorem dX11_typeNumbered_32 : decode cX11_typeNumbered 32 = .ok (.iload_n 1, 1) := by decide +kernel
theorem dX11_typeNumbered_33 : decode cX11_typeNumbered 33 = .ok (.aaload, 1) := by decide +kernel
theorem dX11_typeNumbered_34 : decode cX11_typeNumbered 34 = .ok (.getfield 109, 3) := by decide +kernel
theorem dX11_typeNumbered_37 : decode cX11_typeNumbered 37 = .ok (.getfield 115, 3) := by decide +kernel
theorem dX11_typeNumbered_40 : decode cX11_typeNumbered 40 = .ok (.areturn, 1) := by decide +kernel
theorem dX11_unitNumbered_0 : decode cX11_unitNumbered 0 = .ok (.aload_n 0, 1) := by decide +kernel
theorem dX11_unitNumbered_1 : decode cX11_unitNumbered 1 = .ok (.getfield 35, 3) := by decide +kernel
theorem dX11_unitNumbered_4 : decode cX11_unitNumbered 4 = .ok (.ifnull 19, 3) := by decide +kernel
theorem dX11_unitNumbered_7 : decode cX11_unitNumbered 7 = .ok (.iload_n 1, 1) := by decide +kernel
theorem dX11_unitNumbered_8 : decode cX11_unitNumbered 8 = .ok (.ifCond .lt 15, 3) := by decide +kernel
theorem dX11_unitNumbered_11 : decode cX11_unitNumbered 11 = .ok (.iload_n 1, 1) := by decide +kernel
theorem dX11_unitNumbered_12 : decode cX11_unitNumbered 12 = .ok (.aload_n 0, 1) := by decide +kernel
theorem dX11_unitNumbered_13 : decode cX11_unitNumbered 13 = .ok (.getfield 35, 3) := by decide +kernel
theorem dX11_unitNumbered_16 : decode cX11_unitNumbered 16 = .ok (.getfield 99, 3) := by decide +kernel
theorem dX11_unitNumbered_19 : decode cX11_unitNumbered 19 = .ok (.arraylength, 1) := by decide +kernel
theorem dX11_unitNumbered_20 : decode cX11_unitNumbered 20 = .ok (.if_icmp .lt 5, 3) := by decide +kernel
theorem dX11_unitNumbered_23 : decode cX11_unitNumbered 23 = .ok (.aconst_null, 1) := by decide +kernel
theorem dX11_unitNumbered_24 : decode cX11_unitNumbered 24 = .ok (.areturn, 1) := by decide +kernel
theorem dX11_unitNumbered_25 : decode cX11_unitNumbered 25 = .ok (.aload_n 0, 1) := by decide +kernel
theorem dX11_unitNumbered_26 : decode cX11_unitNumbered 26 = .ok (.getfield 35, 3) := by decide +kernel
theorem dX11_unitNumbered_29 : decode cX11_unitNumbered 29 = .ok (.getfield 99, 3) := by decide +kernel
theorem dX11_unitNumbered_32 : decode cX11_unitNumbered 32 = .ok (.iload_n 1, 1) := by decide +kernel
theorem dX11_unitNumbered_33 : decode cX11_unitNumbered 33 = .ok (.aaload, 1) := by decide +kernel
theorem dX11_unitNumbered_34 : decode cX11_unitNumbered 34 = .ok (.areturn, 1) := by decide +kernel
theorem dX11_alike_0 : decode cX11_alike 0 = .ok (.aload_n 0, 1) := by decide +kernel
theorem dX11_alike_1 : decode cX11_alike 1 = .ok (.iload_n 1, 1) := by decide +kernel
theorem dX11_alike_2 : decode cX11_alike 2 = .ok (.invokevirtual 120, 3) := by decide +kernel
theorem dX11_alike_5 : decode cX11_alike 5 = .ok (.astore_n 3, 1) := by decide +kernel
theorem dX11_alike_6 : decode cX11_alike 6 = .ok (.aload_n 0, 1) := by decide +kernel
theorem dX11_alike_7 : decode cX11_alike 7 = .ok (.iload_n 2, 1) := by decide +kernel
theorem dX11_alike_8 : decode cX11_alike 8 = .ok (.invokevirtual 120, 3) := by decide +kernel
theorem dX11_alike_11 : decode cX11_alike 11 = .ok (.astore 4, 2) := by decide +kernel
theorem dX11_alike_13 : decode cX11_alike 13 = .ok (.aload_n 3, 1) := by decide +kernel
theorem dX11_alike_14 : decode cX11_alike 14 = .ok (.ifnull 8, 3) := by decide +kernel
theorem dX11_alike_17 : decode cX11_alike 17 = .ok (.aload 4, 2) := by decide +kernel
theorem dX11_alike_19 : decode cX11_alike 19 = .ok (.ifnonnull 5, 3) := by decide +kernel
theorem dX11_alike_22 : decode cX11_alike 22 = .ok (.iconst (-1), 1) := by decide +kernel
theorem dX11_alike_23 : decode cX11_alike 23 = .ok (.ireturn, 1) := by decide +kernel
theorem dX11_alike_24 : decode cX11_alike 24 = .ok (.aload_n 3, 1) := by decide +kernel
theorem dX11_alike_25 : decode cX11_alike 25 = .ok (.getfield 124, 3) := by decide +kernel
theorem dX11_alike_28 : decode cX11_alike 28 = .ok (.aload 4, 2) := by decide +kernel
theorem dX11_alike_30 : decode cX11_alike 30 = .ok (.getfield 124, 3) := by decide +kernel
theorem dX11_alike_33 : decode cX11_alike 33 = .ok (.if_icmp .ne 7, 3) := by decide +kernel
theorem dX11_alike_36 : decode cX11_alike 36 = .ok (.iconst 1, 1) := by decide +kernel
theorem dX11_alike_37 : decode cX11_alike 37 = .ok (.goto 4, 3) := by decide +kernel
theorem dX11_alike_40 : decode cX11_alike 40 = .ok (.iconst 0, 1) := by decide +kernel
theorem dX11_alike_41 : decode cX11_alike 41 = .ok (.ireturn, 1) := by decide +kernel
theorem dX11_below_0 : decode cX11_below 0 = .ok (.aload_n 0, 1) := by decide +kernel
theorem dX11_below_1 : decode cX11_below 1 = .ok (.iload_n 1, 1) := by decide +kernel
theorem dX11_below_2 : decode cX11_below 2 = .ok (.invokevirtual 127, 3) := by decide +kernel
theorem dX11_below_5 : decode cX11_below 5 = .ok (.astore 4, 2) := by decide +kernel
theorem dX11_below_7 : decode cX11_below 7 = .ok (.aload_n 0, 1) := by decide +kernel
theorem dX11_below_8 : decode cX11_below 8 = .ok (.iload_n 2, 1) := by decide +kernel
theorem dX11_below_9 : decode cX11_below 9 = .ok (.invokevirtual 120, 3) := by decide +kernel
theorem dX11_below_12 : decode cX11_below 12 = .ok (.astore 5, 2) := by decide +kernel
theorem dX11_below_14 : decode cX11_below 14 = .ok (.aload_n 0, 1) := by decide +kernel
theorem dX11_below_15 : decode cX11_below 15 = .ok (.iload_n 3, 1) := by decide +kernel
theorem dX11_below_16 : decode cX11_below 16 = .ok (.invokevirtual 120, 3) := by decide +kernel
theorem dX11_below_19 : decode cX11_below 19 = .ok (.astore 6, 2) := by decide +kernel
theorem dX11_below_21 : decode cX11_below 21 = .ok (.aload 4, 2) := by decide +kernel
theorem dX11_below_23 : decode cX11_below 23 = .ok (.ifnull 13, 3) := by decide +kernel
theorem dX11_below_26 : decode cX11_below 26 = .ok (.aload 5, 2) := by decide +kernel
theorem dX11_below_28 : decode cX11_below 28 = .ok (.ifnull 8, 3) := by decide +kernel
theorem dX11_below_31 : decode cX11_below 31 = .ok (.aload 6, 2) := by decide +kernel
theorem dX11_below_33 : decode cX11_below 33 = .ok (.ifnonnull 5, 3) := by decide +kernel
theorem dX11_below_36 : decode cX11_below 36 = .ok (.iconst (-1), 1) := by decide +kernel
theorem dX11_below_37 : decode cX11_below 37 = .ok (.ireturn, 1) := by decide +kernel
theorem dX11_below_38 : decode cX11_below 38 = .ok (.aload_n 0, 1) := by decide +kernel
theorem dX11_below_39 : decode cX11_below 39 = .ok (.getfield 35, 3) := by decide +kernel
theorem dX11_below_42 : decode cX11_below 42 = .ok (.aload 4, 2) := by decide +kernel
theorem dX11_below_44 : decode cX11_below 44 = .ok (.aload 5, 2) := by decide +kernel
theorem dX11_below_46 : decode cX11_below 46 = .ok (.aload 6, 2) := by decide +kernel
theorem dX11_below_48 : decode cX11_below 48 = .ok (.invokevirtual 131, 3) := by decide +kernel
theorem dX11_below_51 : decode cX11_below 51 = .ok (.ifCond .eq 7, 3) := by decide +kernel
theorem dX11_below_54 : decode cX11_below 54 = .ok (.iconst 1, 1) := by decide +kernel
theorem dX11_below_55 : decode cX11_below 55 = .ok (.goto 4, 3) := by decide +kernel
theorem dX11_below_58 : decode cX11_below 58 = .ok (.iconst 0, 1) := by decide +kernel
theorem dX11_below_59 : decode cX11_below 59 = .ok (.ireturn, 1) := by decide +kernel
theorem dX11_type_0 : decode cX11_type 0 = .ok (.aload_n 0, 1) := by decide +kernel
theorem dX11_type_1 : decode cX11_type 1 = .ok (.iload_n 1, 1) := by decide +kernel
theorem dX11_type_2 : decode cX11_type 2 = .ok (.invokevirtual 120, 3) := by decide +kernel
theorem dX11_type_5 : decode cX11_type 5 = .ok (.astore_n 3, 1) := by decide +kernel
theorem dX11_type_6 : decode cX11_type 6 = .ok (.aload_n 3, 1) := by decide +kernel
theorem dX11_type_7 : decode cX11_type 7 = .ok (.ifnonnull 5, 3) := by decide +kernel
theorem dX11_type_10 : decode cX11_type 10 = .ok (.iconst (-1), 1) := by decide +kernel
theorem dX11_type_11 : decode cX11_type 11 = .ok (.ireturn, 1) := by decide +kernel
theorem dX11_type_12 : decode cX11_type 12 = .ok (.aload_n 0, 1) := by decide +kernel
theorem dX11_type_13 : decode cX11_type 13 = .ok (.getfield 35, 3) := by decide +kernel
theorem dX11_type_16 : decode cX11_type 16 = .ok (.getfield 103, 3) := by decide +kernel
theorem dX11_type_19 : decode cX11_type 19 = .ok (.iload_n 1, 1) := by decide +kernel
theorem dX11_type_20 : decode cX11_type 20 = .ok (.aaload, 1) := by decide +kernel
theorem dX11_type_21 : decode cX11_type 21 = .ok (.astore 4, 2) := by decide +kernel
theorem dX11_type_23 : decode cX11_type 23 = .ok (.iload_n 2, 1) := by decide +kernel
theorem dX11_type_24 : decode cX11_type 24 = .ok (.tableswitch 87 0 5 #[40, 49, 55, 60, 65, 74], 40) := by decide +kernel
theorem dX11_type_64 : decode cX11_type 64 = .ok (.aload 4, 2) := by decide +kernel
theorem dX11_type_66 : decode cX11_type 66 = .ok (.getfield 135, 3) := by decide +kernel
theorem dX11_type_69 : decode cX11_type 69 = .ok (.getfield 139, 3) := by decide +kernel
theorem dX11_type_72 : decode cX11_type 72 = .ok (.ireturn, 1) := by decide +kernel
theorem dX11_type_73 : decode cX11_type 73 = .ok (.aload 4, 2) := by decide +kernel
theorem dX11_type_75 : decode cX11_type 75 = .ok (.getfield 142, 3) := by decide +kernel
theorem dX11_type_78 : decode cX11_type 78 = .ok (.ireturn, 1) := by decide +kernel
theorem dX11_type_79 : decode cX11_type 79 = .ok (.aload_n 3, 1) := by decide +kernel
theorem dX11_type_80 : decode cX11_type 80 = .ok (.getfield 145, 3) := by decide +kernel
theorem dX11_type_83 : decode cX11_type 83 = .ok (.ireturn, 1) := by decide +kernel
theorem dX11_type_84 : decode cX11_type 84 = .ok (.aload_n 3, 1) := by decide +kernel
theorem dX11_type_85 : decode cX11_type 85 = .ok (.getfield 148, 3) := by decide +kernel
theorem dX11_type_88 : decode cX11_type 88 = .ok (.ireturn, 1) := by decide +kernel
theorem dX11_type_89 : decode cX11_type 89 = .ok (.aload_n 0, 1) := by decide +kernel
theorem dX11_type_90 : decode cX11_type 90 = .ok (.getfield 35, 3) := by decide +kernel
theorem dX11_type_93 : decode cX11_type 93 = .ok (.aload_n 3, 1) := by decide +kernel
theorem dX11_type_94 : decode cX11_type 94 = .ok (.invokevirtual 151, 3) := by decide +kernel
theorem dX11_type_97 : decode cX11_type 97 = .ok (.ireturn, 1) := by decide +kernel
theorem dX11_type_98 : decode cX11_type 98 = .ok (.aload_n 0, 1) := by decide +kernel
theorem dX11_type_99 : decode cX11_type 99 = .ok (.getfield 35, 3) := by decide +kernel
theorem dX11_type_102 : decode cX11_type 102 = .ok (.getfield 155, 3) := by decide +kernel
theorem dX11_type_105 : decode cX11_type 105 = .ok (.aload_n 3, 1) := by decide +kernel
theorem dX11_type_106 : decode cX11_type 106 = .ok (.getfield 124, 3) := by decide +kernel
theorem dX11_type_109 : decode cX11_type 109 = .ok (.iaload, 1) := by decide +kernel
theorem dX11_type_110 : decode cX11_type 110 = .ok (.ireturn, 1) := by decide +kernel
theorem dX11_type_111 : decode cX11_type 111 = .ok (.iconst (-1), 1) := by decide +kernel
theorem dX11_type_112 : decode cX11_type 112 = .ok (.ireturn, 1) := by decide +kernel
theorem dX11_sees_0 : decode cX11_sees 0 = .ok (.aload_n 0, 1) := by decide +kernel
theorem dX11_sees_1 : decode cX11_sees 1 = .ok (.iload_n 1, 1) := by decide +kernel
theorem dX11_sees_2 : decode cX11_sees 2 = .ok (.invokevirtual 127, 3) := by decide +kernel
theorem dX11_sees_5 : decode cX11_sees 5 = .ok (.astore_n 3, 1) := by decide +kernel
theorem dX11_sees_6 : decode cX11_sees 6 = .ok (.aload_n 0, 1) := by decide +kernel
theorem dX11_sees_7 : decode cX11_sees 7 = .ok (.iload_n 2, 1) := by decide +kernel
theorem dX11_sees_8 : decode cX11_sees 8 = .ok (.invokevirtual 120, 3) := by decide +kernel
theorem dX11_sees_11 : decode cX11_sees 11 = .ok (.astore 4, 2) := by decide +kernel
theorem dX11_sees_13 : decode cX11_sees 13 = .ok (.aload_n 3, 1) := by decide +kernel
theorem dX11_sees_14 : decode cX11_sees 14 = .ok (.ifnull 16, 3) := by decide +kernel
theorem dX11_sees_17 : decode cX11_sees 17 = .ok (.aload 4, 2) := by decide +kernel
theorem dX11_sees_19 : decode cX11_sees 19 = .ok (.ifnull 11, 3) := by decide +kernel
theorem dX11_sees_22 : decode cX11_sees 22 = .ok (.aload 4, 2) := by decide +kernel
theorem dX11_sees_24 : decode cX11_sees 24 = .ok (.invokestatic 159, 3) := by decide +kernel
theorem dX11_sees_27 : decode cX11_sees 27 = .ok (.ifCond .ne 5, 3) := by decide +kernel
theorem dX11_sees_30 : decode cX11_sees 30 = .ok (.iconst (-1), 1) := by decide +kernel
theorem dX11_sees_31 : decode cX11_sees 31 = .ok (.ireturn, 1) := by decide +kernel
theorem dX11_sees_32 : decode cX11_sees 32 = .ok (.aload_n 0, 1) := by decide +kernel
theorem dX11_sees_33 : decode cX11_sees 33 = .ok (.getfield 35, 3) := by decide +kernel
theorem dX11_sees_36 : decode cX11_sees 36 = .ok (.aload_n 3, 1) := by decide +kernel
theorem dX11_sees_37 : decode cX11_sees 37 = .ok (.aload 4, 2) := by decide +kernel
theorem dX11_sees_39 : decode cX11_sees 39 = .ok (.invokevirtual 163, 3) := by decide +kernel
theorem dX11_sees_42 : decode cX11_sees 42 = .ok (.ireturn, 1) := by decide +kernel
theorem dX11_isObject_0 : decode cX11_isObject 0 = .ok (.aload_n 0, 1) := by decide +kernel
theorem dX11_isObject_1 : decode cX11_isObject 1 = .ok (.getfield 145, 3) := by decide +kernel
theorem dX11_isObject_4 : decode cX11_isObject 4 = .ok (.bipush 10, 2) := by decide +kernel
theorem dX11_isObject_6 : decode cX11_isObject 6 = .ok (.if_icmp .eq 21, 3) := by decide +kernel
theorem dX11_isObject_9 : decode cX11_isObject 9 = .ok (.aload_n 0, 1) := by decide +kernel
theorem dX11_isObject_10 : decode cX11_isObject 10 = .ok (.getfield 145, 3) := by decide +kernel
theorem dX11_isObject_13 : decode cX11_isObject 13 = .ok (.bipush 11, 2) := by decide +kernel
theorem dX11_isObject_15 : decode cX11_isObject 15 = .ok (.if_icmp .eq 12, 3) := by decide +kernel
theorem dX11_isObject_18 : decode cX11_isObject 18 = .ok (.aload_n 0, 1) := by decide +kernel
theorem dX11_isObject_19 : decode cX11_isObject 19 = .ok (.getfield 145, 3) := by decide +kernel
theorem dX11_isObject_22 : decode cX11_isObject 22 = .ok (.bipush 12, 2) := by decide +kernel
theorem dX11_isObject_24 : decode cX11_isObject 24 = .ok (.if_icmp .ne 7, 3) := by decide +kernel
theorem dX11_isObject_27 : decode cX11_isObject 27 = .ok (.iconst 1, 1) := by decide +kernel
theorem dX11_isObject_28 : decode cX11_isObject 28 = .ok (.goto 4, 3) := by decide +kernel
theorem dX11_isObject_31 : decode cX11_isObject 31 = .ok (.iconst 0, 1) := by decide +kernel
theorem dX11_isObject_32 : decode cX11_isObject 32 = .ok (.ireturn, 1) := by decide +kernel
theorem dX11_hasParts_0 : decode cX11_hasParts 0 = .ok (.aload_n 0, 1) := by decide +kernel
theorem dX11_hasParts_1 : decode cX11_hasParts 1 = .ok (.getfield 145, 3) := by decide +kernel
theorem dX11_hasParts_4 : decode cX11_hasParts 4 = .ok (.iconst 3, 1) := by decide +kernel
theorem dX11_hasParts_5 : decode cX11_hasParts 5 = .ok (.if_icmp .eq 11, 3) := by decide +kernel
theorem dX11_hasParts_8 : decode cX11_hasParts 8 = .ok (.aload_n 0, 1) := by decide +kernel
theorem dX11_hasParts_9 : decode cX11_hasParts 9 = .ok (.getfield 145, 3) := by decide +kernel
theorem dX11_hasParts_12 : decode cX11_hasParts 12 = .ok (.iconst 4, 1) := by decide +kernel
theorem dX11_hasParts_13 : decode cX11_hasParts 13 = .ok (.if_icmp .ne 7, 3) := by decide +kernel
theorem dX11_hasParts_16 : decode cX11_hasParts 16 = .ok (.iconst 1, 1) := by decide +kernel
theorem dX11_hasParts_17 : decode cX11_hasParts 17 = .ok (.goto 4, 3) := by decide +kernel
theorem dX11_hasParts_20 : decode cX11_hasParts 20 = .ok (.iconst 0, 1) := by decide +kernel
theorem dX11_hasParts_21 : decode cX11_hasParts 21 = .ok (.ireturn, 1) := by decide +kernel
theorem dJ7_fill_53178_0 : decode cJ7_fill_53178 0 = .ok (.iconst 0, 1) := by decide +kernel
theorem dJ7_fill_53178_1 : decode cJ7_fill_53178 1 = .ok (.istore_n 2, 1) := by decide +kernel
theorem dJ7_fill_53178_2 : decode cJ7_fill_53178 2 = .ok (.aload_n 0, 1) := by decide +kernel
theorem dJ7_fill_53178_3 : decode cJ7_fill_53178 3 = .ok (.arraylength, 1) := by decide +kernel
theorem dJ7_fill_53178_4 : decode cJ7_fill_53178 4 = .ok (.istore_n 3, 1) := by decide +kernel
theorem dJ7_fill_53178_5 : decode cJ7_fill_53178 5 = .ok (.iload_n 2, 1) := by decide +kernel
theorem dJ7_fill_53178_6 : decode cJ7_fill_53178 6 = .ok (.iload_n 3, 1) := by decide +kernel
theorem dJ7_fill_53178_7 : decode cJ7_fill_53178 7 = .ok (.if_icmp .ge 13, 3) := by decide +kernel
theorem dJ7_fill_53178_10 : decode cJ7_fill_53178 10 = .ok (.aload_n 0, 1) := by decide +kernel
theorem dJ7_fill_53178_11 : decode cJ7_fill_53178 11 = .ok (.iload_n 2, 1) := by decide +kernel
theorem dJ7_fill_53178_12 : decode cJ7_fill_53178 12 = .ok (.iload_n 1, 1) := by decide +kernel
theorem dJ7_fill_53178_13 : decode cJ7_fill_53178 13 = .ok (.iastore, 1) := by decide +kernel
theorem dJ7_fill_53178_14 : decode cJ7_fill_53178 14 = .ok (.iinc 2 1, 3) := by decide +kernel
theorem dJ7_fill_53178_17 : decode cJ7_fill_53178 17 = .ok (.goto (-12), 3) := by decide +kernel
theorem dJ7_fill_53178_20 : decode cJ7_fill_53178 20 = .ok (.return_, 1) := by decide +kernel
theorem dL_at_0 : decode cL_at 0 = .ok (.iload_n 1, 1) := by decide +kernel
theorem dL_at_1 : decode cL_at 1 = .ok (.aload_n 0, 1) := by decide +kernel
theorem dL_at_2 : decode cL_at 2 = .ok (.arraylength, 1) := by decide +kernel
theorem dL_at_3 : decode cL_at 3 = .ok (.if_icmp .ge 9, 3) := by decide +kernel
theorem dL_at_6 : decode cL_at 6 = .ok (.aload_n 0, 1) := by decide +kernel
theorem dL_at_7 : decode cL_at 7 = .ok (.iload_n 1, 1) := by decide +kernel
theorem dL_at_8 : decode cL_at 8 = .ok (.iaload, 1) := by decide +kernel
theorem dL_at_9 : decode cL_at 9 = .ok (.goto 4, 3) := by decide +kernel
theorem dL_at_12 : decode cL_at 12 = .ok (.iconst 0, 1) := by decide +kernel
theorem dL_at_13 : decode cL_at 13 = .ok (.ireturn, 1) := by decide +kernel
theorem dL_put_0 : decode cL_put 0 = .ok (.aload_n 0, 1) := by decide +kernel
theorem dL_put_1 : decode cL_put 1 = .ok (.iload_n 2, 1) := by decide +kernel
theorem dL_put_2 : decode cL_put 2 = .ok (.iload_n 3, 1) := by decide +kernel
theorem dL_put_3 : decode cL_put 3 = .ok (.iload 4, 2) := by decide +kernel
theorem dL_put_5 : decode cL_put 5 = .ok (.iload 5, 2) := by decide +kernel
theorem dL_put_7 : decode cL_put 7 = .ok (.iload 6, 2) := by decide +kernel
theorem dL_put_9 : decode cL_put 9 = .ok (.invokevirtual 7, 3) := by decide +kernel
theorem dL_put_12 : decode cL_put 12 = .ok (.pop, 1) := by decide +kernel
theorem dL_put_13 : decode cL_put 13 = .ok (.aload_n 0, 1) := by decide +kernel
theorem dL_put_14 : decode cL_put 14 = .ok (.bipush 20, 2) := by decide +kernel
theorem dL_put_16 : decode cL_put 16 = .ok (.iload_n 1, 1) := by decide +kernel
theorem dL_put_17 : decode cL_put 17 = .ok (.isub, 1) := by decide +kernel
theorem dL_put_18 : decode cL_put 18 = .ok (.invokevirtual 13, 3) := by decide +kernel
theorem dL_put_21 : decode cL_put 21 = .ok (.pop, 1) := by decide +kernel
theorem dL_put_22 : decode cL_put 22 = .ok (.return_, 1) := by decide +kernel
theorem dL_sign_0 : decode cL_sign 0 = .ok (.aload_n 0, 1) := by decide +kernel
theorem dL_sign_1 : decode cL_sign 1 = .ok (.iload_n 1, 1) := by decide +kernel
theorem dL_sign_2 : decode cL_sign 2 = .ok (.bipush 24, 2) := by decide +kernel
theorem dL_sign_4 : decode cL_sign 4 = .ok (.ishl, 1) := by decide +kernel
theorem dL_sign_5 : decode cL_sign 5 = .ok (.iconst 0, 1) := by decide +kernel
theorem dL_sign_6 : decode cL_sign 6 = .ok (.iconst 0, 1) := by decide +kernel
theorem dL_sign_7 : decode cL_sign 7 = .ok (.iconst 0, 1) := by decide +kernel
theorem dL_sign_8 : decode cL_sign 8 = .ok (.iconst 0, 1) := by decide +kernel
theorem dL_sign_9 : decode cL_sign 9 = .ok (.invokevirtual 7, 3) := by decide +kernel
theorem dL_sign_12 : decode cL_sign 12 = .ok (.pop, 1) := by decide +kernel
theorem dL_sign_13 : decode cL_sign 13 = .ok (.aload_n 0, 1) := by decide +kernel
theorem dL_sign_14 : decode cL_sign 14 = .ok (.bipush 19, 2) := by decide +kernel
theorem dL_sign_16 : decode cL_sign 16 = .ok (.invokevirtual 13, 3) := by decide +kernel
theorem dL_sign_19 : decode cL_sign 19 = .ok (.pop, 1) := by decide +kernel
theorem dL_sign_20 : decode cL_sign 20 = .ok (.return_, 1) := by decide +kernel
theorem dL_ring_0 : decode cL_ring 0 = .ok (.iconst 0, 1) := by decide +kernel
theorem dL_ring_1 : decode cL_ring 1 = .ok (.istore 4, 2) := by decide +kernel
theorem dL_ring_3 : decode cL_ring 3 = .ok (.iload 4, 2) := by decide +kernel
theorem dL_ring_5 : decode cL_ring 5 = .ok (.iload_n 2, 1) := by decide +kernel
theorem dL_ring_6 : decode cL_ring 6 = .ok (.if_icmp .ge 102, 3) := by decide +kernel
theorem dL_ring_9 : decode cL_ring 9 = .ok (.aload_n 0, 1) := by decide +kernel
theorem dL_ring_10 : decode cL_ring 10 = .ok (.iconst 5, 1) := by decide +kernel
theorem dL_ring_11 : decode cL_ring 11 = .ok (.ldc 17, 2) := by decide +kernel
theorem dL_ring_13 : decode cL_ring 13 = .ok (.ldc 18, 2) := by decide +kernel
theorem dL_ring_15 : decode cL_ring 15 = .ok (.iconst 0, 1) := by decide +kernel
theorem dL_ring_16 : decode cL_ring 16 = .ok (.iconst 0, 1) := by decide +kernel
theorem dL_ring_17 : decode cL_ring 17 = .ok (.iconst 0, 1) := by decide +kernel
theorem dL_ring_18 : decode cL_ring 18 = .ok (.invokestatic 19, 3) := by decide +kernel
theorem dL_ring_21 : decode cL_ring 21 = .ok (.aload_n 0, 1) := by decide +kernel
theorem dL_ring_22 : decode cL_ring 22 = .ok (.iload_n 1, 1) := by decide +kernel
theorem dL_ring_23 : decode cL_ring 23 = .ok (.invokestatic 25, 3) := by decide +kernel
theorem dL_ring_26 : decode cL_ring 26 = .ok (.aload_n 0, 1) := by decide +kernel
theorem dL_ring_27 : decode cL_ring 27 = .ok (.bipush 48, 2) := by decide +kernel
theorem dL_ring_29 : decode cL_ring 29 = .ok (.iload 4, 2) := by decide +kernel
theorem dL_ring_31 : decode cL_ring 31 = .ok (.iadd, 1) := by decide +kernel
theorem dL_ring_32 : decode cL_ring 32 = .ok (.invokestatic 25, 3) := by decide +kernel
theorem dL_ring_35 : decode cL_ring 35 = .ok (.aload_n 0, 1) := by decide +kernel
theorem dL_ring_36 : decode cL_ring 36 = .ok (.bipush 17, 2) := by decide +kernel
theorem dL_ring_38 : decode cL_ring 38 = .ok (.ldc 29, 2) := by decide +kernel
theorem dL_ring_40 : decode cL_ring 40 = .ok (.ldc 30, 2) := by decide +kernel
theorem dL_ring_42 : decode cL_ring 42 = .ok (.ldc 31, 2) := by decide +kernel
theorem dL_ring_44 : decode cL_ring 44 = .ok (.ldc 32, 2) := by decide +kernel
theorem dL_ring_46 : decode cL_ring 46 = .ok (.ldc 33, 2) := by decide +kernel
theorem dL_ring_48 : decode cL_ring 48 = .ok (.invokestatic 19, 3) := by decide +kernel
theorem dL_ring_51 : decode cL_ring 51 = .ok (.aload_n 0, 1) := by decide +kernel
theorem dL_ring_52 : decode cL_ring 52 = .ok (.iload_n 3, 1) := by decide +kernel
theorem dL_ring_53 : decode cL_ring 53 = .ok (.iload 4, 2) := by decide +kernel
theorem dL_ring_55 : decode cL_ring 55 = .ok (.invokestatic 34, 3) := by decide +kernel
theorem dL_ring_58 : decode cL_ring 58 = .ok (.invokestatic 25, 3) := by decide +kernel
theorem dL_ring_61 : decode cL_ring 61 = .ok (.aload_n 0, 1) := by decide +kernel
theorem dL_ring_62 : decode cL_ring 62 = .ok (.iconst 5, 1) := by decide +kernel
theorem dL_ring_63 : decode cL_ring 63 = .ok (.ldc 38, 2) := by decide +kernel
theorem dL_ring_65 : decode cL_ring 65 = .ok (.ldc 18, 2) := by decide +kernel
theorem dL_ring_67 : decode cL_ring 67 = .ok (.iconst 0, 1) := by decide +kernel
theorem dL_ring_68 : decode cL_ring 68 = .ok (.iconst 0, 1) := by decide +kernel
theorem dL_ring_69 : decode cL_ring 69 = .ok (.iconst 0, 1) := by decide +kernel
theorem dL_ring_70 : decode cL_ring 70 = .ok (.invokestatic 19, 3) := by decide +kernel
theorem dL_ring_73 : decode cL_ring 73 = .ok (.aload_n 0, 1) := by decide +kernel
theorem dL_ring_74 : decode cL_ring 74 = .ok (.iload_n 1, 1) := by decide +kernel
theorem dL_ring_75 : decode cL_ring 75 = .ok (.invokestatic 25, 3) := by decide +kernel
theorem dL_ring_78 : decode cL_ring 78 = .ok (.aload_n 0, 1) := by decide +kernel
theorem dL_ring_79 : decode cL_ring 79 = .ok (.bipush 48, 2) := by decide +kernel
theorem dL_ring_81 : decode cL_ring 81 = .ok (.iload 4, 2) := by decide +kernel
theorem dL_ring_83 : decode cL_ring 83 = .ok (.iconst 1, 1) := by decide +kernel
theorem dL_ring_84 : decode cL_ring 84 = .ok (.iadd, 1) := by decide +kernel
theorem dL_ring_85 : decode cL_ring 85 = .ok (.iload_n 2, 1) := by decide +kernel
theorem dL_ring_86 : decode cL_ring 86 = .ok (.irem, 1) := by decide +kernel
theorem dL_ring_87 : decode cL_ring 87 = .ok (.iadd, 1) := by decide +kernel
theorem dL_ring_88 : decode cL_ring 88 = .ok (.invokestatic 25, 3) := by decide +kernel
theorem dL_ring_91 : decode cL_ring 91 = .ok (.aload_n 0, 1) := by decide +kernel
theorem dL_ring_92 : decode cL_ring 92 = .ok (.iconst 2, 1) := by decide +kernel
theorem dL_ring_93 : decode cL_ring 93 = .ok (.ldc 39, 2) := by decide +kernel
theorem dL_ring_95 : decode cL_ring 95 = .ok (.iconst 0, 1) := by decide +kernel
theorem dL_ring_96 : decode cL_ring 96 = .ok (.iconst 0, 1) := by decide +kernel
theorem dL_ring_97 : decode cL_ring 97 = .ok (.iconst 0, 1) := by decide +kernel
theorem dL_ring_98 : decode cL_ring 98 = .ok (.iconst 0, 1) := by decide +kernel
theorem dL_ring_99 : decode cL_ring 99 = .ok (.invokestatic 19, 3) := by decide +kernel
theorem dL_ring_102 : decode cL_ring 102 = .ok (.iinc 4 1, 3) := by decide +kernel
theorem dL_ring_105 : decode cL_ring 105 = .ok (.goto (-102), 3) := by decide +kernel
theorem dL_ring_108 : decode cL_ring 108 = .ok (.return_, 1) := by decide +kernel
theorem dL_bound_0 : decode cL_bound 0 = .ok (.bipush 49, 2) := by decide +kernel
theorem dL_bound_2 : decode cL_bound 2 = .ok (.iload_n 0, 1) := by decide +kernel
theorem dL_bound_3 : decode cL_bound 3 = .ok (.iload_n 1, 1) := by decide +kernel
theorem dL_bound_4 : decode cL_bound 4 = .ok (.iushr, 1) := by decide +kernel
theorem dL_bound_5 : decode cL_bound 5 = .ok (.iconst 1, 1) := by decide +kernel
theorem dL_bound_6 : decode cL_bound 6 = .ok (.iand, 1) := by decide +kernel
theorem dL_bound_7 : decode cL_bound 7 = .ok (.iadd, 1) := by decide +kernel
theorem dL_bound_8 : decode cL_bound 8 = .ok (.ireturn, 1) := by decide +kernel
theorem dL_same_0 : decode cL_same 0 = .ok (.iconst 1, 1) := by decide +kernel
theorem dL_same_1 : decode cL_same 1 = .ok (.istore 6, 2) := by decide +kernel
theorem dL_same_3 : decode cL_same 3 = .ok (.iconst 0, 1) := by decide +kernel
theorem dL_same_4 : decode cL_same 4 = .ok (.istore 7, 2) := by decide +kernel
theorem dL_same_6 : decode cL_same 6 = .ok (.iload 7, 2) := by decide +kernel
theorem dL_same_8 : decode cL_same 8 = .ok (.iload_n 0, 1) := by decide +kernel
theorem dL_same_9 : decode cL_same 9 = .ok (.iload_n 3, 1) := by decide +kernel
theorem dL_same_10 : decode cL_same 10 = .ok (.imul, 1) := by decide +kernel
theorem dL_same_11 : decode cL_same 11 = .ok (.if_icmp .ge 46, 3) := by decide +kernel
theorem dL_same_14 : decode cL_same 14 = .ok (.iload 6, 2) := by decide +kernel
theorem dL_same_16 : decode cL_same 16 = .ok (.ifCond .eq 32, 3) := by decide +kernel
theorem dL_same_19 : decode cL_same 19 = .ok (.iload_n 1, 1) := by decide +kernel
theorem dL_same_20 : decode cL_same 20 = .ok (.iload_n 2, 1) := by decide +kernel
theorem dL_same_21 : decode cL_same 21 = .ok (.iload 7, 2) := by decide +kernel
theorem dL_same_23 : decode cL_same 23 = .ok (.iadd, 1) := by decide +kernel
theorem dL_same_24 : decode cL_same 24 = .ok (.iload_n 0, 1) := by decide +kernel
theorem dL_same_25 : decode cL_same 25 = .ok (.irem, 1) := by decide +kernel
theorem dL_same_26 : decode cL_same 26 = .ok (.invokestatic 34, 3) := by decide +kernel
theorem dL_same_29 : decode cL_same 29 = .ok (.iload 4, 2) := by decide +kernel
theorem dL_same_31 : decode cL_same 31 = .ok (.iload 5, 2) := by decide +kernel
theorem dL_same_33 : decode cL_same 33 = .ok (.iload 7, 2) := by decide +kernel
theorem dL_same_35 : decode cL_same 35 = .ok (.iadd, 1) := by decide +kernel
theorem dL_same_36 : decode cL_same 36 = .ok (.iload_n 3, 1) := by decide +kernel
theorem dL_same_37 : decode cL_same 37 = .ok (.irem, 1) := by decide +kernel
theorem dL_same_38 : decode cL_same 38 = .ok (.invokestatic 34, 3) := by decide +kernel
theorem dL_same_41 : decode cL_same 41 = .ok (.if_icmp .ne 7, 3) := by decide +kernel
theorem dL_same_44 : decode cL_same 44 = .ok (.iconst 1, 1) := by decide +kernel
theorem dL_same_45 : decode cL_same 45 = .ok (.goto 4, 3) := by decide +kernel
theorem dL_same_48 : decode cL_same 48 = .ok (.iconst 0, 1) := by decide +kernel
theorem dL_same_49 : decode cL_same 49 = .ok (.istore 6, 2) := by decide +kernel
theorem dL_same_51 : decode cL_same 51 = .ok (.iinc 7 1, 3) := by decide +kernel
theorem dL_same_54 : decode cL_same 54 = .ok (.goto (-48), 3) := by decide +kernel
theorem dL_same_57 : decode cL_same 57 = .ok (.iload 6, 2) := by decide +kernel
theorem dL_same_59 : decode cL_same 59 = .ok (.ireturn, 1) := by decide +kernel
theorem dL_stirred_0 : decode cL_stirred 0 = .ok (.bipush 17, 2) := by decide +kernel
theorem dL_stirred_2 : decode cL_stirred 2 = .ok (.istore_n 1, 1) := by decide +kernel
theorem dL_stirred_3 : decode cL_stirred 3 = .ok (.aload_n 0, 1) := by decide +kernel
theorem dL_stirred_4 : decode cL_stirred 4 = .ok (.astore_n 2, 1) := by decide +kernel
theorem dL_stirred_5 : decode cL_stirred 5 = .ok (.aload_n 2, 1) := by decide +kernel
theorem dL_stirred_6 : decode cL_stirred 6 = .ok (.arraylength, 1) := by decide +kernel
theorem dL_stirred_7 : decode cL_stirred 7 = .ok (.istore_n 3, 1) := by decide +kernel
theorem dL_stirred_8 : decode cL_stirred 8 = .ok (.iconst 0, 1) := by decide +kernel
theorem dL_stirred_9 : decode cL_stirred 9 = .ok (.istore 4, 2) := by decide +kernel
theorem dL_stirred_11 : decode cL_stirred 11 = .ok (.iload 4, 2) := by decide +kernel
theorem dL_stirred_13 : decode cL_stirred 13 = .ok (.iload_n 3, 1) := by decide +kernel
theorem dL_stirred_14 : decode cL_stirred 14 = .ok (.if_icmp .ge 25, 3) := by decide +kernel
theorem dL_stirred_17 : decode cL_stirred 17 = .ok (.aload_n 2, 1) := by decide +kernel
theorem dL_stirred_18 : decode cL_stirred 18 = .ok (.iload 4, 2) := by decide +kernel
theorem dL_stirred_20 : decode cL_stirred 20 = .ok (.iaload, 1) := by decide +kernel
theorem dL_stirred_21 : decode cL_stirred 21 = .ok (.istore 5, 2) := by decide +kernel
theorem dL_stirred_23 : decode cL_stirred 23 = .ok (.iload_n 1, 1) := by decide +kernel
theorem dL_stirred_24 : decode cL_stirred 24 = .ok (.iload 5, 2) := by decide +kernel
theorem dL_stirred_26 : decode cL_stirred 26 = .ok (.ixor, 1) := by decide +kernel
theorem dL_stirred_27 : decode cL_stirred 27 = .ok (.ldc 40, 2) := by decide +kernel
theorem dL_stirred_29 : decode cL_stirred 29 = .ok (.imul, 1) := by decide +kernel
theorem dL_stirred_30 : decode cL_stirred 30 = .ok (.iconst 1, 1) := by decide +kernel
theorem dL_stirred_31 : decode cL_stirred 31 = .ok (.iadd, 1) := by decide +kernel
theorem dL_stirred_32 : decode cL_stirred 32 = .ok (.istore_n 1, 1) := by decide +kernel
theorem dL_stirred_33 : decode cL_stirred 33 = .ok (.iinc 4 1, 3) := by decide +kernel
theorem dL_stirred_36 : decode cL_stirred 36 = .ok (.goto (-25), 3) := by decide +kernel
theorem dL_stirred_39 : decode cL_stirred 39 = .ok (.bipush 9, 2) := by decide +kernel
theorem dL_stirred_41 : decode cL_stirred 41 = .ok (.newarray .int, 2) := by decide +kernel
theorem dL_stirred_43 : decode cL_stirred 43 = .ok (.astore_n 2, 1) := by decide +kernel
theorem dL_stirred_44 : decode cL_stirred 44 = .ok (.iconst 0, 1) := by decide +kernel
theorem dL_stirred_45 : decode cL_stirred 45 = .ok (.istore_n 3, 1) := by decide +kernel
theorem dL_stirred_46 : decode cL_stirred 46 = .ok (.iload_n 3, 1) := by decide +kernel
theorem dL_stirred_47 : decode cL_stirred 47 = .ok (.aload_n 2, 1) := by decide +kernel
theorem dL_stirred_48 : decode cL_stirred 48 = .ok (.arraylength, 1) := by decide +kernel
theorem dL_stirred_49 : decode cL_stirred 49 = .ok (.if_icmp .ge 40, 3) := by decide +kernel
theorem dL_stirred_52 : decode cL_stirred 52 = .ok (.iload_n 1, 1) := by decide +kernel
theorem dL_stirred_53 : decode cL_stirred 53 = .ok (.ldc 41, 2) := by decide +kernel
theorem dL_stirred_55 : decode cL_stirred 55 = .ok (.imul, 1) := by decide +kernel
theorem dL_stirred_56 : decode cL_stirred 56 = .ok (.sipush 12345, 3) := by decide +kernel
theorem dL_stirred_59 : decode cL_stirred 59 = .ok (.iadd, 1) := by decide +kernel
theorem dL_stirred_60 : decode cL_stirred 60 = .ok (.istore_n 1, 1) := by decide +kernel
theorem dL_stirred_61 : decode cL_stirred 61 = .ok (.iload_n 1, 1) := by decide +kernel
theorem dL_stirred_62 : decode cL_stirred 62 = .ok (.iload_n 1, 1) := by decide +kernel
theorem dL_stirred_63 : decode cL_stirred 63 = .ok (.bipush 15, 2) := by decide +kernel
theorem dL_stirred_65 : decode cL_stirred 65 = .ok (.iushr, 1) := by decide +kernel
theorem dL_stirred_66 : decode cL_stirred 66 = .ok (.ixor, 1) := by decide +kernel
theorem dL_stirred_67 : decode cL_stirred 67 = .ok (.ldc 42, 2) := by decide +kernel
theorem dL_stirred_69 : decode cL_stirred 69 = .ok (.imul, 1) := by decide +kernel
theorem dL_stirred_70 : decode cL_stirred 70 = .ok (.istore 4, 2) := by decide +kernel
theorem dL_stirred_72 : decode cL_stirred 72 = .ok (.aload_n 2, 1) := by decide +kernel
theorem dL_stirred_73 : decode cL_stirred 73 = .ok (.iload_n 3, 1) := by decide +kernel
theorem dL_stirred_74 : decode cL_stirred 74 = .ok (.iload 4, 2) := by decide +kernel
theorem dL_stirred_76 : decode cL_stirred 76 = .ok (.iload 4, 2) := by decide +kernel
theorem dL_stirred_78 : decode cL_stirred 78 = .ok (.bipush 13, 2) := by decide +kernel
theorem dL_stirred_80 : decode cL_stirred 80 = .ok (.iushr, 1) := by decide +kernel
theorem dL_stirred_81 : decode cL_stirred 81 = .ok (.ixor, 1) := by decide +kernel
theorem dL_stirred_82 : decode cL_stirred 82 = .ok (.iastore, 1) := by decide +kernel
theorem dL_stirred_83 : decode cL_stirred 83 = .ok (.iinc 3 1, 3) := by decide +kernel
theorem dL_stirred_86 : decode cL_stirred 86 = .ok (.goto (-40), 3) := by decide +kernel
theorem dL_stirred_89 : decode cL_stirred 89 = .ok (.aload_n 2, 1) := by decide +kernel
theorem dL_stirred_90 : decode cL_stirred 90 = .ok (.areturn, 1) := by decide +kernel
theorem dL_law_0 : decode cL_law 0 = .ok (.aload_n 0, 1) := by decide +kernel
theorem dL_law_1 : decode cL_law 1 = .ok (.invokestatic 43, 3) := by decide +kernel
theorem dL_law_4 : decode cL_law 4 = .ok (.astore_n 1, 1) := by decide +kernel
theorem dL_law_5 : decode cL_law 5 = .ok (.new 8, 3) := by decide +kernel
theorem dL_law_8 : decode cL_law 8 = .ok (.dup, 1) := by decide +kernel
theorem dL_law_9 : decode cL_law 9 = .ok (.invokespecial 47, 3) := by decide +kernel
theorem dL_law_12 : decode cL_law 12 = .ok (.astore_n 2, 1) := by decide +kernel
theorem dL_law_13 : decode cL_law 13 = .ok (.iconst 1, 1) := by decide +kernel
theorem dL_law_14 : decode cL_law 14 = .ok (.aload_n 1, 1) := by decide +kernel
theorem dL_law_15 : decode cL_law 15 = .ok (.iconst 0, 1) := by decide +kernel
theorem dL_law_16 : decode cL_law 16 = .ok (.invokestatic 48, 3) := by decide +kernel
theorem dL_law_19 : decode cL_law 19 = .ok (.iconst 3, 1) := by decide +kernel
theorem dL_law_20 : decode cL_law 20 = .ok (.iand, 1) := by decide +kernel
theorem dL_law_21 : decode cL_law 21 = .ok (.iadd, 1) := by decide +kernel
theorem dL_law_22 : decode cL_law 22 = .ok (.istore_n 3, 1) := by decide +kernel
theorem dL_law_23 : decode cL_law 23 = .ok (.iconst 1, 1) := by decide +kernel
theorem dL_law_24 : decode cL_law 24 = .ok (.aload_n 1, 1) := by decide +kernel
theorem dL_law_25 : decode cL_law 25 = .ok (.iconst 1, 1) := by decide +kernel
theorem dL_law_26 : decode cL_law 26 = .ok (.invokestatic 48, 3) := by decide +kernel
theorem dL_law_29 : decode cL_law 29 = .ok (.iconst 3, 1) := by decide +kernel
theorem dL_law_30 : decode cL_law 30 = .ok (.iand, 1) := by decide +kernel
theorem dL_law_31 : decode cL_law 31 = .ok (.iadd, 1) := by decide +kernel
