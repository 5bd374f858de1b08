theorem dX10_motion_215 : decode cX10_motion 215 = .ok (.iconst 0, 1) := by decide +kernel
theorem dX10_motion_216 : decode cX10_motion 216 = .ok (.istore_n 2, 1) := by decide +kernel
theorem dX10_motion_217 : decode cX10_motion 217 = .ok (.iload_n 2, 1) := by decide +kernel
theorem dX10_motion_218 : decode cX10_motion 218 = .ok (.iconst 4, 1) := by decide +kernel
theorem dX10_motion_219 : decode cX10_motion 219 = .ok (.if_icmp .ge 21, 3) := by decide +kernel
theorem dX10_motion_222 : decode cX10_motion 222 = .ok (.aload_n 0, 1) := by decide +kernel
theorem dX10_motion_223 : decode cX10_motion 223 = .ok (.aload_n 0, 1) := by decide +kernel
theorem dX10_motion_224 : decode cX10_motion 224 = .ok (.iload_n 2, 1) := by decide +kernel
theorem dX10_motion_225 : decode cX10_motion 225 = .ok (.invokevirtual 241, 3) := by decide +kernel
theorem dX10_motion_228 : decode cX10_motion 228 = .ok (.invokevirtual 220, 3) := by decide +kernel
theorem dX10_motion_231 : decode cX10_motion 231 = .ok (.ifCond .ne 9, 3) := by decide +kernel
theorem dX10_motion_234 : decode cX10_motion 234 = .ok (.iinc 2 1, 3) := by decide +kernel
theorem dX10_motion_237 : decode cX10_motion 237 = .ok (.goto (-20), 3) := by decide +kernel
theorem dX10_motion_240 : decode cX10_motion 240 = .ok (.aload_n 0, 1) := by decide +kernel
theorem dX10_motion_241 : decode cX10_motion 241 = .ok (.getfield 153, 3) := by decide +kernel
theorem dX10_motion_244 : decode cX10_motion 244 = .ok (.ifCond .ne 17, 3) := by decide +kernel
theorem dX10_motion_247 : decode cX10_motion 247 = .ok (.iload_n 2, 1) := by decide +kernel
theorem dX10_motion_248 : decode cX10_motion 248 = .ok (.iconst 4, 1) := by decide +kernel
theorem dX10_motion_249 : decode cX10_motion 249 = .ok (.if_icmp .ne 12, 3) := by decide +kernel
theorem dX10_motion_252 : decode cX10_motion 252 = .ok (.aload_n 0, 1) := by decide +kernel
theorem dX10_motion_253 : decode cX10_motion 253 = .ok (.iconst 1, 1) := by decide +kernel
theorem dX10_motion_254 : decode cX10_motion 254 = .ok (.aload_n 0, 1) := by decide +kernel
theorem dX10_motion_255 : decode cX10_motion 255 = .ok (.getfield 159, 3) := by decide +kernel
theorem dX10_motion_258 : decode cX10_motion 258 = .ok (.invokevirtual 169, 3) := by decide +kernel
theorem dX10_motion_261 : decode cX10_motion 261 = .ok (.aload_n 0, 1) := by decide +kernel
theorem dX10_motion_262 : decode cX10_motion 262 = .ok (.getfield 22, 3) := by decide +kernel
theorem dX10_motion_265 : decode cX10_motion 265 = .ok (.iconst 1, 1) := by decide +kernel
theorem dX10_motion_266 : decode cX10_motion 266 = .ok (.aaload, 1) := by decide +kernel
theorem dX10_motion_267 : decode cX10_motion 267 = .ok (.iload_n 1, 1) := by decide +kernel
theorem dX10_motion_268 : decode cX10_motion 268 = .ok (.iload_n 2, 1) := by decide +kernel
theorem dX10_motion_269 : decode cX10_motion 269 = .ok (.iastore, 1) := by decide +kernel
theorem dX10_motion_270 : decode cX10_motion 270 = .ok (.return_, 1) := by decide +kernel
theorem dX10_clause_0 : decode cX10_clause 0 = .ok (.aload_n 0, 1) := by decide +kernel
theorem dX10_clause_1 : decode cX10_clause 1 = .ok (.invokevirtual 217, 3) := by decide +kernel
theorem dX10_clause_4 : decode cX10_clause 4 = .ok (.aload_n 0, 1) := by decide +kernel
theorem dX10_clause_5 : decode cX10_clause 5 = .ok (.getfield 153, 3) := by decide +kernel
theorem dX10_clause_8 : decode cX10_clause 8 = .ok (.ifCond .le 4, 3) := by decide +kernel
theorem dX10_clause_11 : decode cX10_clause 11 = .ok (.return_, 1) := by decide +kernel
theorem dX10_clause_12 : decode cX10_clause 12 = .ok (.aload_n 0, 1) := by decide +kernel
theorem dX10_clause_13 : decode cX10_clause 13 = .ok (.ldc 244, 2) := by decide +kernel
theorem dX10_clause_15 : decode cX10_clause 15 = .ok (.invokevirtual 220, 3) := by decide +kernel
theorem dX10_clause_18 : decode cX10_clause 18 = .ok (.ifCond .eq 8, 3) := by decide +kernel
theorem dX10_clause_21 : decode cX10_clause 21 = .ok (.aload_n 0, 1) := by decide +kernel
theorem dX10_clause_22 : decode cX10_clause 22 = .ok (.invokevirtual 246, 3) := by decide +kernel
theorem dX10_clause_25 : decode cX10_clause 25 = .ok (.return_, 1) := by decide +kernel
theorem dX10_clause_26 : decode cX10_clause 26 = .ok (.iconst 0, 1) := by decide +kernel
theorem dX10_clause_27 : decode cX10_clause 27 = .ok (.istore_n 1, 1) := by decide +kernel
theorem dX10_clause_28 : decode cX10_clause 28 = .ok (.iload_n 1, 1) := by decide +kernel
theorem dX10_clause_29 : decode cX10_clause 29 = .ok (.iconst 4, 1) := by decide +kernel
theorem dX10_clause_30 : decode cX10_clause 30 = .ok (.if_icmp .ge 21, 3) := by decide +kernel
theorem dX10_clause_33 : decode cX10_clause 33 = .ok (.aload_n 0, 1) := by decide +kernel
theorem dX10_clause_34 : decode cX10_clause 34 = .ok (.aload_n 0, 1) := by decide +kernel
theorem dX10_clause_35 : decode cX10_clause 35 = .ok (.iload_n 1, 1) := by decide +kernel
theorem dX10_clause_36 : decode cX10_clause 36 = .ok (.invokevirtual 248, 3) := by decide +kernel
theorem dX10_clause_39 : decode cX10_clause 39 = .ok (.invokevirtual 220, 3) := by decide +kernel
theorem dX10_clause_42 : decode cX10_clause 42 = .ok (.ifCond .ne 9, 3) := by decide +kernel
theorem dX10_clause_45 : decode cX10_clause 45 = .ok (.iinc 1 1, 3) := by decide +kernel
theorem dX10_clause_48 : decode cX10_clause 48 = .ok (.goto (-20), 3) := by decide +kernel
theorem dX10_clause_51 : decode cX10_clause 51 = .ok (.iload_n 1, 1) := by decide +kernel
theorem dX10_clause_52 : decode cX10_clause 52 = .ok (.iconst 4, 1) := by decide +kernel
theorem dX10_clause_53 : decode cX10_clause 53 = .ok (.if_icmp .ne 13, 3) := by decide +kernel
theorem dX10_clause_56 : decode cX10_clause 56 = .ok (.aload_n 0, 1) := by decide +kernel
theorem dX10_clause_57 : decode cX10_clause 57 = .ok (.iconst 1, 1) := by decide +kernel
theorem dX10_clause_58 : decode cX10_clause 58 = .ok (.aload_n 0, 1) := by decide +kernel
theorem dX10_clause_59 : decode cX10_clause 59 = .ok (.getfield 159, 3) := by decide +kernel
theorem dX10_clause_62 : decode cX10_clause 62 = .ok (.invokevirtual 169, 3) := by decide +kernel
theorem dX10_clause_65 : decode cX10_clause 65 = .ok (.return_, 1) := by decide +kernel
theorem dX10_clause_66 : decode cX10_clause 66 = .ok (.aload_n 0, 1) := by decide +kernel
theorem dX10_clause_67 : decode cX10_clause 67 = .ok (.getfield 13, 3) := by decide +kernel
theorem dX10_clause_70 : decode cX10_clause 70 = .ok (.iload_n 1, 1) := by decide +kernel
theorem dX10_clause_71 : decode cX10_clause 71 = .ok (.baload, 1) := by decide +kernel
theorem dX10_clause_72 : decode cX10_clause 72 = .ok (.ifCond .eq 13, 3) := by decide +kernel
theorem dX10_clause_75 : decode cX10_clause 75 = .ok (.aload_n 0, 1) := by decide +kernel
theorem dX10_clause_76 : decode cX10_clause 76 = .ok (.iconst 3, 1) := by decide +kernel
theorem dX10_clause_77 : decode cX10_clause 77 = .ok (.aload_n 0, 1) := by decide +kernel
theorem dX10_clause_78 : decode cX10_clause 78 = .ok (.getfield 159, 3) := by decide +kernel
theorem dX10_clause_81 : decode cX10_clause 81 = .ok (.invokevirtual 169, 3) := by decide +kernel
theorem dX10_clause_84 : decode cX10_clause 84 = .ok (.return_, 1) := by decide +kernel
theorem dX10_clause_85 : decode cX10_clause 85 = .ok (.aload_n 0, 1) := by decide +kernel
theorem dX10_clause_86 : decode cX10_clause 86 = .ok (.getfield 13, 3) := by decide +kernel
theorem dX10_clause_89 : decode cX10_clause 89 = .ok (.iload_n 1, 1) := by decide +kernel
theorem dX10_clause_90 : decode cX10_clause 90 = .ok (.iconst 1, 1) := by decide +kernel
theorem dX10_clause_91 : decode cX10_clause 91 = .ok (.bastore, 1) := by decide +kernel
theorem dX10_clause_92 : decode cX10_clause 92 = .ok (.iload_n 1, 1) := by decide +kernel
theorem dX10_clause_93 : decode cX10_clause 93 = .ok (.tableswitch 77 0 2 #[27, 44, 60], 27) := by decide +kernel
theorem dX10_clause_120 : decode cX10_clause 120 = .ok (.aload_n 0, 1) := by decide +kernel
theorem dX10_clause_121 : decode cX10_clause 121 = .ok (.getfield 33, 3) := by decide +kernel
theorem dX10_clause_124 : decode cX10_clause 124 = .ok (.iconst 1, 1) := by decide +kernel
theorem dX10_clause_125 : decode cX10_clause 125 = .ok (.aload_n 0, 1) := by decide +kernel
theorem dX10_clause_126 : decode cX10_clause 126 = .ok (.iconst 1, 1) := by decide +kernel
theorem dX10_clause_127 : decode cX10_clause 127 = .ok (.sipush 9999, 3) := by decide +kernel
theorem dX10_clause_130 : decode cX10_clause 130 = .ok (.invokevirtual 233, 3) := by decide +kernel
theorem dX10_clause_133 : decode cX10_clause 133 = .ok (.iastore, 1) := by decide +kernel
theorem dX10_clause_134 : decode cX10_clause 134 = .ok (.goto 51, 3) := by decide +kernel
theorem dX10_clause_137 : decode cX10_clause 137 = .ok (.aload_n 0, 1) := by decide +kernel
theorem dX10_clause_138 : decode cX10_clause 138 = .ok (.getfield 37, 3) := by decide +kernel
theorem dX10_clause_141 : decode cX10_clause 141 = .ok (.iconst 1, 1) := by decide +kernel
theorem dX10_clause_142 : decode cX10_clause 142 = .ok (.aload_n 0, 1) := by decide +kernel
theorem dX10_clause_143 : decode cX10_clause 143 = .ok (.iconst 0, 1) := by decide +kernel
theorem dX10_clause_144 : decode cX10_clause 144 = .ok (.bipush 24, 2) := by decide +kernel
theorem dX10_clause_146 : decode cX10_clause 146 = .ok (.invokevirtual 233, 3) := by decide +kernel
theorem dX10_clause_149 : decode cX10_clause 149 = .ok (.iastore, 1) := by decide +kernel
theorem dX10_clause_150 : decode cX10_clause 150 = .ok (.goto 35, 3) := by decide +kernel
theorem dX10_clause_153 : decode cX10_clause 153 = .ok (.aload_n 0, 1) := by decide +kernel
theorem dX10_clause_154 : decode cX10_clause 154 = .ok (.getfield 40, 3) := by decide +kernel
theorem dX10_clause_157 : decode cX10_clause 157 = .ok (.iconst 1, 1) := by decide +kernel
theorem dX10_clause_158 : decode cX10_clause 158 = .ok (.aload_n 0, 1) := by decide +kernel
theorem dX10_clause_159 : decode cX10_clause 159 = .ok (.ldc 251, 2) := by decide +kernel
theorem dX10_clause_161 : decode cX10_clause 161 = .ok (.ldc 253, 2) := by decide +kernel
theorem dX10_clause_163 : decode cX10_clause 163 = .ok (.invokevirtual 229, 3) := by decide +kernel
theorem dX10_clause_166 : decode cX10_clause 166 = .ok (.bastore, 1) := by decide +kernel
theorem dX10_clause_167 : decode cX10_clause 167 = .ok (.goto 18, 3) := by decide +kernel
theorem dX10_clause_170 : decode cX10_clause 170 = .ok (.aload_n 0, 1) := by decide +kernel
theorem dX10_clause_171 : decode cX10_clause 171 = .ok (.getfield 43, 3) := by decide +kernel
theorem dX10_clause_174 : decode cX10_clause 174 = .ok (.iconst 1, 1) := by decide +kernel
theorem dX10_clause_175 : decode cX10_clause 175 = .ok (.aload_n 0, 1) := by decide +kernel
theorem dX10_clause_176 : decode cX10_clause 176 = .ok (.ldc 255, 2) := by decide +kernel
theorem dX10_clause_178 : decode cX10_clause 178 = .ok (.ldc_w 257, 3) := by decide +kernel
theorem dX10_clause_181 : decode cX10_clause 181 = .ok (.invokevirtual 229, 3) := by decide +kernel
theorem dX10_clause_184 : decode cX10_clause 184 = .ok (.bastore, 1) := by decide +kernel
theorem dX10_clause_185 : decode cX10_clause 185 = .ok (.return_, 1) := by decide +kernel
theorem dX10_rules_0 : decode cX10_rules 0 = .ok (.aload_n 0, 1) := by decide +kernel
theorem dX10_rules_1 : decode cX10_rules 1 = .ok (.getfield 259, 3) := by decide +kernel
theorem dX10_rules_4 : decode cX10_rules 4 = .ok (.ifCond .le 5, 3) := by decide +kernel
theorem dX10_rules_7 : decode cX10_rules 7 = .ok (.iconst (-1), 1) := by decide +kernel
theorem dX10_rules_8 : decode cX10_rules 8 = .ok (.ireturn, 1) := by decide +kernel
theorem dX10_rules_9 : decode cX10_rules 9 = .ok (.iconst 0, 1) := by decide +kernel
theorem dX10_rules_10 : decode cX10_rules 10 = .ok (.istore_n 1, 1) := by decide +kernel
theorem dX10_rules_11 : decode cX10_rules 11 = .ok (.iload_n 1, 1) := by decide +kernel
theorem dX10_rules_12 : decode cX10_rules 12 = .ok (.bipush 8, 2) := by decide +kernel
theorem dX10_rules_14 : decode cX10_rules 14 = .ok (.if_icmp .ge 36, 3) := by decide +kernel
theorem dX10_rules_17 : decode cX10_rules 17 = .ok (.aload_n 0, 1) := by decide +kernel
theorem dX10_rules_18 : decode cX10_rules 18 = .ok (.getfield 19, 3) := by decide +kernel
theorem dX10_rules_21 : decode cX10_rules 21 = .ok (.iconst 1, 1) := by decide +kernel
theorem dX10_rules_22 : decode cX10_rules 22 = .ok (.aaload, 1) := by decide +kernel
theorem dX10_rules_23 : decode cX10_rules 23 = .ok (.iload_n 1, 1) := by decide +kernel
theorem dX10_rules_24 : decode cX10_rules 24 = .ok (.iconst 0, 1) := by decide +kernel
theorem dX10_rules_25 : decode cX10_rules 25 = .ok (.iastore, 1) := by decide +kernel
theorem dX10_rules_26 : decode cX10_rules 26 = .ok (.aload_n 0, 1) := by decide +kernel
theorem dX10_rules_27 : decode cX10_rules 27 = .ok (.getfield 27, 3) := by decide +kernel
theorem dX10_rules_30 : decode cX10_rules 30 = .ok (.iconst 1, 1) := by decide +kernel
theorem dX10_rules_31 : decode cX10_rules 31 = .ok (.aaload, 1) := by decide +kernel
theorem dX10_rules_32 : decode cX10_rules 32 = .ok (.iload_n 1, 1) := by decide +kernel
theorem dX10_rules_33 : decode cX10_rules 33 = .ok (.iconst 0, 1) := by decide +kernel
theorem dX10_rules_34 : decode cX10_rules 34 = .ok (.bastore, 1) := by decide +kernel
theorem dX10_rules_35 : decode cX10_rules 35 = .ok (.aload_n 0, 1) := by decide +kernel
theorem dX10_rules_36 : decode cX10_rules 36 = .ok (.getfield 30, 3) := by decide +kernel
theorem dX10_rules_39 : decode cX10_rules 39 = .ok (.iconst 1, 1) := by decide +kernel
theorem dX10_rules_40 : decode cX10_rules 40 = .ok (.aaload, 1) := by decide +kernel
theorem dX10_rules_41 : decode cX10_rules 41 = .ok (.iload_n 1, 1) := by decide +kernel
theorem dX10_rules_42 : decode cX10_rules 42 = .ok (.iconst 0, 1) := by decide +kernel
theorem dX10_rules_43 : decode cX10_rules 43 = .ok (.bastore, 1) := by decide +kernel
theorem dX10_rules_44 : decode cX10_rules 44 = .ok (.iinc 1 1, 3) := by decide +kernel
theorem dX10_rules_47 : decode cX10_rules 47 = .ok (.goto (-36), 3) := by decide +kernel
theorem dX10_rules_50 : decode cX10_rules 50 = .ok (.aload_n 0, 1) := by decide +kernel
theorem dX10_rules_51 : decode cX10_rules 51 = .ok (.getfield 33, 3) := by decide +kernel
theorem dX10_rules_54 : decode cX10_rules 54 = .ok (.iconst 1, 1) := by decide +kernel
theorem dX10_rules_55 : decode cX10_rules 55 = .ok (.bipush 60, 2) := by decide +kernel
theorem dX10_rules_57 : decode cX10_rules 57 = .ok (.iastore, 1) := by decide +kernel
theorem dX10_rules_58 : decode cX10_rules 58 = .ok (.aload_n 0, 1) := by decide +kernel
theorem dX10_rules_59 : decode cX10_rules 59 = .ok (.getfield 37, 3) := by decide +kernel
theorem dX10_rules_62 : decode cX10_rules 62 = .ok (.iconst 1, 1) := by decide +kernel
theorem dX10_rules_63 : decode cX10_rules 63 = .ok (.iconst 0, 1) := by decide +kernel
theorem dX10_rules_64 : decode cX10_rules 64 = .ok (.iastore, 1) := by decide +kernel
theorem dX10_rules_65 : decode cX10_rules 65 = .ok (.aload_n 0, 1) := by decide +kernel
theorem dX10_rules_66 : decode cX10_rules 66 = .ok (.getfield 40, 3) := by decide +kernel
theorem dX10_rules_69 : decode cX10_rules 69 = .ok (.iconst 1, 1) := by decide +kernel
theorem dX10_rules_70 : decode cX10_rules 70 = .ok (.iconst 0, 1) := by decide +kernel
theorem dX10_rules_71 : decode cX10_rules 71 = .ok (.bastore, 1) := by decide +kernel
theorem dX10_rules_72 : decode cX10_rules 72 = .ok (.aload_n 0, 1) := by decide +kernel
theorem dX10_rules_73 : decode cX10_rules 73 = .ok (.getfield 43, 3) := by decide +kernel
theorem dX10_rules_76 : decode cX10_rules 76 = .ok (.iconst 1, 1) := by decide +kernel
theorem dX10_rules_77 : decode cX10_rules 77 = .ok (.iconst 1, 1) := by decide +kernel
theorem dX10_rules_78 : decode cX10_rules 78 = .ok (.bastore, 1) := by decide +kernel
theorem dX10_rules_79 : decode cX10_rules 79 = .ok (.iconst 0, 1) := by decide +kernel
theorem dX10_rules_80 : decode cX10_rules 80 = .ok (.istore_n 1, 1) := by decide +kernel
theorem dX10_rules_81 : decode cX10_rules 81 = .ok (.iload_n 1, 1) := by decide +kernel
theorem dX10_rules_82 : decode cX10_rules 82 = .ok (.bipush 12, 2) := by decide +kernel
theorem dX10_rules_84 : decode cX10_rules 84 = .ok (.if_icmp .ge 16, 3) := by decide +kernel
theorem dX10_rules_87 : decode cX10_rules 87 = .ok (.aload_n 0, 1) := by decide +kernel
theorem dX10_rules_88 : decode cX10_rules 88 = .ok (.getfield 13, 3) := by decide +kernel
theorem dX10_rules_91 : decode cX10_rules 91 = .ok (.iload_n 1, 1) := by decide +kernel
theorem dX10_rules_92 : decode cX10_rules 92 = .ok (.iconst 0, 1) := by decide +kernel
theorem dX10_rules_93 : decode cX10_rules 93 = .ok (.bastore, 1) := by decide +kernel
theorem dX10_rules_94 : decode cX10_rules 94 = .ok (.iinc 1 1, 3) := by decide +kernel
theorem dX10_rules_97 : decode cX10_rules 97 = .ok (.goto (-16), 3) := by decide +kernel
theorem dX10_rules_100 : decode cX10_rules 100 = .ok (.aload_n 0, 1) := by decide +kernel
theorem dX10_rules_101 : decode cX10_rules 101 = .ok (.iconst 0, 1) := by decide +kernel
theorem dX10_rules_102 : decode cX10_rules 102 = .ok (.putfield 156, 3) := by decide +kernel
theorem dX10_rules_105 : decode cX10_rules 105 = .ok (.aload_n 0, 1) := by decide +kernel
theorem dX10_rules_106 : decode cX10_rules 106 = .ok (.iconst 0, 1) := by decide +kernel
theorem dX10_rules_107 : decode cX10_rules 107 = .ok (.putfield 153, 3) := by decide +kernel
theorem dX10_rules_110 : decode cX10_rules 110 = .ok (.aload_n 0, 1) := by decide +kernel
theorem dX10_rules_111 : decode cX10_rules 111 = .ok (.getfield 153, 3) := by decide +kernel
theorem dX10_rules_114 : decode cX10_rules 114 = .ok (.ifCond .ne 64, 3) := by decide +kernel
theorem dX10_rules_117 : decode cX10_rules 117 = .ok (.aload_n 0, 1) := by decide +kernel
theorem dX10_rules_118 : decode cX10_rules 118 = .ok (.invokevirtual 162, 3) := by decide +kernel
theorem dX10_rules_121 : decode cX10_rules 121 = .ok (.ifCond .ne 57, 3) := by decide +kernel
theorem dX10_rules_124 : decode cX10_rules 124 = .ok (.aload_n 0, 1) := by decide +kernel
theorem dX10_rules_125 : decode cX10_rules 125 = .ok (.invokevirtual 262, 3) := by decide +kernel
theorem dX10_rules_128 : decode cX10_rules 128 = .ok (.aload_n 0, 1) := by decide +kernel
theorem dX10_rules_129 : decode cX10_rules 129 = .ok (.getfield 153, 3) := by decide +kernel
theorem dX10_rules_132 : decode cX10_rules 132 = .ok (.ifCond .ne (-22), 3) := by decide +kernel
theorem dX10_rules_135 : decode cX10_rules 135 = .ok (.aload_n 0, 1) := by decide +kernel
theorem dX10_rules_136 : decode cX10_rules 136 = .ok (.invokevirtual 162, 3) := by decide +kernel
theorem dX10_rules_139 : decode cX10_rules 139 = .ok (.ifCond .ne 17, 3) := by decide +kernel
theorem dX10_rules_142 : decode cX10_rules 142 = .ok (.aload_n 0, 1) := by decide +kernel
theorem dX10_rules_143 : decode cX10_rules 143 = .ok (.getfield 7, 3) := by decide +kernel
theorem dX10_rules_146 : decode cX10_rules 146 = .ok (.aload_n 0, 1) := by decide +kernel
theorem dX10_rules_147 : decode cX10_rules 147 = .ok (.getfield 156, 3) := by decide +kernel
theorem dX10_rules_150 : decode cX10_rules 150 = .ok (.baload, 1) := by decide +kernel
theorem dX10_rules_151 : decode cX10_rules 151 = .ok (.bipush 59, 2) := by decide +kernel
theorem dX10_rules_153 : decode cX10_rules 153 = .ok (.if_icmp .eq 12, 3) := by decide +kernel
theorem dX10_rules_156 : decode cX10_rules 156 = .ok (.aload_n 0, 1) := by decide +kernel
theorem dX10_rules_157 : decode cX10_rules 157 = .ok (.iconst 1, 1) := by decide +kernel
theorem dX10_rules_158 : decode cX10_rules 158 = .ok (.aload_n 0, 1) := by decide +kernel
theorem dX10_rules_159 : decode cX10_rules 159 = .ok (.getfield 156, 3) := by decide +kernel
theorem dX10_rules_162 : decode cX10_rules 162 = .ok (.invokevirtual 169, 3) := by decide +kernel
theorem dX10_rules_165 : decode cX10_rules 165 = .ok (.aload_n 0, 1) := by decide +kernel
theorem dX10_rules_166 : decode cX10_rules 166 = .ok (.dup, 1) := by decide +kernel
theorem dX10_rules_167 : decode cX10_rules 167 = .ok (.getfield 156, 3) := by decide +kernel
theorem dX10_rules_170 : decode cX10_rules 170 = .ok (.iconst 1, 1) := by decide +kernel
theorem dX10_rules_171 : decode cX10_rules 171 = .ok (.iadd, 1) := by decide +kernel
theorem dX10_rules_172 : decode cX10_rules 172 = .ok (.putfield 156, 3) := by decide +kernel
theorem dX10_rules_175 : decode cX10_rules 175 = .ok (.goto (-65), 3) := by decide +kernel
theorem dX10_rules_178 : decode cX10_rules 178 = .ok (.aload_n 0, 1) := by decide +kernel
theorem dX10_rules_179 : decode cX10_rules 179 = .ok (.iconst 0, 1) := by decide +kernel
theorem dX10_rules_180 : decode cX10_rules 180 = .ok (.putfield 146, 3) := by decide +kernel
theorem dX10_rules_183 : decode cX10_rules 183 = .ok (.aload_n 0, 1) := by decide +kernel
theorem dX10_rules_184 : decode cX10_rules 184 = .ok (.getfield 153, 3) := by decide +kernel
theorem dX10_rules_187 : decode cX10_rules 187 = .ok (.ifCond .le 8, 3) := by decide +kernel
theorem dX10_rules_190 : decode cX10_rules 190 = .ok (.aload_n 0, 1) := by decide +kernel
theorem dX10_rules_191 : decode cX10_rules 191 = .ok (.getfield 153, 3) := by decide +kernel
theorem dX10_rules_194 : decode cX10_rules 194 = .ok (.ireturn, 1) := by decide +kernel
theorem dX10_rules_195 : decode cX10_rules 195 = .ok (.iconst 0, 1) := by decide +kernel
theorem dX10_rules_196 : decode cX10_rules 196 = .ok (.istore_n 1, 1) := by decide +kernel
theorem dX10_rules_197 : decode cX10_rules 197 = .ok (.iload_n 1, 1) := by decide +kernel
theorem dX10_rules_198 : decode cX10_rules 198 = .ok (.bipush 8, 2) := by decide +kernel
theorem dX10_rules_200 : decode cX10_rules 200 = .ok (.if_icmp .ge 73, 3) := by decide +kernel
theorem dX10_rules_203 : decode cX10_rules 203 = .ok (.aload_n 0, 1) := by decide +kernel
theorem dX10_rules_204 : decode cX10_rules 204 = .ok (.getfield 19, 3) := by decide +kernel
theorem dX10_rules_207 : decode cX10_rules 207 = .ok (.iconst 0, 1) := by decide +kernel
theorem dX10_rules_208 : decode cX10_rules 208 = .ok (.aaload, 1) := by decide +kernel
theorem dX10_rules_209 : decode cX10_rules 209 = .ok (.iload_n 1, 1) := by decide +kernel
theorem dX10_rules_210 : decode cX10_rules 210 = .ok (.aload_n 0, 1) := by decide +kernel
theorem dX10_rules_211 : decode cX10_rules 211 = .ok (.getfield 19, 3) := by decide +kernel
theorem dX10_rules_214 : decode cX10_rules 214 = .ok (.iconst 1, 1) := by decide +kernel
theorem dX10_rules_215 : decode cX10_rules 215 = .ok (.aaload, 1) := by decide +kernel
theorem dX10_rules_216 : decode cX10_rules 216 = .ok (.iload_n 1, 1) := by decide +kernel
theorem dX10_rules_217 : decode cX10_rules 217 = .ok (.iaload, 1) := by decide +kernel
theorem dX10_rules_218 : decode cX10_rules 218 = .ok (.iastore, 1) := by decide +kernel
theorem dX10_rules_219 : decode cX10_rules 219 = .ok (.aload_n 0, 1) := by decide +kernel
theorem dX10_rules_220 : decode cX10_rules 220 = .ok (.getfield 22, 3) := by decide +kernel
theorem dX10_rules_223 : decode cX10_rules 223 = .ok (.iconst 0, 1) := by decide +kernel
theorem dX10_rules_224 : decode cX10_rules 224 = .ok (.aaload, 1) := by decide +kernel
theorem dX10_rules_225 : decode cX10_rules 225 = .ok (.iload_n 1, 1) := by decide +kernel
theorem dX10_rules_226 : decode cX10_rules 226 = .ok (.aload_n 0, 1) := by decide +kernel
theorem dX10_rules_227 : decode cX10_rules 227 = .ok (.getfield 22, 3) := by decide +kernel
theorem dX10_rules_230 : decode cX10_rules 230 = .ok (.iconst 1, 1) := by decide +kernel
theorem dX10_rules_231 : decode cX10_rules 231 = .ok (.aaload, 1) := by decide +kernel
theorem dX10_rules_232 : decode cX10_rules 232 = .ok (.iload_n 1, 1) := by decide +kernel
theorem dX10_rules_233 : decode cX10_rules 233 = .ok (.iaload, 1) := by decide +kernel
theorem dX10_rules_234 : decode cX10_rules 234 = .ok (.iastore, 1) := by decide +kernel
theorem dX10_rules_235 : decode cX10_rules 235 = .ok (.aload_n 0, 1) := by decide +kernel
theorem dX10_rules_236 : decode cX10_rules 236 = .ok (.getfield 27, 3) := by decide +kernel
theorem dX10_rules_239 : decode cX10_rules 239 = .ok (.iconst 0, 1) := by decide +kernel
theorem dX10_rules_240 : decode cX10_rules 240 = .ok (.aaload, 1) := by decide +kernel
theorem dX10_rules_241 : decode cX10_rules 241 = .ok (.iload_n 1, 1) := by decide +kernel
theorem dX10_rules_242 : decode cX10_rules 242 = .ok (.aload_n 0, 1) := by decide +kernel
theorem dX10_rules_243 : decode cX10_rules 243 = .ok (.getfield 27, 3) := by decide +kernel
theorem dX10_rules_246 : decode cX10_rules 246 = .ok (.iconst 1, 1) := by decide +kernel
theorem dX10_rules_247 : decode cX10_rules 247 = .ok (.aaload, 1) := by decide +kernel
theorem dX10_rules_248 : decode cX10_rules 248 = .ok (.iload_n 1, 1) := by decide +kernel
theorem dX10_rules_249 : decode cX10_rules 249 = .ok (.baload, 1) := by decide +kernel
theorem dX10_rules_250 : decode cX10_rules 250 = .ok (.bastore, 1) := by decide +kernel
theorem dX10_rules_251 : decode cX10_rules 251 = .ok (.aload_n 0, 1) := by decide +kernel
theorem dX10_rules_252 : decode cX10_rules 252 = .ok (.getfield 30, 3) := by decide +kernel
theorem dX10_rules_255 : decode cX10_rules 255 = .ok (.iconst 0, 1) := by decide +kernel
theorem dX10_rules_256 : decode cX10_rules 256 = .ok (.aaload, 1) := by decide +kernel
theorem dX10_rules_257 : decode cX10_rules 257 = .ok (.iload_n 1, 1) := by decide +kernel
theorem dX10_rules_258 : decode cX10_rules 258 = .ok (.aload_n 0, 1) := by decide +kernel
theorem dX10_rules_259 : decode cX10_rules 259 = .ok (.getfield 30, 3) := by decide +kernel
theorem dX10_rules_262 : decode cX10_rules 262 = .ok (.iconst 1, 1) := by decide +kernel
theorem dX10_rules_263 : decode cX10_rules 263 = .ok (.aaload, 1) := by decide +kernel
theorem dX10_rules_264 : decode cX10_rules 264 = .ok (.iload_n 1, 1) := by decide +kernel
theorem dX10_rules_265 : decode cX10_rules 265 = .ok (.baload, 1) := by decide +kernel
theorem dX10_rules_266 : decode cX10_rules 266 = .ok (.bastore, 1) := by decide +kernel
theorem dX10_rules_267 : decode cX10_rules 267 = .ok (.iinc 1 1, 3) := by decide +kernel
theorem dX10_rules_270 : decode cX10_rules 270 = .ok (.goto (-73), 3) := by decide +kernel
theorem dX10_rules_273 : decode cX10_rules 273 = .ok (.aload_n 0, 1) := by decide +kernel
theorem dX10_rules_274 : decode cX10_rules 274 = .ok (.getfield 33, 3) := by decide +kernel
theorem dX10_rules_277 : decode cX10_rules 277 = .ok (.iconst 0, 1) := by decide +kernel
theorem dX10_rules_278 : decode cX10_rules 278 = .ok (.aload_n 0, 1) := by decide +kernel
theorem dX10_rules_279 : decode cX10_rules 279 = .ok (.getfield 33, 3) := by decide +kernel
theorem dX10_rules_282 : decode cX10_rules 282 = .ok (.iconst 1, 1) := by decide +kernel
theorem dX10_rules_283 : decode cX10_rules 283 = .ok (.iaload, 1) := by decide +kernel
theorem dX10_rules_284 : decode cX10_rules 284 = .ok (.iastore, 1) := by decide +kernel
theorem dX10_rules_285 : decode cX10_rules 285 = .ok (.aload_n 0, 1) := by decide +kernel
theorem dX10_rules_286 : decode cX10_rules 286 = .ok (.getfield 37, 3) := by decide +kernel
theorem dX10_rules_289 : decode cX10_rules 289 = .ok (.iconst 0, 1) := by decide +kernel
theorem dX10_rules_290 : decode cX10_rules 290 = .ok (.aload_n 0, 1) := by decide +kernel
theorem dX10_rules_291 : decode cX10_rules 291 = .ok (.getfield 37, 3) := by decide +kernel
theorem dX10_rules_294 : decode cX10_rules 294 = .ok (.iconst 1, 1) := by decide +kernel
theorem dX10_rules_295 : decode cX10_rules 295 = .ok (.iaload, 1) := by decide +kernel
theorem dX10_rules_296 : decode cX10_rules 296 = .ok (.iastore, 1) := by decide +kernel
theorem dX10_rules_297 : decode cX10_rules 297 = .ok (.aload_n 0, 1) := by decide +kernel
theorem dX10_rules_298 : decode cX10_rules 298 = .ok (.getfield 40, 3) := by decide +kernel
theorem dX10_rules_301 : decode cX10_rules 301 = .ok (.iconst 0, 1) := by decide +kernel
theorem dX10_rules_302 : decode cX10_rules 302 = .ok (.aload_n 0, 1) := by decide +kernel
theorem dX10_rules_303 : decode cX10_rules 303 = .ok (.getfield 40, 3) := by decide +kernel
theorem dX10_rules_306 : decode cX10_rules 306 = .ok (.iconst 1, 1) := by decide +kernel
theorem dX10_rules_307 : decode cX10_rules 307 = .ok (.baload, 1) := by decide +kernel
theorem dX10_rules_308 : decode cX10_rules 308 = .ok (.bastore, 1) := by decide +kernel
theorem dX10_rules_309 : decode cX10_rules 309 = .ok (.aload_n 0, 1) := by decide +kernel
theorem dX10_rules_310 : decode cX10_rules 310 = .ok (.getfield 43, 3) := by decide +kernel
theorem dX10_rules_313 : decode cX10_rules 313 = .ok (.iconst 0, 1) := by decide +kernel
theorem dX10_rules_314 : decode cX10_rules 314 = .ok (.aload_n 0, 1) := by decide +kernel
theorem dX10_rules_315 : decode cX10_rules 315 = .ok (.getfield 43, 3) := by decide +kernel
theorem dX10_rules_318 : decode cX10_rules 318 = .ok (.iconst 1, 1) := by decide +kernel
theorem dX10_rules_319 : decode cX10_rules 319 = .ok (.baload, 1) := by decide +kernel
theorem dX10_rules_320 : decode cX10_rules 320 = .ok (.bastore, 1) := by decide +kernel
theorem dX10_rules_321 : decode cX10_rules 321 = .ok (.aload_n 0, 1) := by decide +kernel
theorem dX10_rules_322 : decode cX10_rules 322 = .ok (.invokevirtual 140, 3) := by decide +kernel
theorem dX10_rules_325 : decode cX10_rules 325 = .ok (.iconst 0, 1) := by decide +kernel
theorem dX10_rules_326 : decode cX10_rules 326 = .ok (.ireturn, 1) := by decide +kernel
theorem dX10_school_0 : decode cX10_school 0 = .ok (.iload_n 1, 1) := by decide +kernel
theorem dX10_school_1 : decode cX10_school 1 = .ok (.iconst 0, 1) := by decide +kernel
theorem dX10_school_2 : decode cX10_school 2 = .ok (.bipush 23, 2) := by decide +kernel
theorem dX10_school_4 : decode cX10_school 4 = .ok (.invokestatic 184, 3) := by decide +kernel
theorem dX10_school_7 : decode cX10_school 7 = .ok (.ifCond .eq 20, 3) := by decide +kernel
theorem dX10_school_10 : decode cX10_school 10 = .ok (.iload_n 2, 1) := by decide +kernel
theorem dX10_school_11 : decode cX10_school 11 = .ok (.iconst 0, 1) := by decide +kernel
theorem dX10_school_12 : decode cX10_school 12 = .ok (.bipush 7, 2) := by decide +kernel
theorem dX10_school_14 : decode cX10_school 14 = .ok (.invokestatic 184, 3) := by decide +kernel
theorem dX10_school_17 : decode cX10_school 17 = .ok (.ifCond .eq 10, 3) := by decide +kernel
theorem dX10_school_20 : decode cX10_school 20 = .ok (.aload_n 0, 1) := by decide +kernel
theorem dX10_school_21 : decode cX10_school 21 = .ok (.getfield 259, 3) := by decide +kernel
theorem dX10_school_24 : decode cX10_school 24 = .ok (.ifCond .le 5, 3) := by decide +kernel
theorem dX10_school_27 : decode cX10_school 27 = .ok (.iconst 0, 1) := by decide +kernel
theorem dX10_school_28 : decode cX10_school 28 = .ok (.ireturn, 1) := by decide +kernel
theorem dX10_school_29 : decode cX10_school 29 = .ok (.aload_n 0, 1) := by decide +kernel
theorem dX10_school_30 : decode cX10_school 30 = .ok (.getfield 46, 3) := by decide +kernel
theorem dX10_school_33 : decode cX10_school 33 = .ok (.iload_n 1, 1) := by decide +kernel
theorem dX10_school_34 : decode cX10_school 34 = .ok (.iload_n 2, 1) := by decide +kernel
theorem dX10_school_35 : decode cX10_school 35 = .ok (.iastore, 1) := by decide +kernel
theorem dX10_school_36 : decode cX10_school 36 = .ok (.iconst 1, 1) := by decide +kernel
theorem dX10_school_37 : decode cX10_school 37 = .ok (.ireturn, 1) := by decide +kernel
theorem dX10_begin_0 : decode cX10_begin 0 = .ok (.iconst 0, 1) := by decide +kernel
theorem dX10_begin_1 : decode cX10_begin 1 = .ok (.istore_n 1, 1) := by decide +kernel
theorem dX10_begin_2 : decode cX10_begin 2 = .ok (.iload_n 1, 1) := by decide +kernel
theorem dX10_begin_3 : decode cX10_begin 3 = .ok (.bipush 24, 2) := by decide +kernel
theorem dX10_begin_5 : decode cX10_begin 5 = .ok (.if_icmp .ge 23, 3) := by decide +kernel
theorem dX10_begin_8 : decode cX10_begin 8 = .ok (.aload_n 0, 1) := by decide +kernel
theorem dX10_begin_9 : decode cX10_begin 9 = .ok (.getfield 77, 3) := by decide +kernel
theorem dX10_begin_12 : decode cX10_begin 12 = .ok (.iload_n 1, 1) := by decide +kernel
theorem dX10_begin_13 : decode cX10_begin 13 = .ok (.iconst 0, 1) := by decide +kernel
theorem dX10_begin_14 : decode cX10_begin 14 = .ok (.bastore, 1) := by decide +kernel
theorem dX10_begin_15 : decode cX10_begin 15 = .ok (.aload_n 0, 1) := by decide +kernel
theorem dX10_begin_16 : decode cX10_begin 16 = .ok (.getfield 83, 3) := by decide +kernel
theorem dX10_begin_19 : decode cX10_begin 19 = .ok (.iload_n 1, 1) := by decide +kernel
theorem dX10_begin_20 : decode cX10_begin 20 = .ok (.iconst 0, 1) := by decide +kernel
theorem dX10_begin_21 : decode cX10_begin 21 = .ok (.iastore, 1) := by decide +kernel
theorem dX10_begin_22 : decode cX10_begin 22 = .ok (.iinc 1 1, 3) := by decide +kernel
theorem dX10_begin_25 : decode cX10_begin 25 = .ok (.goto (-23), 3) := by decide +kernel
theorem dX10_begin_28 : decode cX10_begin 28 = .ok (.iconst 0, 1) := by decide +kernel
theorem dX10_begin_29 : decode cX10_begin 29 = .ok (.istore_n 1, 1) := by decide +kernel
theorem dX10_begin_30 : decode cX10_begin 30 = .ok (.iload_n 1, 1) := by decide +kernel
theorem dX10_begin_31 : decode cX10_begin 31 = .ok (.sipush 300, 3) := by decide +kernel
theorem dX10_begin_34 : decode cX10_begin 34 = .ok (.if_icmp .ge 28, 3) := by decide +kernel
theorem dX10_begin_37 : decode cX10_begin 37 = .ok (.aload_n 0, 1) := by decide +kernel
theorem dX10_begin_38 : decode cX10_begin 38 = .ok (.getfield 107, 3) := by decide +kernel
theorem dX10_begin_41 : decode cX10_begin 41 = .ok (.iload_n 1, 1) := by decide +kernel
theorem dX10_begin_42 : decode cX10_begin 42 = .ok (.iconst 0, 1) := by decide +kernel
theorem dX10_begin_43 : decode cX10_begin 43 = .ok (.bastore, 1) := by decide +kernel
theorem dX10_begin_44 : decode cX10_begin 44 = .ok (.aload_n 0, 1) := by decide +kernel
theorem dX10_begin_45 : decode cX10_begin 45 = .ok (.getfield 70, 3) := by decide +kernel
theorem dX10_begin_48 : decode cX10_begin 48 = .ok (.aload_n 0, 1) := by decide +kernel
theorem dX10_begin_49 : decode cX10_begin 49 = .ok (.getfield 265, 3) := by decide +kernel
theorem dX10_begin_52 : decode cX10_begin 52 = .ok (.aaload, 1) := by decide +kernel
theorem dX10_begin_53 : decode cX10_begin 53 = .ok (.iload_n 1, 1) := by decide +kernel
theorem dX10_begin_54 : decode cX10_begin 54 = .ok (.iconst 0, 1) := by decide +kernel
theorem dX10_begin_55 : decode cX10_begin 55 = .ok (.bastore, 1) := by decide +kernel
theorem dX10_begin_56 : decode cX10_begin 56 = .ok (.iinc 1 1, 3) := by decide +kernel
theorem dX10_begin_59 : decode cX10_begin 59 = .ok (.goto (-29), 3) := by decide +kernel
theorem dX10_begin_62 : decode cX10_begin 62 = .ok (.aload_n 0, 1) := by decide +kernel
theorem dX10_begin_63 : decode cX10_begin 63 = .ok (.iconst 0, 1) := by decide +kernel
theorem dX10_begin_64 : decode cX10_begin 64 = .ok (.putfield 268, 3) := by decide +kernel
theorem dX10_begin_67 : decode cX10_begin 67 = .ok (.aload_n 0, 1) := by decide +kernel
theorem dX10_begin_68 : decode cX10_begin 68 = .ok (.iconst (-1), 1) := by decide +kernel
theorem dX10_begin_69 : decode cX10_begin 69 = .ok (.putfield 271, 3) := by decide +kernel
theorem dX10_begin_72 : decode cX10_begin 72 = .ok (.aload_n 0, 1) := by decide +kernel
theorem dX10_begin_73 : decode cX10_begin 73 = .ok (.iconst 0, 1) := by decide +kernel
theorem dX10_begin_74 : decode cX10_begin 74 = .ok (.putfield 274, 3) := by decide +kernel
theorem dX10_begin_77 : decode cX10_begin 77 = .ok (.aload_n 0, 1) := by decide +kernel
theorem dX10_begin_78 : decode cX10_begin 78 = .ok (.aload_n 0, 1) := by decide +kernel
theorem dX10_begin_79 : decode cX10_begin 79 = .ok (.getfield 33, 3) := by decide +kernel
theorem dX10_begin_82 : decode cX10_begin 82 = .ok (.iconst 0, 1) := by decide +kernel
theorem dX10_begin_83 : decode cX10_begin 83 = .ok (.iaload, 1) := by decide +kernel
theorem dX10_begin_84 : decode cX10_begin 84 = .ok (.putfield 277, 3) := by decide +kernel
theorem dX10_begin_87 : decode cX10_begin 87 = .ok (.aload_n 0, 1) := by decide +kernel
theorem dX10_begin_88 : decode cX10_begin 88 = .ok (.iconst 0, 1) := by decide +kernel
theorem dX10_begin_89 : decode cX10_begin 89 = .ok (.putfield 280, 3) := by decide +kernel
theorem dX10_begin_92 : decode cX10_begin 92 = .ok (.aload_n 0, 1) := by decide +kernel
theorem dX10_begin_93 : decode cX10_begin 93 = .ok (.iconst 0, 1) := by decide +kernel
theorem dX10_begin_94 : decode cX10_begin 94 = .ok (.putfield 283, 3) := by decide +kernel
theorem dX10_begin_97 : decode cX10_begin 97 = .ok (.aload_n 0, 1) := by decide +kernel
theorem dX10_begin_98 : decode cX10_begin 98 = .ok (.iconst 0, 1) := by decide +kernel
theorem dX10_begin_99 : decode cX10_begin 99 = .ok (.putfield 286, 3) := by decide +kernel
theorem dX10_begin_102 : decode cX10_begin 102 = .ok (.aload_n 0, 1) := by decide +kernel
theorem dX10_begin_103 : decode cX10_begin 103 = .ok (.iconst 0, 1) := by decide +kernel
theorem dX10_begin_104 : decode cX10_begin 104 = .ok (.putfield 290, 3) := by decide +kernel
theorem dX10_begin_107 : decode cX10_begin 107 = .ok (.aload_n 0, 1) := by decide +kernel
theorem dX10_begin_108 : decode cX10_begin 108 = .ok (.iconst 0, 1) := by decide +kernel
theorem dX10_begin_109 : decode cX10_begin 109 = .ok (.putfield 293, 3) := by decide +kernel
theorem dX10_begin_112 : decode cX10_begin 112 = .ok (.aload_n 0, 1) := by decide +kernel
theorem dX10_begin_113 : decode cX10_begin 113 = .ok (.iconst 0, 1) := by decide +kernel
theorem dX10_begin_114 : decode cX10_begin 114 = .ok (.putfield 296, 3) := by decide +kernel
theorem dX10_begin_117 : decode cX10_begin 117 = .ok (.aload_n 0, 1) := by decide +kernel
theorem dX10_begin_118 : decode cX10_begin 118 = .ok (.iconst 0, 1) := by decide +kernel
theorem dX10_begin_119 : decode cX10_begin 119 = .ok (.putfield 299, 3) := by decide +kernel
theorem dX10_begin_122 : decode cX10_begin 122 = .ok (.aload_n 0, 1) := by decide +kernel
theorem dX10_begin_123 : decode cX10_begin 123 = .ok (.iconst 0, 1) := by decide +kernel
theorem dX10_begin_124 : decode cX10_begin 124 = .ok (.putfield 302, 3) := by decide +kernel
theorem dX10_begin_127 : decode cX10_begin 127 = .ok (.return_, 1) := by decide +kernel
theorem dX10_there_0 : decode cX10_there 0 = .ok (.iconst 0, 1) := by decide +kernel
theorem dX10_there_1 : decode cX10_there 1 = .ok (.istore_n 1, 1) := by decide +kernel
theorem dX10_there_2 : decode cX10_there 2 = .ok (.iconst 0, 1) := by decide +kernel
theorem dX10_there_3 : decode cX10_there 3 = .ok (.istore_n 2, 1) := by decide +kernel
theorem dX10_there_4 : decode cX10_there 4 = .ok (.iload_n 2, 1) := by decide +kernel
theorem dX10_there_5 : decode cX10_there 5 = .ok (.bipush 24, 2) := by decide +kernel
theorem dX10_there_7 : decode cX10_there 7 = .ok (.if_icmp .ge 26, 3) := by decide +kernel
theorem dX10_there_10 : decode cX10_there 10 = .ok (.iload_n 1, 1) := by decide +kernel
theorem dX10_there_11 : decode cX10_there 11 = .ok (.aload_n 0, 1) := by decide +kernel
theorem dX10_there_12 : decode cX10_there 12 = .ok (.getfield 77, 3) := by decide +kernel
theorem dX10_there_15 : decode cX10_there 15 = .ok (.iload_n 2, 1) := by decide +kernel
theorem dX10_there_16 : decode cX10_there 16 = .ok (.baload, 1) := by decide +kernel
theorem dX10_there_17 : decode cX10_there 17 = .ok (.ifCond .eq 7, 3) := by decide +kernel
theorem dX10_there_20 : decode cX10_there 20 = .ok (.iconst 1, 1) := by decide +kernel
theorem dX10_there_21 : decode cX10_there 21 = .ok (.goto 4, 3) := by decide +kernel
theorem dX10_there_24 : decode cX10_there 24 = .ok (.iconst 0, 1) := by decide +kernel
theorem dX10_there_25 : decode cX10_there 25 = .ok (.iadd, 1) := by decide +kernel
theorem dX10_there_26 : decode cX10_there 26 = .ok (.istore_n 1, 1) := by decide +kernel
theorem dX10_there_27 : decode cX10_there 27 = .ok (.iinc 2 1, 3) := by decide +kernel
theorem dX10_there_30 : decode cX10_there 30 = .ok (.goto (-26), 3) := by decide +kernel
theorem dX10_there_33 : decode cX10_there 33 = .ok (.iload_n 1, 1) := by decide +kernel
theorem dX10_there_34 : decode cX10_there 34 = .ok (.ireturn, 1) := by decide +kernel
theorem dX10_waitsFor_0 : decode cX10_waitsFor 0 = .ok (.iconst 0, 1) := by decide +kernel
theorem dX10_waitsFor_1 : decode cX10_waitsFor 1 = .ok (.istore_n 2, 1) := by decide +kernel
theorem dX10_waitsFor_2 : decode cX10_waitsFor 2 = .ok (.iload_n 2, 1) := by decide +kernel
theorem dX10_waitsFor_3 : decode cX10_waitsFor 3 = .ok (.aload_n 0, 1) := by decide +kernel
theorem dX10_waitsFor_4 : decode cX10_waitsFor 4 = .ok (.getfield 268, 3) := by decide +kernel
theorem dX10_waitsFor_7 : decode cX10_waitsFor 7 = .ok (.if_icmp .ge 21, 3) := by decide +kernel
theorem dX10_waitsFor_10 : decode cX10_waitsFor 10 = .ok (.aload_n 0, 1) := by decide +kernel
theorem dX10_waitsFor_11 : decode cX10_waitsFor 11 = .ok (.getfield 80, 3) := by decide +kernel
theorem dX10_waitsFor_14 : decode cX10_waitsFor 14 = .ok (.iload_n 2, 1) := by decide +kernel
theorem dX10_waitsFor_15 : decode cX10_waitsFor 15 = .ok (.iaload, 1) := by decide +kernel
theorem dX10_waitsFor_16 : decode cX10_waitsFor 16 = .ok (.iload_n 1, 1) := by decide +kernel
theorem dX10_waitsFor_17 : decode cX10_waitsFor 17 = .ok (.if_icmp .ne 5, 3) := by decide +kernel
theorem dX10_waitsFor_20 : decode cX10_waitsFor 20 = .ok (.iconst 1, 1) := by decide +kernel
theorem dX10_waitsFor_21 : decode cX10_waitsFor 21 = .ok (.ireturn, 1) := by decide +kernel
theorem dX10_waitsFor_22 : decode cX10_waitsFor 22 = .ok (.iinc 2 1, 3) := by decide +kernel
theorem dX10_waitsFor_25 : decode cX10_waitsFor 25 = .ok (.goto (-23), 3) := by decide +kernel
theorem dX10_waitsFor_28 : decode cX10_waitsFor 28 = .ok (.iconst 0, 1) := by decide +kernel
theorem dX10_waitsFor_29 : decode cX10_waitsFor 29 = .ok (.ireturn, 1) := by decide +kernel
theorem dX10_leaves_0 : decode cX10_leaves 0 = .ok (.iconst 0, 1) := by decide +kernel
theorem dX10_leaves_1 : decode cX10_leaves 1 = .ok (.istore_n 2, 1) := by decide +kernel
theorem dX10_leaves_2 : decode cX10_leaves 2 = .ok (.iconst 0, 1) := by decide +kernel
theorem dX10_leaves_3 : decode cX10_leaves 3 = .ok (.istore_n 3, 1) := by decide +kernel
theorem dX10_leaves_4 : decode cX10_leaves 4 = .ok (.iload_n 3, 1) := by decide +kernel
theorem dX10_leaves_5 : decode cX10_leaves 5 = .ok (.aload_n 0, 1) := by decide +kernel
theorem dX10_leaves_6 : decode cX10_leaves 6 = .ok (.getfield 268, 3) := by decide +kernel
theorem dX10_leaves_9 : decode cX10_leaves 9 = .ok (.if_icmp .ge 34, 3) := by decide +kernel
theorem dX10_leaves_12 : decode cX10_leaves 12 = .ok (.aload_n 0, 1) := by decide +kernel
theorem dX10_leaves_13 : decode cX10_leaves 13 = .ok (.getfield 80, 3) := by decide +kernel
theorem dX10_leaves_16 : decode cX10_leaves 16 = .ok (.iload_n 3, 1) := by decide +kernel
theorem dX10_leaves_17 : decode cX10_leaves 17 = .ok (.iaload, 1) := by decide +kernel
theorem dX10_leaves_18 : decode cX10_leaves 18 = .ok (.iload_n 1, 1) := by decide +kernel
theorem dX10_leaves_19 : decode cX10_leaves 19 = .ok (.if_icmp .eq 18, 3) := by decide +kernel
theorem dX10_leaves_22 : decode cX10_leaves 22 = .ok (.aload_n 0, 1) := by decide +kernel
theorem dX10_leaves_23 : decode cX10_leaves 23 = .ok (.getfield 80, 3) := by decide +kernel
theorem dX10_leaves_26 : decode cX10_leaves 26 = .ok (.iload_n 2, 1) := by decide +kernel
theorem dX10_leaves_27 : decode cX10_leaves 27 = .ok (.aload_n 0, 1) := by decide +kernel
theorem dX10_leaves_28 : decode cX10_leaves 28 = .ok (.getfield 80, 3) := by decide +kernel
theorem dX10_leaves_31 : decode cX10_leaves 31 = .ok (.iload_n 3, 1) := by decide +kernel
theorem dX10_leaves_32 : decode cX10_leaves 32 = .ok (.iaload, 1) := by decide +kernel
theorem dX10_leaves_33 : decode cX10_leaves 33 = .ok (.iastore, 1) := by decide +kernel
theorem dX10_leaves_34 : decode cX10_leaves 34 = .ok (.iinc 2 1, 3) := by decide +kernel
theorem dX10_leaves_37 : decode cX10_leaves 37 = .ok (.iinc 3 1, 3) := by decide +kernel
theorem dX10_leaves_40 : decode cX10_leaves 40 = .ok (.goto (-36), 3) := by decide +kernel
theorem dX10_leaves_43 : decode cX10_leaves 43 = .ok (.aload_n 0, 1) := by decide +kernel
theorem dX10_leaves_44 : decode cX10_leaves 44 = .ok (.iload_n 2, 1) := by decide +kernel
theorem dX10_leaves_45 : decode cX10_leaves 45 = .ok (.putfield 268, 3) := by decide +kernel
theorem dX10_leaves_48 : decode cX10_leaves 48 = .ok (.return_, 1) := by decide +kernel
theorem dX10_free_0 : decode cX10_free 0 = .ok (.aload_n 0, 1) := by decide +kernel
theorem dX10_free_1 : decode cX10_free 1 = .ok (.iconst (-1), 1) := by decide +kernel
theorem dX10_free_2 : decode cX10_free 2 = .ok (.putfield 271, 3) := by decide +kernel
theorem dX10_free_5 : decode cX10_free 5 = .ok (.aload_n 0, 1) := by decide +kernel
theorem dX10_free_6 : decode cX10_free 6 = .ok (.iconst 0, 1) := by decide +kernel
theorem dX10_free_7 : decode cX10_free 7 = .ok (.putfield 274, 3) := by decide +kernel
theorem dX10_free_10 : decode cX10_free 10 = .ok (.aload_n 0, 1) := by decide +kernel
theorem dX10_free_11 : decode cX10_free 11 = .ok (.iconst 0, 1) := by decide +kernel
theorem dX10_free_12 : decode cX10_free 12 = .ok (.putfield 286, 3) := by decide +kernel
theorem dX10_free_15 : decode cX10_free 15 = .ok (.return_, 1) := by decide +kernel
theorem dX10_spoke_0 : decode cX10_spoke 0 = .ok (.iconst 0, 1) := by decide +kernel
theorem dX10_spoke_1 : decode cX10_spoke 1 = .ok (.istore_n 3, 1) := by decide +kernel
theorem dX10_spoke_2 : decode cX10_spoke 2 = .ok (.iconst 0, 1) := by decide +kernel
theorem dX10_spoke_3 : decode cX10_spoke 3 = .ok (.istore 4, 2) := by decide +kernel
theorem dX10_spoke_5 : decode cX10_spoke 5 = .ok (.iload 4, 2) := by decide +kernel
theorem dX10_spoke_7 : decode cX10_spoke 7 = .ok (.bipush 24, 2) := by decide +kernel
theorem dX10_spoke_9 : decode cX10_spoke 9 = .ok (.if_icmp .ge 51, 3) := by decide +kernel
theorem dX10_spoke_12 : decode cX10_spoke 12 = .ok (.iload_n 3, 1) := by decide +kernel
theorem dX10_spoke_13 : decode cX10_spoke 13 = .ok (.iload 4, 2) := by decide +kernel
theorem dX10_spoke_15 : decode cX10_spoke 15 = .ok (.iload_n 1, 1) := by decide +kernel
theorem dX10_spoke_16 : decode cX10_spoke 16 = .ok (.if_icmp .eq 28, 3) := by decide +kernel
theorem dX10_spoke_19 : decode cX10_spoke 19 = .ok (.aload_n 0, 1) := by decide +kernel
theorem dX10_spoke_20 : decode cX10_spoke 20 = .ok (.getfield 40, 3) := by decide +kernel
theorem dX10_spoke_23 : decode cX10_spoke 23 = .ok (.iconst 0, 1) := by decide +kernel
theorem dX10_spoke_24 : decode cX10_spoke 24 = .ok (.baload, 1) := by decide +kernel
theorem dX10_spoke_25 : decode cX10_spoke 25 = .ok (.ifCond .eq 26, 3) := by decide +kernel
theorem dX10_spoke_28 : decode cX10_spoke 28 = .ok (.aload_n 0, 1) := by decide +kernel
theorem dX10_spoke_29 : decode cX10_spoke 29 = .ok (.getfield 46, 3) := by decide +kernel
theorem dX10_spoke_32 : decode cX10_spoke 32 = .ok (.iload 4, 2) := by decide +kernel
theorem dX10_spoke_34 : decode cX10_spoke 34 = .ok (.iaload, 1) := by decide +kernel
theorem dX10_spoke_35 : decode cX10_spoke 35 = .ok (.aload_n 0, 1) := by decide +kernel
theorem dX10_spoke_36 : decode cX10_spoke 36 = .ok (.getfield 46, 3) := by decide +kernel
theorem dX10_spoke_39 : decode cX10_spoke 39 = .ok (.iload_n 1, 1) := by decide +kernel
theorem dX10_spoke_40 : decode cX10_spoke 40 = .ok (.iaload, 1) := by decide +kernel
theorem dX10_spoke_41 : decode cX10_spoke 41 = .ok (.if_icmp .ne 10, 3) := by decide +kernel
theorem dX10_spoke_44 : decode cX10_spoke 44 = .ok (.aload_n 2, 1) := by decide +kernel
theorem dX10_spoke_45 : decode cX10_spoke 45 = .ok (.iload 4, 2) := by decide +kernel
theorem dX10_spoke_47 : decode cX10_spoke 47 = .ok (.iaload, 1) := by decide +kernel
theorem dX10_spoke_48 : decode cX10_spoke 48 = .ok (.goto 4, 3) := by decide +kernel
theorem dX10_spoke_51 : decode cX10_spoke 51 = .ok (.iconst 0, 1) := by decide +kernel
theorem dX10_spoke_52 : decode cX10_spoke 52 = .ok (.iadd, 1) := by decide +kernel
theorem dX10_spoke_53 : decode cX10_spoke 53 = .ok (.istore_n 3, 1) := by decide +kernel
theorem dX10_spoke_54 : decode cX10_spoke 54 = .ok (.iinc 4 1, 3) := by decide +kernel
theorem dX10_spoke_57 : decode cX10_spoke 57 = .ok (.goto (-52), 3) := by decide +kernel
theorem dX10_spoke_60 : decode cX10_spoke 60 = .ok (.iload_n 3, 1) := by decide +kernel
theorem dX10_spoke_61 : decode cX10_spoke 61 = .ok (.ireturn, 1) := by decide +kernel
theorem dX10_next_0 : decode cX10_next 0 = .ok (.iconst 0, 1) := by decide +kernel
theorem dX10_next_1 : decode cX10_next 1 = .ok (.istore 4, 2) := by decide +kernel
theorem dX10_next_3 : decode cX10_next 3 = .ok (.iconst 1, 1) := by decide +kernel
theorem dX10_next_4 : decode cX10_next 4 = .ok (.istore 5, 2) := by decide +kernel
theorem dX10_next_6 : decode cX10_next 6 = .ok (.iload 5, 2) := by decide +kernel
theorem dX10_next_8 : decode cX10_next 8 = .ok (.iload_n 2, 1) := by decide +kernel
theorem dX10_next_9 : decode cX10_next 9 = .ok (.if_icmp .ge 39, 3) := by decide +kernel
theorem dX10_next_12 : decode cX10_next 12 = .ok (.aload_n 0, 1) := by decide +kernel
theorem dX10_next_13 : decode cX10_next 13 = .ok (.aload_n 1, 1) := by decide +kernel
theorem dX10_next_14 : decode cX10_next 14 = .ok (.iload 5, 2) := by decide +kernel
theorem dX10_next_16 : decode cX10_next 16 = .ok (.iaload, 1) := by decide +kernel
theorem dX10_next_17 : decode cX10_next 17 = .ok (.aload_n 3, 1) := by decide +kernel
theorem dX10_next_18 : decode cX10_next 18 = .ok (.invokevirtual 305, 3) := by decide +kernel
theorem dX10_next_21 : decode cX10_next 21 = .ok (.aload_n 0, 1) := by decide +kernel
theorem dX10_next_22 : decode cX10_next 22 = .ok (.aload_n 1, 1) := by decide +kernel
theorem dX10_next_23 : decode cX10_next 23 = .ok (.iload 4, 2) := by decide +kernel
theorem dX10_next_25 : decode cX10_next 25 = .ok (.iaload, 1) := by decide +kernel
theorem dX10_next_26 : decode cX10_next 26 = .ok (.aload_n 3, 1) := by decide +kernel
theorem dX10_next_27 : decode cX10_next 27 = .ok (.invokevirtual 305, 3) := by decide +kernel
theorem dX10_next_30 : decode cX10_next 30 = .ok (.if_icmp .ge 8, 3) := by decide +kernel
theorem dX10_next_33 : decode cX10_next 33 = .ok (.iload 5, 2) := by decide +kernel
theorem dX10_next_35 : decode cX10_next 35 = .ok (.goto 5, 3) := by decide +kernel
theorem dX10_next_38 : decode cX10_next 38 = .ok (.iload 4, 2) := by decide +kernel
theorem dX10_next_40 : decode cX10_next 40 = .ok (.istore 4, 2) := by decide +kernel
theorem dX10_next_42 : decode cX10_next 42 = .ok (.iinc 5 1, 3) := by decide +kernel
theorem dX10_next_45 : decode cX10_next 45 = .ok (.goto (-39), 3) := by decide +kernel
theorem dX10_next_48 : decode cX10_next 48 = .ok (.iload 4, 2) := by decide +kernel
theorem dX10_next_50 : decode cX10_next 50 = .ok (.ireturn, 1) := by decide +kernel
theorem dX10_rule_0 : decode cX10_rule 0 = .ok (.aload_n 0, 1) := by decide +kernel
theorem dX10_rule_1 : decode cX10_rule 1 = .ok (.getfield 49, 3) := by decide +kernel
theorem dX10_rule_4 : decode cX10_rule 4 = .ok (.iload_n 1, 1) := by decide +kernel
theorem dX10_rule_5 : decode cX10_rule 5 = .ok (.iaload, 1) := by decide +kernel
theorem dX10_rule_6 : decode cX10_rule 6 = .ok (.istore_n 2, 1) := by decide +kernel
theorem dX10_rule_7 : decode cX10_rule 7 = .ok (.aload_n 0, 1) := by decide +kernel
theorem dX10_rule_8 : decode cX10_rule 8 = .ok (.getfield 52, 3) := by decide +kernel
theorem dX10_rule_11 : decode cX10_rule 11 = .ok (.iload_n 1, 1) := by decide +kernel
theorem dX10_rule_12 : decode cX10_rule 12 = .ok (.iaload, 1) := by decide +kernel
theorem dX10_rule_13 : decode cX10_rule 13 = .ok (.istore_n 3, 1) := by decide +kernel
theorem dX10_rule_14 : decode cX10_rule 14 = .ok (.iload_n 2, 1) := by decide +kernel
theorem dX10_rule_15 : decode cX10_rule 15 = .ok (.iconst 3, 1) := by decide +kernel
theorem dX10_rule_16 : decode cX10_rule 16 = .ok (.if_icmp .lt 13, 3) := by decide +kernel
theorem dX10_rule_19 : decode cX10_rule 19 = .ok (.iload_n 2, 1) := by decide +kernel
theorem dX10_rule_20 : decode cX10_rule 20 = .ok (.iconst 5, 1) := by decide +kernel
theorem dX10_rule_21 : decode cX10_rule 21 = .ok (.bipush 7, 2) := by decide +kernel
theorem dX10_rule_23 : decode cX10_rule 23 = .ok (.invokestatic 184, 3) := by decide +kernel
theorem dX10_rule_26 : decode cX10_rule 26 = .ok (.ifCond .eq 7, 3) := by decide +kernel
theorem dX10_rule_29 : decode cX10_rule 29 = .ok (.iconst 1, 1) := by decide +kernel
theorem dX10_rule_30 : decode cX10_rule 30 = .ok (.goto 4, 3) := by decide +kernel
theorem dX10_rule_33 : decode cX10_rule 33 = .ok (.iconst 0, 1) := by decide +kernel
theorem dX10_rule_34 : decode cX10_rule 34 = .ok (.istore 4, 2) := by decide +kernel
theorem dX10_rule_36 : decode cX10_rule 36 = .ok (.iload 4, 2) := by decide +kernel
theorem dX10_rule_38 : decode cX10_rule 38 = .ok (.ifCond .eq 13, 3) := by decide +kernel
theorem dX10_rule_41 : decode cX10_rule 41 = .ok (.iload_n 3, 1) := by decide +kernel
theorem dX10_rule_42 : decode cX10_rule 42 = .ok (.iconst 0, 1) := by decide +kernel
theorem dX10_rule_43 : decode cX10_rule 43 = .ok (.bipush 23, 2) := by decide +kernel
theorem dX10_rule_45 : decode cX10_rule 45 = .ok (.invokestatic 184, 3) := by decide +kernel
theorem dX10_rule_48 : decode cX10_rule 48 = .ok (.ifCond .eq 12, 3) := by decide +kernel
theorem dX10_rule_51 : decode cX10_rule 51 = .ok (.aload_n 0, 1) := by decide +kernel
theorem dX10_rule_52 : decode cX10_rule 52 = .ok (.iload_n 1, 1) := by decide +kernel
theorem dX10_rule_53 : decode cX10_rule 53 = .ok (.iload_n 2, 1) := by decide +kernel
theorem dX10_rule_54 : decode cX10_rule 54 = .ok (.invokevirtual 309, 3) := by decide +kernel
theorem dX10_rule_57 : decode cX10_rule 57 = .ok (.ifCond .eq 5, 3) := by decide +kernel
theorem dX10_rule_60 : decode cX10_rule 60 = .ok (.iconst 1, 1) := by decide +kernel
theorem dX10_rule_61 : decode cX10_rule 61 = .ok (.ireturn, 1) := by decide +kernel
theorem dX10_rule_62 : decode cX10_rule 62 = .ok (.iload 4, 2) := by decide +kernel
theorem dX10_rule_64 : decode cX10_rule 64 = .ok (.ifCond .eq 23, 3) := by decide +kernel
theorem dX10_rule_67 : decode cX10_rule 67 = .ok (.aload_n 0, 1) := by decide +kernel
theorem dX10_rule_68 : decode cX10_rule 68 = .ok (.getfield 77, 3) := by decide +kernel
theorem dX10_rule_71 : decode cX10_rule 71 = .ok (.iload_n 3, 1) := by decide +kernel
theorem dX10_rule_72 : decode cX10_rule 72 = .ok (.baload, 1) := by decide +kernel
theorem dX10_rule_73 : decode cX10_rule 73 = .ok (.iload_n 2, 1) := by decide +kernel
theorem dX10_rule_74 : decode cX10_rule 74 = .ok (.ifCond .ne 7, 3) := by decide +kernel
theorem dX10_rule_77 : decode cX10_rule 77 = .ok (.iconst 1, 1) := by decide +kernel
theorem dX10_rule_78 : decode cX10_rule 78 = .ok (.goto 4, 3) := by decide +kernel
theorem dX10_rule_81 : decode cX10_rule 81 = .ok (.iconst 0, 1) := by decide +kernel
theorem dX10_rule_82 : decode cX10_rule 82 = .ok (.if_icmp .ne 5, 3) := by decide +kernel
theorem dX10_rule_85 : decode cX10_rule 85 = .ok (.iconst 2, 1) := by decide +kernel
theorem dX10_rule_86 : decode cX10_rule 86 = .ok (.ireturn, 1) := by decide +kernel
theorem dX10_rule_87 : decode cX10_rule 87 = .ok (.iload_n 2, 1) := by decide +kernel
theorem dX10_rule_88 : decode cX10_rule 88 = .ok (.iconst 2, 1) := by decide +kernel
theorem dX10_rule_89 : decode cX10_rule 89 = .ok (.if_icmp .ge 5, 3) := by decide +kernel
theorem dX10_rule_92 : decode cX10_rule 92 = .ok (.iconst 0, 1) := by decide +kernel
theorem dX10_rule_93 : decode cX10_rule 93 = .ok (.ireturn, 1) := by decide +kernel
theorem dX10_rule_94 : decode cX10_rule 94 = .ok (.aload_n 0, 1) := by decide +kernel
theorem dX10_rule_95 : decode cX10_rule 95 = .ok (.getfield 290, 3) := by decide +kernel
theorem dX10_rule_98 : decode cX10_rule 98 = .ok (.ifCond .eq 5, 3) := by decide +kernel
theorem dX10_rule_101 : decode cX10_rule 101 = .ok (.iconst 3, 1) := by decide +kernel
theorem dX10_rule_102 : decode cX10_rule 102 = .ok (.ireturn, 1) := by decide +kernel
theorem dX10_rule_103 : decode cX10_rule 103 = .ok (.aload_n 0, 1) := by decide +kernel
theorem dX10_rule_104 : decode cX10_rule 104 = .ok (.invokevirtual 313, 3) := by decide +kernel
theorem dX10_rule_107 : decode cX10_rule 107 = .ok (.aload_n 0, 1) := by decide +kernel
theorem dX10_rule_108 : decode cX10_rule 108 = .ok (.getfield 37, 3) := by decide +kernel
theorem dX10_rule_111 : decode cX10_rule 111 = .ok (.iconst 0, 1) := by decide +kernel
theorem dX10_rule_112 : decode cX10_rule 112 = .ok (.iaload, 1) := by decide +kernel
theorem dX10_rule_113 : decode cX10_rule 113 = .ok (.if_icmp .ge 5, 3) := by decide +kernel
theorem dX10_rule_116 : decode cX10_rule 116 = .ok (.iconst 4, 1) := by decide +kernel
theorem dX10_rule_117 : decode cX10_rule 117 = .ok (.ireturn, 1) := by decide +kernel
theorem dX10_rule_118 : decode cX10_rule 118 = .ok (.aload_n 0, 1) := by decide +kernel
theorem dX10_rule_119 : decode cX10_rule 119 = .ok (.getfield 283, 3) := by decide +kernel
theorem dX10_rule_122 : decode cX10_rule 122 = .ok (.ifCond .le 10, 3) := by decide +kernel
theorem dX10_rule_125 : decode cX10_rule 125 = .ok (.iload_n 2, 1) := by decide +kernel
theorem dX10_rule_126 : decode cX10_rule 126 = .ok (.iconst 4, 1) := by decide +kernel
theorem dX10_rule_127 : decode cX10_rule 127 = .ok (.if_icmp .eq 5, 3) := by decide +kernel
theorem dX10_rule_130 : decode cX10_rule 130 = .ok (.iconst 5, 1) := by decide +kernel
theorem dX10_rule_131 : decode cX10_rule 131 = .ok (.ireturn, 1) := by decide +kernel
theorem dX10_rule_132 : decode cX10_rule 132 = .ok (.aload_n 0, 1) := by decide +kernel
theorem dX10_rule_133 : decode cX10_rule 133 = .ok (.iload_n 1, 1) := by decide +kernel
theorem dX10_rule_134 : decode cX10_rule 134 = .ok (.iload_n 2, 1) := by decide +kernel
theorem dX10_rule_135 : decode cX10_rule 135 = .ok (.iload_n 3, 1) := by decide +kernel
theorem dX10_rule_136 : decode cX10_rule 136 = .ok (.invokevirtual 316, 3) := by decide +kernel
theorem dX10_rule_139 : decode cX10_rule 139 = .ok (.ifCond .eq 7, 3) := by decide +kernel
theorem dX10_rule_142 : decode cX10_rule 142 = .ok (.iconst 0, 1) := by decide +kernel
theorem dX10_rule_143 : decode cX10_rule 143 = .ok (.goto 5, 3) := by decide +kernel
theorem dX10_rule_146 : decode cX10_rule 146 = .ok (.bipush 6, 2) := by decide +kernel
theorem dX10_rule_148 : decode cX10_rule 148 = .ok (.ireturn, 1) := by decide +kernel
theorem dX10_isWrong_0 : decode cX10_isWrong 0 = .ok (.aload_n 0, 1) := by decide +kernel
theorem dX10_isWrong_1 : decode cX10_isWrong 1 = .ok (.getfield 58, 3) := by decide +kernel
theorem dX10_isWrong_4 : decode cX10_isWrong 4 = .ok (.iload_n 1, 1) := by decide +kernel
theorem dX10_isWrong_5 : decode cX10_isWrong 5 = .ok (.iaload, 1) := by decide +kernel
theorem dX10_isWrong_6 : decode cX10_isWrong 6 = .ok (.istore_n 3, 1) := by decide +kernel
theorem dX10_isWrong_7 : decode cX10_isWrong 7 = .ok (.aload_n 0, 1) := by decide +kernel
theorem dX10_isWrong_8 : decode cX10_isWrong 8 = .ok (.getfield 61, 3) := by decide +kernel
theorem dX10_isWrong_11 : decode cX10_isWrong 11 = .ok (.iload_n 1, 1) := by decide +kernel
theorem dX10_isWrong_12 : decode cX10_isWrong 12 = .ok (.iaload, 1) := by decide +kernel
theorem dX10_isWrong_13 : decode cX10_isWrong 13 = .ok (.istore 4, 2) := by decide +kernel
theorem dX10_isWrong_15 : decode cX10_isWrong 15 = .ok (.iload_n 2, 1) := by decide +kernel
theorem dX10_isWrong_16 : decode cX10_isWrong 16 = .ok (.tableswitch 199 4 9 #[40, 199, 57, 199, 101, 184], 40) := by decide +kernel
theorem dX10_isWrong_56 : decode cX10_isWrong 56 = .ok (.iload_n 3, 1) := by decide +kernel
theorem dX10_isWrong_57 : decode cX10_isWrong 57 = .ok (.iconst 1, 1) := by decide +kernel
theorem dX10_isWrong_58 : decode cX10_isWrong 58 = .ok (.sipush 9999, 3) := by decide +kernel
theorem dX10_isWrong_61 : decode cX10_isWrong 61 = .ok (.invokestatic 184, 3) := by decide +kernel
theorem dX10_isWrong_64 : decode cX10_isWrong 64 = .ok (.ifCond .ne 7, 3) := by decide +kernel
theorem dX10_isWrong_67 : decode cX10_isWrong 67 = .ok (.iconst 1, 1) := by decide +kernel
theorem dX10_isWrong_68 : decode cX10_isWrong 68 = .ok (.goto 4, 3) := by decide +kernel
theorem dX10_isWrong_71 : decode cX10_isWrong 71 = .ok (.iconst 0, 1) := by decide +kernel
theorem dX10_isWrong_72 : decode cX10_isWrong 72 = .ok (.ireturn, 1) := by decide +kernel
theorem dX10_isWrong_73 : decode cX10_isWrong 73 = .ok (.aload_n 0, 1) := by decide +kernel
theorem dX10_isWrong_74 : decode cX10_isWrong 74 = .ok (.getfield 55, 3) := by decide +kernel
theorem dX10_isWrong_77 : decode cX10_isWrong 77 = .ok (.iload_n 1, 1) := by decide +kernel
theorem dX10_isWrong_78 : decode cX10_isWrong 78 = .ok (.iaload, 1) := by decide +kernel
theorem dX10_isWrong_79 : decode cX10_isWrong 79 = .ok (.iconst 0, 1) := by decide +kernel
theorem dX10_isWrong_80 : decode cX10_isWrong 80 = .ok (.bipush 7, 2) := by decide +kernel
theorem dX10_isWrong_82 : decode cX10_isWrong 82 = .ok (.invokestatic 184, 3) := by decide +kernel
theorem dX10_isWrong_85 : decode cX10_isWrong 85 = .ok (.ifCond .eq 26, 3) := by decide +kernel
theorem dX10_isWrong_88 : decode cX10_isWrong 88 = .ok (.iload_n 3, 1) := by decide +kernel
theorem dX10_isWrong_89 : decode cX10_isWrong 89 = .ok (.iconst 0, 1) := by decide +kernel
theorem dX10_isWrong_90 : decode cX10_isWrong 90 = .ok (.sipush 999, 3) := by decide +kernel
theorem dX10_isWrong_93 : decode cX10_isWrong 93 = .ok (.invokestatic 184, 3) := by decide +kernel
theorem dX10_isWrong_96 : decode cX10_isWrong 96 = .ok (.ifCond .eq 15, 3) := by decide +kernel
theorem dX10_isWrong_99 : decode cX10_isWrong 99 = .ok (.iload 4, 2) := by decide +kernel
theorem dX10_isWrong_101 : decode cX10_isWrong 101 = .ok (.iconst 0, 1) := by decide +kernel
theorem dX10_isWrong_102 : decode cX10_isWrong 102 = .ok (.sipush 999, 3) := by decide +kernel
theorem dX10_isWrong_105 : decode cX10_isWrong 105 = .ok (.invokestatic 184, 3) := by decide +kernel
theorem dX10_isWrong_108 : decode cX10_isWrong 108 = .ok (.ifCond .ne 7, 3) := by decide +kernel
theorem dX10_isWrong_111 : decode cX10_isWrong 111 = .ok (.iconst 1, 1) := by decide +kernel
theorem dX10_isWrong_112 : decode cX10_isWrong 112 = .ok (.goto 4, 3) := by decide +kernel
theorem dX10_isWrong_115 : decode cX10_isWrong 115 = .ok (.iconst 0, 1) := by decide +kernel
theorem dX10_isWrong_116 : decode cX10_isWrong 116 = .ok (.ireturn, 1) := by decide +kernel
theorem dX10_isWrong_117 : decode cX10_isWrong 117 = .ok (.iload_n 3, 1) := by decide +kernel
theorem dX10_isWrong_118 : decode cX10_isWrong 118 = .ok (.iload 4, 2) := by decide +kernel
theorem dX10_isWrong_120 : decode cX10_isWrong 120 = .ok (.iand, 1) := by decide +kernel
