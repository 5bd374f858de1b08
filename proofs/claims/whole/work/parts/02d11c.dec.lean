theorem dX10_isWrong_121 : decode cX10_isWrong 121 = .ok (.ifCond .ne 18, 3) := by decide +kernel
theorem dX10_isWrong_124 : decode cX10_isWrong 124 = .ok (.iload_n 3, 1) := by decide +kernel
theorem dX10_isWrong_125 : decode cX10_isWrong 125 = .ok (.bipush 24, 2) := by decide +kernel
theorem dX10_isWrong_127 : decode cX10_isWrong 127 = .ok (.ishr, 1) := by decide +kernel
theorem dX10_isWrong_128 : decode cX10_isWrong 128 = .ok (.ifCond .ne 11, 3) := by decide +kernel
theorem dX10_isWrong_131 : decode cX10_isWrong 131 = .ok (.iload 4, 2) := by decide +kernel
theorem dX10_isWrong_133 : decode cX10_isWrong 133 = .ok (.bipush 24, 2) := by decide +kernel
theorem dX10_isWrong_135 : decode cX10_isWrong 135 = .ok (.ishr, 1) := by decide +kernel
theorem dX10_isWrong_136 : decode cX10_isWrong 136 = .ok (.ifCond .eq 7, 3) := by decide +kernel
theorem dX10_isWrong_139 : decode cX10_isWrong 139 = .ok (.iconst 1, 1) := by decide +kernel
theorem dX10_isWrong_140 : decode cX10_isWrong 140 = .ok (.goto 4, 3) := by decide +kernel
theorem dX10_isWrong_143 : decode cX10_isWrong 143 = .ok (.iconst 0, 1) := by decide +kernel
theorem dX10_isWrong_144 : decode cX10_isWrong 144 = .ok (.istore 5, 2) := by decide +kernel
theorem dX10_isWrong_146 : decode cX10_isWrong 146 = .ok (.iconst 0, 1) := by decide +kernel
theorem dX10_isWrong_147 : decode cX10_isWrong 147 = .ok (.istore 6, 2) := by decide +kernel
theorem dX10_isWrong_149 : decode cX10_isWrong 149 = .ok (.iload 6, 2) := by decide +kernel
theorem dX10_isWrong_151 : decode cX10_isWrong 151 = .ok (.bipush 24, 2) := by decide +kernel
theorem dX10_isWrong_153 : decode cX10_isWrong 153 = .ok (.if_icmp .ge 44, 3) := by decide +kernel
theorem dX10_isWrong_156 : decode cX10_isWrong 156 = .ok (.iload 5, 2) := by decide +kernel
theorem dX10_isWrong_158 : decode cX10_isWrong 158 = .ok (.ifCond .ne 26, 3) := by decide +kernel
theorem dX10_isWrong_161 : decode cX10_isWrong 161 = .ok (.iload_n 3, 1) := by decide +kernel
theorem dX10_isWrong_162 : decode cX10_isWrong 162 = .ok (.iload 4, 2) := by decide +kernel
theorem dX10_isWrong_164 : decode cX10_isWrong 164 = .ok (.ior, 1) := by decide +kernel
theorem dX10_isWrong_165 : decode cX10_isWrong 165 = .ok (.iload 6, 2) := by decide +kernel
theorem dX10_isWrong_167 : decode cX10_isWrong 167 = .ok (.ishr, 1) := by decide +kernel
theorem dX10_isWrong_168 : decode cX10_isWrong 168 = .ok (.iconst 1, 1) := by decide +kernel
theorem dX10_isWrong_169 : decode cX10_isWrong 169 = .ok (.iand, 1) := by decide +kernel
theorem dX10_isWrong_170 : decode cX10_isWrong 170 = .ok (.iconst 1, 1) := by decide +kernel
theorem dX10_isWrong_171 : decode cX10_isWrong 171 = .ok (.if_icmp .ne 17, 3) := by decide +kernel
theorem dX10_isWrong_174 : decode cX10_isWrong 174 = .ok (.aload_n 0, 1) := by decide +kernel
theorem dX10_isWrong_175 : decode cX10_isWrong 175 = .ok (.getfield 77, 3) := by decide +kernel
theorem dX10_isWrong_178 : decode cX10_isWrong 178 = .ok (.iload 6, 2) := by decide +kernel
theorem dX10_isWrong_180 : decode cX10_isWrong 180 = .ok (.baload, 1) := by decide +kernel
theorem dX10_isWrong_181 : decode cX10_isWrong 181 = .ok (.ifCond .ne 7, 3) := by decide +kernel
theorem dX10_isWrong_184 : decode cX10_isWrong 184 = .ok (.iconst 1, 1) := by decide +kernel
theorem dX10_isWrong_185 : decode cX10_isWrong 185 = .ok (.goto 4, 3) := by decide +kernel
theorem dX10_isWrong_188 : decode cX10_isWrong 188 = .ok (.iconst 0, 1) := by decide +kernel
theorem dX10_isWrong_189 : decode cX10_isWrong 189 = .ok (.istore 5, 2) := by decide +kernel
theorem dX10_isWrong_191 : decode cX10_isWrong 191 = .ok (.iinc 6 1, 3) := by decide +kernel
theorem dX10_isWrong_194 : decode cX10_isWrong 194 = .ok (.goto (-45), 3) := by decide +kernel
theorem dX10_isWrong_197 : decode cX10_isWrong 197 = .ok (.iload 5, 2) := by decide +kernel
theorem dX10_isWrong_199 : decode cX10_isWrong 199 = .ok (.ireturn, 1) := by decide +kernel
theorem dX10_isWrong_200 : decode cX10_isWrong 200 = .ok (.iload_n 3, 1) := by decide +kernel
theorem dX10_isWrong_201 : decode cX10_isWrong 201 = .ok (.iconst 0, 1) := by decide +kernel
theorem dX10_isWrong_202 : decode cX10_isWrong 202 = .ok (.iconst 1, 1) := by decide +kernel
theorem dX10_isWrong_203 : decode cX10_isWrong 203 = .ok (.invokestatic 184, 3) := by decide +kernel
theorem dX10_isWrong_206 : decode cX10_isWrong 206 = .ok (.ifCond .ne 7, 3) := by decide +kernel
theorem dX10_isWrong_209 : decode cX10_isWrong 209 = .ok (.iconst 1, 1) := by decide +kernel
theorem dX10_isWrong_210 : decode cX10_isWrong 210 = .ok (.goto 4, 3) := by decide +kernel
theorem dX10_isWrong_213 : decode cX10_isWrong 213 = .ok (.iconst 0, 1) := by decide +kernel
theorem dX10_isWrong_214 : decode cX10_isWrong 214 = .ok (.ireturn, 1) := by decide +kernel
theorem dX10_isWrong_215 : decode cX10_isWrong 215 = .ok (.iconst 0, 1) := by decide +kernel
theorem dX10_isWrong_216 : decode cX10_isWrong 216 = .ok (.ireturn, 1) := by decide +kernel
theorem dX10_isInOrder_0 : decode cX10_isInOrder 0 = .ok (.aload_n 0, 1) := by decide +kernel
theorem dX10_isInOrder_1 : decode cX10_isInOrder 1 = .ok (.getfield 293, 3) := by decide +kernel
theorem dX10_isInOrder_4 : decode cX10_isInOrder 4 = .ok (.iconst 1, 1) := by decide +kernel
theorem dX10_isInOrder_5 : decode cX10_isInOrder 5 = .ok (.isub, 1) := by decide +kernel
theorem dX10_isInOrder_6 : decode cX10_isInOrder 6 = .ok (.istore 4, 2) := by decide +kernel
theorem dX10_isInOrder_8 : decode cX10_isInOrder 8 = .ok (.iload_n 2, 1) := by decide +kernel
theorem dX10_isInOrder_9 : decode cX10_isInOrder 9 = .ok (.tableswitch 163 2 7 #[39, 61, 82, 84, 122, 129], 39) := by decide +kernel
theorem dX10_isInOrder_48 : decode cX10_isInOrder 48 = .ok (.aload_n 0, 1) := by decide +kernel
theorem dX10_isInOrder_49 : decode cX10_isInOrder 49 = .ok (.iload_n 3, 1) := by decide +kernel
theorem dX10_isInOrder_50 : decode cX10_isInOrder 50 = .ok (.invokevirtual 319, 3) := by decide +kernel
theorem dX10_isInOrder_53 : decode cX10_isInOrder 53 = .ok (.ifCond .ne 15, 3) := by decide +kernel
theorem dX10_isInOrder_56 : decode cX10_isInOrder 56 = .ok (.aload_n 0, 1) := by decide +kernel
theorem dX10_isInOrder_57 : decode cX10_isInOrder 57 = .ok (.getfield 271, 3) := by decide +kernel
theorem dX10_isInOrder_60 : decode cX10_isInOrder 60 = .ok (.iload_n 3, 1) := by decide +kernel
theorem dX10_isInOrder_61 : decode cX10_isInOrder 61 = .ok (.if_icmp .eq 7, 3) := by decide +kernel
theorem dX10_isInOrder_64 : decode cX10_isInOrder 64 = .ok (.iconst 1, 1) := by decide +kernel
theorem dX10_isInOrder_65 : decode cX10_isInOrder 65 = .ok (.goto 4, 3) := by decide +kernel
theorem dX10_isInOrder_68 : decode cX10_isInOrder 68 = .ok (.iconst 0, 1) := by decide +kernel
theorem dX10_isInOrder_69 : decode cX10_isInOrder 69 = .ok (.ireturn, 1) := by decide +kernel
theorem dX10_isInOrder_70 : decode cX10_isInOrder 70 = .ok (.aload_n 0, 1) := by decide +kernel
theorem dX10_isInOrder_71 : decode cX10_isInOrder 71 = .ok (.getfield 268, 3) := by decide +kernel
theorem dX10_isInOrder_74 : decode cX10_isInOrder 74 = .ok (.ifCond .le 15, 3) := by decide +kernel
theorem dX10_isInOrder_77 : decode cX10_isInOrder 77 = .ok (.aload_n 0, 1) := by decide +kernel
theorem dX10_isInOrder_78 : decode cX10_isInOrder 78 = .ok (.getfield 271, 3) := by decide +kernel
theorem dX10_isInOrder_81 : decode cX10_isInOrder 81 = .ok (.iconst (-1), 1) := by decide +kernel
theorem dX10_isInOrder_82 : decode cX10_isInOrder 82 = .ok (.if_icmp .ne 7, 3) := by decide +kernel
theorem dX10_isInOrder_85 : decode cX10_isInOrder 85 = .ok (.iconst 1, 1) := by decide +kernel
theorem dX10_isInOrder_86 : decode cX10_isInOrder 86 = .ok (.goto 4, 3) := by decide +kernel
theorem dX10_isInOrder_89 : decode cX10_isInOrder 89 = .ok (.iconst 0, 1) := by decide +kernel
theorem dX10_isInOrder_90 : decode cX10_isInOrder 90 = .ok (.ireturn, 1) := by decide +kernel
theorem dX10_isInOrder_91 : decode cX10_isInOrder 91 = .ok (.iconst 1, 1) := by decide +kernel
theorem dX10_isInOrder_92 : decode cX10_isInOrder 92 = .ok (.ireturn, 1) := by decide +kernel
theorem dX10_isInOrder_93 : decode cX10_isInOrder 93 = .ok (.aload_n 0, 1) := by decide +kernel
theorem dX10_isInOrder_94 : decode cX10_isInOrder 94 = .ok (.getfield 271, 3) := by decide +kernel
theorem dX10_isInOrder_97 : decode cX10_isInOrder 97 = .ok (.iconst (-1), 1) := by decide +kernel
theorem dX10_isInOrder_98 : decode cX10_isInOrder 98 = .ok (.if_icmp .eq 31, 3) := by decide +kernel
theorem dX10_isInOrder_101 : decode cX10_isInOrder 101 = .ok (.aload_n 0, 1) := by decide +kernel
theorem dX10_isInOrder_102 : decode cX10_isInOrder 102 = .ok (.getfield 271, 3) := by decide +kernel
theorem dX10_isInOrder_105 : decode cX10_isInOrder 105 = .ok (.iload_n 3, 1) := by decide +kernel
theorem dX10_isInOrder_106 : decode cX10_isInOrder 106 = .ok (.if_icmp .eq 23, 3) := by decide +kernel
theorem dX10_isInOrder_109 : decode cX10_isInOrder 109 = .ok (.aload_n 0, 1) := by decide +kernel
theorem dX10_isInOrder_110 : decode cX10_isInOrder 110 = .ok (.getfield 286, 3) := by decide +kernel
theorem dX10_isInOrder_113 : decode cX10_isInOrder 113 = .ok (.ifCond .ne 16, 3) := by decide +kernel
theorem dX10_isInOrder_116 : decode cX10_isInOrder 116 = .ok (.aload_n 0, 1) := by decide +kernel
theorem dX10_isInOrder_117 : decode cX10_isInOrder 117 = .ok (.getfield 43, 3) := by decide +kernel
theorem dX10_isInOrder_120 : decode cX10_isInOrder 120 = .ok (.iconst 0, 1) := by decide +kernel
theorem dX10_isInOrder_121 : decode cX10_isInOrder 121 = .ok (.baload, 1) := by decide +kernel
theorem dX10_isInOrder_122 : decode cX10_isInOrder 122 = .ok (.ifCond .eq 7, 3) := by decide +kernel
theorem dX10_isInOrder_125 : decode cX10_isInOrder 125 = .ok (.iconst 1, 1) := by decide +kernel
theorem dX10_isInOrder_126 : decode cX10_isInOrder 126 = .ok (.goto 4, 3) := by decide +kernel
theorem dX10_isInOrder_129 : decode cX10_isInOrder 129 = .ok (.iconst 0, 1) := by decide +kernel
theorem dX10_isInOrder_130 : decode cX10_isInOrder 130 = .ok (.ireturn, 1) := by decide +kernel
theorem dX10_isInOrder_131 : decode cX10_isInOrder 131 = .ok (.aload_n 0, 1) := by decide +kernel
theorem dX10_isInOrder_132 : decode cX10_isInOrder 132 = .ok (.iload_n 1, 1) := by decide +kernel
theorem dX10_isInOrder_133 : decode cX10_isInOrder 133 = .ok (.iload_n 3, 1) := by decide +kernel
theorem dX10_isInOrder_134 : decode cX10_isInOrder 134 = .ok (.invokevirtual 323, 3) := by decide +kernel
theorem dX10_isInOrder_137 : decode cX10_isInOrder 137 = .ok (.ireturn, 1) := by decide +kernel
theorem dX10_isInOrder_138 : decode cX10_isInOrder 138 = .ok (.aload_n 0, 1) := by decide +kernel
theorem dX10_isInOrder_139 : decode cX10_isInOrder 139 = .ok (.getfield 293, 3) := by decide +kernel
theorem dX10_isInOrder_142 : decode cX10_isInOrder 142 = .ok (.ifCond .le 28, 3) := by decide +kernel
theorem dX10_isInOrder_145 : decode cX10_isInOrder 145 = .ok (.aload_n 0, 1) := by decide +kernel
theorem dX10_isInOrder_146 : decode cX10_isInOrder 146 = .ok (.getfield 101, 3) := by decide +kernel
theorem dX10_isInOrder_149 : decode cX10_isInOrder 149 = .ok (.iload 4, 2) := by decide +kernel
theorem dX10_isInOrder_151 : decode cX10_isInOrder 151 = .ok (.baload, 1) := by decide +kernel
theorem dX10_isInOrder_152 : decode cX10_isInOrder 152 = .ok (.ifCond .ne 18, 3) := by decide +kernel
theorem dX10_isInOrder_155 : decode cX10_isInOrder 155 = .ok (.aload_n 0, 1) := by decide +kernel
theorem dX10_isInOrder_156 : decode cX10_isInOrder 156 = .ok (.getfield 89, 3) := by decide +kernel
theorem dX10_isInOrder_159 : decode cX10_isInOrder 159 = .ok (.iload 4, 2) := by decide +kernel
theorem dX10_isInOrder_161 : decode cX10_isInOrder 161 = .ok (.iaload, 1) := by decide +kernel
theorem dX10_isInOrder_162 : decode cX10_isInOrder 162 = .ok (.iload_n 3, 1) := by decide +kernel
theorem dX10_isInOrder_163 : decode cX10_isInOrder 163 = .ok (.if_icmp .eq 7, 3) := by decide +kernel
theorem dX10_isInOrder_166 : decode cX10_isInOrder 166 = .ok (.iconst 1, 1) := by decide +kernel
theorem dX10_isInOrder_167 : decode cX10_isInOrder 167 = .ok (.goto 4, 3) := by decide +kernel
theorem dX10_isInOrder_170 : decode cX10_isInOrder 170 = .ok (.iconst 0, 1) := by decide +kernel
theorem dX10_isInOrder_171 : decode cX10_isInOrder 171 = .ok (.ireturn, 1) := by decide +kernel
theorem dX10_isInOrder_172 : decode cX10_isInOrder 172 = .ok (.aload_n 0, 1) := by decide +kernel
theorem dX10_isInOrder_173 : decode cX10_isInOrder 173 = .ok (.getfield 293, 3) := by decide +kernel
theorem dX10_isInOrder_176 : decode cX10_isInOrder 176 = .ok (.ifCond .eq 23, 3) := by decide +kernel
theorem dX10_isInOrder_179 : decode cX10_isInOrder 179 = .ok (.aload_n 0, 1) := by decide +kernel
theorem dX10_isInOrder_180 : decode cX10_isInOrder 180 = .ok (.getfield 101, 3) := by decide +kernel
theorem dX10_isInOrder_183 : decode cX10_isInOrder 183 = .ok (.iload 4, 2) := by decide +kernel
theorem dX10_isInOrder_185 : decode cX10_isInOrder 185 = .ok (.baload, 1) := by decide +kernel
theorem dX10_isInOrder_186 : decode cX10_isInOrder 186 = .ok (.ifCond .eq 13, 3) := by decide +kernel
theorem dX10_isInOrder_189 : decode cX10_isInOrder 189 = .ok (.aload_n 0, 1) := by decide +kernel
theorem dX10_isInOrder_190 : decode cX10_isInOrder 190 = .ok (.getfield 104, 3) := by decide +kernel
theorem dX10_isInOrder_193 : decode cX10_isInOrder 193 = .ok (.iload 4, 2) := by decide +kernel
theorem dX10_isInOrder_195 : decode cX10_isInOrder 195 = .ok (.baload, 1) := by decide +kernel
theorem dX10_isInOrder_196 : decode cX10_isInOrder 196 = .ok (.ifCond .ne 5, 3) := by decide +kernel
theorem dX10_isInOrder_199 : decode cX10_isInOrder 199 = .ok (.iconst 0, 1) := by decide +kernel
theorem dX10_isInOrder_200 : decode cX10_isInOrder 200 = .ok (.ireturn, 1) := by decide +kernel
theorem dX10_isInOrder_201 : decode cX10_isInOrder 201 = .ok (.aload_n 0, 1) := by decide +kernel
theorem dX10_isInOrder_202 : decode cX10_isInOrder 202 = .ok (.getfield 22, 3) := by decide +kernel
theorem dX10_isInOrder_205 : decode cX10_isInOrder 205 = .ok (.iconst 0, 1) := by decide +kernel
theorem dX10_isInOrder_206 : decode cX10_isInOrder 206 = .ok (.aaload, 1) := by decide +kernel
theorem dX10_isInOrder_207 : decode cX10_isInOrder 207 = .ok (.aload_n 0, 1) := by decide +kernel
theorem dX10_isInOrder_208 : decode cX10_isInOrder 208 = .ok (.getfield 86, 3) := by decide +kernel
theorem dX10_isInOrder_211 : decode cX10_isInOrder 211 = .ok (.iload 4, 2) := by decide +kernel
theorem dX10_isInOrder_213 : decode cX10_isInOrder 213 = .ok (.iaload, 1) := by decide +kernel
theorem dX10_isInOrder_214 : decode cX10_isInOrder 214 = .ok (.iaload, 1) := by decide +kernel
theorem dX10_isInOrder_215 : decode cX10_isInOrder 215 = .ok (.iconst 3, 1) := by decide +kernel
theorem dX10_isInOrder_216 : decode cX10_isInOrder 216 = .ok (.if_icmp .ne 7, 3) := by decide +kernel
theorem dX10_isInOrder_219 : decode cX10_isInOrder 219 = .ok (.iconst 1, 1) := by decide +kernel
theorem dX10_isInOrder_220 : decode cX10_isInOrder 220 = .ok (.goto 4, 3) := by decide +kernel
theorem dX10_isInOrder_223 : decode cX10_isInOrder 223 = .ok (.iconst 0, 1) := by decide +kernel
theorem dX10_isInOrder_224 : decode cX10_isInOrder 224 = .ok (.iload_n 2, 1) := by decide +kernel
theorem dX10_isInOrder_225 : decode cX10_isInOrder 225 = .ok (.bipush 9, 2) := by decide +kernel
theorem dX10_isInOrder_227 : decode cX10_isInOrder 227 = .ok (.if_icmp .ne 7, 3) := by decide +kernel
theorem dX10_isInOrder_230 : decode cX10_isInOrder 230 = .ok (.iconst 1, 1) := by decide +kernel
theorem dX10_isInOrder_231 : decode cX10_isInOrder 231 = .ok (.goto 4, 3) := by decide +kernel
theorem dX10_isInOrder_234 : decode cX10_isInOrder 234 = .ok (.iconst 0, 1) := by decide +kernel
theorem dX10_isInOrder_235 : decode cX10_isInOrder 235 = .ok (.if_icmp .ne 7, 3) := by decide +kernel
theorem dX10_isInOrder_238 : decode cX10_isInOrder 238 = .ok (.iconst 1, 1) := by decide +kernel
theorem dX10_isInOrder_239 : decode cX10_isInOrder 239 = .ok (.goto 4, 3) := by decide +kernel
theorem dX10_isInOrder_242 : decode cX10_isInOrder 242 = .ok (.iconst 0, 1) := by decide +kernel
theorem dX10_isInOrder_243 : decode cX10_isInOrder 243 = .ok (.ireturn, 1) := by decide +kernel
theorem dX10_refused_0 : decode cX10_refused 0 = .ok (.iload_n 1, 1) := by decide +kernel
theorem dX10_refused_1 : decode cX10_refused 1 = .ok (.iconst 1, 1) := by decide +kernel
theorem dX10_refused_2 : decode cX10_refused 2 = .ok (.isub, 1) := by decide +kernel
theorem dX10_refused_3 : decode cX10_refused 3 = .ok (.istore_n 2, 1) := by decide +kernel
theorem dX10_refused_4 : decode cX10_refused 4 = .ok (.iload_n 2, 1) := by decide +kernel
theorem dX10_refused_5 : decode cX10_refused 5 = .ok (.ifCond .lt 48, 3) := by decide +kernel
theorem dX10_refused_8 : decode cX10_refused 8 = .ok (.aload_n 0, 1) := by decide +kernel
theorem dX10_refused_9 : decode cX10_refused 9 = .ok (.getfield 64, 3) := by decide +kernel
theorem dX10_refused_12 : decode cX10_refused 12 = .ok (.aload_n 0, 1) := by decide +kernel
theorem dX10_refused_13 : decode cX10_refused 13 = .ok (.getfield 265, 3) := by decide +kernel
theorem dX10_refused_16 : decode cX10_refused 16 = .ok (.aaload, 1) := by decide +kernel
theorem dX10_refused_17 : decode cX10_refused 17 = .ok (.iload_n 2, 1) := by decide +kernel
theorem dX10_refused_18 : decode cX10_refused 18 = .ok (.iaload, 1) := by decide +kernel
theorem dX10_refused_19 : decode cX10_refused 19 = .ok (.bipush 6, 2) := by decide +kernel
theorem dX10_refused_21 : decode cX10_refused 21 = .ok (.if_icmp .ne 26, 3) := by decide +kernel
theorem dX10_refused_24 : decode cX10_refused 24 = .ok (.aload_n 0, 1) := by decide +kernel
theorem dX10_refused_25 : decode cX10_refused 25 = .ok (.getfield 49, 3) := by decide +kernel
theorem dX10_refused_28 : decode cX10_refused 28 = .ok (.iload_n 2, 1) := by decide +kernel
theorem dX10_refused_29 : decode cX10_refused 29 = .ok (.iaload, 1) := by decide +kernel
theorem dX10_refused_30 : decode cX10_refused 30 = .ok (.bipush 6, 2) := by decide +kernel
theorem dX10_refused_32 : decode cX10_refused 32 = .ok (.if_icmp .eq 13, 3) := by decide +kernel
theorem dX10_refused_35 : decode cX10_refused 35 = .ok (.aload_n 0, 1) := by decide +kernel
theorem dX10_refused_36 : decode cX10_refused 36 = .ok (.getfield 49, 3) := by decide +kernel
theorem dX10_refused_39 : decode cX10_refused 39 = .ok (.iload_n 2, 1) := by decide +kernel
theorem dX10_refused_40 : decode cX10_refused 40 = .ok (.iaload, 1) := by decide +kernel
theorem dX10_refused_41 : decode cX10_refused 41 = .ok (.iconst 5, 1) := by decide +kernel
theorem dX10_refused_42 : decode cX10_refused 42 = .ok (.if_icmp .ne 5, 3) := by decide +kernel
theorem dX10_refused_45 : decode cX10_refused 45 = .ok (.iload_n 2, 1) := by decide +kernel
theorem dX10_refused_46 : decode cX10_refused 46 = .ok (.ireturn, 1) := by decide +kernel
theorem dX10_refused_47 : decode cX10_refused 47 = .ok (.iinc 2 (-1), 3) := by decide +kernel
theorem dX10_refused_50 : decode cX10_refused 50 = .ok (.goto (-46), 3) := by decide +kernel
theorem dX10_refused_53 : decode cX10_refused 53 = .ok (.iconst (-1), 1) := by decide +kernel
theorem dX10_refused_54 : decode cX10_refused 54 = .ok (.ireturn, 1) := by decide +kernel
theorem dX10_mayMove_0 : decode cX10_mayMove 0 = .ok (.aload_n 0, 1) := by decide +kernel
theorem dX10_mayMove_1 : decode cX10_mayMove 1 = .ok (.getfield 55, 3) := by decide +kernel
theorem dX10_mayMove_4 : decode cX10_mayMove 4 = .ok (.iload_n 1, 1) := by decide +kernel
theorem dX10_mayMove_5 : decode cX10_mayMove 5 = .ok (.iaload, 1) := by decide +kernel
theorem dX10_mayMove_6 : decode cX10_mayMove 6 = .ok (.istore_n 3, 1) := by decide +kernel
theorem dX10_mayMove_7 : decode cX10_mayMove 7 = .ok (.aload_n 0, 1) := by decide +kernel
theorem dX10_mayMove_8 : decode cX10_mayMove 8 = .ok (.getfield 58, 3) := by decide +kernel
theorem dX10_mayMove_11 : decode cX10_mayMove 11 = .ok (.iload_n 1, 1) := by decide +kernel
theorem dX10_mayMove_12 : decode cX10_mayMove 12 = .ok (.iaload, 1) := by decide +kernel
theorem dX10_mayMove_13 : decode cX10_mayMove 13 = .ok (.istore 4, 2) := by decide +kernel
theorem dX10_mayMove_15 : decode cX10_mayMove 15 = .ok (.aload_n 0, 1) := by decide +kernel
theorem dX10_mayMove_16 : decode cX10_mayMove 16 = .ok (.getfield 19, 3) := by decide +kernel
theorem dX10_mayMove_19 : decode cX10_mayMove 19 = .ok (.iconst 0, 1) := by decide +kernel
theorem dX10_mayMove_20 : decode cX10_mayMove 20 = .ok (.aaload, 1) := by decide +kernel
theorem dX10_mayMove_21 : decode cX10_mayMove 21 = .ok (.iload_n 3, 1) := by decide +kernel
theorem dX10_mayMove_22 : decode cX10_mayMove 22 = .ok (.iaload, 1) := by decide +kernel
theorem dX10_mayMove_23 : decode cX10_mayMove 23 = .ok (.ifCond .eq 12, 3) := by decide +kernel
theorem dX10_mayMove_26 : decode cX10_mayMove 26 = .ok (.aload_n 0, 1) := by decide +kernel
theorem dX10_mayMove_27 : decode cX10_mayMove 27 = .ok (.getfield 293, 3) := by decide +kernel
theorem dX10_mayMove_30 : decode cX10_mayMove 30 = .ok (.bipush 8, 2) := by decide +kernel
theorem dX10_mayMove_32 : decode cX10_mayMove 32 = .ok (.if_icmp .lt 5, 3) := by decide +kernel
theorem dX10_mayMove_35 : decode cX10_mayMove 35 = .ok (.iconst 0, 1) := by decide +kernel
theorem dX10_mayMove_36 : decode cX10_mayMove 36 = .ok (.ireturn, 1) := by decide +kernel
theorem dX10_mayMove_37 : decode cX10_mayMove 37 = .ok (.iload_n 3, 1) := by decide +kernel
theorem dX10_mayMove_38 : decode cX10_mayMove 38 = .ok (.bipush 7, 2) := by decide +kernel
theorem dX10_mayMove_40 : decode cX10_mayMove 40 = .ok (.if_icmp .ne 64, 3) := by decide +kernel
theorem dX10_mayMove_43 : decode cX10_mayMove 43 = .ok (.iconst 0, 1) := by decide +kernel
theorem dX10_mayMove_44 : decode cX10_mayMove 44 = .ok (.istore 5, 2) := by decide +kernel
theorem dX10_mayMove_46 : decode cX10_mayMove 46 = .ok (.iload 5, 2) := by decide +kernel
theorem dX10_mayMove_48 : decode cX10_mayMove 48 = .ok (.aload_n 0, 1) := by decide +kernel
theorem dX10_mayMove_49 : decode cX10_mayMove 49 = .ok (.getfield 293, 3) := by decide +kernel
theorem dX10_mayMove_52 : decode cX10_mayMove 52 = .ok (.if_icmp .ge 23, 3) := by decide +kernel
theorem dX10_mayMove_55 : decode cX10_mayMove 55 = .ok (.aload_n 0, 1) := by decide +kernel
theorem dX10_mayMove_56 : decode cX10_mayMove 56 = .ok (.getfield 86, 3) := by decide +kernel
theorem dX10_mayMove_59 : decode cX10_mayMove 59 = .ok (.iload 5, 2) := by decide +kernel
theorem dX10_mayMove_61 : decode cX10_mayMove 61 = .ok (.iaload, 1) := by decide +kernel
theorem dX10_mayMove_62 : decode cX10_mayMove 62 = .ok (.bipush 7, 2) := by decide +kernel
theorem dX10_mayMove_64 : decode cX10_mayMove 64 = .ok (.if_icmp .ne 5, 3) := by decide +kernel
theorem dX10_mayMove_67 : decode cX10_mayMove 67 = .ok (.iconst 0, 1) := by decide +kernel
theorem dX10_mayMove_68 : decode cX10_mayMove 68 = .ok (.ireturn, 1) := by decide +kernel
theorem dX10_mayMove_69 : decode cX10_mayMove 69 = .ok (.iinc 5 1, 3) := by decide +kernel
theorem dX10_mayMove_72 : decode cX10_mayMove 72 = .ok (.goto (-26), 3) := by decide +kernel
theorem dX10_mayMove_75 : decode cX10_mayMove 75 = .ok (.aload_n 0, 1) := by decide +kernel
theorem dX10_mayMove_76 : decode cX10_mayMove 76 = .ok (.iload_n 1, 1) := by decide +kernel
theorem dX10_mayMove_77 : decode cX10_mayMove 77 = .ok (.invokevirtual 326, 3) := by decide +kernel
theorem dX10_mayMove_80 : decode cX10_mayMove 80 = .ok (.istore 5, 2) := by decide +kernel
theorem dX10_mayMove_82 : decode cX10_mayMove 82 = .ok (.iload 5, 2) := by decide +kernel
theorem dX10_mayMove_84 : decode cX10_mayMove 84 = .ok (.iconst (-1), 1) := by decide +kernel
theorem dX10_mayMove_85 : decode cX10_mayMove 85 = .ok (.if_icmp .eq 17, 3) := by decide +kernel
theorem dX10_mayMove_88 : decode cX10_mayMove 88 = .ok (.aload_n 0, 1) := by decide +kernel
theorem dX10_mayMove_89 : decode cX10_mayMove 89 = .ok (.getfield 107, 3) := by decide +kernel
theorem dX10_mayMove_92 : decode cX10_mayMove 92 = .ok (.iload 5, 2) := by decide +kernel
theorem dX10_mayMove_94 : decode cX10_mayMove 94 = .ok (.baload, 1) := by decide +kernel
theorem dX10_mayMove_95 : decode cX10_mayMove 95 = .ok (.ifCond .ne 7, 3) := by decide +kernel
theorem dX10_mayMove_98 : decode cX10_mayMove 98 = .ok (.iconst 1, 1) := by decide +kernel
theorem dX10_mayMove_99 : decode cX10_mayMove 99 = .ok (.goto 4, 3) := by decide +kernel
theorem dX10_mayMove_102 : decode cX10_mayMove 102 = .ok (.iconst 0, 1) := by decide +kernel
theorem dX10_mayMove_103 : decode cX10_mayMove 103 = .ok (.ireturn, 1) := by decide +kernel
theorem dX10_mayMove_104 : decode cX10_mayMove 104 = .ok (.aload_n 0, 1) := by decide +kernel
theorem dX10_mayMove_105 : decode cX10_mayMove 105 = .ok (.getfield 293, 3) := by decide +kernel
theorem dX10_mayMove_108 : decode cX10_mayMove 108 = .ok (.ifCond .le 32, 3) := by decide +kernel
theorem dX10_mayMove_111 : decode cX10_mayMove 111 = .ok (.aload_n 0, 1) := by decide +kernel
theorem dX10_mayMove_112 : decode cX10_mayMove 112 = .ok (.getfield 19, 3) := by decide +kernel
theorem dX10_mayMove_115 : decode cX10_mayMove 115 = .ok (.iconst 0, 1) := by decide +kernel
theorem dX10_mayMove_116 : decode cX10_mayMove 116 = .ok (.aaload, 1) := by decide +kernel
theorem dX10_mayMove_117 : decode cX10_mayMove 117 = .ok (.iload_n 3, 1) := by decide +kernel
theorem dX10_mayMove_118 : decode cX10_mayMove 118 = .ok (.iaload, 1) := by decide +kernel
theorem dX10_mayMove_119 : decode cX10_mayMove 119 = .ok (.aload_n 0, 1) := by decide +kernel
theorem dX10_mayMove_120 : decode cX10_mayMove 120 = .ok (.getfield 19, 3) := by decide +kernel
theorem dX10_mayMove_123 : decode cX10_mayMove 123 = .ok (.iconst 0, 1) := by decide +kernel
theorem dX10_mayMove_124 : decode cX10_mayMove 124 = .ok (.aaload, 1) := by decide +kernel
theorem dX10_mayMove_125 : decode cX10_mayMove 125 = .ok (.aload_n 0, 1) := by decide +kernel
theorem dX10_mayMove_126 : decode cX10_mayMove 126 = .ok (.getfield 86, 3) := by decide +kernel
theorem dX10_mayMove_129 : decode cX10_mayMove 129 = .ok (.aload_n 0, 1) := by decide +kernel
theorem dX10_mayMove_130 : decode cX10_mayMove 130 = .ok (.getfield 293, 3) := by decide +kernel
theorem dX10_mayMove_133 : decode cX10_mayMove 133 = .ok (.iconst 1, 1) := by decide +kernel
theorem dX10_mayMove_134 : decode cX10_mayMove 134 = .ok (.isub, 1) := by decide +kernel
theorem dX10_mayMove_135 : decode cX10_mayMove 135 = .ok (.iaload, 1) := by decide +kernel
theorem dX10_mayMove_136 : decode cX10_mayMove 136 = .ok (.iaload, 1) := by decide +kernel
theorem dX10_mayMove_137 : decode cX10_mayMove 137 = .ok (.if_icmp .le 19, 3) := by decide +kernel
theorem dX10_mayMove_140 : decode cX10_mayMove 140 = .ok (.aload_n 0, 1) := by decide +kernel
theorem dX10_mayMove_141 : decode cX10_mayMove 141 = .ok (.getfield 271, 3) := by decide +kernel
theorem dX10_mayMove_144 : decode cX10_mayMove 144 = .ok (.iconst (-1), 1) := by decide +kernel
theorem dX10_mayMove_145 : decode cX10_mayMove 145 = .ok (.if_icmp .eq 13, 3) := by decide +kernel
theorem dX10_mayMove_148 : decode cX10_mayMove 148 = .ok (.aload_n 0, 1) := by decide +kernel
theorem dX10_mayMove_149 : decode cX10_mayMove 149 = .ok (.getfield 271, 3) := by decide +kernel
theorem dX10_mayMove_152 : decode cX10_mayMove 152 = .ok (.iload_n 2, 1) := by decide +kernel
theorem dX10_mayMove_153 : decode cX10_mayMove 153 = .ok (.if_icmp .eq 5, 3) := by decide +kernel
theorem dX10_mayMove_156 : decode cX10_mayMove 156 = .ok (.iconst 0, 1) := by decide +kernel
theorem dX10_mayMove_157 : decode cX10_mayMove 157 = .ok (.ireturn, 1) := by decide +kernel
theorem dX10_mayMove_158 : decode cX10_mayMove 158 = .ok (.iload_n 3, 1) := by decide +kernel
theorem dX10_mayMove_159 : decode cX10_mayMove 159 = .ok (.tableswitch 119 0 5 #[37, 61, 83, 108, 103, 108], 37) := by decide +kernel
theorem dX10_mayMove_196 : decode cX10_mayMove 196 = .ok (.aload_n 0, 1) := by decide +kernel
theorem dX10_mayMove_197 : decode cX10_mayMove 197 = .ok (.getfield 296, 3) := by decide +kernel
theorem dX10_mayMove_200 : decode cX10_mayMove 200 = .ok (.ifCond .ne 18, 3) := by decide +kernel
theorem dX10_mayMove_203 : decode cX10_mayMove 203 = .ok (.iload 4, 2) := by decide +kernel
theorem dX10_mayMove_205 : decode cX10_mayMove 205 = .ok (.iconst 1, 1) := by decide +kernel
theorem dX10_mayMove_206 : decode cX10_mayMove 206 = .ok (.bipush 20, 2) := by decide +kernel
theorem dX10_mayMove_208 : decode cX10_mayMove 208 = .ok (.invokestatic 184, 3) := by decide +kernel
theorem dX10_mayMove_211 : decode cX10_mayMove 211 = .ok (.ifCond .eq 7, 3) := by decide +kernel
theorem dX10_mayMove_214 : decode cX10_mayMove 214 = .ok (.iconst 1, 1) := by decide +kernel
theorem dX10_mayMove_215 : decode cX10_mayMove 215 = .ok (.goto 4, 3) := by decide +kernel
theorem dX10_mayMove_218 : decode cX10_mayMove 218 = .ok (.iconst 0, 1) := by decide +kernel
theorem dX10_mayMove_219 : decode cX10_mayMove 219 = .ok (.ireturn, 1) := by decide +kernel
theorem dX10_mayMove_220 : decode cX10_mayMove 220 = .ok (.aload_n 0, 1) := by decide +kernel
theorem dX10_mayMove_221 : decode cX10_mayMove 221 = .ok (.getfield 296, 3) := by decide +kernel
theorem dX10_mayMove_224 : decode cX10_mayMove 224 = .ok (.ifCond .eq 16, 3) := by decide +kernel
theorem dX10_mayMove_227 : decode cX10_mayMove 227 = .ok (.aload_n 0, 1) := by decide +kernel
theorem dX10_mayMove_228 : decode cX10_mayMove 228 = .ok (.iload 4, 2) := by decide +kernel
theorem dX10_mayMove_230 : decode cX10_mayMove 230 = .ok (.invokevirtual 330, 3) := by decide +kernel
theorem dX10_mayMove_233 : decode cX10_mayMove 233 = .ok (.ifCond .eq 7, 3) := by decide +kernel
theorem dX10_mayMove_236 : decode cX10_mayMove 236 = .ok (.iconst 1, 1) := by decide +kernel
theorem dX10_mayMove_237 : decode cX10_mayMove 237 = .ok (.goto 4, 3) := by decide +kernel
theorem dX10_mayMove_240 : decode cX10_mayMove 240 = .ok (.iconst 0, 1) := by decide +kernel
theorem dX10_mayMove_241 : decode cX10_mayMove 241 = .ok (.ireturn, 1) := by decide +kernel
theorem dX10_mayMove_242 : decode cX10_mayMove 242 = .ok (.aload_n 0, 1) := by decide +kernel
theorem dX10_mayMove_243 : decode cX10_mayMove 243 = .ok (.getfield 296, 3) := by decide +kernel
theorem dX10_mayMove_246 : decode cX10_mayMove 246 = .ok (.ifCond .eq 14, 3) := by decide +kernel
theorem dX10_mayMove_249 : decode cX10_mayMove 249 = .ok (.aload_n 0, 1) := by decide +kernel
theorem dX10_mayMove_250 : decode cX10_mayMove 250 = .ok (.getfield 293, 3) := by decide +kernel
theorem dX10_mayMove_253 : decode cX10_mayMove 253 = .ok (.ifCond .le 7, 3) := by decide +kernel
theorem dX10_mayMove_256 : decode cX10_mayMove 256 = .ok (.iconst 1, 1) := by decide +kernel
theorem dX10_mayMove_257 : decode cX10_mayMove 257 = .ok (.goto 4, 3) := by decide +kernel
theorem dX10_mayMove_260 : decode cX10_mayMove 260 = .ok (.iconst 0, 1) := by decide +kernel
theorem dX10_mayMove_261 : decode cX10_mayMove 261 = .ok (.ireturn, 1) := by decide +kernel
theorem dX10_mayMove_262 : decode cX10_mayMove 262 = .ok (.aload_n 0, 1) := by decide +kernel
theorem dX10_mayMove_263 : decode cX10_mayMove 263 = .ok (.getfield 296, 3) := by decide +kernel
theorem dX10_mayMove_266 : decode cX10_mayMove 266 = .ok (.ireturn, 1) := by decide +kernel
theorem dX10_mayMove_267 : decode cX10_mayMove 267 = .ok (.iload 4, 2) := by decide +kernel
theorem dX10_mayMove_269 : decode cX10_mayMove 269 = .ok (.ifCond .le 7, 3) := by decide +kernel
theorem dX10_mayMove_272 : decode cX10_mayMove 272 = .ok (.iconst 1, 1) := by decide +kernel
theorem dX10_mayMove_273 : decode cX10_mayMove 273 = .ok (.goto 4, 3) := by decide +kernel
theorem dX10_mayMove_276 : decode cX10_mayMove 276 = .ok (.iconst 0, 1) := by decide +kernel
theorem dX10_mayMove_277 : decode cX10_mayMove 277 = .ok (.ireturn, 1) := by decide +kernel
theorem dX10_mayMove_278 : decode cX10_mayMove 278 = .ok (.iconst 1, 1) := by decide +kernel
theorem dX10_mayMove_279 : decode cX10_mayMove 279 = .ok (.ireturn, 1) := by decide +kernel
theorem dX10_placeOf_0 : decode cX10_placeOf 0 = .ok (.iconst 0, 1) := by decide +kernel
theorem dX10_placeOf_1 : decode cX10_placeOf 1 = .ok (.istore_n 2, 1) := by decide +kernel
theorem dX10_placeOf_2 : decode cX10_placeOf 2 = .ok (.aload_n 0, 1) := by decide +kernel
theorem dX10_placeOf_3 : decode cX10_placeOf 3 = .ok (.getfield 296, 3) := by decide +kernel
theorem dX10_placeOf_6 : decode cX10_placeOf 6 = .ok (.ifCond .eq 29, 3) := by decide +kernel
theorem dX10_placeOf_9 : decode cX10_placeOf 9 = .ok (.iload_n 2, 1) := by decide +kernel
theorem dX10_placeOf_10 : decode cX10_placeOf 10 = .ok (.aload_n 0, 1) := by decide +kernel
theorem dX10_placeOf_11 : decode cX10_placeOf 11 = .ok (.getfield 299, 3) := by decide +kernel
theorem dX10_placeOf_14 : decode cX10_placeOf 14 = .ok (.if_icmp .ge 21, 3) := by decide +kernel
theorem dX10_placeOf_17 : decode cX10_placeOf 17 = .ok (.aload_n 0, 1) := by decide +kernel
theorem dX10_placeOf_18 : decode cX10_placeOf 18 = .ok (.getfield 110, 3) := by decide +kernel
theorem dX10_placeOf_21 : decode cX10_placeOf 21 = .ok (.iload_n 2, 1) := by decide +kernel
theorem dX10_placeOf_22 : decode cX10_placeOf 22 = .ok (.iaload, 1) := by decide +kernel
theorem dX10_placeOf_23 : decode cX10_placeOf 23 = .ok (.iload_n 1, 1) := by decide +kernel
theorem dX10_placeOf_24 : decode cX10_placeOf 24 = .ok (.if_icmp .ne 5, 3) := by decide +kernel
theorem dX10_placeOf_27 : decode cX10_placeOf 27 = .ok (.iload_n 2, 1) := by decide +kernel
theorem dX10_placeOf_28 : decode cX10_placeOf 28 = .ok (.ireturn, 1) := by decide +kernel
theorem dX10_placeOf_29 : decode cX10_placeOf 29 = .ok (.iinc 2 1, 3) := by decide +kernel
theorem dX10_placeOf_32 : decode cX10_placeOf 32 = .ok (.goto (-30), 3) := by decide +kernel
theorem dX10_placeOf_35 : decode cX10_placeOf 35 = .ok (.iconst (-1), 1) := by decide +kernel
theorem dX10_placeOf_36 : decode cX10_placeOf 36 = .ok (.ireturn, 1) := by decide +kernel
theorem dX10_mayAmend_0 : decode cX10_mayAmend 0 = .ok (.aload_n 0, 1) := by decide +kernel
theorem dX10_mayAmend_1 : decode cX10_mayAmend 1 = .ok (.iload_n 1, 1) := by decide +kernel
theorem dX10_mayAmend_2 : decode cX10_mayAmend 2 = .ok (.iconst 4, 1) := by decide +kernel
theorem dX10_mayAmend_3 : decode cX10_mayAmend 3 = .ok (.idiv, 1) := by decide +kernel
theorem dX10_mayAmend_4 : decode cX10_mayAmend 4 = .ok (.invokevirtual 333, 3) := by decide +kernel
theorem dX10_mayAmend_7 : decode cX10_mayAmend 7 = .ok (.istore_n 2, 1) := by decide +kernel
theorem dX10_mayAmend_8 : decode cX10_mayAmend 8 = .ok (.iload_n 2, 1) := by decide +kernel
theorem dX10_mayAmend_9 : decode cX10_mayAmend 9 = .ok (.iconst (-1), 1) := by decide +kernel
theorem dX10_mayAmend_10 : decode cX10_mayAmend 10 = .ok (.if_icmp .ne 5, 3) := by decide +kernel
theorem dX10_mayAmend_13 : decode cX10_mayAmend 13 = .ok (.iconst 0, 1) := by decide +kernel
theorem dX10_mayAmend_14 : decode cX10_mayAmend 14 = .ok (.ireturn, 1) := by decide +kernel
theorem dX10_mayAmend_15 : decode cX10_mayAmend 15 = .ok (.iload_n 1, 1) := by decide +kernel
theorem dX10_mayAmend_16 : decode cX10_mayAmend 16 = .ok (.iconst 4, 1) := by decide +kernel
theorem dX10_mayAmend_17 : decode cX10_mayAmend 17 = .ok (.irem, 1) := by decide +kernel
theorem dX10_mayAmend_18 : decode cX10_mayAmend 18 = .ok (.iconst 3, 1) := by decide +kernel
theorem dX10_mayAmend_19 : decode cX10_mayAmend 19 = .ok (.if_icmp .ne 21, 3) := by decide +kernel
theorem dX10_mayAmend_22 : decode cX10_mayAmend 22 = .ok (.iload_n 2, 1) := by decide +kernel
theorem dX10_mayAmend_23 : decode cX10_mayAmend 23 = .ok (.iconst 1, 1) := by decide +kernel
theorem dX10_mayAmend_24 : decode cX10_mayAmend 24 = .ok (.iadd, 1) := by decide +kernel
theorem dX10_mayAmend_25 : decode cX10_mayAmend 25 = .ok (.aload_n 0, 1) := by decide +kernel
theorem dX10_mayAmend_26 : decode cX10_mayAmend 26 = .ok (.getfield 299, 3) := by decide +kernel
theorem dX10_mayAmend_29 : decode cX10_mayAmend 29 = .ok (.if_icmp .ge 7, 3) := by decide +kernel
theorem dX10_mayAmend_32 : decode cX10_mayAmend 32 = .ok (.iconst 1, 1) := by decide +kernel
theorem dX10_mayAmend_33 : decode cX10_mayAmend 33 = .ok (.goto 27, 3) := by decide +kernel
theorem dX10_mayAmend_36 : decode cX10_mayAmend 36 = .ok (.iconst 0, 1) := by decide +kernel
theorem dX10_mayAmend_37 : decode cX10_mayAmend 37 = .ok (.goto 23, 3) := by decide +kernel
theorem dX10_mayAmend_40 : decode cX10_mayAmend 40 = .ok (.iload_n 1, 1) := by decide +kernel
theorem dX10_mayAmend_41 : decode cX10_mayAmend 41 = .ok (.iconst 4, 1) := by decide +kernel
theorem dX10_mayAmend_42 : decode cX10_mayAmend 42 = .ok (.irem, 1) := by decide +kernel
theorem dX10_mayAmend_43 : decode cX10_mayAmend 43 = .ok (.ifCond .ne 12, 3) := by decide +kernel
theorem dX10_mayAmend_46 : decode cX10_mayAmend 46 = .ok (.aload_n 0, 1) := by decide +kernel
theorem dX10_mayAmend_47 : decode cX10_mayAmend 47 = .ok (.getfield 299, 3) := by decide +kernel
theorem dX10_mayAmend_50 : decode cX10_mayAmend 50 = .ok (.bipush 40, 2) := by decide +kernel
theorem dX10_mayAmend_52 : decode cX10_mayAmend 52 = .ok (.if_icmp .ge 7, 3) := by decide +kernel
theorem dX10_mayAmend_55 : decode cX10_mayAmend 55 = .ok (.iconst 1, 1) := by decide +kernel
theorem dX10_mayAmend_56 : decode cX10_mayAmend 56 = .ok (.goto 4, 3) := by decide +kernel
theorem dX10_mayAmend_59 : decode cX10_mayAmend 59 = .ok (.iconst 0, 1) := by decide +kernel
theorem dX10_mayAmend_60 : decode cX10_mayAmend 60 = .ok (.ireturn, 1) := by decide +kernel
theorem dX10_does_0 : decode cX10_does 0 = .ok (.aload_n 0, 1) := by decide +kernel
theorem dX10_does_1 : decode cX10_does 1 = .ok (.getfield 52, 3) := by decide +kernel
theorem dX10_does_4 : decode cX10_does 4 = .ok (.iload_n 1, 1) := by decide +kernel
theorem dX10_does_5 : decode cX10_does 5 = .ok (.iaload, 1) := by decide +kernel
theorem dX10_does_6 : decode cX10_does 6 = .ok (.istore_n 2, 1) := by decide +kernel
theorem dX10_does_7 : decode cX10_does 7 = .ok (.aload_n 0, 1) := by decide +kernel
theorem dX10_does_8 : decode cX10_does 8 = .ok (.getfield 49, 3) := by decide +kernel
theorem dX10_does_11 : decode cX10_does 11 = .ok (.iload_n 1, 1) := by decide +kernel
theorem dX10_does_12 : decode cX10_does 12 = .ok (.iaload, 1) := by decide +kernel
theorem dX10_does_13 : decode cX10_does 13 = .ok (.tableswitch 332 0 8 #[51, 61, 88, 111, 188, 272, 285, 293, 308], 51) := by decide +kernel
theorem dX10_does_64 : decode cX10_does 64 = .ok (.aload_n 0, 1) := by decide +kernel
theorem dX10_does_65 : decode cX10_does 65 = .ok (.getfield 77, 3) := by decide +kernel
theorem dX10_does_68 : decode cX10_does 68 = .ok (.iload_n 2, 1) := by decide +kernel
theorem dX10_does_69 : decode cX10_does 69 = .ok (.iconst 1, 1) := by decide +kernel
theorem dX10_does_70 : decode cX10_does 70 = .ok (.bastore, 1) := by decide +kernel
theorem dX10_does_71 : decode cX10_does 71 = .ok (.goto 294, 3) := by decide +kernel
theorem dX10_does_74 : decode cX10_does 74 = .ok (.aload_n 0, 1) := by decide +kernel
theorem dX10_does_75 : decode cX10_does 75 = .ok (.getfield 77, 3) := by decide +kernel
theorem dX10_does_78 : decode cX10_does 78 = .ok (.iload_n 2, 1) := by decide +kernel
theorem dX10_does_79 : decode cX10_does 79 = .ok (.iconst 0, 1) := by decide +kernel
theorem dX10_does_80 : decode cX10_does 80 = .ok (.bastore, 1) := by decide +kernel
theorem dX10_does_81 : decode cX10_does 81 = .ok (.aload_n 0, 1) := by decide +kernel
theorem dX10_does_82 : decode cX10_does 82 = .ok (.iload_n 2, 1) := by decide +kernel
theorem dX10_does_83 : decode cX10_does 83 = .ok (.invokevirtual 336, 3) := by decide +kernel
theorem dX10_does_86 : decode cX10_does 86 = .ok (.aload_n 0, 1) := by decide +kernel
theorem dX10_does_87 : decode cX10_does 87 = .ok (.getfield 271, 3) := by decide +kernel
theorem dX10_does_90 : decode cX10_does 90 = .ok (.iload_n 2, 1) := by decide +kernel
theorem dX10_does_91 : decode cX10_does 91 = .ok (.if_icmp .ne 274, 3) := by decide +kernel
theorem dX10_does_94 : decode cX10_does 94 = .ok (.aload_n 0, 1) := by decide +kernel
theorem dX10_does_95 : decode cX10_does 95 = .ok (.invokevirtual 339, 3) := by decide +kernel
theorem dX10_does_98 : decode cX10_does 98 = .ok (.goto 267, 3) := by decide +kernel
theorem dX10_does_101 : decode cX10_does 101 = .ok (.aload_n 0, 1) := by decide +kernel
theorem dX10_does_102 : decode cX10_does 102 = .ok (.getfield 80, 3) := by decide +kernel
theorem dX10_does_105 : decode cX10_does 105 = .ok (.aload_n 0, 1) := by decide +kernel
theorem dX10_does_106 : decode cX10_does 106 = .ok (.getfield 268, 3) := by decide +kernel
theorem dX10_does_109 : decode cX10_does 109 = .ok (.iload_n 2, 1) := by decide +kernel
theorem dX10_does_110 : decode cX10_does 110 = .ok (.iastore, 1) := by decide +kernel
theorem dX10_does_111 : decode cX10_does 111 = .ok (.aload_n 0, 1) := by decide +kernel
theorem dX10_does_112 : decode cX10_does 112 = .ok (.dup, 1) := by decide +kernel
theorem dX10_does_113 : decode cX10_does 113 = .ok (.getfield 268, 3) := by decide +kernel
theorem dX10_does_116 : decode cX10_does 116 = .ok (.iconst 1, 1) := by decide +kernel
theorem dX10_does_117 : decode cX10_does 117 = .ok (.iadd, 1) := by decide +kernel
theorem dX10_does_118 : decode cX10_does 118 = .ok (.putfield 268, 3) := by decide +kernel
theorem dX10_does_121 : decode cX10_does 121 = .ok (.goto 244, 3) := by decide +kernel
theorem dX10_does_124 : decode cX10_does 124 = .ok (.aload_n 0, 1) := by decide +kernel
theorem dX10_does_125 : decode cX10_does 125 = .ok (.getfield 80, 3) := by decide +kernel
theorem dX10_does_128 : decode cX10_does 128 = .ok (.aload_n 0, 1) := by decide +kernel
theorem dX10_does_129 : decode cX10_does 129 = .ok (.aload_n 0, 1) := by decide +kernel
theorem dX10_does_130 : decode cX10_does 130 = .ok (.getfield 80, 3) := by decide +kernel
theorem dX10_does_133 : decode cX10_does 133 = .ok (.aload_n 0, 1) := by decide +kernel
theorem dX10_does_134 : decode cX10_does 134 = .ok (.getfield 268, 3) := by decide +kernel
theorem dX10_does_137 : decode cX10_does 137 = .ok (.aload_n 0, 1) := by decide +kernel
theorem dX10_does_138 : decode cX10_does 138 = .ok (.getfield 83, 3) := by decide +kernel
theorem dX10_does_141 : decode cX10_does 141 = .ok (.invokevirtual 342, 3) := by decide +kernel
theorem dX10_does_144 : decode cX10_does 144 = .ok (.iaload, 1) := by decide +kernel
theorem dX10_does_145 : decode cX10_does 145 = .ok (.istore_n 3, 1) := by decide +kernel
theorem dX10_does_146 : decode cX10_does 146 = .ok (.aload_n 0, 1) := by decide +kernel
theorem dX10_does_147 : decode cX10_does 147 = .ok (.iload_n 3, 1) := by decide +kernel
theorem dX10_does_148 : decode cX10_does 148 = .ok (.invokevirtual 336, 3) := by decide +kernel
theorem dX10_does_151 : decode cX10_does 151 = .ok (.aload_n 0, 1) := by decide +kernel
theorem dX10_does_152 : decode cX10_does 152 = .ok (.getfield 83, 3) := by decide +kernel
theorem dX10_does_155 : decode cX10_does 155 = .ok (.iload_n 3, 1) := by decide +kernel
theorem dX10_does_156 : decode cX10_does 156 = .ok (.dup2, 1) := by decide +kernel
theorem dX10_does_157 : decode cX10_does 157 = .ok (.iaload, 1) := by decide +kernel
theorem dX10_does_158 : decode cX10_does 158 = .ok (.iconst 1, 1) := by decide +kernel
theorem dX10_does_159 : decode cX10_does 159 = .ok (.iadd, 1) := by decide +kernel
theorem dX10_does_160 : decode cX10_does 160 = .ok (.iastore, 1) := by decide +kernel
theorem dX10_does_161 : decode cX10_does 161 = .ok (.aload_n 0, 1) := by decide +kernel
theorem dX10_does_162 : decode cX10_does 162 = .ok (.iload_n 3, 1) := by decide +kernel
theorem dX10_does_163 : decode cX10_does 163 = .ok (.putfield 271, 3) := by decide +kernel
theorem dX10_does_166 : decode cX10_does 166 = .ok (.aload_n 0, 1) := by decide +kernel
theorem dX10_does_167 : decode cX10_does 167 = .ok (.aload_n 0, 1) := by decide +kernel
theorem dX10_does_168 : decode cX10_does 168 = .ok (.getfield 277, 3) := by decide +kernel
theorem dX10_does_171 : decode cX10_does 171 = .ok (.putfield 274, 3) := by decide +kernel
theorem dX10_does_174 : decode cX10_does 174 = .ok (.aload_n 0, 1) := by decide +kernel
theorem dX10_does_175 : decode cX10_does 175 = .ok (.iconst 0, 1) := by decide +kernel
theorem dX10_does_176 : decode cX10_does 176 = .ok (.putfield 286, 3) := by decide +kernel
theorem dX10_does_179 : decode cX10_does 179 = .ok (.aload_n 0, 1) := by decide +kernel
theorem dX10_does_180 : decode cX10_does 180 = .ok (.getfield 293, 3) := by decide +kernel
theorem dX10_does_183 : decode cX10_does 183 = .ok (.ifCond .le 182, 3) := by decide +kernel
theorem dX10_does_186 : decode cX10_does 186 = .ok (.aload_n 0, 1) := by decide +kernel
theorem dX10_does_187 : decode cX10_does 187 = .ok (.getfield 104, 3) := by decide +kernel
theorem dX10_does_190 : decode cX10_does 190 = .ok (.aload_n 0, 1) := by decide +kernel
theorem dX10_does_191 : decode cX10_does 191 = .ok (.getfield 293, 3) := by decide +kernel
theorem dX10_does_194 : decode cX10_does 194 = .ok (.iconst 1, 1) := by decide +kernel
theorem dX10_does_195 : decode cX10_does 195 = .ok (.isub, 1) := by decide +kernel
theorem dX10_does_196 : decode cX10_does 196 = .ok (.iconst 1, 1) := by decide +kernel
theorem dX10_does_197 : decode cX10_does 197 = .ok (.bastore, 1) := by decide +kernel
theorem dX10_does_198 : decode cX10_does 198 = .ok (.goto 167, 3) := by decide +kernel
theorem dX10_does_201 : decode cX10_does 201 = .ok (.aload_n 0, 1) := by decide +kernel
theorem dX10_does_202 : decode cX10_does 202 = .ok (.dup, 1) := by decide +kernel
theorem dX10_does_203 : decode cX10_does 203 = .ok (.getfield 280, 3) := by decide +kernel
theorem dX10_does_206 : decode cX10_does 206 = .ok (.aload_n 0, 1) := by decide +kernel
theorem dX10_does_207 : decode cX10_does 207 = .ok (.getfield 58, 3) := by decide +kernel
theorem dX10_does_210 : decode cX10_does 210 = .ok (.iload_n 1, 1) := by decide +kernel
theorem dX10_does_211 : decode cX10_does 211 = .ok (.iaload, 1) := by decide +kernel
theorem dX10_does_212 : decode cX10_does 212 = .ok (.iadd, 1) := by decide +kernel
theorem dX10_does_213 : decode cX10_does 213 = .ok (.putfield 280, 3) := by decide +kernel
theorem dX10_does_216 : decode cX10_does 216 = .ok (.aload_n 0, 1) := by decide +kernel
theorem dX10_does_217 : decode cX10_does 217 = .ok (.getfield 271, 3) := by decide +kernel
theorem dX10_does_220 : decode cX10_does 220 = .ok (.iconst (-1), 1) := by decide +kernel
theorem dX10_does_221 : decode cX10_does 221 = .ok (.if_icmp .eq 29, 3) := by decide +kernel
theorem dX10_does_224 : decode cX10_does 224 = .ok (.aload_n 0, 1) := by decide +kernel
theorem dX10_does_225 : decode cX10_does 225 = .ok (.dup, 1) := by decide +kernel
theorem dX10_does_226 : decode cX10_does 226 = .ok (.getfield 274, 3) := by decide +kernel
theorem dX10_does_229 : decode cX10_does 229 = .ok (.aload_n 0, 1) := by decide +kernel
theorem dX10_does_230 : decode cX10_does 230 = .ok (.getfield 58, 3) := by decide +kernel
theorem dX10_does_233 : decode cX10_does 233 = .ok (.iload_n 1, 1) := by decide +kernel
theorem dX10_does_234 : decode cX10_does 234 = .ok (.iaload, 1) := by decide +kernel
theorem dX10_does_235 : decode cX10_does 235 = .ok (.isub, 1) := by decide +kernel
theorem dX10_does_236 : decode cX10_does 236 = .ok (.putfield 274, 3) := by decide +kernel
theorem dX10_does_239 : decode cX10_does 239 = .ok (.aload_n 0, 1) := by decide +kernel
theorem dX10_does_240 : decode cX10_does 240 = .ok (.getfield 274, 3) := by decide +kernel
theorem dX10_does_243 : decode cX10_does 243 = .ok (.ifCond .gt 7, 3) := by decide +kernel
theorem dX10_does_246 : decode cX10_does 246 = .ok (.aload_n 0, 1) := by decide +kernel
theorem dX10_does_247 : decode cX10_does 247 = .ok (.invokevirtual 339, 3) := by decide +kernel
theorem dX10_does_250 : decode cX10_does 250 = .ok (.aload_n 0, 1) := by decide +kernel
theorem dX10_does_251 : decode cX10_does 251 = .ok (.aload_n 0, 1) := by decide +kernel
theorem dX10_does_252 : decode cX10_does 252 = .ok (.getfield 283, 3) := by decide +kernel
theorem dX10_does_255 : decode cX10_does 255 = .ok (.aload_n 0, 1) := by decide +kernel
theorem dX10_does_256 : decode cX10_does 256 = .ok (.getfield 58, 3) := by decide +kernel
theorem dX10_does_259 : decode cX10_does 259 = .ok (.iload_n 1, 1) := by decide +kernel
theorem dX10_does_260 : decode cX10_does 260 = .ok (.iaload, 1) := by decide +kernel
theorem dX10_does_261 : decode cX10_does 261 = .ok (.if_icmp .le 17, 3) := by decide +kernel
theorem dX10_does_264 : decode cX10_does 264 = .ok (.aload_n 0, 1) := by decide +kernel
theorem dX10_does_265 : decode cX10_does 265 = .ok (.getfield 283, 3) := by decide +kernel
theorem dX10_does_268 : decode cX10_does 268 = .ok (.aload_n 0, 1) := by decide +kernel
theorem dX10_does_269 : decode cX10_does 269 = .ok (.getfield 58, 3) := by decide +kernel
theorem dX10_does_272 : decode cX10_does 272 = .ok (.iload_n 1, 1) := by decide +kernel
theorem dX10_does_273 : decode cX10_does 273 = .ok (.iaload, 1) := by decide +kernel
theorem dX10_does_274 : decode cX10_does 274 = .ok (.isub, 1) := by decide +kernel
theorem dX10_does_275 : decode cX10_does 275 = .ok (.goto 4, 3) := by decide +kernel
theorem dX10_does_278 : decode cX10_does 278 = .ok (.iconst 0, 1) := by decide +kernel
theorem dX10_does_279 : decode cX10_does 279 = .ok (.putfield 283, 3) := by decide +kernel
theorem dX10_does_282 : decode cX10_does 282 = .ok (.goto 83, 3) := by decide +kernel
theorem dX10_does_285 : decode cX10_does 285 = .ok (.aload_n 0, 1) := by decide +kernel
theorem dX10_does_286 : decode cX10_does 286 = .ok (.iload_n 2, 1) := by decide +kernel
theorem dX10_does_287 : decode cX10_does 287 = .ok (.putfield 271, 3) := by decide +kernel
theorem dX10_does_290 : decode cX10_does 290 = .ok (.aload_n 0, 1) := by decide +kernel
theorem dX10_does_291 : decode cX10_does 291 = .ok (.iconst 1, 1) := by decide +kernel
theorem dX10_does_292 : decode cX10_does 292 = .ok (.putfield 286, 3) := by decide +kernel
theorem dX10_does_295 : decode cX10_does 295 = .ok (.goto 70, 3) := by decide +kernel
theorem dX10_does_298 : decode cX10_does 298 = .ok (.aload_n 0, 1) := by decide +kernel
theorem dX10_does_299 : decode cX10_does 299 = .ok (.iload_n 1, 1) := by decide +kernel
theorem dX10_does_300 : decode cX10_does 300 = .ok (.invokevirtual 346, 3) := by decide +kernel
theorem dX10_does_303 : decode cX10_does 303 = .ok (.goto 62, 3) := by decide +kernel
theorem dX10_does_306 : decode cX10_does 306 = .ok (.aload_n 0, 1) := by decide +kernel
theorem dX10_does_307 : decode cX10_does 307 = .ok (.getfield 101, 3) := by decide +kernel
theorem dX10_does_310 : decode cX10_does 310 = .ok (.aload_n 0, 1) := by decide +kernel
theorem dX10_does_311 : decode cX10_does 311 = .ok (.getfield 293, 3) := by decide +kernel
theorem dX10_does_314 : decode cX10_does 314 = .ok (.iconst 1, 1) := by decide +kernel
theorem dX10_does_315 : decode cX10_does 315 = .ok (.isub, 1) := by decide +kernel
theorem dX10_does_316 : decode cX10_does 316 = .ok (.iconst 1, 1) := by decide +kernel
theorem dX10_does_317 : decode cX10_does 317 = .ok (.bastore, 1) := by decide +kernel
theorem dX10_does_318 : decode cX10_does 318 = .ok (.goto 47, 3) := by decide +kernel
theorem dX10_does_321 : decode cX10_does 321 = .ok (.aload_n 0, 1) := by decide +kernel
theorem dX10_does_322 : decode cX10_does 322 = .ok (.iload_n 1, 1) := by decide +kernel
theorem dX10_does_323 : decode cX10_does 323 = .ok (.aload_n 0, 1) := by decide +kernel
theorem dX10_does_324 : decode cX10_does 324 = .ok (.aload_n 0, 1) := by decide +kernel
theorem dX10_does_325 : decode cX10_does 325 = .ok (.getfield 58, 3) := by decide +kernel
theorem dX10_does_328 : decode cX10_does 328 = .ok (.iload_n 1, 1) := by decide +kernel
theorem dX10_does_329 : decode cX10_does 329 = .ok (.iaload, 1) := by decide +kernel
theorem dX10_does_330 : decode cX10_does 330 = .ok (.aload_n 0, 1) := by decide +kernel
theorem dX10_does_331 : decode cX10_does 331 = .ok (.getfield 61, 3) := by decide +kernel
theorem dX10_does_334 : decode cX10_does 334 = .ok (.iload_n 1, 1) := by decide +kernel
theorem dX10_does_335 : decode cX10_does 335 = .ok (.iaload, 1) := by decide +kernel
theorem dX10_does_336 : decode cX10_does 336 = .ok (.invokevirtual 349, 3) := by decide +kernel
theorem dX10_does_339 : decode cX10_does 339 = .ok (.invokevirtual 352, 3) := by decide +kernel
theorem dX10_does_342 : decode cX10_does 342 = .ok (.goto 23, 3) := by decide +kernel
theorem dX10_does_345 : decode cX10_does 345 = .ok (.aload_n 0, 1) := by decide +kernel
theorem dX10_does_346 : decode cX10_does 346 = .ok (.iload_n 1, 1) := by decide +kernel
theorem dX10_does_347 : decode cX10_does 347 = .ok (.aload_n 0, 1) := by decide +kernel
theorem dX10_does_348 : decode cX10_does 348 = .ok (.getfield 58, 3) := by decide +kernel
theorem dX10_does_351 : decode cX10_does 351 = .ok (.iload_n 1, 1) := by decide +kernel
theorem dX10_does_352 : decode cX10_does 352 = .ok (.iaload, 1) := by decide +kernel
theorem dX10_does_353 : decode cX10_does 353 = .ok (.iconst 1, 1) := by decide +kernel
theorem dX10_does_354 : decode cX10_does 354 = .ok (.if_icmp .ne 7, 3) := by decide +kernel
theorem dX10_does_357 : decode cX10_does 357 = .ok (.iconst 1, 1) := by decide +kernel
theorem dX10_does_358 : decode cX10_does 358 = .ok (.goto 4, 3) := by decide +kernel
theorem dX10_does_361 : decode cX10_does 361 = .ok (.iconst 0, 1) := by decide +kernel
theorem dX10_does_362 : decode cX10_does 362 = .ok (.invokevirtual 352, 3) := by decide +kernel
theorem dX10_does_365 : decode cX10_does 365 = .ok (.return_, 1) := by decide +kernel
theorem dX10_moves_0 : decode cX10_moves 0 = .ok (.aload_n 0, 1) := by decide +kernel
theorem dX10_moves_1 : decode cX10_moves 1 = .ok (.getfield 293, 3) := by decide +kernel
theorem dX10_moves_4 : decode cX10_moves 4 = .ok (.istore_n 2, 1) := by decide +kernel
theorem dX10_moves_5 : decode cX10_moves 5 = .ok (.aload_n 0, 1) := by decide +kernel
theorem dX10_moves_6 : decode cX10_moves 6 = .ok (.getfield 86, 3) := by decide +kernel
theorem dX10_moves_9 : decode cX10_moves 9 = .ok (.iload_n 2, 1) := by decide +kernel
theorem dX10_moves_10 : decode cX10_moves 10 = .ok (.aload_n 0, 1) := by decide +kernel
theorem dX10_moves_11 : decode cX10_moves 11 = .ok (.getfield 55, 3) := by decide +kernel
theorem dX10_moves_14 : decode cX10_moves 14 = .ok (.iload_n 1, 1) := by decide +kernel
theorem dX10_moves_15 : decode cX10_moves 15 = .ok (.iaload, 1) := by decide +kernel
theorem dX10_moves_16 : decode cX10_moves 16 = .ok (.iastore, 1) := by decide +kernel
theorem dX10_moves_17 : decode cX10_moves 17 = .ok (.aload_n 0, 1) := by decide +kernel
theorem dX10_moves_18 : decode cX10_moves 18 = .ok (.getfield 89, 3) := by decide +kernel
theorem dX10_moves_21 : decode cX10_moves 21 = .ok (.iload_n 2, 1) := by decide +kernel
theorem dX10_moves_22 : decode cX10_moves 22 = .ok (.aload_n 0, 1) := by decide +kernel
theorem dX10_moves_23 : decode cX10_moves 23 = .ok (.getfield 52, 3) := by decide +kernel
theorem dX10_moves_26 : decode cX10_moves 26 = .ok (.iload_n 1, 1) := by decide +kernel
theorem dX10_moves_27 : decode cX10_moves 27 = .ok (.iaload, 1) := by decide +kernel
theorem dX10_moves_28 : decode cX10_moves 28 = .ok (.iastore, 1) := by decide +kernel
theorem dX10_moves_29 : decode cX10_moves 29 = .ok (.aload_n 0, 1) := by decide +kernel
theorem dX10_moves_30 : decode cX10_moves 30 = .ok (.getfield 92, 3) := by decide +kernel
theorem dX10_moves_33 : decode cX10_moves 33 = .ok (.iload_n 2, 1) := by decide +kernel
theorem dX10_moves_34 : decode cX10_moves 34 = .ok (.aload_n 0, 1) := by decide +kernel
theorem dX10_moves_35 : decode cX10_moves 35 = .ok (.getfield 58, 3) := by decide +kernel
theorem dX10_moves_38 : decode cX10_moves 38 = .ok (.iload_n 1, 1) := by decide +kernel
theorem dX10_moves_39 : decode cX10_moves 39 = .ok (.iaload, 1) := by decide +kernel
theorem dX10_moves_40 : decode cX10_moves 40 = .ok (.iastore, 1) := by decide +kernel
theorem dX10_moves_41 : decode cX10_moves 41 = .ok (.aload_n 0, 1) := by decide +kernel
theorem dX10_moves_42 : decode cX10_moves 42 = .ok (.getfield 95, 3) := by decide +kernel
theorem dX10_moves_45 : decode cX10_moves 45 = .ok (.iload_n 2, 1) := by decide +kernel
theorem dX10_moves_46 : decode cX10_moves 46 = .ok (.aload_n 0, 1) := by decide +kernel
theorem dX10_moves_47 : decode cX10_moves 47 = .ok (.getfield 61, 3) := by decide +kernel
theorem dX10_moves_50 : decode cX10_moves 50 = .ok (.iload_n 1, 1) := by decide +kernel
theorem dX10_moves_51 : decode cX10_moves 51 = .ok (.iaload, 1) := by decide +kernel
theorem dX10_moves_52 : decode cX10_moves 52 = .ok (.iastore, 1) := by decide +kernel
theorem dX10_moves_53 : decode cX10_moves 53 = .ok (.aload_n 0, 1) := by decide +kernel
theorem dX10_moves_54 : decode cX10_moves 54 = .ok (.getfield 101, 3) := by decide +kernel
theorem dX10_moves_57 : decode cX10_moves 57 = .ok (.iload_n 2, 1) := by decide +kernel
theorem dX10_moves_58 : decode cX10_moves 58 = .ok (.aload_n 0, 1) := by decide +kernel
theorem dX10_moves_59 : decode cX10_moves 59 = .ok (.getfield 27, 3) := by decide +kernel
theorem dX10_moves_62 : decode cX10_moves 62 = .ok (.iconst 0, 1) := by decide +kernel
theorem dX10_moves_63 : decode cX10_moves 63 = .ok (.aaload, 1) := by decide +kernel
theorem dX10_moves_64 : decode cX10_moves 64 = .ok (.aload_n 0, 1) := by decide +kernel
theorem dX10_moves_65 : decode cX10_moves 65 = .ok (.getfield 55, 3) := by decide +kernel
theorem dX10_moves_68 : decode cX10_moves 68 = .ok (.iload_n 1, 1) := by decide +kernel
theorem dX10_moves_69 : decode cX10_moves 69 = .ok (.iaload, 1) := by decide +kernel
theorem dX10_moves_70 : decode cX10_moves 70 = .ok (.baload, 1) := by decide +kernel
theorem dX10_moves_71 : decode cX10_moves 71 = .ok (.ifCond .ne 7, 3) := by decide +kernel
theorem dX10_moves_74 : decode cX10_moves 74 = .ok (.iconst 1, 1) := by decide +kernel
theorem dX10_moves_75 : decode cX10_moves 75 = .ok (.goto 4, 3) := by decide +kernel
theorem dX10_moves_78 : decode cX10_moves 78 = .ok (.iconst 0, 1) := by decide +kernel
theorem dX10_moves_79 : decode cX10_moves 79 = .ok (.bastore, 1) := by decide +kernel
theorem dX10_moves_80 : decode cX10_moves 80 = .ok (.aload_n 0, 1) := by decide +kernel
theorem dX10_moves_81 : decode cX10_moves 81 = .ok (.getfield 104, 3) := by decide +kernel
theorem dX10_moves_84 : decode cX10_moves 84 = .ok (.iload_n 2, 1) := by decide +kernel
theorem dX10_moves_85 : decode cX10_moves 85 = .ok (.aload_n 0, 1) := by decide +kernel
theorem dX10_moves_86 : decode cX10_moves 86 = .ok (.getfield 30, 3) := by decide +kernel
theorem dX10_moves_89 : decode cX10_moves 89 = .ok (.iconst 0, 1) := by decide +kernel
theorem dX10_moves_90 : decode cX10_moves 90 = .ok (.aaload, 1) := by decide +kernel
theorem dX10_moves_91 : decode cX10_moves 91 = .ok (.aload_n 0, 1) := by decide +kernel
theorem dX10_moves_92 : decode cX10_moves 92 = .ok (.getfield 55, 3) := by decide +kernel
theorem dX10_moves_95 : decode cX10_moves 95 = .ok (.iload_n 1, 1) := by decide +kernel
theorem dX10_moves_96 : decode cX10_moves 96 = .ok (.iaload, 1) := by decide +kernel
theorem dX10_moves_97 : decode cX10_moves 97 = .ok (.baload, 1) := by decide +kernel
theorem dX10_moves_98 : decode cX10_moves 98 = .ok (.ifCond .ne 7, 3) := by decide +kernel
theorem dX10_moves_101 : decode cX10_moves 101 = .ok (.iconst 1, 1) := by decide +kernel
theorem dX10_moves_102 : decode cX10_moves 102 = .ok (.goto 4, 3) := by decide +kernel
theorem dX10_moves_105 : decode cX10_moves 105 = .ok (.iconst 0, 1) := by decide +kernel
theorem dX10_moves_106 : decode cX10_moves 106 = .ok (.bastore, 1) := by decide +kernel
theorem dX10_moves_107 : decode cX10_moves 107 = .ok (.aload_n 0, 1) := by decide +kernel
theorem dX10_moves_108 : decode cX10_moves 108 = .ok (.getfield 98, 3) := by decide +kernel
theorem dX10_moves_111 : decode cX10_moves 111 = .ok (.iload_n 2, 1) := by decide +kernel
theorem dX10_moves_112 : decode cX10_moves 112 = .ok (.aload_n 0, 1) := by decide +kernel
theorem dX10_moves_113 : decode cX10_moves 113 = .ok (.getfield 55, 3) := by decide +kernel
theorem dX10_moves_116 : decode cX10_moves 116 = .ok (.iload_n 1, 1) := by decide +kernel
theorem dX10_moves_117 : decode cX10_moves 117 = .ok (.iaload, 1) := by decide +kernel
theorem dX10_moves_118 : decode cX10_moves 118 = .ok (.bipush 7, 2) := by decide +kernel
theorem dX10_moves_120 : decode cX10_moves 120 = .ok (.if_icmp .ne 11, 3) := by decide +kernel
theorem dX10_moves_123 : decode cX10_moves 123 = .ok (.aload_n 0, 1) := by decide +kernel
theorem dX10_moves_124 : decode cX10_moves 124 = .ok (.iload_n 1, 1) := by decide +kernel
theorem dX10_moves_125 : decode cX10_moves 125 = .ok (.invokevirtual 326, 3) := by decide +kernel
theorem dX10_moves_128 : decode cX10_moves 128 = .ok (.goto 4, 3) := by decide +kernel
theorem dX10_moves_131 : decode cX10_moves 131 = .ok (.iconst (-1), 1) := by decide +kernel
theorem dX10_moves_132 : decode cX10_moves 132 = .ok (.iastore, 1) := by decide +kernel
theorem dX10_moves_133 : decode cX10_moves 133 = .ok (.aload_n 0, 1) := by decide +kernel
theorem dX10_moves_134 : decode cX10_moves 134 = .ok (.dup, 1) := by decide +kernel
theorem dX10_moves_135 : decode cX10_moves 135 = .ok (.getfield 293, 3) := by decide +kernel
theorem dX10_moves_138 : decode cX10_moves 138 = .ok (.iconst 1, 1) := by decide +kernel
theorem dX10_moves_139 : decode cX10_moves 139 = .ok (.iadd, 1) := by decide +kernel
theorem dX10_moves_140 : decode cX10_moves 140 = .ok (.putfield 293, 3) := by decide +kernel
theorem dX10_moves_143 : decode cX10_moves 143 = .ok (.return_, 1) := by decide +kernel
theorem dX10_many_0 : decode cX10_many 0 = .ok (.iconst 0, 1) := by decide +kernel
theorem dX10_many_1 : decode cX10_many 1 = .ok (.istore_n 1, 1) := by decide +kernel
theorem dX10_many_2 : decode cX10_many 2 = .ok (.iconst 0, 1) := by decide +kernel
theorem dX10_many_3 : decode cX10_many 3 = .ok (.istore_n 2, 1) := by decide +kernel
theorem dX10_many_4 : decode cX10_many 4 = .ok (.iload_n 2, 1) := by decide +kernel
theorem dX10_many_5 : decode cX10_many 5 = .ok (.bipush 24, 2) := by decide +kernel
theorem dX10_many_7 : decode cX10_many 7 = .ok (.if_icmp .ge 17, 3) := by decide +kernel
theorem dX10_many_10 : decode cX10_many 10 = .ok (.iload_n 1, 1) := by decide +kernel
theorem dX10_many_11 : decode cX10_many 11 = .ok (.iload_n 0, 1) := by decide +kernel
theorem dX10_many_12 : decode cX10_many 12 = .ok (.iload_n 2, 1) := by decide +kernel
theorem dX10_many_13 : decode cX10_many 13 = .ok (.ishr, 1) := by decide +kernel
theorem dX10_many_14 : decode cX10_many 14 = .ok (.iconst 1, 1) := by decide +kernel
theorem dX10_many_15 : decode cX10_many 15 = .ok (.iand, 1) := by decide +kernel
theorem dX10_many_16 : decode cX10_many 16 = .ok (.iadd, 1) := by decide +kernel
theorem dX10_many_17 : decode cX10_many 17 = .ok (.istore_n 1, 1) := by decide +kernel
theorem dX10_many_18 : decode cX10_many 18 = .ok (.iinc 2 1, 3) := by decide +kernel
theorem dX10_many_21 : decode cX10_many 21 = .ok (.goto (-17), 3) := by decide +kernel
theorem dX10_many_24 : decode cX10_many 24 = .ok (.iload_n 1, 1) := by decide +kernel
theorem dX10_many_25 : decode cX10_many 25 = .ok (.ireturn, 1) := by decide +kernel
theorem dX10_isPassing_0 : decode cX10_isPassing 0 = .ok (.iload_n 1, 1) := by decide +kernel
theorem dX10_isPassing_1 : decode cX10_isPassing 1 = .ok (.invokestatic 356, 3) := by decide +kernel
theorem dX10_isPassing_4 : decode cX10_isPassing 4 = .ok (.istore_n 3, 1) := by decide +kernel
theorem dX10_isPassing_5 : decode cX10_isPassing 5 = .ok (.iload_n 3, 1) := by decide +kernel
theorem dX10_isPassing_6 : decode cX10_isPassing 6 = .ok (.iload_n 2, 1) := by decide +kernel
theorem dX10_isPassing_7 : decode cX10_isPassing 7 = .ok (.invokestatic 356, 3) := by decide +kernel
theorem dX10_isPassing_10 : decode cX10_isPassing 10 = .ok (.iadd, 1) := by decide +kernel
theorem dX10_isPassing_11 : decode cX10_isPassing 11 = .ok (.istore 4, 2) := by decide +kernel
theorem dX10_isPassing_13 : decode cX10_isPassing 13 = .ok (.aload_n 0, 1) := by decide +kernel
theorem dX10_isPassing_14 : decode cX10_isPassing 14 = .ok (.getfield 22, 3) := by decide +kernel
theorem dX10_isPassing_17 : decode cX10_isPassing 17 = .ok (.iconst 0, 1) := by decide +kernel
theorem dX10_isPassing_18 : decode cX10_isPassing 18 = .ok (.aaload, 1) := by decide +kernel
