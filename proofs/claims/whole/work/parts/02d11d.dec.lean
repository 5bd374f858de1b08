theorem dX10_isPassing_19 : decode cX10_isPassing 19 = .ok (.aload_n 0, 1) := by decide +kernel
theorem dX10_isPassing_20 : decode cX10_isPassing 20 = .ok (.getfield 86, 3) := by decide +kernel
theorem dX10_isPassing_23 : decode cX10_isPassing 23 = .ok (.aload_n 0, 1) := by decide +kernel
theorem dX10_isPassing_24 : decode cX10_isPassing 24 = .ok (.getfield 293, 3) := by decide +kernel
theorem dX10_isPassing_27 : decode cX10_isPassing 27 = .ok (.iconst 1, 1) := by decide +kernel
theorem dX10_isPassing_28 : decode cX10_isPassing 28 = .ok (.isub, 1) := by decide +kernel
theorem dX10_isPassing_29 : decode cX10_isPassing 29 = .ok (.iaload, 1) := by decide +kernel
theorem dX10_isPassing_30 : decode cX10_isPassing 30 = .ok (.iaload, 1) := by decide +kernel
theorem dX10_isPassing_31 : decode cX10_isPassing 31 = .ok (.istore 5, 2) := by decide +kernel
theorem dX10_isPassing_33 : decode cX10_isPassing 33 = .ok (.iload 5, 2) := by decide +kernel
theorem dX10_isPassing_35 : decode cX10_isPassing 35 = .ok (.ifCond .ne 19, 3) := by decide +kernel
theorem dX10_isPassing_38 : decode cX10_isPassing 38 = .ok (.iconst 2, 1) := by decide +kernel
theorem dX10_isPassing_39 : decode cX10_isPassing 39 = .ok (.iload_n 3, 1) := by decide +kernel
theorem dX10_isPassing_40 : decode cX10_isPassing 40 = .ok (.imul, 1) := by decide +kernel
theorem dX10_isPassing_41 : decode cX10_isPassing 41 = .ok (.iload 4, 2) := by decide +kernel
theorem dX10_isPassing_43 : decode cX10_isPassing 43 = .ok (.if_icmp .le 7, 3) := by decide +kernel
theorem dX10_isPassing_46 : decode cX10_isPassing 46 = .ok (.iconst 1, 1) := by decide +kernel
theorem dX10_isPassing_47 : decode cX10_isPassing 47 = .ok (.goto 48, 3) := by decide +kernel
theorem dX10_isPassing_50 : decode cX10_isPassing 50 = .ok (.iconst 0, 1) := by decide +kernel
theorem dX10_isPassing_51 : decode cX10_isPassing 51 = .ok (.goto 44, 3) := by decide +kernel
theorem dX10_isPassing_54 : decode cX10_isPassing 54 = .ok (.iload 5, 2) := by decide +kernel
theorem dX10_isPassing_56 : decode cX10_isPassing 56 = .ok (.iconst 1, 1) := by decide +kernel
theorem dX10_isPassing_57 : decode cX10_isPassing 57 = .ok (.if_icmp .ne 25, 3) := by decide +kernel
theorem dX10_isPassing_60 : decode cX10_isPassing 60 = .ok (.iload_n 3, 1) := by decide +kernel
theorem dX10_isPassing_61 : decode cX10_isPassing 61 = .ok (.ifCond .le 17, 3) := by decide +kernel
theorem dX10_isPassing_64 : decode cX10_isPassing 64 = .ok (.iconst 3, 1) := by decide +kernel
theorem dX10_isPassing_65 : decode cX10_isPassing 65 = .ok (.iload_n 3, 1) := by decide +kernel
theorem dX10_isPassing_66 : decode cX10_isPassing 66 = .ok (.imul, 1) := by decide +kernel
theorem dX10_isPassing_67 : decode cX10_isPassing 67 = .ok (.iconst 2, 1) := by decide +kernel
theorem dX10_isPassing_68 : decode cX10_isPassing 68 = .ok (.iload 4, 2) := by decide +kernel
theorem dX10_isPassing_70 : decode cX10_isPassing 70 = .ok (.imul, 1) := by decide +kernel
theorem dX10_isPassing_71 : decode cX10_isPassing 71 = .ok (.if_icmp .lt 7, 3) := by decide +kernel
theorem dX10_isPassing_74 : decode cX10_isPassing 74 = .ok (.iconst 1, 1) := by decide +kernel
theorem dX10_isPassing_75 : decode cX10_isPassing 75 = .ok (.goto 20, 3) := by decide +kernel
theorem dX10_isPassing_78 : decode cX10_isPassing 78 = .ok (.iconst 0, 1) := by decide +kernel
theorem dX10_isPassing_79 : decode cX10_isPassing 79 = .ok (.goto 16, 3) := by decide +kernel
theorem dX10_isPassing_82 : decode cX10_isPassing 82 = .ok (.iconst 4, 1) := by decide +kernel
theorem dX10_isPassing_83 : decode cX10_isPassing 83 = .ok (.iload_n 3, 1) := by decide +kernel
theorem dX10_isPassing_84 : decode cX10_isPassing 84 = .ok (.imul, 1) := by decide +kernel
theorem dX10_isPassing_85 : decode cX10_isPassing 85 = .ok (.iload 4, 2) := by decide +kernel
theorem dX10_isPassing_87 : decode cX10_isPassing 87 = .ok (.if_icmp .le 7, 3) := by decide +kernel
theorem dX10_isPassing_90 : decode cX10_isPassing 90 = .ok (.iconst 1, 1) := by decide +kernel
theorem dX10_isPassing_91 : decode cX10_isPassing 91 = .ok (.goto 4, 3) := by decide +kernel
theorem dX10_isPassing_94 : decode cX10_isPassing 94 = .ok (.iconst 0, 1) := by decide +kernel
theorem dX10_isPassing_95 : decode cX10_isPassing 95 = .ok (.ireturn, 1) := by decide +kernel
theorem dX10_votes_0 : decode cX10_votes 0 = .ok (.aload_n 0, 1) := by decide +kernel
theorem dX10_votes_1 : decode cX10_votes 1 = .ok (.dup, 1) := by decide +kernel
theorem dX10_votes_2 : decode cX10_votes 2 = .ok (.getfield 293, 3) := by decide +kernel
theorem dX10_votes_5 : decode cX10_votes 5 = .ok (.iconst 1, 1) := by decide +kernel
theorem dX10_votes_6 : decode cX10_votes 6 = .ok (.isub, 1) := by decide +kernel
theorem dX10_votes_7 : decode cX10_votes 7 = .ok (.putfield 293, 3) := by decide +kernel
theorem dX10_votes_10 : decode cX10_votes 10 = .ok (.aload_n 0, 1) := by decide +kernel
theorem dX10_votes_11 : decode cX10_votes 11 = .ok (.getfield 293, 3) := by decide +kernel
theorem dX10_votes_14 : decode cX10_votes 14 = .ok (.istore_n 3, 1) := by decide +kernel
theorem dX10_votes_15 : decode cX10_votes 15 = .ok (.aload_n 0, 1) := by decide +kernel
theorem dX10_votes_16 : decode cX10_votes 16 = .ok (.getfield 67, 3) := by decide +kernel
theorem dX10_votes_19 : decode cX10_votes 19 = .ok (.aload_n 0, 1) := by decide +kernel
theorem dX10_votes_20 : decode cX10_votes 20 = .ok (.getfield 265, 3) := by decide +kernel
theorem dX10_votes_23 : decode cX10_votes 23 = .ok (.aaload, 1) := by decide +kernel
theorem dX10_votes_24 : decode cX10_votes 24 = .ok (.iload_n 1, 1) := by decide +kernel
theorem dX10_votes_25 : decode cX10_votes 25 = .ok (.iload_n 2, 1) := by decide +kernel
theorem dX10_votes_26 : decode cX10_votes 26 = .ok (.ifCond .eq 7, 3) := by decide +kernel
theorem dX10_votes_29 : decode cX10_votes 29 = .ok (.iconst 1, 1) := by decide +kernel
theorem dX10_votes_30 : decode cX10_votes 30 = .ok (.goto 4, 3) := by decide +kernel
theorem dX10_votes_33 : decode cX10_votes 33 = .ok (.iconst 0, 1) := by decide +kernel
theorem dX10_votes_34 : decode cX10_votes 34 = .ok (.iastore, 1) := by decide +kernel
theorem dX10_votes_35 : decode cX10_votes 35 = .ok (.aload_n 0, 1) := by decide +kernel
theorem dX10_votes_36 : decode cX10_votes 36 = .ok (.getfield 86, 3) := by decide +kernel
theorem dX10_votes_39 : decode cX10_votes 39 = .ok (.iload_n 3, 1) := by decide +kernel
theorem dX10_votes_40 : decode cX10_votes 40 = .ok (.iaload, 1) := by decide +kernel
theorem dX10_votes_41 : decode cX10_votes 41 = .ok (.bipush 7, 2) := by decide +kernel
theorem dX10_votes_43 : decode cX10_votes 43 = .ok (.if_icmp .ne 25, 3) := by decide +kernel
theorem dX10_votes_46 : decode cX10_votes 46 = .ok (.aload_n 0, 1) := by decide +kernel
theorem dX10_votes_47 : decode cX10_votes 47 = .ok (.getfield 98, 3) := by decide +kernel
theorem dX10_votes_50 : decode cX10_votes 50 = .ok (.iload_n 3, 1) := by decide +kernel
theorem dX10_votes_51 : decode cX10_votes 51 = .ok (.iaload, 1) := by decide +kernel
theorem dX10_votes_52 : decode cX10_votes 52 = .ok (.iconst (-1), 1) := by decide +kernel
theorem dX10_votes_53 : decode cX10_votes 53 = .ok (.if_icmp .eq 15, 3) := by decide +kernel
theorem dX10_votes_56 : decode cX10_votes 56 = .ok (.aload_n 0, 1) := by decide +kernel
theorem dX10_votes_57 : decode cX10_votes 57 = .ok (.getfield 107, 3) := by decide +kernel
theorem dX10_votes_60 : decode cX10_votes 60 = .ok (.aload_n 0, 1) := by decide +kernel
theorem dX10_votes_61 : decode cX10_votes 61 = .ok (.getfield 98, 3) := by decide +kernel
theorem dX10_votes_64 : decode cX10_votes 64 = .ok (.iload_n 3, 1) := by decide +kernel
theorem dX10_votes_65 : decode cX10_votes 65 = .ok (.iaload, 1) := by decide +kernel
theorem dX10_votes_66 : decode cX10_votes 66 = .ok (.iconst 1, 1) := by decide +kernel
theorem dX10_votes_67 : decode cX10_votes 67 = .ok (.bastore, 1) := by decide +kernel
theorem dX10_votes_68 : decode cX10_votes 68 = .ok (.iload_n 2, 1) := by decide +kernel
theorem dX10_votes_69 : decode cX10_votes 69 = .ok (.ifCond .ne 4, 3) := by decide +kernel
theorem dX10_votes_72 : decode cX10_votes 72 = .ok (.return_, 1) := by decide +kernel
theorem dX10_votes_73 : decode cX10_votes 73 = .ok (.aload_n 0, 1) := by decide +kernel
theorem dX10_votes_74 : decode cX10_votes 74 = .ok (.getfield 86, 3) := by decide +kernel
theorem dX10_votes_77 : decode cX10_votes 77 = .ok (.iload_n 3, 1) := by decide +kernel
theorem dX10_votes_78 : decode cX10_votes 78 = .ok (.iaload, 1) := by decide +kernel
theorem dX10_votes_79 : decode cX10_votes 79 = .ok (.tableswitch 217 0 6 #[41, 75, 94, 123, 152, 175, 204], 41) := by decide +kernel
theorem dX10_votes_120 : decode cX10_votes 120 = .ok (.aload_n 0, 1) := by decide +kernel
theorem dX10_votes_121 : decode cX10_votes 121 = .ok (.getfield 92, 3) := by decide +kernel
theorem dX10_votes_124 : decode cX10_votes 124 = .ok (.iload_n 3, 1) := by decide +kernel
theorem dX10_votes_125 : decode cX10_votes 125 = .ok (.iaload, 1) := by decide +kernel
theorem dX10_votes_126 : decode cX10_votes 126 = .ok (.iconst 1, 1) := by decide +kernel
theorem dX10_votes_127 : decode cX10_votes 127 = .ok (.bipush 20, 2) := by decide +kernel
theorem dX10_votes_129 : decode cX10_votes 129 = .ok (.invokestatic 184, 3) := by decide +kernel
theorem dX10_votes_132 : decode cX10_votes 132 = .ok (.ifCond .eq 191, 3) := by decide +kernel
theorem dX10_votes_135 : decode cX10_votes 135 = .ok (.aload_n 0, 1) := by decide +kernel
theorem dX10_votes_136 : decode cX10_votes 136 = .ok (.aload_n 0, 1) := by decide +kernel
theorem dX10_votes_137 : decode cX10_votes 137 = .ok (.getfield 92, 3) := by decide +kernel
theorem dX10_votes_140 : decode cX10_votes 140 = .ok (.iload_n 3, 1) := by decide +kernel
theorem dX10_votes_141 : decode cX10_votes 141 = .ok (.iaload, 1) := by decide +kernel
theorem dX10_votes_142 : decode cX10_votes 142 = .ok (.aload_n 0, 1) := by decide +kernel
theorem dX10_votes_143 : decode cX10_votes 143 = .ok (.getfield 95, 3) := by decide +kernel
theorem dX10_votes_146 : decode cX10_votes 146 = .ok (.iload_n 3, 1) := by decide +kernel
theorem dX10_votes_147 : decode cX10_votes 147 = .ok (.iaload, 1) := by decide +kernel
theorem dX10_votes_148 : decode cX10_votes 148 = .ok (.invokevirtual 359, 3) := by decide +kernel
theorem dX10_votes_151 : decode cX10_votes 151 = .ok (.goto 172, 3) := by decide +kernel
theorem dX10_votes_154 : decode cX10_votes 154 = .ok (.aload_n 0, 1) := by decide +kernel
theorem dX10_votes_155 : decode cX10_votes 155 = .ok (.aload_n 0, 1) := by decide +kernel
theorem dX10_votes_156 : decode cX10_votes 156 = .ok (.getfield 92, 3) := by decide +kernel
theorem dX10_votes_159 : decode cX10_votes 159 = .ok (.iload_n 3, 1) := by decide +kernel
theorem dX10_votes_160 : decode cX10_votes 160 = .ok (.iaload, 1) := by decide +kernel
theorem dX10_votes_161 : decode cX10_votes 161 = .ok (.aload_n 0, 1) := by decide +kernel
theorem dX10_votes_162 : decode cX10_votes 162 = .ok (.getfield 95, 3) := by decide +kernel
theorem dX10_votes_165 : decode cX10_votes 165 = .ok (.iload_n 3, 1) := by decide +kernel
theorem dX10_votes_166 : decode cX10_votes 166 = .ok (.iaload, 1) := by decide +kernel
theorem dX10_votes_167 : decode cX10_votes 167 = .ok (.invokevirtual 362, 3) := by decide +kernel
theorem dX10_votes_170 : decode cX10_votes 170 = .ok (.goto 153, 3) := by decide +kernel
theorem dX10_votes_173 : decode cX10_votes 173 = .ok (.iconst 0, 1) := by decide +kernel
theorem dX10_votes_174 : decode cX10_votes 174 = .ok (.istore 4, 2) := by decide +kernel
theorem dX10_votes_176 : decode cX10_votes 176 = .ok (.iload 4, 2) := by decide +kernel
theorem dX10_votes_178 : decode cX10_votes 178 = .ok (.aload_n 0, 1) := by decide +kernel
theorem dX10_votes_179 : decode cX10_votes 179 = .ok (.getfield 293, 3) := by decide +kernel
theorem dX10_votes_182 : decode cX10_votes 182 = .ok (.if_icmp .ge 17, 3) := by decide +kernel
theorem dX10_votes_185 : decode cX10_votes 185 = .ok (.aload_n 0, 1) := by decide +kernel
theorem dX10_votes_186 : decode cX10_votes 186 = .ok (.getfield 104, 3) := by decide +kernel
theorem dX10_votes_189 : decode cX10_votes 189 = .ok (.iload 4, 2) := by decide +kernel
theorem dX10_votes_191 : decode cX10_votes 191 = .ok (.iconst 1, 1) := by decide +kernel
theorem dX10_votes_192 : decode cX10_votes 192 = .ok (.bastore, 1) := by decide +kernel
theorem dX10_votes_193 : decode cX10_votes 193 = .ok (.iinc 4 1, 3) := by decide +kernel
theorem dX10_votes_196 : decode cX10_votes 196 = .ok (.goto (-20), 3) := by decide +kernel
theorem dX10_votes_199 : decode cX10_votes 199 = .ok (.goto 124, 3) := by decide +kernel
theorem dX10_votes_202 : decode cX10_votes 202 = .ok (.aload_n 0, 1) := by decide +kernel
theorem dX10_votes_203 : decode cX10_votes 203 = .ok (.aload_n 0, 1) := by decide +kernel
theorem dX10_votes_204 : decode cX10_votes 204 = .ok (.getfield 92, 3) := by decide +kernel
theorem dX10_votes_207 : decode cX10_votes 207 = .ok (.iload_n 3, 1) := by decide +kernel
theorem dX10_votes_208 : decode cX10_votes 208 = .ok (.iaload, 1) := by decide +kernel
theorem dX10_votes_209 : decode cX10_votes 209 = .ok (.ifCond .le 12, 3) := by decide +kernel
theorem dX10_votes_212 : decode cX10_votes 212 = .ok (.aload_n 0, 1) := by decide +kernel
theorem dX10_votes_213 : decode cX10_votes 213 = .ok (.getfield 92, 3) := by decide +kernel
theorem dX10_votes_216 : decode cX10_votes 216 = .ok (.iload_n 3, 1) := by decide +kernel
theorem dX10_votes_217 : decode cX10_votes 217 = .ok (.iaload, 1) := by decide +kernel
theorem dX10_votes_218 : decode cX10_votes 218 = .ok (.goto 7, 3) := by decide +kernel
theorem dX10_votes_221 : decode cX10_votes 221 = .ok (.aload_n 0, 1) := by decide +kernel
theorem dX10_votes_222 : decode cX10_votes 222 = .ok (.getfield 277, 3) := by decide +kernel
theorem dX10_votes_225 : decode cX10_votes 225 = .ok (.putfield 277, 3) := by decide +kernel
theorem dX10_votes_228 : decode cX10_votes 228 = .ok (.goto 95, 3) := by decide +kernel
theorem dX10_votes_231 : decode cX10_votes 231 = .ok (.aload_n 0, 1) := by decide +kernel
theorem dX10_votes_232 : decode cX10_votes 232 = .ok (.iconst 0, 1) := by decide +kernel
theorem dX10_votes_233 : decode cX10_votes 233 = .ok (.putfield 296, 3) := by decide +kernel
theorem dX10_votes_236 : decode cX10_votes 236 = .ok (.aload_n 0, 1) := by decide +kernel
theorem dX10_votes_237 : decode cX10_votes 237 = .ok (.iconst 0, 1) := by decide +kernel
theorem dX10_votes_238 : decode cX10_votes 238 = .ok (.putfield 299, 3) := by decide +kernel
theorem dX10_votes_241 : decode cX10_votes 241 = .ok (.aload_n 0, 1) := by decide +kernel
theorem dX10_votes_242 : decode cX10_votes 242 = .ok (.iconst 0, 1) := by decide +kernel
theorem dX10_votes_243 : decode cX10_votes 243 = .ok (.putfield 302, 3) := by decide +kernel
theorem dX10_votes_246 : decode cX10_votes 246 = .ok (.aload_n 0, 1) := by decide +kernel
theorem dX10_votes_247 : decode cX10_votes 247 = .ok (.iconst 0, 1) := by decide +kernel
theorem dX10_votes_248 : decode cX10_votes 248 = .ok (.putfield 293, 3) := by decide +kernel
theorem dX10_votes_251 : decode cX10_votes 251 = .ok (.goto 72, 3) := by decide +kernel
theorem dX10_votes_254 : decode cX10_votes 254 = .ok (.aload_n 0, 1) := by decide +kernel
theorem dX10_votes_255 : decode cX10_votes 255 = .ok (.aload_n 0, 1) := by decide +kernel
theorem dX10_votes_256 : decode cX10_votes 256 = .ok (.getfield 92, 3) := by decide +kernel
theorem dX10_votes_259 : decode cX10_votes 259 = .ok (.iload_n 3, 1) := by decide +kernel
theorem dX10_votes_260 : decode cX10_votes 260 = .ok (.iaload, 1) := by decide +kernel
theorem dX10_votes_261 : decode cX10_votes 261 = .ok (.ifCond .le 12, 3) := by decide +kernel
theorem dX10_votes_264 : decode cX10_votes 264 = .ok (.aload_n 0, 1) := by decide +kernel
theorem dX10_votes_265 : decode cX10_votes 265 = .ok (.getfield 92, 3) := by decide +kernel
theorem dX10_votes_268 : decode cX10_votes 268 = .ok (.iload_n 3, 1) := by decide +kernel
theorem dX10_votes_269 : decode cX10_votes 269 = .ok (.iaload, 1) := by decide +kernel
theorem dX10_votes_270 : decode cX10_votes 270 = .ok (.goto 7, 3) := by decide +kernel
theorem dX10_votes_273 : decode cX10_votes 273 = .ok (.aload_n 0, 1) := by decide +kernel
theorem dX10_votes_274 : decode cX10_votes 274 = .ok (.getfield 283, 3) := by decide +kernel
theorem dX10_votes_277 : decode cX10_votes 277 = .ok (.putfield 283, 3) := by decide +kernel
theorem dX10_votes_280 : decode cX10_votes 280 = .ok (.goto 43, 3) := by decide +kernel
theorem dX10_votes_283 : decode cX10_votes 283 = .ok (.aload_n 0, 1) := by decide +kernel
theorem dX10_votes_284 : decode cX10_votes 284 = .ok (.iconst 1, 1) := by decide +kernel
theorem dX10_votes_285 : decode cX10_votes 285 = .ok (.putfield 290, 3) := by decide +kernel
theorem dX10_votes_288 : decode cX10_votes 288 = .ok (.aload_n 0, 1) := by decide +kernel
theorem dX10_votes_289 : decode cX10_votes 289 = .ok (.iconst 0, 1) := by decide +kernel
theorem dX10_votes_290 : decode cX10_votes 290 = .ok (.putfield 293, 3) := by decide +kernel
theorem dX10_votes_293 : decode cX10_votes 293 = .ok (.goto 30, 3) := by decide +kernel
theorem dX10_votes_296 : decode cX10_votes 296 = .ok (.aload_n 0, 1) := by decide +kernel
theorem dX10_votes_297 : decode cX10_votes 297 = .ok (.getfield 98, 3) := by decide +kernel
theorem dX10_votes_300 : decode cX10_votes 300 = .ok (.iload_n 3, 1) := by decide +kernel
theorem dX10_votes_301 : decode cX10_votes 301 = .ok (.iaload, 1) := by decide +kernel
theorem dX10_votes_302 : decode cX10_votes 302 = .ok (.iconst (-1), 1) := by decide +kernel
theorem dX10_votes_303 : decode cX10_votes 303 = .ok (.if_icmp .eq 20, 3) := by decide +kernel
theorem dX10_votes_306 : decode cX10_votes 306 = .ok (.aload_n 0, 1) := by decide +kernel
theorem dX10_votes_307 : decode cX10_votes 307 = .ok (.getfield 70, 3) := by decide +kernel
theorem dX10_votes_310 : decode cX10_votes 310 = .ok (.aload_n 0, 1) := by decide +kernel
theorem dX10_votes_311 : decode cX10_votes 311 = .ok (.getfield 265, 3) := by decide +kernel
theorem dX10_votes_314 : decode cX10_votes 314 = .ok (.aaload, 1) := by decide +kernel
theorem dX10_votes_315 : decode cX10_votes 315 = .ok (.aload_n 0, 1) := by decide +kernel
theorem dX10_votes_316 : decode cX10_votes 316 = .ok (.getfield 98, 3) := by decide +kernel
theorem dX10_votes_319 : decode cX10_votes 319 = .ok (.iload_n 3, 1) := by decide +kernel
theorem dX10_votes_320 : decode cX10_votes 320 = .ok (.iaload, 1) := by decide +kernel
theorem dX10_votes_321 : decode cX10_votes 321 = .ok (.iconst 1, 1) := by decide +kernel
theorem dX10_votes_322 : decode cX10_votes 322 = .ok (.bastore, 1) := by decide +kernel
theorem dX10_votes_323 : decode cX10_votes 323 = .ok (.return_, 1) := by decide +kernel
theorem dX10_papers_0 : decode cX10_papers 0 = .ok (.aload_n 0, 1) := by decide +kernel
theorem dX10_papers_1 : decode cX10_papers 1 = .ok (.iconst 1, 1) := by decide +kernel
theorem dX10_papers_2 : decode cX10_papers 2 = .ok (.putfield 296, 3) := by decide +kernel
theorem dX10_papers_5 : decode cX10_papers 5 = .ok (.aload_n 0, 1) := by decide +kernel
theorem dX10_papers_6 : decode cX10_papers 6 = .ok (.iload_n 1, 1) := by decide +kernel
theorem dX10_papers_7 : decode cX10_papers 7 = .ok (.putfield 299, 3) := by decide +kernel
theorem dX10_papers_10 : decode cX10_papers 10 = .ok (.aload_n 0, 1) := by decide +kernel
theorem dX10_papers_11 : decode cX10_papers 11 = .ok (.aload_n 0, 1) := by decide +kernel
theorem dX10_papers_12 : decode cX10_papers 12 = .ok (.getfield 299, 3) := by decide +kernel
theorem dX10_papers_15 : decode cX10_papers 15 = .ok (.putfield 302, 3) := by decide +kernel
theorem dX10_papers_18 : decode cX10_papers 18 = .ok (.iconst 0, 1) := by decide +kernel
theorem dX10_papers_19 : decode cX10_papers 19 = .ok (.istore_n 3, 1) := by decide +kernel
theorem dX10_papers_20 : decode cX10_papers 20 = .ok (.iload_n 3, 1) := by decide +kernel
theorem dX10_papers_21 : decode cX10_papers 21 = .ok (.aload_n 0, 1) := by decide +kernel
theorem dX10_papers_22 : decode cX10_papers 22 = .ok (.getfield 299, 3) := by decide +kernel
theorem dX10_papers_25 : decode cX10_papers 25 = .ok (.if_icmp .ge 25, 3) := by decide +kernel
theorem dX10_papers_28 : decode cX10_papers 28 = .ok (.aload_n 0, 1) := by decide +kernel
theorem dX10_papers_29 : decode cX10_papers 29 = .ok (.getfield 110, 3) := by decide +kernel
theorem dX10_papers_32 : decode cX10_papers 32 = .ok (.iload_n 3, 1) := by decide +kernel
theorem dX10_papers_33 : decode cX10_papers 33 = .ok (.iload_n 3, 1) := by decide +kernel
theorem dX10_papers_34 : decode cX10_papers 34 = .ok (.iastore, 1) := by decide +kernel
theorem dX10_papers_35 : decode cX10_papers 35 = .ok (.aload_n 0, 1) := by decide +kernel
theorem dX10_papers_36 : decode cX10_papers 36 = .ok (.getfield 113, 3) := by decide +kernel
theorem dX10_papers_39 : decode cX10_papers 39 = .ok (.iload_n 3, 1) := by decide +kernel
theorem dX10_papers_40 : decode cX10_papers 40 = .ok (.iload_n 2, 1) := by decide +kernel
theorem dX10_papers_41 : decode cX10_papers 41 = .ok (.iload_n 3, 1) := by decide +kernel
theorem dX10_papers_42 : decode cX10_papers 42 = .ok (.iadd, 1) := by decide +kernel
theorem dX10_papers_43 : decode cX10_papers 43 = .ok (.iastore, 1) := by decide +kernel
theorem dX10_papers_44 : decode cX10_papers 44 = .ok (.iinc 3 1, 3) := by decide +kernel
theorem dX10_papers_47 : decode cX10_papers 47 = .ok (.goto (-27), 3) := by decide +kernel
theorem dX10_papers_50 : decode cX10_papers 50 = .ok (.return_, 1) := by decide +kernel
theorem dX10_goes_0 : decode cX10_goes 0 = .ok (.aload_n 0, 1) := by decide +kernel
theorem dX10_goes_1 : decode cX10_goes 1 = .ok (.getfield 110, 3) := by decide +kernel
theorem dX10_goes_4 : decode cX10_goes 4 = .ok (.iload_n 1, 1) := by decide +kernel
theorem dX10_goes_5 : decode cX10_goes 5 = .ok (.iaload, 1) := by decide +kernel
theorem dX10_goes_6 : decode cX10_goes 6 = .ok (.istore_n 2, 1) := by decide +kernel
theorem dX10_goes_7 : decode cX10_goes 7 = .ok (.aload_n 0, 1) := by decide +kernel
theorem dX10_goes_8 : decode cX10_goes 8 = .ok (.getfield 116, 3) := by decide +kernel
theorem dX10_goes_11 : decode cX10_goes 11 = .ok (.iload_n 2, 1) := by decide +kernel
theorem dX10_goes_12 : decode cX10_goes 12 = .ok (.iload_n 1, 1) := by decide +kernel
theorem dX10_goes_13 : decode cX10_goes 13 = .ok (.iastore, 1) := by decide +kernel
theorem dX10_goes_14 : decode cX10_goes 14 = .ok (.iconst 0, 1) := by decide +kernel
theorem dX10_goes_15 : decode cX10_goes 15 = .ok (.istore_n 3, 1) := by decide +kernel
theorem dX10_goes_16 : decode cX10_goes 16 = .ok (.iload_n 3, 1) := by decide +kernel
theorem dX10_goes_17 : decode cX10_goes 17 = .ok (.iload_n 1, 1) := by decide +kernel
theorem dX10_goes_18 : decode cX10_goes 18 = .ok (.if_icmp .ge 23, 3) := by decide +kernel
theorem dX10_goes_21 : decode cX10_goes 21 = .ok (.aload_n 0, 1) := by decide +kernel
theorem dX10_goes_22 : decode cX10_goes 22 = .ok (.getfield 119, 3) := by decide +kernel
theorem dX10_goes_25 : decode cX10_goes 25 = .ok (.iload_n 2, 1) := by decide +kernel
theorem dX10_goes_26 : decode cX10_goes 26 = .ok (.aaload, 1) := by decide +kernel
theorem dX10_goes_27 : decode cX10_goes 27 = .ok (.iload_n 3, 1) := by decide +kernel
theorem dX10_goes_28 : decode cX10_goes 28 = .ok (.aload_n 0, 1) := by decide +kernel
theorem dX10_goes_29 : decode cX10_goes 29 = .ok (.getfield 110, 3) := by decide +kernel
theorem dX10_goes_32 : decode cX10_goes 32 = .ok (.iload_n 3, 1) := by decide +kernel
theorem dX10_goes_33 : decode cX10_goes 33 = .ok (.iaload, 1) := by decide +kernel
theorem dX10_goes_34 : decode cX10_goes 34 = .ok (.iastore, 1) := by decide +kernel
theorem dX10_goes_35 : decode cX10_goes 35 = .ok (.iinc 3 1, 3) := by decide +kernel
theorem dX10_goes_38 : decode cX10_goes 38 = .ok (.goto (-22), 3) := by decide +kernel
theorem dX10_goes_41 : decode cX10_goes 41 = .ok (.aload_n 0, 1) := by decide +kernel
theorem dX10_goes_42 : decode cX10_goes 42 = .ok (.dup, 1) := by decide +kernel
theorem dX10_goes_43 : decode cX10_goes 43 = .ok (.getfield 299, 3) := by decide +kernel
theorem dX10_goes_46 : decode cX10_goes 46 = .ok (.iconst 1, 1) := by decide +kernel
theorem dX10_goes_47 : decode cX10_goes 47 = .ok (.isub, 1) := by decide +kernel
theorem dX10_goes_48 : decode cX10_goes 48 = .ok (.putfield 299, 3) := by decide +kernel
theorem dX10_goes_51 : decode cX10_goes 51 = .ok (.iload_n 1, 1) := by decide +kernel
theorem dX10_goes_52 : decode cX10_goes 52 = .ok (.istore_n 3, 1) := by decide +kernel
theorem dX10_goes_53 : decode cX10_goes 53 = .ok (.iload_n 3, 1) := by decide +kernel
theorem dX10_goes_54 : decode cX10_goes 54 = .ok (.aload_n 0, 1) := by decide +kernel
theorem dX10_goes_55 : decode cX10_goes 55 = .ok (.getfield 299, 3) := by decide +kernel
theorem dX10_goes_58 : decode cX10_goes 58 = .ok (.if_icmp .ge 37, 3) := by decide +kernel
theorem dX10_goes_61 : decode cX10_goes 61 = .ok (.aload_n 0, 1) := by decide +kernel
theorem dX10_goes_62 : decode cX10_goes 62 = .ok (.getfield 110, 3) := by decide +kernel
theorem dX10_goes_65 : decode cX10_goes 65 = .ok (.iload_n 3, 1) := by decide +kernel
theorem dX10_goes_66 : decode cX10_goes 66 = .ok (.aload_n 0, 1) := by decide +kernel
theorem dX10_goes_67 : decode cX10_goes 67 = .ok (.getfield 110, 3) := by decide +kernel
theorem dX10_goes_70 : decode cX10_goes 70 = .ok (.iload_n 3, 1) := by decide +kernel
theorem dX10_goes_71 : decode cX10_goes 71 = .ok (.iconst 1, 1) := by decide +kernel
theorem dX10_goes_72 : decode cX10_goes 72 = .ok (.iadd, 1) := by decide +kernel
theorem dX10_goes_73 : decode cX10_goes 73 = .ok (.iaload, 1) := by decide +kernel
theorem dX10_goes_74 : decode cX10_goes 74 = .ok (.iastore, 1) := by decide +kernel
theorem dX10_goes_75 : decode cX10_goes 75 = .ok (.aload_n 0, 1) := by decide +kernel
theorem dX10_goes_76 : decode cX10_goes 76 = .ok (.getfield 113, 3) := by decide +kernel
theorem dX10_goes_79 : decode cX10_goes 79 = .ok (.iload_n 3, 1) := by decide +kernel
theorem dX10_goes_80 : decode cX10_goes 80 = .ok (.aload_n 0, 1) := by decide +kernel
theorem dX10_goes_81 : decode cX10_goes 81 = .ok (.getfield 113, 3) := by decide +kernel
theorem dX10_goes_84 : decode cX10_goes 84 = .ok (.iload_n 3, 1) := by decide +kernel
theorem dX10_goes_85 : decode cX10_goes 85 = .ok (.iconst 1, 1) := by decide +kernel
theorem dX10_goes_86 : decode cX10_goes 86 = .ok (.iadd, 1) := by decide +kernel
theorem dX10_goes_87 : decode cX10_goes 87 = .ok (.iaload, 1) := by decide +kernel
theorem dX10_goes_88 : decode cX10_goes 88 = .ok (.iastore, 1) := by decide +kernel
theorem dX10_goes_89 : decode cX10_goes 89 = .ok (.iinc 3 1, 3) := by decide +kernel
theorem dX10_goes_92 : decode cX10_goes 92 = .ok (.goto (-39), 3) := by decide +kernel
theorem dX10_goes_95 : decode cX10_goes 95 = .ok (.return_, 1) := by decide +kernel
theorem dX10_adds_0 : decode cX10_adds 0 = .ok (.aload_n 0, 1) := by decide +kernel
theorem dX10_adds_1 : decode cX10_adds 1 = .ok (.getfield 299, 3) := by decide +kernel
theorem dX10_adds_4 : decode cX10_adds 4 = .ok (.istore_n 3, 1) := by decide +kernel
theorem dX10_adds_5 : decode cX10_adds 5 = .ok (.iload_n 3, 1) := by decide +kernel
theorem dX10_adds_6 : decode cX10_adds 6 = .ok (.iload_n 1, 1) := by decide +kernel
theorem dX10_adds_7 : decode cX10_adds 7 = .ok (.if_icmp .le 37, 3) := by decide +kernel
theorem dX10_adds_10 : decode cX10_adds 10 = .ok (.aload_n 0, 1) := by decide +kernel
theorem dX10_adds_11 : decode cX10_adds 11 = .ok (.getfield 110, 3) := by decide +kernel
theorem dX10_adds_14 : decode cX10_adds 14 = .ok (.iload_n 3, 1) := by decide +kernel
theorem dX10_adds_15 : decode cX10_adds 15 = .ok (.aload_n 0, 1) := by decide +kernel
theorem dX10_adds_16 : decode cX10_adds 16 = .ok (.getfield 110, 3) := by decide +kernel
theorem dX10_adds_19 : decode cX10_adds 19 = .ok (.iload_n 3, 1) := by decide +kernel
theorem dX10_adds_20 : decode cX10_adds 20 = .ok (.iconst 1, 1) := by decide +kernel
theorem dX10_adds_21 : decode cX10_adds 21 = .ok (.isub, 1) := by decide +kernel
theorem dX10_adds_22 : decode cX10_adds 22 = .ok (.iaload, 1) := by decide +kernel
theorem dX10_adds_23 : decode cX10_adds 23 = .ok (.iastore, 1) := by decide +kernel
theorem dX10_adds_24 : decode cX10_adds 24 = .ok (.aload_n 0, 1) := by decide +kernel
theorem dX10_adds_25 : decode cX10_adds 25 = .ok (.getfield 113, 3) := by decide +kernel
theorem dX10_adds_28 : decode cX10_adds 28 = .ok (.iload_n 3, 1) := by decide +kernel
theorem dX10_adds_29 : decode cX10_adds 29 = .ok (.aload_n 0, 1) := by decide +kernel
theorem dX10_adds_30 : decode cX10_adds 30 = .ok (.getfield 113, 3) := by decide +kernel
theorem dX10_adds_33 : decode cX10_adds 33 = .ok (.iload_n 3, 1) := by decide +kernel
theorem dX10_adds_34 : decode cX10_adds 34 = .ok (.iconst 1, 1) := by decide +kernel
theorem dX10_adds_35 : decode cX10_adds 35 = .ok (.isub, 1) := by decide +kernel
theorem dX10_adds_36 : decode cX10_adds 36 = .ok (.iaload, 1) := by decide +kernel
theorem dX10_adds_37 : decode cX10_adds 37 = .ok (.iastore, 1) := by decide +kernel
theorem dX10_adds_38 : decode cX10_adds 38 = .ok (.iinc 3 (-1), 3) := by decide +kernel
theorem dX10_adds_41 : decode cX10_adds 41 = .ok (.goto (-36), 3) := by decide +kernel
theorem dX10_adds_44 : decode cX10_adds 44 = .ok (.aload_n 0, 1) := by decide +kernel
theorem dX10_adds_45 : decode cX10_adds 45 = .ok (.getfield 110, 3) := by decide +kernel
theorem dX10_adds_48 : decode cX10_adds 48 = .ok (.iload_n 1, 1) := by decide +kernel
theorem dX10_adds_49 : decode cX10_adds 49 = .ok (.aload_n 0, 1) := by decide +kernel
theorem dX10_adds_50 : decode cX10_adds 50 = .ok (.getfield 302, 3) := by decide +kernel
theorem dX10_adds_53 : decode cX10_adds 53 = .ok (.iastore, 1) := by decide +kernel
theorem dX10_adds_54 : decode cX10_adds 54 = .ok (.aload_n 0, 1) := by decide +kernel
theorem dX10_adds_55 : decode cX10_adds 55 = .ok (.getfield 113, 3) := by decide +kernel
theorem dX10_adds_58 : decode cX10_adds 58 = .ok (.iload_n 1, 1) := by decide +kernel
theorem dX10_adds_59 : decode cX10_adds 59 = .ok (.iload_n 2, 1) := by decide +kernel
theorem dX10_adds_60 : decode cX10_adds 60 = .ok (.iastore, 1) := by decide +kernel
theorem dX10_adds_61 : decode cX10_adds 61 = .ok (.aload_n 0, 1) := by decide +kernel
theorem dX10_adds_62 : decode cX10_adds 62 = .ok (.dup, 1) := by decide +kernel
theorem dX10_adds_63 : decode cX10_adds 63 = .ok (.getfield 302, 3) := by decide +kernel
theorem dX10_adds_66 : decode cX10_adds 66 = .ok (.iconst 1, 1) := by decide +kernel
theorem dX10_adds_67 : decode cX10_adds 67 = .ok (.iadd, 1) := by decide +kernel
theorem dX10_adds_68 : decode cX10_adds 68 = .ok (.putfield 302, 3) := by decide +kernel
theorem dX10_adds_71 : decode cX10_adds 71 = .ok (.aload_n 0, 1) := by decide +kernel
theorem dX10_adds_72 : decode cX10_adds 72 = .ok (.dup, 1) := by decide +kernel
theorem dX10_adds_73 : decode cX10_adds 73 = .ok (.getfield 299, 3) := by decide +kernel
theorem dX10_adds_76 : decode cX10_adds 76 = .ok (.iconst 1, 1) := by decide +kernel
theorem dX10_adds_77 : decode cX10_adds 77 = .ok (.iadd, 1) := by decide +kernel
theorem dX10_adds_78 : decode cX10_adds 78 = .ok (.putfield 299, 3) := by decide +kernel
theorem dX10_adds_81 : decode cX10_adds 81 = .ok (.return_, 1) := by decide +kernel
theorem dX10_amends_0 : decode cX10_amends 0 = .ok (.iload_n 1, 1) := by decide +kernel
theorem dX10_amends_1 : decode cX10_amends 1 = .ok (.iconst 4, 1) := by decide +kernel
theorem dX10_amends_2 : decode cX10_amends 2 = .ok (.idiv, 1) := by decide +kernel
theorem dX10_amends_3 : decode cX10_amends 3 = .ok (.istore_n 3, 1) := by decide +kernel
theorem dX10_amends_4 : decode cX10_amends 4 = .ok (.aload_n 0, 1) := by decide +kernel
theorem dX10_amends_5 : decode cX10_amends 5 = .ok (.iload_n 3, 1) := by decide +kernel
theorem dX10_amends_6 : decode cX10_amends 6 = .ok (.invokevirtual 333, 3) := by decide +kernel
theorem dX10_amends_9 : decode cX10_amends 9 = .ok (.istore 4, 2) := by decide +kernel
theorem dX10_amends_11 : decode cX10_amends 11 = .ok (.aload_n 0, 1) := by decide +kernel
theorem dX10_amends_12 : decode cX10_amends 12 = .ok (.getfield 296, 3) := by decide +kernel
theorem dX10_amends_15 : decode cX10_amends 15 = .ok (.ifCond .eq 11, 3) := by decide +kernel
theorem dX10_amends_18 : decode cX10_amends 18 = .ok (.iload_n 3, 1) := by decide +kernel
theorem dX10_amends_19 : decode cX10_amends 19 = .ok (.aload_n 0, 1) := by decide +kernel
theorem dX10_amends_20 : decode cX10_amends 20 = .ok (.getfield 302, 3) := by decide +kernel
theorem dX10_amends_23 : decode cX10_amends 23 = .ok (.if_icmp .lt 4, 3) := by decide +kernel
theorem dX10_amends_26 : decode cX10_amends 26 = .ok (.return_, 1) := by decide +kernel
theorem dX10_amends_27 : decode cX10_amends 27 = .ok (.iload_n 1, 1) := by decide +kernel
theorem dX10_amends_28 : decode cX10_amends 28 = .ok (.iconst 4, 1) := by decide +kernel
theorem dX10_amends_29 : decode cX10_amends 29 = .ok (.irem, 1) := by decide +kernel
theorem dX10_amends_30 : decode cX10_amends 30 = .ok (.ifCond .ne 36, 3) := by decide +kernel
theorem dX10_amends_33 : decode cX10_amends 33 = .ok (.aload_n 0, 1) := by decide +kernel
theorem dX10_amends_34 : decode cX10_amends 34 = .ok (.getfield 299, 3) := by decide +kernel
theorem dX10_amends_37 : decode cX10_amends 37 = .ok (.bipush 40, 2) := by decide +kernel
theorem dX10_amends_39 : decode cX10_amends 39 = .ok (.if_icmp .ge 26, 3) := by decide +kernel
theorem dX10_amends_42 : decode cX10_amends 42 = .ok (.aload_n 0, 1) := by decide +kernel
theorem dX10_amends_43 : decode cX10_amends 43 = .ok (.iload 4, 2) := by decide +kernel
theorem dX10_amends_45 : decode cX10_amends 45 = .ok (.iconst (-1), 1) := by decide +kernel
theorem dX10_amends_46 : decode cX10_amends 46 = .ok (.if_icmp .eq 10, 3) := by decide +kernel
theorem dX10_amends_49 : decode cX10_amends 49 = .ok (.iload 4, 2) := by decide +kernel
theorem dX10_amends_51 : decode cX10_amends 51 = .ok (.iconst 1, 1) := by decide +kernel
theorem dX10_amends_52 : decode cX10_amends 52 = .ok (.iadd, 1) := by decide +kernel
theorem dX10_amends_53 : decode cX10_amends 53 = .ok (.goto 8, 3) := by decide +kernel
theorem dX10_amends_56 : decode cX10_amends 56 = .ok (.aload_n 0, 1) := by decide +kernel
theorem dX10_amends_57 : decode cX10_amends 57 = .ok (.iload_n 3, 1) := by decide +kernel
theorem dX10_amends_58 : decode cX10_amends 58 = .ok (.invokevirtual 365, 3) := by decide +kernel
theorem dX10_amends_61 : decode cX10_amends 61 = .ok (.iload_n 2, 1) := by decide +kernel
theorem dX10_amends_62 : decode cX10_amends 62 = .ok (.invokevirtual 368, 3) := by decide +kernel
theorem dX10_amends_65 : decode cX10_amends 65 = .ok (.return_, 1) := by decide +kernel
theorem dX10_amends_66 : decode cX10_amends 66 = .ok (.iload 4, 2) := by decide +kernel
theorem dX10_amends_68 : decode cX10_amends 68 = .ok (.iconst (-1), 1) := by decide +kernel
theorem dX10_amends_69 : decode cX10_amends 69 = .ok (.if_icmp .ne 4, 3) := by decide +kernel
theorem dX10_amends_72 : decode cX10_amends 72 = .ok (.return_, 1) := by decide +kernel
theorem dX10_amends_73 : decode cX10_amends 73 = .ok (.iload_n 1, 1) := by decide +kernel
theorem dX10_amends_74 : decode cX10_amends 74 = .ok (.iconst 4, 1) := by decide +kernel
theorem dX10_amends_75 : decode cX10_amends 75 = .ok (.irem, 1) := by decide +kernel
theorem dX10_amends_76 : decode cX10_amends 76 = .ok (.iconst 1, 1) := by decide +kernel
theorem dX10_amends_77 : decode cX10_amends 77 = .ok (.if_icmp .ne 12, 3) := by decide +kernel
theorem dX10_amends_80 : decode cX10_amends 80 = .ok (.aload_n 0, 1) := by decide +kernel
theorem dX10_amends_81 : decode cX10_amends 81 = .ok (.iload 4, 2) := by decide +kernel
theorem dX10_amends_83 : decode cX10_amends 83 = .ok (.invokevirtual 371, 3) := by decide +kernel
theorem dX10_amends_86 : decode cX10_amends 86 = .ok (.goto 85, 3) := by decide +kernel
theorem dX10_amends_89 : decode cX10_amends 89 = .ok (.iload_n 1, 1) := by decide +kernel
theorem dX10_amends_90 : decode cX10_amends 90 = .ok (.iconst 4, 1) := by decide +kernel
theorem dX10_amends_91 : decode cX10_amends 91 = .ok (.irem, 1) := by decide +kernel
theorem dX10_amends_92 : decode cX10_amends 92 = .ok (.iconst 2, 1) := by decide +kernel
theorem dX10_amends_93 : decode cX10_amends 93 = .ok (.if_icmp .ne 14, 3) := by decide +kernel
theorem dX10_amends_96 : decode cX10_amends 96 = .ok (.aload_n 0, 1) := by decide +kernel
theorem dX10_amends_97 : decode cX10_amends 97 = .ok (.getfield 113, 3) := by decide +kernel
theorem dX10_amends_100 : decode cX10_amends 100 = .ok (.iload 4, 2) := by decide +kernel
theorem dX10_amends_102 : decode cX10_amends 102 = .ok (.iload_n 2, 1) := by decide +kernel
theorem dX10_amends_103 : decode cX10_amends 103 = .ok (.iastore, 1) := by decide +kernel
theorem dX10_amends_104 : decode cX10_amends 104 = .ok (.goto 67, 3) := by decide +kernel
theorem dX10_amends_107 : decode cX10_amends 107 = .ok (.iload 4, 2) := by decide +kernel
theorem dX10_amends_109 : decode cX10_amends 109 = .ok (.iconst 1, 1) := by decide +kernel
theorem dX10_amends_110 : decode cX10_amends 110 = .ok (.iadd, 1) := by decide +kernel
theorem dX10_amends_111 : decode cX10_amends 111 = .ok (.aload_n 0, 1) := by decide +kernel
theorem dX10_amends_112 : decode cX10_amends 112 = .ok (.getfield 299, 3) := by decide +kernel
theorem dX10_amends_115 : decode cX10_amends 115 = .ok (.if_icmp .ge 56, 3) := by decide +kernel
theorem dX10_amends_118 : decode cX10_amends 118 = .ok (.aload_n 0, 1) := by decide +kernel
theorem dX10_amends_119 : decode cX10_amends 119 = .ok (.getfield 113, 3) := by decide +kernel
theorem dX10_amends_122 : decode cX10_amends 122 = .ok (.iload 4, 2) := by decide +kernel
theorem dX10_amends_124 : decode cX10_amends 124 = .ok (.aload_n 0, 1) := by decide +kernel
theorem dX10_amends_125 : decode cX10_amends 125 = .ok (.getfield 113, 3) := by decide +kernel
theorem dX10_amends_128 : decode cX10_amends 128 = .ok (.iload 4, 2) := by decide +kernel
theorem dX10_amends_130 : decode cX10_amends 130 = .ok (.iaload, 1) := by decide +kernel
theorem dX10_amends_131 : decode cX10_amends 131 = .ok (.aload_n 0, 1) := by decide +kernel
theorem dX10_amends_132 : decode cX10_amends 132 = .ok (.getfield 113, 3) := by decide +kernel
theorem dX10_amends_135 : decode cX10_amends 135 = .ok (.iload 4, 2) := by decide +kernel
theorem dX10_amends_137 : decode cX10_amends 137 = .ok (.iconst 1, 1) := by decide +kernel
theorem dX10_amends_138 : decode cX10_amends 138 = .ok (.iadd, 1) := by decide +kernel
theorem dX10_amends_139 : decode cX10_amends 139 = .ok (.iaload, 1) := by decide +kernel
theorem dX10_amends_140 : decode cX10_amends 140 = .ok (.if_icmp .le 13, 3) := by decide +kernel
theorem dX10_amends_143 : decode cX10_amends 143 = .ok (.aload_n 0, 1) := by decide +kernel
theorem dX10_amends_144 : decode cX10_amends 144 = .ok (.getfield 113, 3) := by decide +kernel
theorem dX10_amends_147 : decode cX10_amends 147 = .ok (.iload 4, 2) := by decide +kernel
theorem dX10_amends_149 : decode cX10_amends 149 = .ok (.iaload, 1) := by decide +kernel
theorem dX10_amends_150 : decode cX10_amends 150 = .ok (.goto 12, 3) := by decide +kernel
theorem dX10_amends_153 : decode cX10_amends 153 = .ok (.aload_n 0, 1) := by decide +kernel
theorem dX10_amends_154 : decode cX10_amends 154 = .ok (.getfield 113, 3) := by decide +kernel
theorem dX10_amends_157 : decode cX10_amends 157 = .ok (.iload 4, 2) := by decide +kernel
theorem dX10_amends_159 : decode cX10_amends 159 = .ok (.iconst 1, 1) := by decide +kernel
theorem dX10_amends_160 : decode cX10_amends 160 = .ok (.iadd, 1) := by decide +kernel
theorem dX10_amends_161 : decode cX10_amends 161 = .ok (.iaload, 1) := by decide +kernel
theorem dX10_amends_162 : decode cX10_amends 162 = .ok (.iastore, 1) := by decide +kernel
theorem dX10_amends_163 : decode cX10_amends 163 = .ok (.aload_n 0, 1) := by decide +kernel
theorem dX10_amends_164 : decode cX10_amends 164 = .ok (.iload 4, 2) := by decide +kernel
theorem dX10_amends_166 : decode cX10_amends 166 = .ok (.iconst 1, 1) := by decide +kernel
theorem dX10_amends_167 : decode cX10_amends 167 = .ok (.iadd, 1) := by decide +kernel
theorem dX10_amends_168 : decode cX10_amends 168 = .ok (.invokevirtual 371, 3) := by decide +kernel
theorem dX10_amends_171 : decode cX10_amends 171 = .ok (.return_, 1) := by decide +kernel
theorem dX10_behindGone_0 : decode cX10_behindGone 0 = .ok (.aload_n 0, 1) := by decide +kernel
theorem dX10_behindGone_1 : decode cX10_behindGone 1 = .ok (.getfield 116, 3) := by decide +kernel
theorem dX10_behindGone_4 : decode cX10_behindGone 4 = .ok (.iload_n 1, 1) := by decide +kernel
theorem dX10_behindGone_5 : decode cX10_behindGone 5 = .ok (.iaload, 1) := by decide +kernel
theorem dX10_behindGone_6 : decode cX10_behindGone 6 = .ok (.iconst 1, 1) := by decide +kernel
theorem dX10_behindGone_7 : decode cX10_behindGone 7 = .ok (.isub, 1) := by decide +kernel
theorem dX10_behindGone_8 : decode cX10_behindGone 8 = .ok (.istore_n 2, 1) := by decide +kernel
theorem dX10_behindGone_9 : decode cX10_behindGone 9 = .ok (.iload_n 2, 1) := by decide +kernel
theorem dX10_behindGone_10 : decode cX10_behindGone 10 = .ok (.ifCond .lt 31, 3) := by decide +kernel
theorem dX10_behindGone_13 : decode cX10_behindGone 13 = .ok (.aload_n 0, 1) := by decide +kernel
theorem dX10_behindGone_14 : decode cX10_behindGone 14 = .ok (.aload_n 0, 1) := by decide +kernel
theorem dX10_behindGone_15 : decode cX10_behindGone 15 = .ok (.getfield 119, 3) := by decide +kernel
theorem dX10_behindGone_18 : decode cX10_behindGone 18 = .ok (.iload_n 1, 1) := by decide +kernel
theorem dX10_behindGone_19 : decode cX10_behindGone 19 = .ok (.aaload, 1) := by decide +kernel
theorem dX10_behindGone_20 : decode cX10_behindGone 20 = .ok (.iload_n 2, 1) := by decide +kernel
theorem dX10_behindGone_21 : decode cX10_behindGone 21 = .ok (.iaload, 1) := by decide +kernel
theorem dX10_behindGone_22 : decode cX10_behindGone 22 = .ok (.invokevirtual 333, 3) := by decide +kernel
theorem dX10_behindGone_25 : decode cX10_behindGone 25 = .ok (.istore_n 3, 1) := by decide +kernel
theorem dX10_behindGone_26 : decode cX10_behindGone 26 = .ok (.iload_n 3, 1) := by decide +kernel
theorem dX10_behindGone_27 : decode cX10_behindGone 27 = .ok (.iconst (-1), 1) := by decide +kernel
theorem dX10_behindGone_28 : decode cX10_behindGone 28 = .ok (.if_icmp .eq 7, 3) := by decide +kernel
theorem dX10_behindGone_31 : decode cX10_behindGone 31 = .ok (.iload_n 3, 1) := by decide +kernel
theorem dX10_behindGone_32 : decode cX10_behindGone 32 = .ok (.iconst 1, 1) := by decide +kernel
theorem dX10_behindGone_33 : decode cX10_behindGone 33 = .ok (.iadd, 1) := by decide +kernel
theorem dX10_behindGone_34 : decode cX10_behindGone 34 = .ok (.ireturn, 1) := by decide +kernel
theorem dX10_behindGone_35 : decode cX10_behindGone 35 = .ok (.iinc 2 (-1), 3) := by decide +kernel
theorem dX10_behindGone_38 : decode cX10_behindGone 38 = .ok (.goto (-29), 3) := by decide +kernel
theorem dX10_behindGone_41 : decode cX10_behindGone 41 = .ok (.iconst 0, 1) := by decide +kernel
theorem dX10_behindGone_42 : decode cX10_behindGone 42 = .ok (.ireturn, 1) := by decide +kernel
theorem dX10_works_0 : decode cX10_works 0 = .ok (.aload_n 0, 1) := by decide +kernel
theorem dX10_works_1 : decode cX10_works 1 = .ok (.getfield 67, 3) := by decide +kernel
theorem dX10_works_4 : decode cX10_works 4 = .ok (.aload_n 0, 1) := by decide +kernel
theorem dX10_works_5 : decode cX10_works 5 = .ok (.getfield 265, 3) := by decide +kernel
theorem dX10_works_8 : decode cX10_works 8 = .ok (.aaload, 1) := by decide +kernel
theorem dX10_works_9 : decode cX10_works 9 = .ok (.iload_n 1, 1) := by decide +kernel
theorem dX10_works_10 : decode cX10_works 10 = .ok (.iconst (-1), 1) := by decide +kernel
theorem dX10_works_11 : decode cX10_works 11 = .ok (.iastore, 1) := by decide +kernel
theorem dX10_works_12 : decode cX10_works 12 = .ok (.aload_n 0, 1) := by decide +kernel
theorem dX10_works_13 : decode cX10_works 13 = .ok (.iload_n 1, 1) := by decide +kernel
theorem dX10_works_14 : decode cX10_works 14 = .ok (.invokevirtual 374, 3) := by decide +kernel
theorem dX10_works_17 : decode cX10_works 17 = .ok (.istore_n 2, 1) := by decide +kernel
theorem dX10_works_18 : decode cX10_works 18 = .ok (.aload_n 0, 1) := by decide +kernel
theorem dX10_works_19 : decode cX10_works 19 = .ok (.getfield 265, 3) := by decide +kernel
theorem dX10_works_22 : decode cX10_works 22 = .ok (.iconst 1, 1) := by decide +kernel
theorem dX10_works_23 : decode cX10_works 23 = .ok (.if_icmp .ne 151, 3) := by decide +kernel
theorem dX10_works_26 : decode cX10_works 26 = .ok (.iload_n 1, 1) := by decide +kernel
theorem dX10_works_27 : decode cX10_works 27 = .ok (.aload_n 0, 1) := by decide +kernel
theorem dX10_works_28 : decode cX10_works 28 = .ok (.getfield 73, 3) := by decide +kernel
theorem dX10_works_31 : decode cX10_works 31 = .ok (.if_icmp .ne 143, 3) := by decide +kernel
theorem dX10_works_34 : decode cX10_works 34 = .ok (.aload_n 0, 1) := by decide +kernel
theorem dX10_works_35 : decode cX10_works 35 = .ok (.getfield 49, 3) := by decide +kernel
theorem dX10_works_38 : decode cX10_works 38 = .ok (.iload_n 1, 1) := by decide +kernel
theorem dX10_works_39 : decode cX10_works 39 = .ok (.iaload, 1) := by decide +kernel
theorem dX10_works_40 : decode cX10_works 40 = .ok (.bipush 6, 2) := by decide +kernel
theorem dX10_works_42 : decode cX10_works 42 = .ok (.if_icmp .ne 51, 3) := by decide +kernel
theorem dX10_works_45 : decode cX10_works 45 = .ok (.aload_n 0, 1) := by decide +kernel
theorem dX10_works_46 : decode cX10_works 46 = .ok (.getfield 19, 3) := by decide +kernel
theorem dX10_works_49 : decode cX10_works 49 = .ok (.iconst 0, 1) := by decide +kernel
theorem dX10_works_50 : decode cX10_works 50 = .ok (.aaload, 1) := by decide +kernel
theorem dX10_works_51 : decode cX10_works 51 = .ok (.aload_n 0, 1) := by decide +kernel
theorem dX10_works_52 : decode cX10_works 52 = .ok (.getfield 55, 3) := by decide +kernel
theorem dX10_works_55 : decode cX10_works 55 = .ok (.iload_n 1, 1) := by decide +kernel
theorem dX10_works_56 : decode cX10_works 56 = .ok (.iaload, 1) := by decide +kernel
theorem dX10_works_57 : decode cX10_works 57 = .ok (.iconst 0, 1) := by decide +kernel
theorem dX10_works_58 : decode cX10_works 58 = .ok (.bipush 7, 2) := by decide +kernel
theorem dX10_works_60 : decode cX10_works 60 = .ok (.invokestatic 184, 3) := by decide +kernel
theorem dX10_works_63 : decode cX10_works 63 = .ok (.ifCond .eq 12, 3) := by decide +kernel
theorem dX10_works_66 : decode cX10_works 66 = .ok (.aload_n 0, 1) := by decide +kernel
theorem dX10_works_67 : decode cX10_works 67 = .ok (.getfield 55, 3) := by decide +kernel
theorem dX10_works_70 : decode cX10_works 70 = .ok (.iload_n 1, 1) := by decide +kernel
theorem dX10_works_71 : decode cX10_works 71 = .ok (.iaload, 1) := by decide +kernel
theorem dX10_works_72 : decode cX10_works 72 = .ok (.goto 4, 3) := by decide +kernel
theorem dX10_works_75 : decode cX10_works 75 = .ok (.iconst 0, 1) := by decide +kernel
theorem dX10_works_76 : decode cX10_works 76 = .ok (.iaload, 1) := by decide +kernel
theorem dX10_works_77 : decode cX10_works 77 = .ok (.ifCond .le 16, 3) := by decide +kernel
theorem dX10_works_80 : decode cX10_works 80 = .ok (.aload_n 0, 1) := by decide +kernel
theorem dX10_works_81 : decode cX10_works 81 = .ok (.getfield 293, 3) := by decide +kernel
theorem dX10_works_84 : decode cX10_works 84 = .ok (.bipush 8, 2) := by decide +kernel
theorem dX10_works_86 : decode cX10_works 86 = .ok (.if_icmp .ge 7, 3) := by decide +kernel
theorem dX10_works_89 : decode cX10_works 89 = .ok (.iconst 1, 1) := by decide +kernel
theorem dX10_works_90 : decode cX10_works 90 = .ok (.goto 4, 3) := by decide +kernel
theorem dX10_works_93 : decode cX10_works 93 = .ok (.iconst 0, 1) := by decide +kernel
theorem dX10_works_94 : decode cX10_works 94 = .ok (.istore_n 3, 1) := by decide +kernel
theorem dX10_works_95 : decode cX10_works 95 = .ok (.iload_n 2, 1) := by decide +kernel
theorem dX10_works_96 : decode cX10_works 96 = .ok (.ifCond .eq 31, 3) := by decide +kernel
theorem dX10_works_99 : decode cX10_works 99 = .ok (.iload_n 2, 1) := by decide +kernel
theorem dX10_works_100 : decode cX10_works 100 = .ok (.bipush 6, 2) := by decide +kernel
theorem dX10_works_102 : decode cX10_works 102 = .ok (.if_icmp .ne 29, 3) := by decide +kernel
theorem dX10_works_105 : decode cX10_works 105 = .ok (.iload_n 3, 1) := by decide +kernel
theorem dX10_works_106 : decode cX10_works 106 = .ok (.ifCond .ne 21, 3) := by decide +kernel
theorem dX10_works_109 : decode cX10_works 109 = .ok (.aload_n 0, 1) := by decide +kernel
theorem dX10_works_110 : decode cX10_works 110 = .ok (.getfield 49, 3) := by decide +kernel
theorem dX10_works_113 : decode cX10_works 113 = .ok (.iload_n 1, 1) := by decide +kernel
theorem dX10_works_114 : decode cX10_works 114 = .ok (.iaload, 1) := by decide +kernel
theorem dX10_works_115 : decode cX10_works 115 = .ok (.iconst 5, 1) := by decide +kernel
theorem dX10_works_116 : decode cX10_works 116 = .ok (.if_icmp .ne 15, 3) := by decide +kernel
theorem dX10_works_119 : decode cX10_works 119 = .ok (.aload_n 0, 1) := by decide +kernel
theorem dX10_works_120 : decode cX10_works 120 = .ok (.getfield 271, 3) := by decide +kernel
theorem dX10_works_123 : decode cX10_works 123 = .ok (.iconst (-1), 1) := by decide +kernel
theorem dX10_works_124 : decode cX10_works 124 = .ok (.if_icmp .eq 7, 3) := by decide +kernel
theorem dX10_works_127 : decode cX10_works 127 = .ok (.iconst 1, 1) := by decide +kernel
theorem dX10_works_128 : decode cX10_works 128 = .ok (.goto 4, 3) := by decide +kernel
theorem dX10_works_131 : decode cX10_works 131 = .ok (.iconst 0, 1) := by decide +kernel
theorem dX10_works_132 : decode cX10_works 132 = .ok (.istore 4, 2) := by decide +kernel
theorem dX10_works_134 : decode cX10_works 134 = .ok (.aload_n 0, 1) := by decide +kernel
theorem dX10_works_135 : decode cX10_works 135 = .ok (.aload_n 0, 1) := by decide +kernel
theorem dX10_works_136 : decode cX10_works 136 = .ok (.getfield 377, 3) := by decide +kernel
theorem dX10_works_139 : decode cX10_works 139 = .ok (.ifCond .ne 8, 3) := by decide +kernel
theorem dX10_works_142 : decode cX10_works 142 = .ok (.iload 4, 2) := by decide +kernel
theorem dX10_works_144 : decode cX10_works 144 = .ok (.ifCond .ne 7, 3) := by decide +kernel
theorem dX10_works_147 : decode cX10_works 147 = .ok (.iconst 1, 1) := by decide +kernel
theorem dX10_works_148 : decode cX10_works 148 = .ok (.goto 4, 3) := by decide +kernel
theorem dX10_works_151 : decode cX10_works 151 = .ok (.iconst 0, 1) := by decide +kernel
theorem dX10_works_152 : decode cX10_works 152 = .ok (.putfield 377, 3) := by decide +kernel
theorem dX10_works_155 : decode cX10_works 155 = .ok (.iload_n 2, 1) := by decide +kernel
theorem dX10_works_156 : decode cX10_works 156 = .ok (.ifCond .ne 8, 3) := by decide +kernel
theorem dX10_works_159 : decode cX10_works 159 = .ok (.bipush 6, 2) := by decide +kernel
theorem dX10_works_161 : decode cX10_works 161 = .ok (.goto 4, 3) := by decide +kernel
theorem dX10_works_164 : decode cX10_works 164 = .ok (.iconst 0, 1) := by decide +kernel
theorem dX10_works_165 : decode cX10_works 165 = .ok (.istore_n 2, 1) := by decide +kernel
theorem dX10_works_166 : decode cX10_works 166 = .ok (.iload 4, 2) := by decide +kernel
theorem dX10_works_168 : decode cX10_works 168 = .ok (.ifCond .ne 6, 3) := by decide +kernel
theorem dX10_works_171 : decode cX10_works 171 = .ok (.bipush 6, 2) := by decide +kernel
theorem dX10_works_173 : decode cX10_works 173 = .ok (.istore_n 2, 1) := by decide +kernel
theorem dX10_works_174 : decode cX10_works 174 = .ok (.aload_n 0, 1) := by decide +kernel
theorem dX10_works_175 : decode cX10_works 175 = .ok (.getfield 64, 3) := by decide +kernel
theorem dX10_works_178 : decode cX10_works 178 = .ok (.aload_n 0, 1) := by decide +kernel
theorem dX10_works_179 : decode cX10_works 179 = .ok (.getfield 265, 3) := by decide +kernel
theorem dX10_works_182 : decode cX10_works 182 = .ok (.aaload, 1) := by decide +kernel
theorem dX10_works_183 : decode cX10_works 183 = .ok (.iload_n 1, 1) := by decide +kernel
theorem dX10_works_184 : decode cX10_works 184 = .ok (.iload_n 2, 1) := by decide +kernel
theorem dX10_works_185 : decode cX10_works 185 = .ok (.iastore, 1) := by decide +kernel
theorem dX10_works_186 : decode cX10_works 186 = .ok (.iload_n 2, 1) := by decide +kernel
theorem dX10_works_187 : decode cX10_works 187 = .ok (.ifCond .ne 8, 3) := by decide +kernel
theorem dX10_works_190 : decode cX10_works 190 = .ok (.aload_n 0, 1) := by decide +kernel
theorem dX10_works_191 : decode cX10_works 191 = .ok (.iload_n 1, 1) := by decide +kernel
theorem dX10_works_192 : decode cX10_works 192 = .ok (.invokevirtual 380, 3) := by decide +kernel
theorem dX10_works_195 : decode cX10_works 195 = .ok (.return_, 1) := by decide +kernel
theorem dX10_act_0 : decode cX10_act 0 = .ok (.iload_n 1, 1) := by decide +kernel
theorem dX10_act_1 : decode cX10_act 1 = .ok (.iconst 0, 1) := by decide +kernel
theorem dX10_act_2 : decode cX10_act 2 = .ok (.bipush 9, 2) := by decide +kernel
theorem dX10_act_4 : decode cX10_act 4 = .ok (.invokestatic 184, 3) := by decide +kernel
theorem dX10_act_7 : decode cX10_act 7 = .ok (.ifCond .eq 13, 3) := by decide +kernel
theorem dX10_act_10 : decode cX10_act 10 = .ok (.aload_n 0, 1) := by decide +kernel
theorem dX10_act_11 : decode cX10_act 11 = .ok (.getfield 259, 3) := by decide +kernel
theorem dX10_act_14 : decode cX10_act 14 = .ok (.sipush 300, 3) := by decide +kernel
theorem dX10_act_17 : decode cX10_act 17 = .ok (.if_icmp .ne 5, 3) := by decide +kernel
theorem dX10_act_20 : decode cX10_act 20 = .ok (.iconst (-1), 1) := by decide +kernel
theorem dX10_act_21 : decode cX10_act 21 = .ok (.ireturn, 1) := by decide +kernel
theorem dX10_act_22 : decode cX10_act 22 = .ok (.aload_n 0, 1) := by decide +kernel
theorem dX10_act_23 : decode cX10_act 23 = .ok (.getfield 49, 3) := by decide +kernel
theorem dX10_act_26 : decode cX10_act 26 = .ok (.aload_n 0, 1) := by decide +kernel
theorem dX10_act_27 : decode cX10_act 27 = .ok (.getfield 259, 3) := by decide +kernel
theorem dX10_act_30 : decode cX10_act 30 = .ok (.iload_n 1, 1) := by decide +kernel
theorem dX10_act_31 : decode cX10_act 31 = .ok (.iastore, 1) := by decide +kernel
theorem dX10_act_32 : decode cX10_act 32 = .ok (.aload_n 0, 1) := by decide +kernel
theorem dX10_act_33 : decode cX10_act 33 = .ok (.getfield 52, 3) := by decide +kernel
theorem dX10_act_36 : decode cX10_act 36 = .ok (.aload_n 0, 1) := by decide +kernel
theorem dX10_act_37 : decode cX10_act 37 = .ok (.getfield 259, 3) := by decide +kernel
theorem dX10_act_40 : decode cX10_act 40 = .ok (.iload_n 2, 1) := by decide +kernel
theorem dX10_act_41 : decode cX10_act 41 = .ok (.iastore, 1) := by decide +kernel
theorem dX10_act_42 : decode cX10_act 42 = .ok (.aload_n 0, 1) := by decide +kernel
theorem dX10_act_43 : decode cX10_act 43 = .ok (.getfield 55, 3) := by decide +kernel
theorem dX10_act_46 : decode cX10_act 46 = .ok (.aload_n 0, 1) := by decide +kernel
theorem dX10_act_47 : decode cX10_act 47 = .ok (.getfield 259, 3) := by decide +kernel
theorem dX10_act_50 : decode cX10_act 50 = .ok (.iload_n 3, 1) := by decide +kernel
theorem dX10_act_51 : decode cX10_act 51 = .ok (.iastore, 1) := by decide +kernel
theorem dX10_act_52 : decode cX10_act 52 = .ok (.aload_n 0, 1) := by decide +kernel
theorem dX10_act_53 : decode cX10_act 53 = .ok (.getfield 58, 3) := by decide +kernel
theorem dX10_act_56 : decode cX10_act 56 = .ok (.aload_n 0, 1) := by decide +kernel
theorem dX10_act_57 : decode cX10_act 57 = .ok (.getfield 259, 3) := by decide +kernel
theorem dX10_act_60 : decode cX10_act 60 = .ok (.iload 4, 2) := by decide +kernel
theorem dX10_act_62 : decode cX10_act 62 = .ok (.iastore, 1) := by decide +kernel
theorem dX10_act_63 : decode cX10_act 63 = .ok (.aload_n 0, 1) := by decide +kernel
theorem dX10_act_64 : decode cX10_act 64 = .ok (.getfield 61, 3) := by decide +kernel
theorem dX10_act_67 : decode cX10_act 67 = .ok (.aload_n 0, 1) := by decide +kernel
theorem dX10_act_68 : decode cX10_act 68 = .ok (.getfield 259, 3) := by decide +kernel
theorem dX10_act_71 : decode cX10_act 71 = .ok (.iload 5, 2) := by decide +kernel
theorem dX10_act_73 : decode cX10_act 73 = .ok (.iastore, 1) := by decide +kernel
theorem dX10_act_74 : decode cX10_act 74 = .ok (.aload_n 0, 1) := by decide +kernel
theorem dX10_act_75 : decode cX10_act 75 = .ok (.dup, 1) := by decide +kernel
theorem dX10_act_76 : decode cX10_act 76 = .ok (.getfield 259, 3) := by decide +kernel
theorem dX10_act_79 : decode cX10_act 79 = .ok (.iconst 1, 1) := by decide +kernel
theorem dX10_act_80 : decode cX10_act 80 = .ok (.iadd, 1) := by decide +kernel
theorem dX10_act_81 : decode cX10_act 81 = .ok (.putfield 259, 3) := by decide +kernel
theorem dX10_act_84 : decode cX10_act 84 = .ok (.aload_n 0, 1) := by decide +kernel
theorem dX10_act_85 : decode cX10_act 85 = .ok (.aload_n 0, 1) := by decide +kernel
theorem dX10_act_86 : decode cX10_act 86 = .ok (.getfield 259, 3) := by decide +kernel
theorem dX10_act_89 : decode cX10_act 89 = .ok (.iconst 1, 1) := by decide +kernel
theorem dX10_act_90 : decode cX10_act 90 = .ok (.isub, 1) := by decide +kernel
theorem dX10_act_91 : decode cX10_act 91 = .ok (.invokevirtual 383, 3) := by decide +kernel
theorem dX10_act_94 : decode cX10_act 94 = .ok (.aload_n 0, 1) := by decide +kernel
theorem dX10_act_95 : decode cX10_act 95 = .ok (.getfield 64, 3) := by decide +kernel
theorem dX10_act_98 : decode cX10_act 98 = .ok (.iconst 0, 1) := by decide +kernel
theorem dX10_act_99 : decode cX10_act 99 = .ok (.aaload, 1) := by decide +kernel
theorem dX10_act_100 : decode cX10_act 100 = .ok (.aload_n 0, 1) := by decide +kernel
theorem dX10_act_101 : decode cX10_act 101 = .ok (.getfield 259, 3) := by decide +kernel
theorem dX10_act_104 : decode cX10_act 104 = .ok (.iconst 1, 1) := by decide +kernel
theorem dX10_act_105 : decode cX10_act 105 = .ok (.isub, 1) := by decide +kernel
theorem dX10_act_106 : decode cX10_act 106 = .ok (.iaload, 1) := by decide +kernel
theorem dX10_act_107 : decode cX10_act 107 = .ok (.ireturn, 1) := by decide +kernel
theorem dX10_again_0 : decode cX10_again 0 = .ok (.aload_n 0, 1) := by decide +kernel
theorem dX10_again_1 : decode cX10_again 1 = .ok (.iload_n 1, 1) := by decide +kernel
theorem dX10_again_2 : decode cX10_again 2 = .ok (.putfield 265, 3) := by decide +kernel
theorem dX10_again_5 : decode cX10_again 5 = .ok (.aload_n 0, 1) := by decide +kernel
theorem dX10_again_6 : decode cX10_again 6 = .ok (.iload_n 2, 1) := by decide +kernel
theorem dX10_again_7 : decode cX10_again 7 = .ok (.putfield 73, 3) := by decide +kernel
theorem dX10_again_10 : decode cX10_again 10 = .ok (.aload_n 0, 1) := by decide +kernel
theorem dX10_again_11 : decode cX10_again 11 = .ok (.iconst 0, 1) := by decide +kernel
theorem dX10_again_12 : decode cX10_again 12 = .ok (.putfield 377, 3) := by decide +kernel
theorem dX10_again_15 : decode cX10_again 15 = .ok (.aload_n 0, 1) := by decide +kernel
theorem dX10_again_16 : decode cX10_again 16 = .ok (.invokevirtual 140, 3) := by decide +kernel
theorem dX10_again_19 : decode cX10_again 19 = .ok (.iconst 0, 1) := by decide +kernel
theorem dX10_again_20 : decode cX10_again 20 = .ok (.istore_n 3, 1) := by decide +kernel
theorem dX10_again_21 : decode cX10_again 21 = .ok (.iload_n 3, 1) := by decide +kernel
theorem dX10_again_22 : decode cX10_again 22 = .ok (.aload_n 0, 1) := by decide +kernel
theorem dX10_again_23 : decode cX10_again 23 = .ok (.getfield 259, 3) := by decide +kernel
theorem dX10_again_26 : decode cX10_again 26 = .ok (.if_icmp .ge 14, 3) := by decide +kernel
theorem dX10_again_29 : decode cX10_again 29 = .ok (.aload_n 0, 1) := by decide +kernel
theorem dX10_again_30 : decode cX10_again 30 = .ok (.iload_n 3, 1) := by decide +kernel
theorem dX10_again_31 : decode cX10_again 31 = .ok (.invokevirtual 383, 3) := by decide +kernel
theorem dX10_again_34 : decode cX10_again 34 = .ok (.iinc 3 1, 3) := by decide +kernel
theorem dX10_again_37 : decode cX10_again 37 = .ok (.goto (-16), 3) := by decide +kernel
theorem dX10_again_40 : decode cX10_again 40 = .ok (.return_, 1) := by decide +kernel
theorem dX10_beside_0 : decode cX10_beside 0 = .ok (.iload_n 1, 1) := by decide +kernel
theorem dX10_beside_1 : decode cX10_beside 1 = .ok (.iconst 0, 1) := by decide +kernel
theorem dX10_beside_2 : decode cX10_beside 2 = .ok (.aload_n 0, 1) := by decide +kernel
theorem dX10_beside_3 : decode cX10_beside 3 = .ok (.getfield 259, 3) := by decide +kernel
theorem dX10_beside_6 : decode cX10_beside 6 = .ok (.iconst 1, 1) := by decide +kernel
theorem dX10_beside_7 : decode cX10_beside 7 = .ok (.isub, 1) := by decide +kernel
theorem dX10_beside_8 : decode cX10_beside 8 = .ok (.invokestatic 184, 3) := by decide +kernel
theorem dX10_beside_11 : decode cX10_beside 11 = .ok (.ifCond .ne 5, 3) := by decide +kernel
theorem dX10_beside_14 : decode cX10_beside 14 = .ok (.iconst (-1), 1) := by decide +kernel
theorem dX10_beside_15 : decode cX10_beside 15 = .ok (.ireturn, 1) := by decide +kernel
theorem dX10_beside_16 : decode cX10_beside 16 = .ok (.aload_n 0, 1) := by decide +kernel
theorem dX10_beside_17 : decode cX10_beside 17 = .ok (.iconst 1, 1) := by decide +kernel
theorem dX10_beside_18 : decode cX10_beside 18 = .ok (.iload_n 1, 1) := by decide +kernel
theorem dX10_beside_19 : decode cX10_beside 19 = .ok (.invokevirtual 386, 3) := by decide +kernel
theorem dX10_beside_22 : decode cX10_beside 22 = .ok (.aload_n 0, 1) := by decide +kernel
theorem dX10_beside_23 : decode cX10_beside 23 = .ok (.getfield 377, 3) := by decide +kernel
theorem dX10_beside_26 : decode cX10_beside 26 = .ok (.ifCond .eq 7, 3) := by decide +kernel
theorem dX10_beside_29 : decode cX10_beside 29 = .ok (.iconst (-1), 1) := by decide +kernel
theorem dX10_beside_30 : decode cX10_beside 30 = .ok (.goto 83, 3) := by decide +kernel
theorem dX10_beside_33 : decode cX10_beside 33 = .ok (.iload_n 2, 1) := by decide +kernel
theorem dX10_beside_34 : decode cX10_beside 34 = .ok (.iconst 0, 1) := by decide +kernel
theorem dX10_beside_35 : decode cX10_beside 35 = .ok (.bipush 10, 2) := by decide +kernel
theorem dX10_beside_37 : decode cX10_beside 37 = .ok (.invokestatic 184, 3) := by decide +kernel
theorem dX10_beside_40 : decode cX10_beside 40 = .ok (.ifCond .eq 11, 3) := by decide +kernel
theorem dX10_beside_43 : decode cX10_beside 43 = .ok (.aload_n 0, 1) := by decide +kernel
