theorem dX7_perform_108 : decode cX7_perform 108 = .ok (.iload_n 2, 1) := by decide +kernel
theorem dX7_perform_109 : decode cX7_perform 109 = .ok (.invokevirtual 212, 3) := by decide +kernel
theorem dX7_perform_112 : decode cX7_perform 112 = .ok (.goto 108, 3) := by decide +kernel
theorem dX7_perform_115 : decode cX7_perform 115 = .ok (.aload_n 0, 1) := by decide +kernel
theorem dX7_perform_116 : decode cX7_perform 116 = .ok (.getfield 38, 3) := by decide +kernel
theorem dX7_perform_119 : decode cX7_perform 119 = .ok (.aload_n 0, 1) := by decide +kernel
theorem dX7_perform_120 : decode cX7_perform 120 = .ok (.getfield 85, 3) := by decide +kernel
theorem dX7_perform_123 : decode cX7_perform 123 = .ok (.invokevirtual 215, 3) := by decide +kernel
theorem dX7_perform_126 : decode cX7_perform 126 = .ok (.aload_n 0, 1) := by decide +kernel
theorem dX7_perform_127 : decode cX7_perform 127 = .ok (.getfield 47, 3) := by decide +kernel
theorem dX7_perform_130 : decode cX7_perform 130 = .ok (.invokevirtual 218, 3) := by decide +kernel
theorem dX7_perform_133 : decode cX7_perform 133 = .ok (.goto 87, 3) := by decide +kernel
theorem dX7_perform_136 : decode cX7_perform 136 = .ok (.aload_n 0, 1) := by decide +kernel
theorem dX7_perform_137 : decode cX7_perform 137 = .ok (.aload_n 0, 1) := by decide +kernel
theorem dX7_perform_138 : decode cX7_perform 138 = .ok (.getfield 29, 3) := by decide +kernel
theorem dX7_perform_141 : decode cX7_perform 141 = .ok (.getfield 159, 3) := by decide +kernel
theorem dX7_perform_144 : decode cX7_perform 144 = .ok (.iload_n 1, 1) := by decide +kernel
theorem dX7_perform_145 : decode cX7_perform 145 = .ok (.iaload, 1) := by decide +kernel
theorem dX7_perform_146 : decode cX7_perform 146 = .ok (.invokevirtual 221, 3) := by decide +kernel
theorem dX7_perform_149 : decode cX7_perform 149 = .ok (.goto 71, 3) := by decide +kernel
theorem dX7_perform_152 : decode cX7_perform 152 = .ok (.aload_n 0, 1) := by decide +kernel
theorem dX7_perform_153 : decode cX7_perform 153 = .ok (.getfield 38, 3) := by decide +kernel
theorem dX7_perform_156 : decode cX7_perform 156 = .ok (.iload_n 2, 1) := by decide +kernel
theorem dX7_perform_157 : decode cX7_perform 157 = .ok (.invokevirtual 224, 3) := by decide +kernel
theorem dX7_perform_160 : decode cX7_perform 160 = .ok (.goto 60, 3) := by decide +kernel
theorem dX7_perform_163 : decode cX7_perform 163 = .ok (.aload_n 0, 1) := by decide +kernel
theorem dX7_perform_164 : decode cX7_perform 164 = .ok (.getfield 47, 3) := by decide +kernel
theorem dX7_perform_167 : decode cX7_perform 167 = .ok (.aload_n 0, 1) := by decide +kernel
theorem dX7_perform_168 : decode cX7_perform 168 = .ok (.getfield 29, 3) := by decide +kernel
theorem dX7_perform_171 : decode cX7_perform 171 = .ok (.getfield 165, 3) := by decide +kernel
theorem dX7_perform_174 : decode cX7_perform 174 = .ok (.iload_n 1, 1) := by decide +kernel
theorem dX7_perform_175 : decode cX7_perform 175 = .ok (.iaload, 1) := by decide +kernel
theorem dX7_perform_176 : decode cX7_perform 176 = .ok (.iload_n 2, 1) := by decide +kernel
theorem dX7_perform_177 : decode cX7_perform 177 = .ok (.aload_n 0, 1) := by decide +kernel
theorem dX7_perform_178 : decode cX7_perform 178 = .ok (.getfield 29, 3) := by decide +kernel
theorem dX7_perform_181 : decode cX7_perform 181 = .ok (.getfield 159, 3) := by decide +kernel
theorem dX7_perform_184 : decode cX7_perform 184 = .ok (.iload_n 1, 1) := by decide +kernel
theorem dX7_perform_185 : decode cX7_perform 185 = .ok (.iaload, 1) := by decide +kernel
theorem dX7_perform_186 : decode cX7_perform 186 = .ok (.aload_n 0, 1) := by decide +kernel
theorem dX7_perform_187 : decode cX7_perform 187 = .ok (.getfield 29, 3) := by decide +kernel
theorem dX7_perform_190 : decode cX7_perform 190 = .ok (.getfield 162, 3) := by decide +kernel
theorem dX7_perform_193 : decode cX7_perform 193 = .ok (.iload_n 1, 1) := by decide +kernel
theorem dX7_perform_194 : decode cX7_perform 194 = .ok (.iaload, 1) := by decide +kernel
theorem dX7_perform_195 : decode cX7_perform 195 = .ok (.aload_n 0, 1) := by decide +kernel
theorem dX7_perform_196 : decode cX7_perform 196 = .ok (.getfield 74, 3) := by decide +kernel
theorem dX7_perform_199 : decode cX7_perform 199 = .ok (.invokevirtual 227, 3) := by decide +kernel
theorem dX7_perform_202 : decode cX7_perform 202 = .ok (.goto 18, 3) := by decide +kernel
theorem dX7_perform_205 : decode cX7_perform 205 = .ok (.aload_n 0, 1) := by decide +kernel
theorem dX7_perform_206 : decode cX7_perform 206 = .ok (.getfield 47, 3) := by decide +kernel
theorem dX7_perform_209 : decode cX7_perform 209 = .ok (.invokevirtual 231, 3) := by decide +kernel
theorem dX7_perform_212 : decode cX7_perform 212 = .ok (.goto 8, 3) := by decide +kernel
theorem dX7_perform_215 : decode cX7_perform 215 = .ok (.aload_n 0, 1) := by decide +kernel
theorem dX7_perform_216 : decode cX7_perform 216 = .ok (.iload_n 1, 1) := by decide +kernel
theorem dX7_perform_217 : decode cX7_perform 217 = .ok (.invokevirtual 234, 3) := by decide +kernel
theorem dX7_perform_220 : decode cX7_perform 220 = .ok (.return_, 1) := by decide +kernel
theorem dX7_letTicksGo_0 : decode cX7_letTicksGo 0 = .ok (.aload_n 0, 1) := by decide +kernel
theorem dX7_letTicksGo_1 : decode cX7_letTicksGo 1 = .ok (.dup, 1) := by decide +kernel
theorem dX7_letTicksGo_2 : decode cX7_letTicksGo 2 = .ok (.getfield 89, 3) := by decide +kernel
theorem dX7_letTicksGo_5 : decode cX7_letTicksGo 5 = .ok (.iload_n 1, 1) := by decide +kernel
theorem dX7_letTicksGo_6 : decode cX7_letTicksGo 6 = .ok (.iadd, 1) := by decide +kernel
theorem dX7_letTicksGo_7 : decode cX7_letTicksGo 7 = .ok (.putfield 89, 3) := by decide +kernel
theorem dX7_letTicksGo_10 : decode cX7_letTicksGo 10 = .ok (.aload_n 0, 1) := by decide +kernel
theorem dX7_letTicksGo_11 : decode cX7_letTicksGo 11 = .ok (.getfield 38, 3) := by decide +kernel
theorem dX7_letTicksGo_14 : decode cX7_letTicksGo 14 = .ok (.iload_n 1, 1) := by decide +kernel
theorem dX7_letTicksGo_15 : decode cX7_letTicksGo 15 = .ok (.invokevirtual 237, 3) := by decide +kernel
theorem dX7_letTicksGo_18 : decode cX7_letTicksGo 18 = .ok (.aload_n 0, 1) := by decide +kernel
theorem dX7_letTicksGo_19 : decode cX7_letTicksGo 19 = .ok (.iconst 0, 1) := by decide +kernel
theorem dX7_letTicksGo_20 : decode cX7_letTicksGo 20 = .ok (.aload_n 0, 1) := by decide +kernel
theorem dX7_letTicksGo_21 : decode cX7_letTicksGo 21 = .ok (.getfield 86, 3) := by decide +kernel
theorem dX7_letTicksGo_24 : decode cX7_letTicksGo 24 = .ok (.iload_n 1, 1) := by decide +kernel
theorem dX7_letTicksGo_25 : decode cX7_letTicksGo 25 = .ok (.isub, 1) := by decide +kernel
theorem dX7_letTicksGo_26 : decode cX7_letTicksGo 26 = .ok (.invokestatic 240, 3) := by decide +kernel
theorem dX7_letTicksGo_29 : decode cX7_letTicksGo 29 = .ok (.putfield 86, 3) := by decide +kernel
theorem dX7_letTicksGo_32 : decode cX7_letTicksGo 32 = .ok (.return_, 1) := by decide +kernel
theorem dX7_decide_0 : decode cX7_decide 0 = .ok (.aload_n 0, 1) := by decide +kernel
theorem dX7_decide_1 : decode cX7_decide 1 = .ok (.getfield 47, 3) := by decide +kernel
theorem dX7_decide_4 : decode cX7_decide 4 = .ok (.invokevirtual 246, 3) := by decide +kernel
theorem dX7_decide_7 : decode cX7_decide 7 = .ok (.istore_n 2, 1) := by decide +kernel
theorem dX7_decide_8 : decode cX7_decide 8 = .ok (.iload_n 2, 1) := by decide +kernel
theorem dX7_decide_9 : decode cX7_decide 9 = .ok (.iconst (-1), 1) := by decide +kernel
theorem dX7_decide_10 : decode cX7_decide 10 = .ok (.if_icmp .eq 10, 3) := by decide +kernel
theorem dX7_decide_13 : decode cX7_decide 13 = .ok (.iload_n 1, 1) := by decide +kernel
theorem dX7_decide_14 : decode cX7_decide 14 = .ok (.invokestatic 96, 3) := by decide +kernel
theorem dX7_decide_17 : decode cX7_decide 17 = .ok (.ifCond .ne 4, 3) := by decide +kernel
theorem dX7_decide_20 : decode cX7_decide 20 = .ok (.return_, 1) := by decide +kernel
theorem dX7_decide_21 : decode cX7_decide 21 = .ok (.aload_n 0, 1) := by decide +kernel
theorem dX7_decide_22 : decode cX7_decide 22 = .ok (.getfield 47, 3) := by decide +kernel
theorem dX7_decide_25 : decode cX7_decide 25 = .ok (.getfield 250, 3) := by decide +kernel
theorem dX7_decide_28 : decode cX7_decide 28 = .ok (.iload_n 2, 1) := by decide +kernel
theorem dX7_decide_29 : decode cX7_decide 29 = .ok (.iaload, 1) := by decide +kernel
theorem dX7_decide_30 : decode cX7_decide 30 = .ok (.istore_n 3, 1) := by decide +kernel
theorem dX7_decide_31 : decode cX7_decide 31 = .ok (.aload_n 0, 1) := by decide +kernel
theorem dX7_decide_32 : decode cX7_decide 32 = .ok (.getfield 29, 3) := by decide +kernel
theorem dX7_decide_35 : decode cX7_decide 35 = .ok (.getfield 115, 3) := by decide +kernel
theorem dX7_decide_38 : decode cX7_decide 38 = .ok (.iload_n 1, 1) := by decide +kernel
theorem dX7_decide_39 : decode cX7_decide 39 = .ok (.iaload, 1) := by decide +kernel
theorem dX7_decide_40 : decode cX7_decide 40 = .ok (.bipush 9, 2) := by decide +kernel
theorem dX7_decide_42 : decode cX7_decide 42 = .ok (.if_icmp .ne 24, 3) := by decide +kernel
theorem dX7_decide_45 : decode cX7_decide 45 = .ok (.aload_n 0, 1) := by decide +kernel
theorem dX7_decide_46 : decode cX7_decide 46 = .ok (.getfield 29, 3) := by decide +kernel
theorem dX7_decide_49 : decode cX7_decide 49 = .ok (.getfield 159, 3) := by decide +kernel
theorem dX7_decide_52 : decode cX7_decide 52 = .ok (.iload_n 1, 1) := by decide +kernel
theorem dX7_decide_53 : decode cX7_decide 53 = .ok (.iaload, 1) := by decide +kernel
theorem dX7_decide_54 : decode cX7_decide 54 = .ok (.iconst 1, 1) := by decide +kernel
theorem dX7_decide_55 : decode cX7_decide 55 = .ok (.if_icmp .ne 7, 3) := by decide +kernel
theorem dX7_decide_58 : decode cX7_decide 58 = .ok (.iconst 1, 1) := by decide +kernel
theorem dX7_decide_59 : decode cX7_decide 59 = .ok (.goto 30, 3) := by decide +kernel
theorem dX7_decide_62 : decode cX7_decide 62 = .ok (.iconst 0, 1) := by decide +kernel
theorem dX7_decide_63 : decode cX7_decide 63 = .ok (.goto 26, 3) := by decide +kernel
theorem dX7_decide_66 : decode cX7_decide 66 = .ok (.aload_n 0, 1) := by decide +kernel
theorem dX7_decide_67 : decode cX7_decide 67 = .ok (.iload_n 3, 1) := by decide +kernel
theorem dX7_decide_68 : decode cX7_decide 68 = .ok (.aload_n 0, 1) := by decide +kernel
theorem dX7_decide_69 : decode cX7_decide 69 = .ok (.getfield 29, 3) := by decide +kernel
theorem dX7_decide_72 : decode cX7_decide 72 = .ok (.getfield 159, 3) := by decide +kernel
theorem dX7_decide_75 : decode cX7_decide 75 = .ok (.iload_n 1, 1) := by decide +kernel
theorem dX7_decide_76 : decode cX7_decide 76 = .ok (.iaload, 1) := by decide +kernel
theorem dX7_decide_77 : decode cX7_decide 77 = .ok (.aload_n 0, 1) := by decide +kernel
theorem dX7_decide_78 : decode cX7_decide 78 = .ok (.getfield 29, 3) := by decide +kernel
theorem dX7_decide_81 : decode cX7_decide 81 = .ok (.getfield 162, 3) := by decide +kernel
theorem dX7_decide_84 : decode cX7_decide 84 = .ok (.iload_n 1, 1) := by decide +kernel
theorem dX7_decide_85 : decode cX7_decide 85 = .ok (.iaload, 1) := by decide +kernel
theorem dX7_decide_86 : decode cX7_decide 86 = .ok (.invokevirtual 251, 3) := by decide +kernel
theorem dX7_decide_89 : decode cX7_decide 89 = .ok (.istore 4, 2) := by decide +kernel
theorem dX7_decide_91 : decode cX7_decide 91 = .ok (.aload_n 0, 1) := by decide +kernel
theorem dX7_decide_92 : decode cX7_decide 92 = .ok (.getfield 47, 3) := by decide +kernel
theorem dX7_decide_95 : decode cX7_decide 95 = .ok (.iload_n 2, 1) := by decide +kernel
theorem dX7_decide_96 : decode cX7_decide 96 = .ok (.putfield 64, 3) := by decide +kernel
theorem dX7_decide_99 : decode cX7_decide 99 = .ok (.aload_n 0, 1) := by decide +kernel
theorem dX7_decide_100 : decode cX7_decide 100 = .ok (.getfield 15, 3) := by decide +kernel
theorem dX7_decide_103 : decode cX7_decide 103 = .ok (.iload_n 1, 1) := by decide +kernel
theorem dX7_decide_104 : decode cX7_decide 104 = .ok (.iload 4, 2) := by decide +kernel
theorem dX7_decide_106 : decode cX7_decide 106 = .ok (.ifCond .eq 7, 3) := by decide +kernel
theorem dX7_decide_109 : decode cX7_decide 109 = .ok (.iconst 1, 1) := by decide +kernel
theorem dX7_decide_110 : decode cX7_decide 110 = .ok (.goto 4, 3) := by decide +kernel
theorem dX7_decide_113 : decode cX7_decide 113 = .ok (.iconst 0, 1) := by decide +kernel
theorem dX7_decide_114 : decode cX7_decide 114 = .ok (.iastore, 1) := by decide +kernel
theorem dX7_decide_115 : decode cX7_decide 115 = .ok (.iload_n 3, 1) := by decide +kernel
theorem dX7_decide_116 : decode cX7_decide 116 = .ok (.bipush 7, 2) := by decide +kernel
theorem dX7_decide_118 : decode cX7_decide 118 = .ok (.if_icmp .ne 21, 3) := by decide +kernel
theorem dX7_decide_121 : decode cX7_decide 121 = .ok (.aload_n 0, 1) := by decide +kernel
theorem dX7_decide_122 : decode cX7_decide 122 = .ok (.aload_n 0, 1) := by decide +kernel
theorem dX7_decide_123 : decode cX7_decide 123 = .ok (.getfield 47, 3) := by decide +kernel
theorem dX7_decide_126 : decode cX7_decide 126 = .ok (.getfield 255, 3) := by decide +kernel
theorem dX7_decide_129 : decode cX7_decide 129 = .ok (.iload_n 2, 1) := by decide +kernel
theorem dX7_decide_130 : decode cX7_decide 130 = .ok (.iaload, 1) := by decide +kernel
theorem dX7_decide_131 : decode cX7_decide 131 = .ok (.iload 4, 2) := by decide +kernel
theorem dX7_decide_133 : decode cX7_decide 133 = .ok (.invokevirtual 258, 3) := by decide +kernel
theorem dX7_decide_136 : decode cX7_decide 136 = .ok (.goto 31, 3) := by decide +kernel
theorem dX7_decide_139 : decode cX7_decide 139 = .ok (.iload 4, 2) := by decide +kernel
theorem dX7_decide_141 : decode cX7_decide 141 = .ok (.ifCond .eq 26, 3) := by decide +kernel
theorem dX7_decide_144 : decode cX7_decide 144 = .ok (.aload_n 0, 1) := by decide +kernel
theorem dX7_decide_145 : decode cX7_decide 145 = .ok (.iload_n 3, 1) := by decide +kernel
theorem dX7_decide_146 : decode cX7_decide 146 = .ok (.aload_n 0, 1) := by decide +kernel
theorem dX7_decide_147 : decode cX7_decide 147 = .ok (.getfield 47, 3) := by decide +kernel
theorem dX7_decide_150 : decode cX7_decide 150 = .ok (.getfield 262, 3) := by decide +kernel
theorem dX7_decide_153 : decode cX7_decide 153 = .ok (.iload_n 2, 1) := by decide +kernel
theorem dX7_decide_154 : decode cX7_decide 154 = .ok (.iaload, 1) := by decide +kernel
theorem dX7_decide_155 : decode cX7_decide 155 = .ok (.aload_n 0, 1) := by decide +kernel
theorem dX7_decide_156 : decode cX7_decide 156 = .ok (.getfield 47, 3) := by decide +kernel
theorem dX7_decide_159 : decode cX7_decide 159 = .ok (.getfield 263, 3) := by decide +kernel
theorem dX7_decide_162 : decode cX7_decide 162 = .ok (.iload_n 2, 1) := by decide +kernel
theorem dX7_decide_163 : decode cX7_decide 163 = .ok (.iaload, 1) := by decide +kernel
theorem dX7_decide_164 : decode cX7_decide 164 = .ok (.invokevirtual 264, 3) := by decide +kernel
theorem dX7_decide_167 : decode cX7_decide 167 = .ok (.return_, 1) := by decide +kernel
theorem dX7_isCarried_0 : decode cX7_isCarried 0 = .ok (.iload_n 2, 1) := by decide +kernel
theorem dX7_isCarried_1 : decode cX7_isCarried 1 = .ok (.invokestatic 123, 3) := by decide +kernel
theorem dX7_isCarried_4 : decode cX7_isCarried 4 = .ok (.istore 4, 2) := by decide +kernel
theorem dX7_isCarried_6 : decode cX7_isCarried 6 = .ok (.iload 4, 2) := by decide +kernel
theorem dX7_isCarried_8 : decode cX7_isCarried 8 = .ok (.iload_n 3, 1) := by decide +kernel
theorem dX7_isCarried_9 : decode cX7_isCarried 9 = .ok (.invokestatic 123, 3) := by decide +kernel
theorem dX7_isCarried_12 : decode cX7_isCarried 12 = .ok (.iadd, 1) := by decide +kernel
theorem dX7_isCarried_13 : decode cX7_isCarried 13 = .ok (.istore 5, 2) := by decide +kernel
theorem dX7_isCarried_15 : decode cX7_isCarried 15 = .ok (.iload_n 1, 1) := by decide +kernel
theorem dX7_isCarried_16 : decode cX7_isCarried 16 = .ok (.invokestatic 168, 3) := by decide +kernel
theorem dX7_isCarried_19 : decode cX7_isCarried 19 = .ok (.ifCond .eq 15, 3) := by decide +kernel
theorem dX7_isCarried_22 : decode cX7_isCarried 22 = .ok (.aload_n 0, 1) := by decide +kernel
theorem dX7_isCarried_23 : decode cX7_isCarried 23 = .ok (.getfield 25, 3) := by decide +kernel
theorem dX7_isCarried_26 : decode cX7_isCarried 26 = .ok (.getfield 268, 3) := by decide +kernel
theorem dX7_isCarried_29 : decode cX7_isCarried 29 = .ok (.iload_n 1, 1) := by decide +kernel
theorem dX7_isCarried_30 : decode cX7_isCarried 30 = .ok (.iaload, 1) := by decide +kernel
theorem dX7_isCarried_31 : decode cX7_isCarried 31 = .ok (.goto 4, 3) := by decide +kernel
theorem dX7_isCarried_34 : decode cX7_isCarried 34 = .ok (.iconst (-1), 1) := by decide +kernel
theorem dX7_isCarried_35 : decode cX7_isCarried 35 = .ok (.tableswitch 77 0 2 #[25, 40, 62], 25) := by decide +kernel
theorem dX7_isCarried_60 : decode cX7_isCarried 60 = .ok (.iconst 2, 1) := by decide +kernel
theorem dX7_isCarried_61 : decode cX7_isCarried 61 = .ok (.iload 4, 2) := by decide +kernel
theorem dX7_isCarried_63 : decode cX7_isCarried 63 = .ok (.imul, 1) := by decide +kernel
theorem dX7_isCarried_64 : decode cX7_isCarried 64 = .ok (.iload 5, 2) := by decide +kernel
theorem dX7_isCarried_66 : decode cX7_isCarried 66 = .ok (.if_icmp .le 7, 3) := by decide +kernel
theorem dX7_isCarried_69 : decode cX7_isCarried 69 = .ok (.iconst 1, 1) := by decide +kernel
theorem dX7_isCarried_70 : decode cX7_isCarried 70 = .ok (.goto 4, 3) := by decide +kernel
theorem dX7_isCarried_73 : decode cX7_isCarried 73 = .ok (.iconst 0, 1) := by decide +kernel
theorem dX7_isCarried_74 : decode cX7_isCarried 74 = .ok (.ireturn, 1) := by decide +kernel
theorem dX7_isCarried_75 : decode cX7_isCarried 75 = .ok (.iconst 3, 1) := by decide +kernel
theorem dX7_isCarried_76 : decode cX7_isCarried 76 = .ok (.iload 4, 2) := by decide +kernel
theorem dX7_isCarried_78 : decode cX7_isCarried 78 = .ok (.imul, 1) := by decide +kernel
theorem dX7_isCarried_79 : decode cX7_isCarried 79 = .ok (.iconst 2, 1) := by decide +kernel
theorem dX7_isCarried_80 : decode cX7_isCarried 80 = .ok (.iload 5, 2) := by decide +kernel
theorem dX7_isCarried_82 : decode cX7_isCarried 82 = .ok (.imul, 1) := by decide +kernel
theorem dX7_isCarried_83 : decode cX7_isCarried 83 = .ok (.if_icmp .lt 12, 3) := by decide +kernel
theorem dX7_isCarried_86 : decode cX7_isCarried 86 = .ok (.iload 4, 2) := by decide +kernel
theorem dX7_isCarried_88 : decode cX7_isCarried 88 = .ok (.ifCond .le 7, 3) := by decide +kernel
theorem dX7_isCarried_91 : decode cX7_isCarried 91 = .ok (.iconst 1, 1) := by decide +kernel
theorem dX7_isCarried_92 : decode cX7_isCarried 92 = .ok (.goto 4, 3) := by decide +kernel
theorem dX7_isCarried_95 : decode cX7_isCarried 95 = .ok (.iconst 0, 1) := by decide +kernel
theorem dX7_isCarried_96 : decode cX7_isCarried 96 = .ok (.ireturn, 1) := by decide +kernel
theorem dX7_isCarried_97 : decode cX7_isCarried 97 = .ok (.iconst 4, 1) := by decide +kernel
theorem dX7_isCarried_98 : decode cX7_isCarried 98 = .ok (.iload 4, 2) := by decide +kernel
theorem dX7_isCarried_100 : decode cX7_isCarried 100 = .ok (.imul, 1) := by decide +kernel
theorem dX7_isCarried_101 : decode cX7_isCarried 101 = .ok (.iload 5, 2) := by decide +kernel
theorem dX7_isCarried_103 : decode cX7_isCarried 103 = .ok (.if_icmp .le 7, 3) := by decide +kernel
theorem dX7_isCarried_106 : decode cX7_isCarried 106 = .ok (.iconst 1, 1) := by decide +kernel
theorem dX7_isCarried_107 : decode cX7_isCarried 107 = .ok (.goto 4, 3) := by decide +kernel
theorem dX7_isCarried_110 : decode cX7_isCarried 110 = .ok (.iconst 0, 1) := by decide +kernel
theorem dX7_isCarried_111 : decode cX7_isCarried 111 = .ok (.ireturn, 1) := by decide +kernel
theorem dX7_isCarried_112 : decode cX7_isCarried 112 = .ok (.iconst 0, 1) := by decide +kernel
theorem dX7_isCarried_113 : decode cX7_isCarried 113 = .ok (.ireturn, 1) := by decide +kernel
theorem dX7_settleAppeal_0 : decode cX7_settleAppeal 0 = .ok (.aload_n 0, 1) := by decide +kernel
theorem dX7_settleAppeal_1 : decode cX7_settleAppeal 1 = .ok (.iload_n 1, 1) := by decide +kernel
theorem dX7_settleAppeal_2 : decode cX7_settleAppeal 2 = .ok (.invokevirtual 120, 3) := by decide +kernel
theorem dX7_settleAppeal_5 : decode cX7_settleAppeal 5 = .ok (.ifCond .eq 34, 3) := by decide +kernel
theorem dX7_settleAppeal_8 : decode cX7_settleAppeal 8 = .ok (.aload_n 0, 1) := by decide +kernel
theorem dX7_settleAppeal_9 : decode cX7_settleAppeal 9 = .ok (.getfield 22, 3) := by decide +kernel
theorem dX7_settleAppeal_12 : decode cX7_settleAppeal 12 = .ok (.iload_n 1, 1) := by decide +kernel
theorem dX7_settleAppeal_13 : decode cX7_settleAppeal 13 = .ok (.iconst 1, 1) := by decide +kernel
theorem dX7_settleAppeal_14 : decode cX7_settleAppeal 14 = .ok (.bastore, 1) := by decide +kernel
theorem dX7_settleAppeal_15 : decode cX7_settleAppeal 15 = .ok (.aload_n 0, 1) := by decide +kernel
theorem dX7_settleAppeal_16 : decode cX7_settleAppeal 16 = .ok (.getfield 18, 3) := by decide +kernel
theorem dX7_settleAppeal_19 : decode cX7_settleAppeal 19 = .ok (.iload_n 1, 1) := by decide +kernel
theorem dX7_settleAppeal_20 : decode cX7_settleAppeal 20 = .ok (.aload_n 0, 1) := by decide +kernel
theorem dX7_settleAppeal_21 : decode cX7_settleAppeal 21 = .ok (.getfield 18, 3) := by decide +kernel
theorem dX7_settleAppeal_24 : decode cX7_settleAppeal 24 = .ok (.iload_n 1, 1) := by decide +kernel
theorem dX7_settleAppeal_25 : decode cX7_settleAppeal 25 = .ok (.baload, 1) := by decide +kernel
theorem dX7_settleAppeal_26 : decode cX7_settleAppeal 26 = .ok (.ifCond .ne 7, 3) := by decide +kernel
theorem dX7_settleAppeal_29 : decode cX7_settleAppeal 29 = .ok (.iload_n 2, 1) := by decide +kernel
theorem dX7_settleAppeal_30 : decode cX7_settleAppeal 30 = .ok (.ifCond .eq 7, 3) := by decide +kernel
theorem dX7_settleAppeal_33 : decode cX7_settleAppeal 33 = .ok (.iconst 1, 1) := by decide +kernel
theorem dX7_settleAppeal_34 : decode cX7_settleAppeal 34 = .ok (.goto 4, 3) := by decide +kernel
theorem dX7_settleAppeal_37 : decode cX7_settleAppeal 37 = .ok (.iconst 0, 1) := by decide +kernel
theorem dX7_settleAppeal_38 : decode cX7_settleAppeal 38 = .ok (.bastore, 1) := by decide +kernel
theorem dX7_settleAppeal_39 : decode cX7_settleAppeal 39 = .ok (.return_, 1) := by decide +kernel
theorem dX7_carryOut_0 : decode cX7_carryOut 0 = .ok (.iload_n 1, 1) := by decide +kernel
theorem dX7_carryOut_1 : decode cX7_carryOut 1 = .ok (.tableswitch 138 0 6 #[43, 55, 67, 77, 96, 114, 122], 43) := by decide +kernel
theorem dX7_carryOut_44 : decode cX7_carryOut 44 = .ok (.aload_n 0, 1) := by decide +kernel
theorem dX7_carryOut_45 : decode cX7_carryOut 45 = .ok (.getfield 54, 3) := by decide +kernel
theorem dX7_carryOut_48 : decode cX7_carryOut 48 = .ok (.iload_n 2, 1) := by decide +kernel
theorem dX7_carryOut_49 : decode cX7_carryOut 49 = .ok (.iload_n 3, 1) := by decide +kernel
theorem dX7_carryOut_50 : decode cX7_carryOut 50 = .ok (.invokevirtual 271, 3) := by decide +kernel
theorem dX7_carryOut_53 : decode cX7_carryOut 53 = .ok (.goto 86, 3) := by decide +kernel
theorem dX7_carryOut_56 : decode cX7_carryOut 56 = .ok (.aload_n 0, 1) := by decide +kernel
theorem dX7_carryOut_57 : decode cX7_carryOut 57 = .ok (.getfield 54, 3) := by decide +kernel
theorem dX7_carryOut_60 : decode cX7_carryOut 60 = .ok (.iload_n 2, 1) := by decide +kernel
theorem dX7_carryOut_61 : decode cX7_carryOut 61 = .ok (.iload_n 3, 1) := by decide +kernel
theorem dX7_carryOut_62 : decode cX7_carryOut 62 = .ok (.invokevirtual 275, 3) := by decide +kernel
theorem dX7_carryOut_65 : decode cX7_carryOut 65 = .ok (.goto 74, 3) := by decide +kernel
theorem dX7_carryOut_68 : decode cX7_carryOut 68 = .ok (.aload_n 0, 1) := by decide +kernel
theorem dX7_carryOut_69 : decode cX7_carryOut 69 = .ok (.getfield 47, 3) := by decide +kernel
theorem dX7_carryOut_72 : decode cX7_carryOut 72 = .ok (.invokevirtual 278, 3) := by decide +kernel
theorem dX7_carryOut_75 : decode cX7_carryOut 75 = .ok (.goto 64, 3) := by decide +kernel
theorem dX7_carryOut_78 : decode cX7_carryOut 78 = .ok (.aload_n 0, 1) := by decide +kernel
theorem dX7_carryOut_79 : decode cX7_carryOut 79 = .ok (.iload_n 2, 1) := by decide +kernel
theorem dX7_carryOut_80 : decode cX7_carryOut 80 = .ok (.ifCond .le 7, 3) := by decide +kernel
theorem dX7_carryOut_83 : decode cX7_carryOut 83 = .ok (.iload_n 2, 1) := by decide +kernel
theorem dX7_carryOut_84 : decode cX7_carryOut 84 = .ok (.goto 7, 3) := by decide +kernel
theorem dX7_carryOut_87 : decode cX7_carryOut 87 = .ok (.aload_n 0, 1) := by decide +kernel
theorem dX7_carryOut_88 : decode cX7_carryOut 88 = .ok (.getfield 85, 3) := by decide +kernel
theorem dX7_carryOut_91 : decode cX7_carryOut 91 = .ok (.putfield 85, 3) := by decide +kernel
theorem dX7_carryOut_94 : decode cX7_carryOut 94 = .ok (.goto 45, 3) := by decide +kernel
theorem dX7_carryOut_97 : decode cX7_carryOut 97 = .ok (.aload_n 0, 1) := by decide +kernel
theorem dX7_carryOut_98 : decode cX7_carryOut 98 = .ok (.getfield 54, 3) := by decide +kernel
theorem dX7_carryOut_101 : decode cX7_carryOut 101 = .ok (.invokevirtual 68, 3) := by decide +kernel
theorem dX7_carryOut_104 : decode cX7_carryOut 104 = .ok (.aload_n 0, 1) := by decide +kernel
theorem dX7_carryOut_105 : decode cX7_carryOut 105 = .ok (.getfield 47, 3) := by decide +kernel
theorem dX7_carryOut_108 : decode cX7_carryOut 108 = .ok (.iconst 0, 1) := by decide +kernel
theorem dX7_carryOut_109 : decode cX7_carryOut 109 = .ok (.putfield 64, 3) := by decide +kernel
theorem dX7_carryOut_112 : decode cX7_carryOut 112 = .ok (.goto 27, 3) := by decide +kernel
theorem dX7_carryOut_115 : decode cX7_carryOut 115 = .ok (.aload_n 0, 1) := by decide +kernel
theorem dX7_carryOut_116 : decode cX7_carryOut 116 = .ok (.iload_n 2, 1) := by decide +kernel
theorem dX7_carryOut_117 : decode cX7_carryOut 117 = .ok (.putfield 86, 3) := by decide +kernel
theorem dX7_carryOut_120 : decode cX7_carryOut 120 = .ok (.goto 19, 3) := by decide +kernel
theorem dX7_carryOut_123 : decode cX7_carryOut 123 = .ok (.aload_n 0, 1) := by decide +kernel
theorem dX7_carryOut_124 : decode cX7_carryOut 124 = .ok (.iconst 1, 1) := by decide +kernel
theorem dX7_carryOut_125 : decode cX7_carryOut 125 = .ok (.putfield 92, 3) := by decide +kernel
theorem dX7_carryOut_128 : decode cX7_carryOut 128 = .ok (.aload_n 0, 1) := by decide +kernel
theorem dX7_carryOut_129 : decode cX7_carryOut 129 = .ok (.getfield 47, 3) := by decide +kernel
theorem dX7_carryOut_132 : decode cX7_carryOut 132 = .ok (.iconst 0, 1) := by decide +kernel
theorem dX7_carryOut_133 : decode cX7_carryOut 133 = .ok (.putfield 64, 3) := by decide +kernel
theorem dX7_carryOut_136 : decode cX7_carryOut 136 = .ok (.goto 3, 3) := by decide +kernel
theorem dX7_carryOut_139 : decode cX7_carryOut 139 = .ok (.return_, 1) := by decide +kernel
theorem dX8_init_0 : decode cX8_init 0 = .ok (.aload_n 0, 1) := by decide +kernel
theorem dX8_init_1 : decode cX8_init 1 = .ok (.invokespecial 3, 3) := by decide +kernel
theorem dX8_init_4 : decode cX8_init 4 = .ok (.aload_n 0, 1) := by decide +kernel
theorem dX8_init_5 : decode cX8_init 5 = .ok (.sipush 600, 3) := by decide +kernel
theorem dX8_init_8 : decode cX8_init 8 = .ok (.newarray .byte, 2) := by decide +kernel
theorem dX8_init_10 : decode cX8_init 10 = .ok (.putfield 9, 3) := by decide +kernel
theorem dX8_init_13 : decode cX8_init 13 = .ok (.return_, 1) := by decide +kernel
theorem dX8_append_0 : decode cX8_append 0 = .ok (.bipush 24, 2) := by decide +kernel
theorem dX8_append_2 : decode cX8_append 2 = .ok (.istore_n 2, 1) := by decide +kernel
theorem dX8_append_3 : decode cX8_append 3 = .ok (.iload_n 2, 1) := by decide +kernel
theorem dX8_append_4 : decode cX8_append 4 = .ok (.ifCond .lt 49, 3) := by decide +kernel
theorem dX8_append_7 : decode cX8_append 7 = .ok (.aload_n 0, 1) := by decide +kernel
theorem dX8_append_8 : decode cX8_append 8 = .ok (.getfield 15, 3) := by decide +kernel
theorem dX8_append_11 : decode cX8_append 11 = .ok (.ifCond .lt 36, 3) := by decide +kernel
theorem dX8_append_14 : decode cX8_append 14 = .ok (.aload_n 0, 1) := by decide +kernel
theorem dX8_append_15 : decode cX8_append 15 = .ok (.getfield 15, 3) := by decide +kernel
theorem dX8_append_18 : decode cX8_append 18 = .ok (.sipush 600, 3) := by decide +kernel
theorem dX8_append_21 : decode cX8_append 21 = .ok (.if_icmp .ge 26, 3) := by decide +kernel
theorem dX8_append_24 : decode cX8_append 24 = .ok (.aload_n 0, 1) := by decide +kernel
theorem dX8_append_25 : decode cX8_append 25 = .ok (.getfield 9, 3) := by decide +kernel
theorem dX8_append_28 : decode cX8_append 28 = .ok (.aload_n 0, 1) := by decide +kernel
theorem dX8_append_29 : decode cX8_append 29 = .ok (.getfield 15, 3) := by decide +kernel
theorem dX8_append_32 : decode cX8_append 32 = .ok (.iload_n 1, 1) := by decide +kernel
theorem dX8_append_33 : decode cX8_append 33 = .ok (.iload_n 2, 1) := by decide +kernel
theorem dX8_append_34 : decode cX8_append 34 = .ok (.iushr, 1) := by decide +kernel
theorem dX8_append_35 : decode cX8_append 35 = .ok (.i2b, 1) := by decide +kernel
theorem dX8_append_36 : decode cX8_append 36 = .ok (.bastore, 1) := by decide +kernel
theorem dX8_append_37 : decode cX8_append 37 = .ok (.aload_n 0, 1) := by decide +kernel
theorem dX8_append_38 : decode cX8_append 38 = .ok (.dup, 1) := by decide +kernel
theorem dX8_append_39 : decode cX8_append 39 = .ok (.getfield 15, 3) := by decide +kernel
theorem dX8_append_42 : decode cX8_append 42 = .ok (.iconst 1, 1) := by decide +kernel
theorem dX8_append_43 : decode cX8_append 43 = .ok (.iadd, 1) := by decide +kernel
theorem dX8_append_44 : decode cX8_append 44 = .ok (.putfield 15, 3) := by decide +kernel
theorem dX8_append_47 : decode cX8_append 47 = .ok (.iinc 2 (-8), 3) := by decide +kernel
theorem dX8_append_50 : decode cX8_append 50 = .ok (.goto (-47), 3) := by decide +kernel
theorem dX8_append_53 : decode cX8_append 53 = .ok (.return_, 1) := by decide +kernel
theorem dX8_byteAt_0 : decode cX8_byteAt 0 = .ok (.iload_n 1, 1) := by decide +kernel
theorem dX8_byteAt_1 : decode cX8_byteAt 1 = .ok (.ifCond .lt 31, 3) := by decide +kernel
theorem dX8_byteAt_4 : decode cX8_byteAt 4 = .ok (.iload_n 1, 1) := by decide +kernel
theorem dX8_byteAt_5 : decode cX8_byteAt 5 = .ok (.aload_n 0, 1) := by decide +kernel
theorem dX8_byteAt_6 : decode cX8_byteAt 6 = .ok (.getfield 15, 3) := by decide +kernel
theorem dX8_byteAt_9 : decode cX8_byteAt 9 = .ok (.if_icmp .ge 23, 3) := by decide +kernel
theorem dX8_byteAt_12 : decode cX8_byteAt 12 = .ok (.iload_n 1, 1) := by decide +kernel
theorem dX8_byteAt_13 : decode cX8_byteAt 13 = .ok (.sipush 600, 3) := by decide +kernel
theorem dX8_byteAt_16 : decode cX8_byteAt 16 = .ok (.if_icmp .ge 16, 3) := by decide +kernel
theorem dX8_byteAt_19 : decode cX8_byteAt 19 = .ok (.aload_n 0, 1) := by decide +kernel
theorem dX8_byteAt_20 : decode cX8_byteAt 20 = .ok (.getfield 9, 3) := by decide +kernel
theorem dX8_byteAt_23 : decode cX8_byteAt 23 = .ok (.iload_n 1, 1) := by decide +kernel
theorem dX8_byteAt_24 : decode cX8_byteAt 24 = .ok (.baload, 1) := by decide +kernel
theorem dX8_byteAt_25 : decode cX8_byteAt 25 = .ok (.sipush 255, 3) := by decide +kernel
theorem dX8_byteAt_28 : decode cX8_byteAt 28 = .ok (.iand, 1) := by decide +kernel
theorem dX8_byteAt_29 : decode cX8_byteAt 29 = .ok (.goto 4, 3) := by decide +kernel
theorem dX8_byteAt_32 : decode cX8_byteAt 32 = .ok (.iconst (-1), 1) := by decide +kernel
theorem dX8_byteAt_33 : decode cX8_byteAt 33 = .ok (.ireturn, 1) := by decide +kernel
theorem dX9_init_0 : decode cX9_init 0 = .ok (.aload_n 0, 1) := by decide +kernel
theorem dX9_init_1 : decode cX9_init 1 = .ok (.invokespecial 3, 3) := by decide +kernel
theorem dX9_init_4 : decode cX9_init 4 = .ok (.aload_n 0, 1) := by decide +kernel
theorem dX9_init_5 : decode cX9_init 5 = .ok (.new 9, 3) := by decide +kernel
theorem dX9_init_8 : decode cX9_init 8 = .ok (.dup, 1) := by decide +kernel
theorem dX9_init_9 : decode cX9_init 9 = .ok (.invokespecial 11, 3) := by decide +kernel
theorem dX9_init_12 : decode cX9_init 12 = .ok (.putfield 12, 3) := by decide +kernel
theorem dX9_init_15 : decode cX9_init 15 = .ok (.aload_n 0, 1) := by decide +kernel
theorem dX9_init_16 : decode cX9_init 16 = .ok (.new 16, 3) := by decide +kernel
theorem dX9_init_19 : decode cX9_init 19 = .ok (.dup, 1) := by decide +kernel
theorem dX9_init_20 : decode cX9_init 20 = .ok (.invokespecial 18, 3) := by decide +kernel
theorem dX9_init_23 : decode cX9_init 23 = .ok (.putfield 19, 3) := by decide +kernel
theorem dX9_init_26 : decode cX9_init 26 = .ok (.aload_n 0, 1) := by decide +kernel
theorem dX9_init_27 : decode cX9_init 27 = .ok (.new 16, 3) := by decide +kernel
theorem dX9_init_30 : decode cX9_init 30 = .ok (.dup, 1) := by decide +kernel
theorem dX9_init_31 : decode cX9_init 31 = .ok (.invokespecial 18, 3) := by decide +kernel
theorem dX9_init_34 : decode cX9_init 34 = .ok (.putfield 23, 3) := by decide +kernel
theorem dX9_init_37 : decode cX9_init 37 = .ok (.aload_n 0, 1) := by decide +kernel
theorem dX9_init_38 : decode cX9_init 38 = .ok (.new 26, 3) := by decide +kernel
theorem dX9_init_41 : decode cX9_init 41 = .ok (.dup, 1) := by decide +kernel
theorem dX9_init_42 : decode cX9_init 42 = .ok (.aload_n 0, 1) := by decide +kernel
theorem dX9_init_43 : decode cX9_init 43 = .ok (.getfield 12, 3) := by decide +kernel
theorem dX9_init_46 : decode cX9_init 46 = .ok (.aload_n 0, 1) := by decide +kernel
theorem dX9_init_47 : decode cX9_init 47 = .ok (.getfield 23, 3) := by decide +kernel
theorem dX9_init_50 : decode cX9_init 50 = .ok (.invokespecial 28, 3) := by decide +kernel
theorem dX9_init_53 : decode cX9_init 53 = .ok (.putfield 31, 3) := by decide +kernel
theorem dX9_init_56 : decode cX9_init 56 = .ok (.aload_n 0, 1) := by decide +kernel
theorem dX9_init_57 : decode cX9_init 57 = .ok (.bipush 24, 2) := by decide +kernel
theorem dX9_init_59 : decode cX9_init 59 = .ok (.newarray .int, 2) := by decide +kernel
theorem dX9_init_61 : decode cX9_init 61 = .ok (.putfield 35, 3) := by decide +kernel
theorem dX9_init_64 : decode cX9_init 64 = .ok (.aload_n 0, 1) := by decide +kernel
theorem dX9_init_65 : decode cX9_init 65 = .ok (.new 39, 3) := by decide +kernel
theorem dX9_init_68 : decode cX9_init 68 = .ok (.dup, 1) := by decide +kernel
theorem dX9_init_69 : decode cX9_init 69 = .ok (.invokespecial 41, 3) := by decide +kernel
theorem dX9_init_72 : decode cX9_init 72 = .ok (.putfield 42, 3) := by decide +kernel
theorem dX9_init_75 : decode cX9_init 75 = .ok (.aload_n 0, 1) := by decide +kernel
theorem dX9_init_76 : decode cX9_init 76 = .ok (.new 46, 3) := by decide +kernel
theorem dX9_init_79 : decode cX9_init 79 = .ok (.dup, 1) := by decide +kernel
theorem dX9_init_80 : decode cX9_init 80 = .ok (.aload_n 0, 1) := by decide +kernel
theorem dX9_init_81 : decode cX9_init 81 = .ok (.getfield 19, 3) := by decide +kernel
theorem dX9_init_84 : decode cX9_init 84 = .ok (.aload_n 0, 1) := by decide +kernel
theorem dX9_init_85 : decode cX9_init 85 = .ok (.getfield 35, 3) := by decide +kernel
theorem dX9_init_88 : decode cX9_init 88 = .ok (.aload_n 0, 1) := by decide +kernel
theorem dX9_init_89 : decode cX9_init 89 = .ok (.getfield 42, 3) := by decide +kernel
theorem dX9_init_92 : decode cX9_init 92 = .ok (.invokespecial 48, 3) := by decide +kernel
theorem dX9_init_95 : decode cX9_init 95 = .ok (.putfield 51, 3) := by decide +kernel
theorem dX9_init_98 : decode cX9_init 98 = .ok (.aload_n 0, 1) := by decide +kernel
theorem dX9_init_99 : decode cX9_init 99 = .ok (.new 46, 3) := by decide +kernel
theorem dX9_init_102 : decode cX9_init 102 = .ok (.dup, 1) := by decide +kernel
theorem dX9_init_103 : decode cX9_init 103 = .ok (.aload_n 0, 1) := by decide +kernel
theorem dX9_init_104 : decode cX9_init 104 = .ok (.getfield 19, 3) := by decide +kernel
theorem dX9_init_107 : decode cX9_init 107 = .ok (.aload_n 0, 1) := by decide +kernel
theorem dX9_init_108 : decode cX9_init 108 = .ok (.getfield 35, 3) := by decide +kernel
theorem dX9_init_111 : decode cX9_init 111 = .ok (.aload_n 0, 1) := by decide +kernel
theorem dX9_init_112 : decode cX9_init 112 = .ok (.getfield 42, 3) := by decide +kernel
theorem dX9_init_115 : decode cX9_init 115 = .ok (.invokespecial 48, 3) := by decide +kernel
theorem dX9_init_118 : decode cX9_init 118 = .ok (.putfield 55, 3) := by decide +kernel
theorem dX9_init_121 : decode cX9_init 121 = .ok (.aload_n 0, 1) := by decide +kernel
theorem dX9_init_122 : decode cX9_init 122 = .ok (.new 58, 3) := by decide +kernel
theorem dX9_init_125 : decode cX9_init 125 = .ok (.dup, 1) := by decide +kernel
theorem dX9_init_126 : decode cX9_init 126 = .ok (.aload_n 0, 1) := by decide +kernel
theorem dX9_init_127 : decode cX9_init 127 = .ok (.getfield 19, 3) := by decide +kernel
theorem dX9_init_130 : decode cX9_init 130 = .ok (.aload_n 0, 1) := by decide +kernel
theorem dX9_init_131 : decode cX9_init 131 = .ok (.getfield 35, 3) := by decide +kernel
theorem dX9_init_134 : decode cX9_init 134 = .ok (.invokespecial 60, 3) := by decide +kernel
theorem dX9_init_137 : decode cX9_init 137 = .ok (.putfield 63, 3) := by decide +kernel
theorem dX9_init_140 : decode cX9_init 140 = .ok (.aload_n 0, 1) := by decide +kernel
theorem dX9_init_141 : decode cX9_init 141 = .ok (.new 67, 3) := by decide +kernel
theorem dX9_init_144 : decode cX9_init 144 = .ok (.dup, 1) := by decide +kernel
theorem dX9_init_145 : decode cX9_init 145 = .ok (.aload_n 0, 1) := by decide +kernel
theorem dX9_init_146 : decode cX9_init 146 = .ok (.getfield 35, 3) := by decide +kernel
theorem dX9_init_149 : decode cX9_init 149 = .ok (.invokespecial 69, 3) := by decide +kernel
theorem dX9_init_152 : decode cX9_init 152 = .ok (.putfield 72, 3) := by decide +kernel
theorem dX9_init_155 : decode cX9_init 155 = .ok (.return_, 1) := by decide +kernel
theorem dX9_feed_0 : decode cX9_feed 0 = .ok (.aload_n 0, 1) := by decide +kernel
theorem dX9_feed_1 : decode cX9_feed 1 = .ok (.getfield 12, 3) := by decide +kernel
theorem dX9_feed_4 : decode cX9_feed 4 = .ok (.getfield 76, 3) := by decide +kernel
theorem dX9_feed_7 : decode cX9_feed 7 = .ok (.bipush 20, 2) := by decide +kernel
theorem dX9_feed_9 : decode cX9_feed 9 = .ok (.iadd, 1) := by decide +kernel
theorem dX9_feed_10 : decode cX9_feed 10 = .ok (.sipush 600, 3) := by decide +kernel
theorem dX9_feed_13 : decode cX9_feed 13 = .ok (.if_icmp .le 5, 3) := by decide +kernel
theorem dX9_feed_16 : decode cX9_feed 16 = .ok (.iconst (-1), 1) := by decide +kernel
theorem dX9_feed_17 : decode cX9_feed 17 = .ok (.ireturn, 1) := by decide +kernel
theorem dX9_feed_18 : decode cX9_feed 18 = .ok (.aload_n 0, 1) := by decide +kernel
theorem dX9_feed_19 : decode cX9_feed 19 = .ok (.getfield 12, 3) := by decide +kernel
theorem dX9_feed_22 : decode cX9_feed 22 = .ok (.iload_n 1, 1) := by decide +kernel
theorem dX9_feed_23 : decode cX9_feed 23 = .ok (.invokevirtual 80, 3) := by decide +kernel
theorem dX9_feed_26 : decode cX9_feed 26 = .ok (.aload_n 0, 1) := by decide +kernel
theorem dX9_feed_27 : decode cX9_feed 27 = .ok (.getfield 12, 3) := by decide +kernel
theorem dX9_feed_30 : decode cX9_feed 30 = .ok (.iload_n 2, 1) := by decide +kernel
theorem dX9_feed_31 : decode cX9_feed 31 = .ok (.invokevirtual 80, 3) := by decide +kernel
theorem dX9_feed_34 : decode cX9_feed 34 = .ok (.aload_n 0, 1) := by decide +kernel
theorem dX9_feed_35 : decode cX9_feed 35 = .ok (.getfield 12, 3) := by decide +kernel
theorem dX9_feed_38 : decode cX9_feed 38 = .ok (.iload_n 3, 1) := by decide +kernel
theorem dX9_feed_39 : decode cX9_feed 39 = .ok (.invokevirtual 80, 3) := by decide +kernel
theorem dX9_feed_42 : decode cX9_feed 42 = .ok (.aload_n 0, 1) := by decide +kernel
theorem dX9_feed_43 : decode cX9_feed 43 = .ok (.getfield 12, 3) := by decide +kernel
theorem dX9_feed_46 : decode cX9_feed 46 = .ok (.iload 4, 2) := by decide +kernel
theorem dX9_feed_48 : decode cX9_feed 48 = .ok (.invokevirtual 80, 3) := by decide +kernel
theorem dX9_feed_51 : decode cX9_feed 51 = .ok (.aload_n 0, 1) := by decide +kernel
theorem dX9_feed_52 : decode cX9_feed 52 = .ok (.getfield 12, 3) := by decide +kernel
theorem dX9_feed_55 : decode cX9_feed 55 = .ok (.iload 5, 2) := by decide +kernel
theorem dX9_feed_57 : decode cX9_feed 57 = .ok (.invokevirtual 80, 3) := by decide +kernel
theorem dX9_feed_60 : decode cX9_feed 60 = .ok (.aload_n 0, 1) := by decide +kernel
theorem dX9_feed_61 : decode cX9_feed 61 = .ok (.getfield 12, 3) := by decide +kernel
theorem dX9_feed_64 : decode cX9_feed 64 = .ok (.getfield 76, 3) := by decide +kernel
theorem dX9_feed_67 : decode cX9_feed 67 = .ok (.ireturn, 1) := by decide +kernel
theorem dX9_end_0 : decode cX9_end 0 = .ok (.iload_n 1, 1) := by decide +kernel
theorem dX9_end_1 : decode cX9_end 1 = .ok (.ifCond .lt 14, 3) := by decide +kernel
theorem dX9_end_4 : decode cX9_end 4 = .ok (.iload_n 1, 1) := by decide +kernel
theorem dX9_end_5 : decode cX9_end 5 = .ok (.aload_n 0, 1) := by decide +kernel
theorem dX9_end_6 : decode cX9_end 6 = .ok (.getfield 12, 3) := by decide +kernel
theorem dX9_end_9 : decode cX9_end 9 = .ok (.getfield 76, 3) := by decide +kernel
theorem dX9_end_12 : decode cX9_end 12 = .ok (.if_icmp .le 5, 3) := by decide +kernel
theorem dX9_end_15 : decode cX9_end 15 = .ok (.iconst (-1), 1) := by decide +kernel
theorem dX9_end_16 : decode cX9_end 16 = .ok (.ireturn, 1) := by decide +kernel
theorem dX9_end_17 : decode cX9_end 17 = .ok (.aload_n 0, 1) := by decide +kernel
theorem dX9_end_18 : decode cX9_end 18 = .ok (.getfield 12, 3) := by decide +kernel
theorem dX9_end_21 : decode cX9_end 21 = .ok (.iload_n 1, 1) := by decide +kernel
theorem dX9_end_22 : decode cX9_end 22 = .ok (.putfield 76, 3) := by decide +kernel
theorem dX9_end_25 : decode cX9_end 25 = .ok (.iload_n 1, 1) := by decide +kernel
theorem dX9_end_26 : decode cX9_end 26 = .ok (.ireturn, 1) := by decide +kernel
theorem dX9_rules_0 : decode cX9_rules 0 = .ok (.aload_n 0, 1) := by decide +kernel
theorem dX9_rules_1 : decode cX9_rules 1 = .ok (.getfield 42, 3) := by decide +kernel
theorem dX9_rules_4 : decode cX9_rules 4 = .ok (.getfield 84, 3) := by decide +kernel
theorem dX9_rules_7 : decode cX9_rules 7 = .ok (.ifCond .le 5, 3) := by decide +kernel
theorem dX9_rules_10 : decode cX9_rules 10 = .ok (.iconst (-1), 1) := by decide +kernel
theorem dX9_rules_11 : decode cX9_rules 11 = .ok (.ireturn, 1) := by decide +kernel
theorem dX9_rules_12 : decode cX9_rules 12 = .ok (.aload_n 0, 1) := by decide +kernel
theorem dX9_rules_13 : decode cX9_rules 13 = .ok (.getfield 31, 3) := by decide +kernel
theorem dX9_rules_16 : decode cX9_rules 16 = .ok (.invokevirtual 87, 3) := by decide +kernel
theorem dX9_rules_19 : decode cX9_rules 19 = .ok (.istore_n 1, 1) := by decide +kernel
theorem dX9_rules_20 : decode cX9_rules 20 = .ok (.aload_n 0, 1) := by decide +kernel
theorem dX9_rules_21 : decode cX9_rules 21 = .ok (.getfield 12, 3) := by decide +kernel
theorem dX9_rules_24 : decode cX9_rules 24 = .ok (.iconst 0, 1) := by decide +kernel
theorem dX9_rules_25 : decode cX9_rules 25 = .ok (.putfield 76, 3) := by decide +kernel
theorem dX9_rules_28 : decode cX9_rules 28 = .ok (.iload_n 1, 1) := by decide +kernel
theorem dX9_rules_29 : decode cX9_rules 29 = .ok (.ifCond .ne 21, 3) := by decide +kernel
theorem dX9_rules_32 : decode cX9_rules 32 = .ok (.aload_n 0, 1) := by decide +kernel
theorem dX9_rules_33 : decode cX9_rules 33 = .ok (.getfield 19, 3) := by decide +kernel
theorem dX9_rules_36 : decode cX9_rules 36 = .ok (.aload_n 0, 1) := by decide +kernel
theorem dX9_rules_37 : decode cX9_rules 37 = .ok (.getfield 23, 3) := by decide +kernel
theorem dX9_rules_40 : decode cX9_rules 40 = .ok (.invokevirtual 91, 3) := by decide +kernel
theorem dX9_rules_43 : decode cX9_rules 43 = .ok (.aload_n 0, 1) := by decide +kernel
theorem dX9_rules_44 : decode cX9_rules 44 = .ok (.getfield 51, 3) := by decide +kernel
theorem dX9_rules_47 : decode cX9_rules 47 = .ok (.invokevirtual 95, 3) := by decide +kernel
theorem dX9_rules_50 : decode cX9_rules 50 = .ok (.iload_n 1, 1) := by decide +kernel
theorem dX9_rules_51 : decode cX9_rules 51 = .ok (.ireturn, 1) := by decide +kernel
theorem dX9_school_0 : decode cX9_school 0 = .ok (.iload_n 1, 1) := by decide +kernel
theorem dX9_school_1 : decode cX9_school 1 = .ok (.invokestatic 98, 3) := by decide +kernel
theorem dX9_school_4 : decode cX9_school 4 = .ok (.ifCond .eq 20, 3) := by decide +kernel
theorem dX9_school_7 : decode cX9_school 7 = .ok (.iload_n 2, 1) := by decide +kernel
theorem dX9_school_8 : decode cX9_school 8 = .ok (.invokestatic 102, 3) := by decide +kernel
theorem dX9_school_11 : decode cX9_school 11 = .ok (.ifCond .eq 13, 3) := by decide +kernel
theorem dX9_school_14 : decode cX9_school 14 = .ok (.aload_n 0, 1) := by decide +kernel
theorem dX9_school_15 : decode cX9_school 15 = .ok (.getfield 42, 3) := by decide +kernel
theorem dX9_school_18 : decode cX9_school 18 = .ok (.getfield 84, 3) := by decide +kernel
theorem dX9_school_21 : decode cX9_school 21 = .ok (.ifCond .le 5, 3) := by decide +kernel
theorem dX9_school_24 : decode cX9_school 24 = .ok (.iconst 0, 1) := by decide +kernel
theorem dX9_school_25 : decode cX9_school 25 = .ok (.ireturn, 1) := by decide +kernel
theorem dX9_school_26 : decode cX9_school 26 = .ok (.aload_n 0, 1) := by decide +kernel
theorem dX9_school_27 : decode cX9_school 27 = .ok (.getfield 35, 3) := by decide +kernel
theorem dX9_school_30 : decode cX9_school 30 = .ok (.iload_n 1, 1) := by decide +kernel
theorem dX9_school_31 : decode cX9_school 31 = .ok (.iload_n 2, 1) := by decide +kernel
theorem dX9_school_32 : decode cX9_school 32 = .ok (.iastore, 1) := by decide +kernel
theorem dX9_school_33 : decode cX9_school 33 = .ok (.iconst 1, 1) := by decide +kernel
theorem dX9_school_34 : decode cX9_school 34 = .ok (.ireturn, 1) := by decide +kernel
theorem dX9_act_0 : decode cX9_act 0 = .ok (.iload_n 1, 1) := by decide +kernel
theorem dX9_act_1 : decode cX9_act 1 = .ok (.ifCond .lt 22, 3) := by decide +kernel
theorem dX9_act_4 : decode cX9_act 4 = .ok (.iload_n 1, 1) := by decide +kernel
theorem dX9_act_5 : decode cX9_act 5 = .ok (.bipush 9, 2) := by decide +kernel
theorem dX9_act_7 : decode cX9_act 7 = .ok (.if_icmp .gt 16, 3) := by decide +kernel
theorem dX9_act_10 : decode cX9_act 10 = .ok (.aload_n 0, 1) := by decide +kernel
theorem dX9_act_11 : decode cX9_act 11 = .ok (.getfield 42, 3) := by decide +kernel
theorem dX9_act_14 : decode cX9_act 14 = .ok (.getfield 84, 3) := by decide +kernel
theorem dX9_act_17 : decode cX9_act 17 = .ok (.sipush 300, 3) := by decide +kernel
theorem dX9_act_20 : decode cX9_act 20 = .ok (.if_icmp .lt 5, 3) := by decide +kernel
theorem dX9_act_23 : decode cX9_act 23 = .ok (.iconst (-1), 1) := by decide +kernel
theorem dX9_act_24 : decode cX9_act 24 = .ok (.ireturn, 1) := by decide +kernel
theorem dX9_act_25 : decode cX9_act 25 = .ok (.aload_n 0, 1) := by decide +kernel
theorem dX9_act_26 : decode cX9_act 26 = .ok (.getfield 42, 3) := by decide +kernel
theorem dX9_act_29 : decode cX9_act 29 = .ok (.getfield 84, 3) := by decide +kernel
theorem dX9_act_32 : decode cX9_act 32 = .ok (.istore 6, 2) := by decide +kernel
theorem dX9_act_34 : decode cX9_act 34 = .ok (.aload_n 0, 1) := by decide +kernel
theorem dX9_act_35 : decode cX9_act 35 = .ok (.getfield 42, 3) := by decide +kernel
theorem dX9_act_38 : decode cX9_act 38 = .ok (.iload_n 1, 1) := by decide +kernel
theorem dX9_act_39 : decode cX9_act 39 = .ok (.iload_n 2, 1) := by decide +kernel
theorem dX9_act_40 : decode cX9_act 40 = .ok (.iload_n 3, 1) := by decide +kernel
theorem dX9_act_41 : decode cX9_act 41 = .ok (.iload 4, 2) := by decide +kernel
theorem dX9_act_43 : decode cX9_act 43 = .ok (.iload 5, 2) := by decide +kernel
theorem dX9_act_45 : decode cX9_act 45 = .ok (.invokevirtual 105, 3) := by decide +kernel
theorem dX9_act_48 : decode cX9_act 48 = .ok (.aload_n 0, 1) := by decide +kernel
theorem dX9_act_49 : decode cX9_act 49 = .ok (.getfield 51, 3) := by decide +kernel
theorem dX9_act_52 : decode cX9_act 52 = .ok (.iload 6, 2) := by decide +kernel
theorem dX9_act_54 : decode cX9_act 54 = .ok (.iconst 0, 1) := by decide +kernel
theorem dX9_act_55 : decode cX9_act 55 = .ok (.invokevirtual 109, 3) := by decide +kernel
theorem dX9_act_58 : decode cX9_act 58 = .ok (.pop, 1) := by decide +kernel
theorem dX9_act_59 : decode cX9_act 59 = .ok (.aload_n 0, 1) := by decide +kernel
theorem dX9_act_60 : decode cX9_act 60 = .ok (.getfield 51, 3) := by decide +kernel
theorem dX9_act_63 : decode cX9_act 63 = .ok (.iload 6, 2) := by decide +kernel
theorem dX9_act_65 : decode cX9_act 65 = .ok (.invokevirtual 113, 3) := by decide +kernel
theorem dX9_act_68 : decode cX9_act 68 = .ok (.ireturn, 1) := by decide +kernel
theorem dX9_ruling_0 : decode cX9_ruling 0 = .ok (.aload_n 0, 1) := by decide +kernel
theorem dX9_ruling_1 : decode cX9_ruling 1 = .ok (.getfield 51, 3) := by decide +kernel
theorem dX9_ruling_4 : decode cX9_ruling 4 = .ok (.iload_n 1, 1) := by decide +kernel
theorem dX9_ruling_5 : decode cX9_ruling 5 = .ok (.invokevirtual 113, 3) := by decide +kernel
theorem dX9_ruling_8 : decode cX9_ruling 8 = .ok (.ireturn, 1) := by decide +kernel
theorem dX9_passed_0 : decode cX9_passed 0 = .ok (.aload_n 0, 1) := by decide +kernel
theorem dX9_passed_1 : decode cX9_passed 1 = .ok (.getfield 51, 3) := by decide +kernel
theorem dX9_passed_4 : decode cX9_passed 4 = .ok (.iload_n 1, 1) := by decide +kernel
theorem dX9_passed_5 : decode cX9_passed 5 = .ok (.invokevirtual 117, 3) := by decide +kernel
theorem dX9_passed_8 : decode cX9_passed 8 = .ok (.ireturn, 1) := by decide +kernel
theorem dX9_state_0 : decode cX9_state 0 = .ok (.aload_n 0, 1) := by decide +kernel
theorem dX9_state_1 : decode cX9_state 1 = .ok (.getfield 51, 3) := by decide +kernel
theorem dX9_state_4 : decode cX9_state 4 = .ok (.iload_n 1, 1) := by decide +kernel
theorem dX9_state_5 : decode cX9_state 5 = .ok (.invokevirtual 120, 3) := by decide +kernel
theorem dX9_state_8 : decode cX9_state 8 = .ok (.ireturn, 1) := by decide +kernel
theorem dX9_pending_0 : decode cX9_pending 0 = .ok (.aload_n 0, 1) := by decide +kernel
theorem dX9_pending_1 : decode cX9_pending 1 = .ok (.getfield 51, 3) := by decide +kernel
theorem dX9_pending_4 : decode cX9_pending 4 = .ok (.getfield 123, 3) := by decide +kernel
theorem dX9_pending_7 : decode cX9_pending 7 = .ok (.iload_n 1, 1) := by decide +kernel
theorem dX9_pending_8 : decode cX9_pending 8 = .ok (.iload_n 2, 1) := by decide +kernel
theorem dX9_pending_9 : decode cX9_pending 9 = .ok (.invokevirtual 127, 3) := by decide +kernel
theorem dX9_pending_12 : decode cX9_pending 12 = .ok (.ireturn, 1) := by decide +kernel
theorem dX9_clause_0 : decode cX9_clause 0 = .ok (.aload_n 0, 1) := by decide +kernel
theorem dX9_clause_1 : decode cX9_clause 1 = .ok (.getfield 51, 3) := by decide +kernel
theorem dX9_clause_4 : decode cX9_clause 4 = .ok (.getfield 132, 3) := by decide +kernel
theorem dX9_clause_7 : decode cX9_clause 7 = .ok (.iload_n 1, 1) := by decide +kernel
theorem dX9_clause_8 : decode cX9_clause 8 = .ok (.invokevirtual 136, 3) := by decide +kernel
theorem dX9_clause_11 : decode cX9_clause 11 = .ok (.istore_n 3, 1) := by decide +kernel
theorem dX9_clause_12 : decode cX9_clause 12 = .ok (.iload_n 2, 1) := by decide +kernel
theorem dX9_clause_13 : decode cX9_clause 13 = .ok (.ifCond .ne 5, 3) := by decide +kernel
theorem dX9_clause_16 : decode cX9_clause 16 = .ok (.iload_n 3, 1) := by decide +kernel
theorem dX9_clause_17 : decode cX9_clause 17 = .ok (.ireturn, 1) := by decide +kernel
theorem dX9_clause_18 : decode cX9_clause 18 = .ok (.iload_n 2, 1) := by decide +kernel
theorem dX9_clause_19 : decode cX9_clause 19 = .ok (.iconst 1, 1) := by decide +kernel
theorem dX9_clause_20 : decode cX9_clause 20 = .ok (.if_icmp .ne 17, 3) := by decide +kernel
theorem dX9_clause_23 : decode cX9_clause 23 = .ok (.aload_n 0, 1) := by decide +kernel
theorem dX9_clause_24 : decode cX9_clause 24 = .ok (.getfield 51, 3) := by decide +kernel
theorem dX9_clause_27 : decode cX9_clause 27 = .ok (.getfield 132, 3) := by decide +kernel
theorem dX9_clause_30 : decode cX9_clause 30 = .ok (.iload_n 3, 1) := by decide +kernel
theorem dX9_clause_31 : decode cX9_clause 31 = .ok (.invokevirtual 141, 3) := by decide +kernel
theorem dX9_clause_34 : decode cX9_clause 34 = .ok (.goto 4, 3) := by decide +kernel
theorem dX9_clause_37 : decode cX9_clause 37 = .ok (.iconst (-1), 1) := by decide +kernel
theorem dX9_clause_38 : decode cX9_clause 38 = .ok (.ireturn, 1) := by decide +kernel
theorem dX9_place_0 : decode cX9_place 0 = .ok (.aload_n 0, 1) := by decide +kernel
theorem dX9_place_1 : decode cX9_place 1 = .ok (.getfield 51, 3) := by decide +kernel
theorem dX9_place_4 : decode cX9_place 4 = .ok (.getfield 132, 3) := by decide +kernel
theorem dX9_place_7 : decode cX9_place 7 = .ok (.iload_n 1, 1) := by decide +kernel
theorem dX9_place_8 : decode cX9_place 8 = .ok (.invokevirtual 144, 3) := by decide +kernel
theorem dX9_place_11 : decode cX9_place 11 = .ok (.ireturn, 1) := by decide +kernel
theorem dX9_speeches_0 : decode cX9_speeches 0 = .ok (.iload_n 1, 1) := by decide +kernel
theorem dX9_speeches_1 : decode cX9_speeches 1 = .ok (.invokestatic 98, 3) := by decide +kernel
theorem dX9_speeches_4 : decode cX9_speeches 4 = .ok (.ifCond .eq 18, 3) := by decide +kernel
theorem dX9_speeches_7 : decode cX9_speeches 7 = .ok (.aload_n 0, 1) := by decide +kernel
theorem dX9_speeches_8 : decode cX9_speeches 8 = .ok (.getfield 51, 3) := by decide +kernel
theorem dX9_speeches_11 : decode cX9_speeches 11 = .ok (.getfield 147, 3) := by decide +kernel
theorem dX9_speeches_14 : decode cX9_speeches 14 = .ok (.getfield 150, 3) := by decide +kernel
theorem dX9_speeches_17 : decode cX9_speeches 17 = .ok (.iload_n 1, 1) := by decide +kernel
theorem dX9_speeches_18 : decode cX9_speeches 18 = .ok (.iaload, 1) := by decide +kernel
theorem dX9_speeches_19 : decode cX9_speeches 19 = .ok (.goto 4, 3) := by decide +kernel
theorem dX9_speeches_22 : decode cX9_speeches 22 = .ok (.iconst (-1), 1) := by decide +kernel
theorem dX9_speeches_23 : decode cX9_speeches 23 = .ok (.ireturn, 1) := by decide +kernel
theorem dX9_waits_0 : decode cX9_waits 0 = .ok (.iload_n 1, 1) := by decide +kernel
theorem dX9_waits_1 : decode cX9_waits 1 = .ok (.ifCond .lt 17, 3) := by decide +kernel
theorem dX9_waits_4 : decode cX9_waits 4 = .ok (.iload_n 1, 1) := by decide +kernel
theorem dX9_waits_5 : decode cX9_waits 5 = .ok (.aload_n 0, 1) := by decide +kernel
theorem dX9_waits_6 : decode cX9_waits 6 = .ok (.getfield 51, 3) := by decide +kernel
theorem dX9_waits_9 : decode cX9_waits 9 = .ok (.getfield 147, 3) := by decide +kernel
theorem dX9_waits_12 : decode cX9_waits 12 = .ok (.getfield 153, 3) := by decide +kernel
theorem dX9_waits_15 : decode cX9_waits 15 = .ok (.if_icmp .lt 5, 3) := by decide +kernel
theorem dX9_waits_18 : decode cX9_waits 18 = .ok (.iconst (-1), 1) := by decide +kernel
theorem dX9_waits_19 : decode cX9_waits 19 = .ok (.ireturn, 1) := by decide +kernel
theorem dX9_waits_20 : decode cX9_waits 20 = .ok (.aload_n 0, 1) := by decide +kernel
theorem dX9_waits_21 : decode cX9_waits 21 = .ok (.getfield 63, 3) := by decide +kernel
theorem dX9_waits_24 : decode cX9_waits 24 = .ok (.aload_n 0, 1) := by decide +kernel
theorem dX9_waits_25 : decode cX9_waits 25 = .ok (.getfield 51, 3) := by decide +kernel
theorem dX9_waits_28 : decode cX9_waits 28 = .ok (.getfield 147, 3) := by decide +kernel
theorem dX9_waits_31 : decode cX9_waits 31 = .ok (.invokevirtual 156, 3) := by decide +kernel
theorem dX9_waits_34 : decode cX9_waits 34 = .ok (.iconst 0, 1) := by decide +kernel
theorem dX9_waits_35 : decode cX9_waits 35 = .ok (.istore_n 2, 1) := by decide +kernel
theorem dX9_waits_36 : decode cX9_waits 36 = .ok (.iload_n 2, 1) := by decide +kernel
theorem dX9_waits_37 : decode cX9_waits 37 = .ok (.iload_n 1, 1) := by decide +kernel
theorem dX9_waits_38 : decode cX9_waits 38 = .ok (.if_icmp .gt 23, 3) := by decide +kernel
theorem dX9_waits_41 : decode cX9_waits 41 = .ok (.aload_n 0, 1) := by decide +kernel
theorem dX9_waits_42 : decode cX9_waits 42 = .ok (.getfield 63, 3) := by decide +kernel
theorem dX9_waits_45 : decode cX9_waits 45 = .ok (.aload_n 0, 1) := by decide +kernel
theorem dX9_waits_46 : decode cX9_waits 46 = .ok (.getfield 51, 3) := by decide +kernel
theorem dX9_waits_49 : decode cX9_waits 49 = .ok (.getfield 159, 3) := by decide +kernel
theorem dX9_waits_52 : decode cX9_waits 52 = .ok (.invokevirtual 162, 3) := by decide +kernel
theorem dX9_waits_55 : decode cX9_waits 55 = .ok (.iinc 2 1, 3) := by decide +kernel
theorem dX9_waits_58 : decode cX9_waits 58 = .ok (.goto (-22), 3) := by decide +kernel
theorem dX9_waits_61 : decode cX9_waits 61 = .ok (.aload_n 0, 1) := by decide +kernel
theorem dX9_waits_62 : decode cX9_waits 62 = .ok (.getfield 63, 3) := by decide +kernel
theorem dX9_waits_65 : decode cX9_waits 65 = .ok (.getfield 165, 3) := by decide +kernel
theorem dX9_waits_68 : decode cX9_waits 68 = .ok (.ireturn, 1) := by decide +kernel
theorem dX9_overturned_0 : decode cX9_overturned 0 = .ok (.aload_n 0, 1) := by decide +kernel
theorem dX9_overturned_1 : decode cX9_overturned 1 = .ok (.getfield 51, 3) := by decide +kernel
theorem dX9_overturned_4 : decode cX9_overturned 4 = .ok (.iload_n 1, 1) := by decide +kernel
theorem dX9_overturned_5 : decode cX9_overturned 5 = .ok (.invokevirtual 168, 3) := by decide +kernel
theorem dX9_overturned_8 : decode cX9_overturned 8 = .ok (.ireturn, 1) := by decide +kernel
theorem dX9_beside_0 : decode cX9_beside 0 = .ok (.iload_n 1, 1) := by decide +kernel
theorem dX9_beside_1 : decode cX9_beside 1 = .ok (.ifCond .lt 14, 3) := by decide +kernel
theorem dX9_beside_4 : decode cX9_beside 4 = .ok (.iload_n 1, 1) := by decide +kernel
theorem dX9_beside_5 : decode cX9_beside 5 = .ok (.aload_n 0, 1) := by decide +kernel
theorem dX9_beside_6 : decode cX9_beside 6 = .ok (.getfield 42, 3) := by decide +kernel
theorem dX9_beside_9 : decode cX9_beside 9 = .ok (.getfield 84, 3) := by decide +kernel
theorem dX9_beside_12 : decode cX9_beside 12 = .ok (.if_icmp .lt 5, 3) := by decide +kernel
theorem dX9_beside_15 : decode cX9_beside 15 = .ok (.iconst (-1), 1) := by decide +kernel
theorem dX9_beside_16 : decode cX9_beside 16 = .ok (.ireturn, 1) := by decide +kernel
theorem dX9_beside_17 : decode cX9_beside 17 = .ok (.aload_n 0, 1) := by decide +kernel
theorem dX9_beside_18 : decode cX9_beside 18 = .ok (.getfield 55, 3) := by decide +kernel
theorem dX9_beside_21 : decode cX9_beside 21 = .ok (.invokevirtual 95, 3) := by decide +kernel
theorem dX9_beside_24 : decode cX9_beside 24 = .ok (.iconst 0, 1) := by decide +kernel
theorem dX9_beside_25 : decode cX9_beside 25 = .ok (.istore_n 3, 1) := by decide +kernel
theorem dX9_beside_26 : decode cX9_beside 26 = .ok (.iload_n 3, 1) := by decide +kernel
theorem dX9_beside_27 : decode cX9_beside 27 = .ok (.aload_n 0, 1) := by decide +kernel
theorem dX9_beside_28 : decode cX9_beside 28 = .ok (.getfield 42, 3) := by decide +kernel
theorem dX9_beside_31 : decode cX9_beside 31 = .ok (.getfield 84, 3) := by decide +kernel
theorem dX9_beside_34 : decode cX9_beside 34 = .ok (.if_icmp .ge 32, 3) := by decide +kernel
theorem dX9_beside_37 : decode cX9_beside 37 = .ok (.aload_n 0, 1) := by decide +kernel
theorem dX9_beside_38 : decode cX9_beside 38 = .ok (.getfield 55, 3) := by decide +kernel
theorem dX9_beside_41 : decode cX9_beside 41 = .ok (.iload_n 3, 1) := by decide +kernel
theorem dX9_beside_42 : decode cX9_beside 42 = .ok (.iload_n 3, 1) := by decide +kernel
theorem dX9_beside_43 : decode cX9_beside 43 = .ok (.iload_n 1, 1) := by decide +kernel
theorem dX9_beside_44 : decode cX9_beside 44 = .ok (.if_icmp .ne 7, 3) := by decide +kernel
theorem dX9_beside_47 : decode cX9_beside 47 = .ok (.iconst 1, 1) := by decide +kernel
theorem dX9_beside_48 : decode cX9_beside 48 = .ok (.goto 4, 3) := by decide +kernel
theorem dX9_beside_51 : decode cX9_beside 51 = .ok (.iconst 0, 1) := by decide +kernel
theorem dX9_beside_52 : decode cX9_beside 52 = .ok (.invokevirtual 109, 3) := by decide +kernel
theorem dX9_beside_55 : decode cX9_beside 55 = .ok (.ifCond .ne 5, 3) := by decide +kernel
theorem dX9_beside_58 : decode cX9_beside 58 = .ok (.iconst (-1), 1) := by decide +kernel
theorem dX9_beside_59 : decode cX9_beside 59 = .ok (.ireturn, 1) := by decide +kernel
theorem dX9_beside_60 : decode cX9_beside 60 = .ok (.iinc 3 1, 3) := by decide +kernel
theorem dX9_beside_63 : decode cX9_beside 63 = .ok (.goto (-37), 3) := by decide +kernel
theorem dX9_beside_66 : decode cX9_beside 66 = .ok (.iload_n 2, 1) := by decide +kernel
theorem dX9_beside_67 : decode cX9_beside 67 = .ok (.sipush 400, 3) := by decide +kernel
theorem dX9_beside_70 : decode cX9_beside 70 = .ok (.if_icmp .lt 29, 3) := by decide +kernel
theorem dX9_beside_73 : decode cX9_beside 73 = .ok (.aload_n 0, 1) := by decide +kernel
theorem dX9_beside_74 : decode cX9_beside 74 = .ok (.getfield 55, 3) := by decide +kernel
theorem dX9_beside_77 : decode cX9_beside 77 = .ok (.getfield 132, 3) := by decide +kernel
theorem dX9_beside_80 : decode cX9_beside 80 = .ok (.aload_n 0, 1) := by decide +kernel
theorem dX9_beside_81 : decode cX9_beside 81 = .ok (.getfield 55, 3) := by decide +kernel
theorem dX9_beside_84 : decode cX9_beside 84 = .ok (.getfield 132, 3) := by decide +kernel
theorem dX9_beside_87 : decode cX9_beside 87 = .ok (.iload_n 2, 1) := by decide +kernel
theorem dX9_beside_88 : decode cX9_beside 88 = .ok (.sipush 400, 3) := by decide +kernel
theorem dX9_beside_91 : decode cX9_beside 91 = .ok (.isub, 1) := by decide +kernel
theorem dX9_beside_92 : decode cX9_beside 92 = .ok (.invokevirtual 136, 3) := by decide +kernel
theorem dX9_beside_95 : decode cX9_beside 95 = .ok (.invokevirtual 141, 3) := by decide +kernel
theorem dX9_beside_98 : decode cX9_beside 98 = .ok (.ireturn, 1) := by decide +kernel
theorem dX9_beside_99 : decode cX9_beside 99 = .ok (.iload_n 2, 1) := by decide +kernel
theorem dX9_beside_100 : decode cX9_beside 100 = .ok (.bipush 11, 2) := by decide +kernel
theorem dX9_beside_102 : decode cX9_beside 102 = .ok (.if_icmp .lt 15, 3) := by decide +kernel
theorem dX9_beside_105 : decode cX9_beside 105 = .ok (.aload_n 0, 1) := by decide +kernel
theorem dX9_beside_106 : decode cX9_beside 106 = .ok (.getfield 55, 3) := by decide +kernel
theorem dX9_beside_109 : decode cX9_beside 109 = .ok (.iload_n 2, 1) := by decide +kernel
theorem dX9_beside_110 : decode cX9_beside 110 = .ok (.bipush 11, 2) := by decide +kernel
theorem dX9_beside_112 : decode cX9_beside 112 = .ok (.isub, 1) := by decide +kernel
