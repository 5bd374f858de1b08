theorem dX10_init_0 : decode cX10_init 0 = .ok (.aload_n 0, 1) := by decide +kernel
theorem dX10_init_1 : decode cX10_init 1 = .ok (.invokespecial 1, 3) := by decide +kernel
theorem dX10_init_4 : decode cX10_init 4 = .ok (.aload_n 0, 1) := by decide +kernel
theorem dX10_init_5 : decode cX10_init 5 = .ok (.sipush 600, 3) := by decide +kernel
theorem dX10_init_8 : decode cX10_init 8 = .ok (.newarray .byte, 2) := by decide +kernel
theorem dX10_init_10 : decode cX10_init 10 = .ok (.putfield 7, 3) := by decide +kernel
theorem dX10_init_13 : decode cX10_init 13 = .ok (.aload_n 0, 1) := by decide +kernel
theorem dX10_init_14 : decode cX10_init 14 = .ok (.bipush 12, 2) := by decide +kernel
theorem dX10_init_16 : decode cX10_init 16 = .ok (.newarray .boolean, 2) := by decide +kernel
theorem dX10_init_18 : decode cX10_init 18 = .ok (.putfield 13, 3) := by decide +kernel
theorem dX10_init_21 : decode cX10_init 21 = .ok (.aload_n 0, 1) := by decide +kernel
theorem dX10_init_22 : decode cX10_init 22 = .ok (.iconst 2, 1) := by decide +kernel
theorem dX10_init_23 : decode cX10_init 23 = .ok (.bipush 8, 2) := by decide +kernel
theorem dX10_init_25 : decode cX10_init 25 = .ok (.multianewarray 17 2, 4) := by decide +kernel
theorem dX10_init_29 : decode cX10_init 29 = .ok (.putfield 19, 3) := by decide +kernel
theorem dX10_init_32 : decode cX10_init 32 = .ok (.aload_n 0, 1) := by decide +kernel
theorem dX10_init_33 : decode cX10_init 33 = .ok (.iconst 2, 1) := by decide +kernel
theorem dX10_init_34 : decode cX10_init 34 = .ok (.bipush 8, 2) := by decide +kernel
theorem dX10_init_36 : decode cX10_init 36 = .ok (.multianewarray 17 2, 4) := by decide +kernel
theorem dX10_init_40 : decode cX10_init 40 = .ok (.putfield 22, 3) := by decide +kernel
theorem dX10_init_43 : decode cX10_init 43 = .ok (.aload_n 0, 1) := by decide +kernel
theorem dX10_init_44 : decode cX10_init 44 = .ok (.iconst 2, 1) := by decide +kernel
theorem dX10_init_45 : decode cX10_init 45 = .ok (.bipush 8, 2) := by decide +kernel
theorem dX10_init_47 : decode cX10_init 47 = .ok (.multianewarray 25 2, 4) := by decide +kernel
theorem dX10_init_51 : decode cX10_init 51 = .ok (.putfield 27, 3) := by decide +kernel
theorem dX10_init_54 : decode cX10_init 54 = .ok (.aload_n 0, 1) := by decide +kernel
theorem dX10_init_55 : decode cX10_init 55 = .ok (.iconst 2, 1) := by decide +kernel
theorem dX10_init_56 : decode cX10_init 56 = .ok (.bipush 8, 2) := by decide +kernel
theorem dX10_init_58 : decode cX10_init 58 = .ok (.multianewarray 25 2, 4) := by decide +kernel
theorem dX10_init_62 : decode cX10_init 62 = .ok (.putfield 30, 3) := by decide +kernel
theorem dX10_init_65 : decode cX10_init 65 = .ok (.aload_n 0, 1) := by decide +kernel
theorem dX10_init_66 : decode cX10_init 66 = .ok (.iconst 2, 1) := by decide +kernel
theorem dX10_init_67 : decode cX10_init 67 = .ok (.newarray .int, 2) := by decide +kernel
theorem dX10_init_69 : decode cX10_init 69 = .ok (.dup, 1) := by decide +kernel
theorem dX10_init_70 : decode cX10_init 70 = .ok (.iconst 0, 1) := by decide +kernel
theorem dX10_init_71 : decode cX10_init 71 = .ok (.bipush 60, 2) := by decide +kernel
theorem dX10_init_73 : decode cX10_init 73 = .ok (.iastore, 1) := by decide +kernel
theorem dX10_init_74 : decode cX10_init 74 = .ok (.dup, 1) := by decide +kernel
theorem dX10_init_75 : decode cX10_init 75 = .ok (.iconst 1, 1) := by decide +kernel
theorem dX10_init_76 : decode cX10_init 76 = .ok (.bipush 60, 2) := by decide +kernel
theorem dX10_init_78 : decode cX10_init 78 = .ok (.iastore, 1) := by decide +kernel
theorem dX10_init_79 : decode cX10_init 79 = .ok (.putfield 33, 3) := by decide +kernel
theorem dX10_init_82 : decode cX10_init 82 = .ok (.aload_n 0, 1) := by decide +kernel
theorem dX10_init_83 : decode cX10_init 83 = .ok (.iconst 2, 1) := by decide +kernel
theorem dX10_init_84 : decode cX10_init 84 = .ok (.newarray .int, 2) := by decide +kernel
theorem dX10_init_86 : decode cX10_init 86 = .ok (.putfield 37, 3) := by decide +kernel
theorem dX10_init_89 : decode cX10_init 89 = .ok (.aload_n 0, 1) := by decide +kernel
theorem dX10_init_90 : decode cX10_init 90 = .ok (.iconst 2, 1) := by decide +kernel
theorem dX10_init_91 : decode cX10_init 91 = .ok (.newarray .boolean, 2) := by decide +kernel
theorem dX10_init_93 : decode cX10_init 93 = .ok (.putfield 40, 3) := by decide +kernel
theorem dX10_init_96 : decode cX10_init 96 = .ok (.aload_n 0, 1) := by decide +kernel
theorem dX10_init_97 : decode cX10_init 97 = .ok (.iconst 2, 1) := by decide +kernel
theorem dX10_init_98 : decode cX10_init 98 = .ok (.newarray .boolean, 2) := by decide +kernel
theorem dX10_init_100 : decode cX10_init 100 = .ok (.dup, 1) := by decide +kernel
theorem dX10_init_101 : decode cX10_init 101 = .ok (.iconst 0, 1) := by decide +kernel
theorem dX10_init_102 : decode cX10_init 102 = .ok (.iconst 1, 1) := by decide +kernel
theorem dX10_init_103 : decode cX10_init 103 = .ok (.bastore, 1) := by decide +kernel
theorem dX10_init_104 : decode cX10_init 104 = .ok (.dup, 1) := by decide +kernel
theorem dX10_init_105 : decode cX10_init 105 = .ok (.iconst 1, 1) := by decide +kernel
theorem dX10_init_106 : decode cX10_init 106 = .ok (.iconst 1, 1) := by decide +kernel
theorem dX10_init_107 : decode cX10_init 107 = .ok (.bastore, 1) := by decide +kernel
theorem dX10_init_108 : decode cX10_init 108 = .ok (.putfield 43, 3) := by decide +kernel
theorem dX10_init_111 : decode cX10_init 111 = .ok (.aload_n 0, 1) := by decide +kernel
theorem dX10_init_112 : decode cX10_init 112 = .ok (.bipush 24, 2) := by decide +kernel
theorem dX10_init_114 : decode cX10_init 114 = .ok (.newarray .int, 2) := by decide +kernel
theorem dX10_init_116 : decode cX10_init 116 = .ok (.putfield 46, 3) := by decide +kernel
theorem dX10_init_119 : decode cX10_init 119 = .ok (.aload_n 0, 1) := by decide +kernel
theorem dX10_init_120 : decode cX10_init 120 = .ok (.sipush 300, 3) := by decide +kernel
theorem dX10_init_123 : decode cX10_init 123 = .ok (.newarray .int, 2) := by decide +kernel
theorem dX10_init_125 : decode cX10_init 125 = .ok (.putfield 49, 3) := by decide +kernel
theorem dX10_init_128 : decode cX10_init 128 = .ok (.aload_n 0, 1) := by decide +kernel
theorem dX10_init_129 : decode cX10_init 129 = .ok (.sipush 300, 3) := by decide +kernel
theorem dX10_init_132 : decode cX10_init 132 = .ok (.newarray .int, 2) := by decide +kernel
theorem dX10_init_134 : decode cX10_init 134 = .ok (.putfield 52, 3) := by decide +kernel
theorem dX10_init_137 : decode cX10_init 137 = .ok (.aload_n 0, 1) := by decide +kernel
theorem dX10_init_138 : decode cX10_init 138 = .ok (.sipush 300, 3) := by decide +kernel
theorem dX10_init_141 : decode cX10_init 141 = .ok (.newarray .int, 2) := by decide +kernel
theorem dX10_init_143 : decode cX10_init 143 = .ok (.putfield 55, 3) := by decide +kernel
theorem dX10_init_146 : decode cX10_init 146 = .ok (.aload_n 0, 1) := by decide +kernel
theorem dX10_init_147 : decode cX10_init 147 = .ok (.sipush 300, 3) := by decide +kernel
theorem dX10_init_150 : decode cX10_init 150 = .ok (.newarray .int, 2) := by decide +kernel
theorem dX10_init_152 : decode cX10_init 152 = .ok (.putfield 58, 3) := by decide +kernel
theorem dX10_init_155 : decode cX10_init 155 = .ok (.aload_n 0, 1) := by decide +kernel
theorem dX10_init_156 : decode cX10_init 156 = .ok (.sipush 300, 3) := by decide +kernel
theorem dX10_init_159 : decode cX10_init 159 = .ok (.newarray .int, 2) := by decide +kernel
theorem dX10_init_161 : decode cX10_init 161 = .ok (.putfield 61, 3) := by decide +kernel
theorem dX10_init_164 : decode cX10_init 164 = .ok (.aload_n 0, 1) := by decide +kernel
theorem dX10_init_165 : decode cX10_init 165 = .ok (.iconst 2, 1) := by decide +kernel
theorem dX10_init_166 : decode cX10_init 166 = .ok (.sipush 300, 3) := by decide +kernel
theorem dX10_init_169 : decode cX10_init 169 = .ok (.multianewarray 17 2, 4) := by decide +kernel
theorem dX10_init_173 : decode cX10_init 173 = .ok (.putfield 64, 3) := by decide +kernel
theorem dX10_init_176 : decode cX10_init 176 = .ok (.aload_n 0, 1) := by decide +kernel
theorem dX10_init_177 : decode cX10_init 177 = .ok (.iconst 2, 1) := by decide +kernel
theorem dX10_init_178 : decode cX10_init 178 = .ok (.sipush 300, 3) := by decide +kernel
theorem dX10_init_181 : decode cX10_init 181 = .ok (.multianewarray 17 2, 4) := by decide +kernel
theorem dX10_init_185 : decode cX10_init 185 = .ok (.putfield 67, 3) := by decide +kernel
theorem dX10_init_188 : decode cX10_init 188 = .ok (.aload_n 0, 1) := by decide +kernel
theorem dX10_init_189 : decode cX10_init 189 = .ok (.iconst 2, 1) := by decide +kernel
theorem dX10_init_190 : decode cX10_init 190 = .ok (.sipush 300, 3) := by decide +kernel
theorem dX10_init_193 : decode cX10_init 193 = .ok (.multianewarray 25 2, 4) := by decide +kernel
theorem dX10_init_197 : decode cX10_init 197 = .ok (.putfield 70, 3) := by decide +kernel
theorem dX10_init_200 : decode cX10_init 200 = .ok (.aload_n 0, 1) := by decide +kernel
theorem dX10_init_201 : decode cX10_init 201 = .ok (.iconst (-1), 1) := by decide +kernel
theorem dX10_init_202 : decode cX10_init 202 = .ok (.putfield 73, 3) := by decide +kernel
theorem dX10_init_205 : decode cX10_init 205 = .ok (.aload_n 0, 1) := by decide +kernel
theorem dX10_init_206 : decode cX10_init 206 = .ok (.bipush 24, 2) := by decide +kernel
theorem dX10_init_208 : decode cX10_init 208 = .ok (.newarray .boolean, 2) := by decide +kernel
theorem dX10_init_210 : decode cX10_init 210 = .ok (.putfield 77, 3) := by decide +kernel
theorem dX10_init_213 : decode cX10_init 213 = .ok (.aload_n 0, 1) := by decide +kernel
theorem dX10_init_214 : decode cX10_init 214 = .ok (.bipush 24, 2) := by decide +kernel
theorem dX10_init_216 : decode cX10_init 216 = .ok (.newarray .int, 2) := by decide +kernel
theorem dX10_init_218 : decode cX10_init 218 = .ok (.putfield 80, 3) := by decide +kernel
theorem dX10_init_221 : decode cX10_init 221 = .ok (.aload_n 0, 1) := by decide +kernel
theorem dX10_init_222 : decode cX10_init 222 = .ok (.bipush 24, 2) := by decide +kernel
theorem dX10_init_224 : decode cX10_init 224 = .ok (.newarray .int, 2) := by decide +kernel
theorem dX10_init_226 : decode cX10_init 226 = .ok (.putfield 83, 3) := by decide +kernel
theorem dX10_init_229 : decode cX10_init 229 = .ok (.aload_n 0, 1) := by decide +kernel
theorem dX10_init_230 : decode cX10_init 230 = .ok (.bipush 12, 2) := by decide +kernel
theorem dX10_init_232 : decode cX10_init 232 = .ok (.newarray .int, 2) := by decide +kernel
theorem dX10_init_234 : decode cX10_init 234 = .ok (.putfield 86, 3) := by decide +kernel
theorem dX10_init_237 : decode cX10_init 237 = .ok (.aload_n 0, 1) := by decide +kernel
theorem dX10_init_238 : decode cX10_init 238 = .ok (.bipush 12, 2) := by decide +kernel
theorem dX10_init_240 : decode cX10_init 240 = .ok (.newarray .int, 2) := by decide +kernel
theorem dX10_init_242 : decode cX10_init 242 = .ok (.putfield 89, 3) := by decide +kernel
theorem dX10_init_245 : decode cX10_init 245 = .ok (.aload_n 0, 1) := by decide +kernel
theorem dX10_init_246 : decode cX10_init 246 = .ok (.bipush 12, 2) := by decide +kernel
theorem dX10_init_248 : decode cX10_init 248 = .ok (.newarray .int, 2) := by decide +kernel
theorem dX10_init_250 : decode cX10_init 250 = .ok (.putfield 92, 3) := by decide +kernel
theorem dX10_init_253 : decode cX10_init 253 = .ok (.aload_n 0, 1) := by decide +kernel
theorem dX10_init_254 : decode cX10_init 254 = .ok (.bipush 12, 2) := by decide +kernel
theorem dX10_init_256 : decode cX10_init 256 = .ok (.newarray .int, 2) := by decide +kernel
theorem dX10_init_258 : decode cX10_init 258 = .ok (.putfield 95, 3) := by decide +kernel
theorem dX10_init_261 : decode cX10_init 261 = .ok (.aload_n 0, 1) := by decide +kernel
theorem dX10_init_262 : decode cX10_init 262 = .ok (.bipush 12, 2) := by decide +kernel
theorem dX10_init_264 : decode cX10_init 264 = .ok (.newarray .int, 2) := by decide +kernel
theorem dX10_init_266 : decode cX10_init 266 = .ok (.putfield 98, 3) := by decide +kernel
theorem dX10_init_269 : decode cX10_init 269 = .ok (.aload_n 0, 1) := by decide +kernel
theorem dX10_init_270 : decode cX10_init 270 = .ok (.bipush 12, 2) := by decide +kernel
theorem dX10_init_272 : decode cX10_init 272 = .ok (.newarray .boolean, 2) := by decide +kernel
theorem dX10_init_274 : decode cX10_init 274 = .ok (.putfield 101, 3) := by decide +kernel
theorem dX10_init_277 : decode cX10_init 277 = .ok (.aload_n 0, 1) := by decide +kernel
theorem dX10_init_278 : decode cX10_init 278 = .ok (.bipush 12, 2) := by decide +kernel
theorem dX10_init_280 : decode cX10_init 280 = .ok (.newarray .boolean, 2) := by decide +kernel
theorem dX10_init_282 : decode cX10_init 282 = .ok (.putfield 104, 3) := by decide +kernel
theorem dX10_init_285 : decode cX10_init 285 = .ok (.aload_n 0, 1) := by decide +kernel
theorem dX10_init_286 : decode cX10_init 286 = .ok (.sipush 300, 3) := by decide +kernel
theorem dX10_init_289 : decode cX10_init 289 = .ok (.newarray .boolean, 2) := by decide +kernel
theorem dX10_init_291 : decode cX10_init 291 = .ok (.putfield 107, 3) := by decide +kernel
theorem dX10_init_294 : decode cX10_init 294 = .ok (.aload_n 0, 1) := by decide +kernel
theorem dX10_init_295 : decode cX10_init 295 = .ok (.bipush 60, 2) := by decide +kernel
theorem dX10_init_297 : decode cX10_init 297 = .ok (.newarray .int, 2) := by decide +kernel
theorem dX10_init_299 : decode cX10_init 299 = .ok (.putfield 110, 3) := by decide +kernel
theorem dX10_init_302 : decode cX10_init 302 = .ok (.aload_n 0, 1) := by decide +kernel
theorem dX10_init_303 : decode cX10_init 303 = .ok (.bipush 60, 2) := by decide +kernel
theorem dX10_init_305 : decode cX10_init 305 = .ok (.newarray .int, 2) := by decide +kernel
theorem dX10_init_307 : decode cX10_init 307 = .ok (.putfield 113, 3) := by decide +kernel
theorem dX10_init_310 : decode cX10_init 310 = .ok (.aload_n 0, 1) := by decide +kernel
theorem dX10_init_311 : decode cX10_init 311 = .ok (.sipush 400, 3) := by decide +kernel
theorem dX10_init_314 : decode cX10_init 314 = .ok (.newarray .int, 2) := by decide +kernel
theorem dX10_init_316 : decode cX10_init 316 = .ok (.putfield 116, 3) := by decide +kernel
theorem dX10_init_319 : decode cX10_init 319 = .ok (.aload_n 0, 1) := by decide +kernel
theorem dX10_init_320 : decode cX10_init 320 = .ok (.sipush 400, 3) := by decide +kernel
theorem dX10_init_323 : decode cX10_init 323 = .ok (.bipush 60, 2) := by decide +kernel
theorem dX10_init_325 : decode cX10_init 325 = .ok (.multianewarray 17 2, 4) := by decide +kernel
theorem dX10_init_329 : decode cX10_init 329 = .ok (.putfield 119, 3) := by decide +kernel
theorem dX10_init_332 : decode cX10_init 332 = .ok (.aload_n 0, 1) := by decide +kernel
theorem dX10_init_333 : decode cX10_init 333 = .ok (.bipush 24, 2) := by decide +kernel
theorem dX10_init_335 : decode cX10_init 335 = .ok (.newarray .int, 2) := by decide +kernel
theorem dX10_init_337 : decode cX10_init 337 = .ok (.putfield 122, 3) := by decide +kernel
theorem dX10_init_340 : decode cX10_init 340 = .ok (.aload_n 0, 1) := by decide +kernel
theorem dX10_init_341 : decode cX10_init 341 = .ok (.bipush 24, 2) := by decide +kernel
theorem dX10_init_343 : decode cX10_init 343 = .ok (.newarray .int, 2) := by decide +kernel
theorem dX10_init_345 : decode cX10_init 345 = .ok (.putfield 125, 3) := by decide +kernel
theorem dX10_init_348 : decode cX10_init 348 = .ok (.aload_n 0, 1) := by decide +kernel
theorem dX10_init_349 : decode cX10_init 349 = .ok (.bipush 6, 2) := by decide +kernel
theorem dX10_init_351 : decode cX10_init 351 = .ok (.newarray .int, 2) := by decide +kernel
theorem dX10_init_353 : decode cX10_init 353 = .ok (.dup, 1) := by decide +kernel
theorem dX10_init_354 : decode cX10_init 354 = .ok (.iconst 0, 1) := by decide +kernel
theorem dX10_init_355 : decode cX10_init 355 = .ok (.iconst (-1), 1) := by decide +kernel
theorem dX10_init_356 : decode cX10_init 356 = .ok (.iastore, 1) := by decide +kernel
theorem dX10_init_357 : decode cX10_init 357 = .ok (.dup, 1) := by decide +kernel
theorem dX10_init_358 : decode cX10_init 358 = .ok (.iconst 1, 1) := by decide +kernel
theorem dX10_init_359 : decode cX10_init 359 = .ok (.iconst (-1), 1) := by decide +kernel
theorem dX10_init_360 : decode cX10_init 360 = .ok (.iastore, 1) := by decide +kernel
theorem dX10_init_361 : decode cX10_init 361 = .ok (.dup, 1) := by decide +kernel
theorem dX10_init_362 : decode cX10_init 362 = .ok (.iconst 2, 1) := by decide +kernel
theorem dX10_init_363 : decode cX10_init 363 = .ok (.iconst (-1), 1) := by decide +kernel
theorem dX10_init_364 : decode cX10_init 364 = .ok (.iastore, 1) := by decide +kernel
theorem dX10_init_365 : decode cX10_init 365 = .ok (.dup, 1) := by decide +kernel
theorem dX10_init_366 : decode cX10_init 366 = .ok (.iconst 3, 1) := by decide +kernel
theorem dX10_init_367 : decode cX10_init 367 = .ok (.iconst (-1), 1) := by decide +kernel
theorem dX10_init_368 : decode cX10_init 368 = .ok (.iastore, 1) := by decide +kernel
theorem dX10_init_369 : decode cX10_init 369 = .ok (.dup, 1) := by decide +kernel
theorem dX10_init_370 : decode cX10_init 370 = .ok (.iconst 4, 1) := by decide +kernel
theorem dX10_init_371 : decode cX10_init 371 = .ok (.iconst (-1), 1) := by decide +kernel
theorem dX10_init_372 : decode cX10_init 372 = .ok (.iastore, 1) := by decide +kernel
theorem dX10_init_373 : decode cX10_init 373 = .ok (.dup, 1) := by decide +kernel
theorem dX10_init_374 : decode cX10_init 374 = .ok (.iconst 5, 1) := by decide +kernel
theorem dX10_init_375 : decode cX10_init 375 = .ok (.iconst (-1), 1) := by decide +kernel
theorem dX10_init_376 : decode cX10_init 376 = .ok (.iastore, 1) := by decide +kernel
theorem dX10_init_377 : decode cX10_init 377 = .ok (.putfield 128, 3) := by decide +kernel
theorem dX10_init_380 : decode cX10_init 380 = .ok (.aload_n 0, 1) := by decide +kernel
theorem dX10_init_381 : decode cX10_init 381 = .ok (.bipush 6, 2) := by decide +kernel
theorem dX10_init_383 : decode cX10_init 383 = .ok (.bipush 24, 2) := by decide +kernel
theorem dX10_init_385 : decode cX10_init 385 = .ok (.multianewarray 17 2, 4) := by decide +kernel
theorem dX10_init_389 : decode cX10_init 389 = .ok (.putfield 131, 3) := by decide +kernel
theorem dX10_init_392 : decode cX10_init 392 = .ok (.aload_n 0, 1) := by decide +kernel
theorem dX10_init_393 : decode cX10_init 393 = .ok (.bipush 6, 2) := by decide +kernel
theorem dX10_init_395 : decode cX10_init 395 = .ok (.bipush 24, 2) := by decide +kernel
theorem dX10_init_397 : decode cX10_init 397 = .ok (.multianewarray 25 2, 4) := by decide +kernel
theorem dX10_init_401 : decode cX10_init 401 = .ok (.putfield 134, 3) := by decide +kernel
theorem dX10_init_404 : decode cX10_init 404 = .ok (.aload_n 0, 1) := by decide +kernel
theorem dX10_init_405 : decode cX10_init 405 = .ok (.bipush 24, 2) := by decide +kernel
theorem dX10_init_407 : decode cX10_init 407 = .ok (.newarray .boolean, 2) := by decide +kernel
theorem dX10_init_409 : decode cX10_init 409 = .ok (.putfield 137, 3) := by decide +kernel
theorem dX10_init_412 : decode cX10_init 412 = .ok (.aload_n 0, 1) := by decide +kernel
theorem dX10_init_413 : decode cX10_init 413 = .ok (.invokevirtual 140, 3) := by decide +kernel
theorem dX10_init_416 : decode cX10_init 416 = .ok (.return_, 1) := by decide +kernel
theorem dX10_in_0 : decode cX10_in 0 = .ok (.iload_n 0, 1) := by decide +kernel
theorem dX10_in_1 : decode cX10_in 1 = .ok (.iload_n 1, 1) := by decide +kernel
theorem dX10_in_2 : decode cX10_in 2 = .ok (.if_icmp .lt 12, 3) := by decide +kernel
theorem dX10_in_5 : decode cX10_in 5 = .ok (.iload_n 0, 1) := by decide +kernel
theorem dX10_in_6 : decode cX10_in 6 = .ok (.iload_n 2, 1) := by decide +kernel
theorem dX10_in_7 : decode cX10_in 7 = .ok (.if_icmp .gt 7, 3) := by decide +kernel
theorem dX10_in_10 : decode cX10_in 10 = .ok (.iconst 1, 1) := by decide +kernel
theorem dX10_in_11 : decode cX10_in 11 = .ok (.goto 4, 3) := by decide +kernel
theorem dX10_in_14 : decode cX10_in 14 = .ok (.iconst 0, 1) := by decide +kernel
theorem dX10_in_15 : decode cX10_in 15 = .ok (.ireturn, 1) := by decide +kernel
theorem dX10_feed_0 : decode cX10_feed 0 = .ok (.aload_n 0, 1) := by decide +kernel
theorem dX10_feed_1 : decode cX10_feed 1 = .ok (.getfield 146, 3) := by decide +kernel
theorem dX10_feed_4 : decode cX10_feed 4 = .ok (.bipush 20, 2) := by decide +kernel
theorem dX10_feed_6 : decode cX10_feed 6 = .ok (.iadd, 1) := by decide +kernel
theorem dX10_feed_7 : decode cX10_feed 7 = .ok (.sipush 600, 3) := by decide +kernel
theorem dX10_feed_10 : decode cX10_feed 10 = .ok (.if_icmp .le 5, 3) := by decide +kernel
theorem dX10_feed_13 : decode cX10_feed 13 = .ok (.iconst (-1), 1) := by decide +kernel
theorem dX10_feed_14 : decode cX10_feed 14 = .ok (.ireturn, 1) := by decide +kernel
theorem dX10_feed_15 : decode cX10_feed 15 = .ok (.aload_n 0, 1) := by decide +kernel
theorem dX10_feed_16 : decode cX10_feed 16 = .ok (.iload_n 1, 1) := by decide +kernel
theorem dX10_feed_17 : decode cX10_feed 17 = .ok (.invokevirtual 149, 3) := by decide +kernel
theorem dX10_feed_20 : decode cX10_feed 20 = .ok (.aload_n 0, 1) := by decide +kernel
theorem dX10_feed_21 : decode cX10_feed 21 = .ok (.iload_n 2, 1) := by decide +kernel
theorem dX10_feed_22 : decode cX10_feed 22 = .ok (.invokevirtual 149, 3) := by decide +kernel
theorem dX10_feed_25 : decode cX10_feed 25 = .ok (.aload_n 0, 1) := by decide +kernel
theorem dX10_feed_26 : decode cX10_feed 26 = .ok (.iload_n 3, 1) := by decide +kernel
theorem dX10_feed_27 : decode cX10_feed 27 = .ok (.invokevirtual 149, 3) := by decide +kernel
theorem dX10_feed_30 : decode cX10_feed 30 = .ok (.aload_n 0, 1) := by decide +kernel
theorem dX10_feed_31 : decode cX10_feed 31 = .ok (.iload 4, 2) := by decide +kernel
theorem dX10_feed_33 : decode cX10_feed 33 = .ok (.invokevirtual 149, 3) := by decide +kernel
theorem dX10_feed_36 : decode cX10_feed 36 = .ok (.aload_n 0, 1) := by decide +kernel
theorem dX10_feed_37 : decode cX10_feed 37 = .ok (.iload 5, 2) := by decide +kernel
theorem dX10_feed_39 : decode cX10_feed 39 = .ok (.invokevirtual 149, 3) := by decide +kernel
theorem dX10_feed_42 : decode cX10_feed 42 = .ok (.aload_n 0, 1) := by decide +kernel
theorem dX10_feed_43 : decode cX10_feed 43 = .ok (.getfield 146, 3) := by decide +kernel
theorem dX10_feed_46 : decode cX10_feed 46 = .ok (.ireturn, 1) := by decide +kernel
theorem dX10_put_0 : decode cX10_put 0 = .ok (.bipush 24, 2) := by decide +kernel
theorem dX10_put_2 : decode cX10_put 2 = .ok (.istore_n 2, 1) := by decide +kernel
theorem dX10_put_3 : decode cX10_put 3 = .ok (.iload_n 2, 1) := by decide +kernel
theorem dX10_put_4 : decode cX10_put 4 = .ok (.ifCond .lt 32, 3) := by decide +kernel
theorem dX10_put_7 : decode cX10_put 7 = .ok (.aload_n 0, 1) := by decide +kernel
theorem dX10_put_8 : decode cX10_put 8 = .ok (.getfield 7, 3) := by decide +kernel
theorem dX10_put_11 : decode cX10_put 11 = .ok (.aload_n 0, 1) := by decide +kernel
theorem dX10_put_12 : decode cX10_put 12 = .ok (.getfield 146, 3) := by decide +kernel
theorem dX10_put_15 : decode cX10_put 15 = .ok (.iload_n 1, 1) := by decide +kernel
theorem dX10_put_16 : decode cX10_put 16 = .ok (.iload_n 2, 1) := by decide +kernel
theorem dX10_put_17 : decode cX10_put 17 = .ok (.ishr, 1) := by decide +kernel
theorem dX10_put_18 : decode cX10_put 18 = .ok (.i2b, 1) := by decide +kernel
theorem dX10_put_19 : decode cX10_put 19 = .ok (.bastore, 1) := by decide +kernel
theorem dX10_put_20 : decode cX10_put 20 = .ok (.aload_n 0, 1) := by decide +kernel
theorem dX10_put_21 : decode cX10_put 21 = .ok (.dup, 1) := by decide +kernel
theorem dX10_put_22 : decode cX10_put 22 = .ok (.getfield 146, 3) := by decide +kernel
theorem dX10_put_25 : decode cX10_put 25 = .ok (.iconst 1, 1) := by decide +kernel
theorem dX10_put_26 : decode cX10_put 26 = .ok (.iadd, 1) := by decide +kernel
theorem dX10_put_27 : decode cX10_put 27 = .ok (.putfield 146, 3) := by decide +kernel
theorem dX10_put_30 : decode cX10_put 30 = .ok (.iinc 2 (-8), 3) := by decide +kernel
theorem dX10_put_33 : decode cX10_put 33 = .ok (.goto (-30), 3) := by decide +kernel
theorem dX10_put_36 : decode cX10_put 36 = .ok (.return_, 1) := by decide +kernel
theorem dX10_end_0 : decode cX10_end 0 = .ok (.iload_n 1, 1) := by decide +kernel
theorem dX10_end_1 : decode cX10_end 1 = .ok (.ifCond .lt 11, 3) := by decide +kernel
theorem dX10_end_4 : decode cX10_end 4 = .ok (.iload_n 1, 1) := by decide +kernel
theorem dX10_end_5 : decode cX10_end 5 = .ok (.aload_n 0, 1) := by decide +kernel
theorem dX10_end_6 : decode cX10_end 6 = .ok (.getfield 146, 3) := by decide +kernel
theorem dX10_end_9 : decode cX10_end 9 = .ok (.if_icmp .le 5, 3) := by decide +kernel
theorem dX10_end_12 : decode cX10_end 12 = .ok (.iconst (-1), 1) := by decide +kernel
theorem dX10_end_13 : decode cX10_end 13 = .ok (.ireturn, 1) := by decide +kernel
theorem dX10_end_14 : decode cX10_end 14 = .ok (.aload_n 0, 1) := by decide +kernel
theorem dX10_end_15 : decode cX10_end 15 = .ok (.iload_n 1, 1) := by decide +kernel
theorem dX10_end_16 : decode cX10_end 16 = .ok (.putfield 146, 3) := by decide +kernel
theorem dX10_end_19 : decode cX10_end 19 = .ok (.iload_n 1, 1) := by decide +kernel
theorem dX10_end_20 : decode cX10_end 20 = .ok (.ireturn, 1) := by decide +kernel
theorem dX10_fails_0 : decode cX10_fails 0 = .ok (.aload_n 0, 1) := by decide +kernel
theorem dX10_fails_1 : decode cX10_fails 1 = .ok (.getfield 153, 3) := by decide +kernel
theorem dX10_fails_4 : decode cX10_fails 4 = .ok (.ifCond .ne 12, 3) := by decide +kernel
theorem dX10_fails_7 : decode cX10_fails 7 = .ok (.aload_n 0, 1) := by decide +kernel
theorem dX10_fails_8 : decode cX10_fails 8 = .ok (.iload_n 1, 1) := by decide +kernel
theorem dX10_fails_9 : decode cX10_fails 9 = .ok (.iconst 4, 1) := by decide +kernel
theorem dX10_fails_10 : decode cX10_fails 10 = .ok (.iload_n 2, 1) := by decide +kernel
theorem dX10_fails_11 : decode cX10_fails 11 = .ok (.imul, 1) := by decide +kernel
theorem dX10_fails_12 : decode cX10_fails 12 = .ok (.iadd, 1) := by decide +kernel
theorem dX10_fails_13 : decode cX10_fails 13 = .ok (.putfield 153, 3) := by decide +kernel
theorem dX10_fails_16 : decode cX10_fails 16 = .ok (.return_, 1) := by decide +kernel
theorem dX10_isEnd_0 : decode cX10_isEnd 0 = .ok (.aload_n 0, 1) := by decide +kernel
theorem dX10_isEnd_1 : decode cX10_isEnd 1 = .ok (.getfield 156, 3) := by decide +kernel
theorem dX10_isEnd_4 : decode cX10_isEnd 4 = .ok (.aload_n 0, 1) := by decide +kernel
theorem dX10_isEnd_5 : decode cX10_isEnd 5 = .ok (.getfield 146, 3) := by decide +kernel
theorem dX10_isEnd_8 : decode cX10_isEnd 8 = .ok (.if_icmp .ge 30, 3) := by decide +kernel
theorem dX10_isEnd_11 : decode cX10_isEnd 11 = .ok (.aload_n 0, 1) := by decide +kernel
theorem dX10_isEnd_12 : decode cX10_isEnd 12 = .ok (.getfield 7, 3) := by decide +kernel
theorem dX10_isEnd_15 : decode cX10_isEnd 15 = .ok (.aload_n 0, 1) := by decide +kernel
theorem dX10_isEnd_16 : decode cX10_isEnd 16 = .ok (.getfield 156, 3) := by decide +kernel
theorem dX10_isEnd_19 : decode cX10_isEnd 19 = .ok (.baload, 1) := by decide +kernel
theorem dX10_isEnd_20 : decode cX10_isEnd 20 = .ok (.bipush 32, 2) := by decide +kernel
theorem dX10_isEnd_22 : decode cX10_isEnd 22 = .ok (.if_icmp .ne 16, 3) := by decide +kernel
theorem dX10_isEnd_25 : decode cX10_isEnd 25 = .ok (.aload_n 0, 1) := by decide +kernel
theorem dX10_isEnd_26 : decode cX10_isEnd 26 = .ok (.dup, 1) := by decide +kernel
theorem dX10_isEnd_27 : decode cX10_isEnd 27 = .ok (.getfield 156, 3) := by decide +kernel
theorem dX10_isEnd_30 : decode cX10_isEnd 30 = .ok (.iconst 1, 1) := by decide +kernel
theorem dX10_isEnd_31 : decode cX10_isEnd 31 = .ok (.iadd, 1) := by decide +kernel
theorem dX10_isEnd_32 : decode cX10_isEnd 32 = .ok (.putfield 156, 3) := by decide +kernel
theorem dX10_isEnd_35 : decode cX10_isEnd 35 = .ok (.goto (-35), 3) := by decide +kernel
theorem dX10_isEnd_38 : decode cX10_isEnd 38 = .ok (.aload_n 0, 1) := by decide +kernel
theorem dX10_isEnd_39 : decode cX10_isEnd 39 = .ok (.aload_n 0, 1) := by decide +kernel
theorem dX10_isEnd_40 : decode cX10_isEnd 40 = .ok (.getfield 156, 3) := by decide +kernel
theorem dX10_isEnd_43 : decode cX10_isEnd 43 = .ok (.putfield 159, 3) := by decide +kernel
theorem dX10_isEnd_46 : decode cX10_isEnd 46 = .ok (.aload_n 0, 1) := by decide +kernel
theorem dX10_isEnd_47 : decode cX10_isEnd 47 = .ok (.getfield 156, 3) := by decide +kernel
theorem dX10_isEnd_50 : decode cX10_isEnd 50 = .ok (.aload_n 0, 1) := by decide +kernel
theorem dX10_isEnd_51 : decode cX10_isEnd 51 = .ok (.getfield 146, 3) := by decide +kernel
theorem dX10_isEnd_54 : decode cX10_isEnd 54 = .ok (.if_icmp .ne 7, 3) := by decide +kernel
theorem dX10_isEnd_57 : decode cX10_isEnd 57 = .ok (.iconst 1, 1) := by decide +kernel
theorem dX10_isEnd_58 : decode cX10_isEnd 58 = .ok (.goto 4, 3) := by decide +kernel
theorem dX10_isEnd_61 : decode cX10_isEnd 61 = .ok (.iconst 0, 1) := by decide +kernel
theorem dX10_isEnd_62 : decode cX10_isEnd 62 = .ok (.ireturn, 1) := by decide +kernel
theorem dX10_isLetter_0 : decode cX10_isLetter 0 = .ok (.aload_n 0, 1) := by decide +kernel
theorem dX10_isLetter_1 : decode cX10_isLetter 1 = .ok (.getfield 156, 3) := by decide +kernel
theorem dX10_isLetter_4 : decode cX10_isLetter 4 = .ok (.aload_n 0, 1) := by decide +kernel
theorem dX10_isLetter_5 : decode cX10_isLetter 5 = .ok (.getfield 146, 3) := by decide +kernel
theorem dX10_isLetter_8 : decode cX10_isLetter 8 = .ok (.if_icmp .ge 35, 3) := by decide +kernel
theorem dX10_isLetter_11 : decode cX10_isLetter 11 = .ok (.aload_n 0, 1) := by decide +kernel
theorem dX10_isLetter_12 : decode cX10_isLetter 12 = .ok (.getfield 7, 3) := by decide +kernel
theorem dX10_isLetter_15 : decode cX10_isLetter 15 = .ok (.aload_n 0, 1) := by decide +kernel
theorem dX10_isLetter_16 : decode cX10_isLetter 16 = .ok (.getfield 156, 3) := by decide +kernel
theorem dX10_isLetter_19 : decode cX10_isLetter 19 = .ok (.baload, 1) := by decide +kernel
theorem dX10_isLetter_20 : decode cX10_isLetter 20 = .ok (.bipush 97, 2) := by decide +kernel
theorem dX10_isLetter_22 : decode cX10_isLetter 22 = .ok (.if_icmp .lt 21, 3) := by decide +kernel
theorem dX10_isLetter_25 : decode cX10_isLetter 25 = .ok (.aload_n 0, 1) := by decide +kernel
theorem dX10_isLetter_26 : decode cX10_isLetter 26 = .ok (.getfield 7, 3) := by decide +kernel
theorem dX10_isLetter_29 : decode cX10_isLetter 29 = .ok (.aload_n 0, 1) := by decide +kernel
theorem dX10_isLetter_30 : decode cX10_isLetter 30 = .ok (.getfield 156, 3) := by decide +kernel
theorem dX10_isLetter_33 : decode cX10_isLetter 33 = .ok (.baload, 1) := by decide +kernel
theorem dX10_isLetter_34 : decode cX10_isLetter 34 = .ok (.bipush 122, 2) := by decide +kernel
theorem dX10_isLetter_36 : decode cX10_isLetter 36 = .ok (.if_icmp .gt 7, 3) := by decide +kernel
theorem dX10_isLetter_39 : decode cX10_isLetter 39 = .ok (.iconst 1, 1) := by decide +kernel
theorem dX10_isLetter_40 : decode cX10_isLetter 40 = .ok (.goto 4, 3) := by decide +kernel
theorem dX10_isLetter_43 : decode cX10_isLetter 43 = .ok (.iconst 0, 1) := by decide +kernel
theorem dX10_isLetter_44 : decode cX10_isLetter 44 = .ok (.ireturn, 1) := by decide +kernel
theorem dX10_word_0 : decode cX10_word 0 = .ok (.aload_n 0, 1) := by decide +kernel
theorem dX10_word_1 : decode cX10_word 1 = .ok (.invokevirtual 162, 3) := by decide +kernel
theorem dX10_word_4 : decode cX10_word 4 = .ok (.pop, 1) := by decide +kernel
theorem dX10_word_5 : decode cX10_word 5 = .ok (.aload_n 0, 1) := by decide +kernel
theorem dX10_word_6 : decode cX10_word 6 = .ok (.invokevirtual 166, 3) := by decide +kernel
theorem dX10_word_9 : decode cX10_word 9 = .ok (.ifCond .eq 16, 3) := by decide +kernel
theorem dX10_word_12 : decode cX10_word 12 = .ok (.aload_n 0, 1) := by decide +kernel
theorem dX10_word_13 : decode cX10_word 13 = .ok (.dup, 1) := by decide +kernel
theorem dX10_word_14 : decode cX10_word 14 = .ok (.getfield 156, 3) := by decide +kernel
theorem dX10_word_17 : decode cX10_word 17 = .ok (.iconst 1, 1) := by decide +kernel
theorem dX10_word_18 : decode cX10_word 18 = .ok (.iadd, 1) := by decide +kernel
theorem dX10_word_19 : decode cX10_word 19 = .ok (.putfield 156, 3) := by decide +kernel
theorem dX10_word_22 : decode cX10_word 22 = .ok (.goto (-17), 3) := by decide +kernel
theorem dX10_word_25 : decode cX10_word 25 = .ok (.aload_n 0, 1) := by decide +kernel
theorem dX10_word_26 : decode cX10_word 26 = .ok (.getfield 156, 3) := by decide +kernel
theorem dX10_word_29 : decode cX10_word 29 = .ok (.aload_n 0, 1) := by decide +kernel
theorem dX10_word_30 : decode cX10_word 30 = .ok (.getfield 159, 3) := by decide +kernel
theorem dX10_word_33 : decode cX10_word 33 = .ok (.if_icmp .ne 12, 3) := by decide +kernel
theorem dX10_word_36 : decode cX10_word 36 = .ok (.aload_n 0, 1) := by decide +kernel
theorem dX10_word_37 : decode cX10_word 37 = .ok (.iconst 1, 1) := by decide +kernel
theorem dX10_word_38 : decode cX10_word 38 = .ok (.aload_n 0, 1) := by decide +kernel
theorem dX10_word_39 : decode cX10_word 39 = .ok (.getfield 159, 3) := by decide +kernel
theorem dX10_word_42 : decode cX10_word 42 = .ok (.invokevirtual 169, 3) := by decide +kernel
theorem dX10_word_45 : decode cX10_word 45 = .ok (.return_, 1) := by decide +kernel
theorem dX10_is_0 : decode cX10_is 0 = .ok (.aload_n 0, 1) := by decide +kernel
theorem dX10_is_1 : decode cX10_is 1 = .ok (.getfield 156, 3) := by decide +kernel
theorem dX10_is_4 : decode cX10_is 4 = .ok (.aload_n 0, 1) := by decide +kernel
theorem dX10_is_5 : decode cX10_is 5 = .ok (.getfield 159, 3) := by decide +kernel
theorem dX10_is_8 : decode cX10_is 8 = .ok (.isub, 1) := by decide +kernel
theorem dX10_is_9 : decode cX10_is 9 = .ok (.aload_n 1, 1) := by decide +kernel
theorem dX10_is_10 : decode cX10_is 10 = .ok (.invokevirtual 173, 3) := by decide +kernel
theorem dX10_is_13 : decode cX10_is 13 = .ok (.if_icmp .ne 7, 3) := by decide +kernel
theorem dX10_is_16 : decode cX10_is 16 = .ok (.iconst 1, 1) := by decide +kernel
theorem dX10_is_17 : decode cX10_is 17 = .ok (.goto 4, 3) := by decide +kernel
theorem dX10_is_20 : decode cX10_is 20 = .ok (.iconst 0, 1) := by decide +kernel
theorem dX10_is_21 : decode cX10_is 21 = .ok (.istore_n 2, 1) := by decide +kernel
theorem dX10_is_22 : decode cX10_is 22 = .ok (.iconst 0, 1) := by decide +kernel
theorem dX10_is_23 : decode cX10_is 23 = .ok (.istore_n 3, 1) := by decide +kernel
theorem dX10_is_24 : decode cX10_is 24 = .ok (.iload_n 3, 1) := by decide +kernel
theorem dX10_is_25 : decode cX10_is 25 = .ok (.aload_n 1, 1) := by decide +kernel
theorem dX10_is_26 : decode cX10_is 26 = .ok (.invokevirtual 173, 3) := by decide +kernel
theorem dX10_is_29 : decode cX10_is 29 = .ok (.if_icmp .ge 38, 3) := by decide +kernel
theorem dX10_is_32 : decode cX10_is 32 = .ok (.iload_n 2, 1) := by decide +kernel
theorem dX10_is_33 : decode cX10_is 33 = .ok (.ifCond .eq 34, 3) := by decide +kernel
theorem dX10_is_36 : decode cX10_is 36 = .ok (.aload_n 0, 1) := by decide +kernel
theorem dX10_is_37 : decode cX10_is 37 = .ok (.getfield 7, 3) := by decide +kernel
theorem dX10_is_40 : decode cX10_is 40 = .ok (.aload_n 0, 1) := by decide +kernel
theorem dX10_is_41 : decode cX10_is 41 = .ok (.getfield 159, 3) := by decide +kernel
theorem dX10_is_44 : decode cX10_is 44 = .ok (.iload_n 3, 1) := by decide +kernel
theorem dX10_is_45 : decode cX10_is 45 = .ok (.iadd, 1) := by decide +kernel
theorem dX10_is_46 : decode cX10_is 46 = .ok (.baload, 1) := by decide +kernel
theorem dX10_is_47 : decode cX10_is 47 = .ok (.aload_n 1, 1) := by decide +kernel
theorem dX10_is_48 : decode cX10_is 48 = .ok (.iload_n 3, 1) := by decide +kernel
theorem dX10_is_49 : decode cX10_is 49 = .ok (.invokevirtual 179, 3) := by decide +kernel
theorem dX10_is_52 : decode cX10_is 52 = .ok (.if_icmp .ne 7, 3) := by decide +kernel
theorem dX10_is_55 : decode cX10_is 55 = .ok (.iconst 1, 1) := by decide +kernel
theorem dX10_is_56 : decode cX10_is 56 = .ok (.goto 4, 3) := by decide +kernel
theorem dX10_is_59 : decode cX10_is 59 = .ok (.iconst 0, 1) := by decide +kernel
theorem dX10_is_60 : decode cX10_is 60 = .ok (.istore_n 2, 1) := by decide +kernel
theorem dX10_is_61 : decode cX10_is 61 = .ok (.iinc 3 1, 3) := by decide +kernel
theorem dX10_is_64 : decode cX10_is 64 = .ok (.goto (-40), 3) := by decide +kernel
theorem dX10_is_67 : decode cX10_is 67 = .ok (.iload_n 2, 1) := by decide +kernel
theorem dX10_is_68 : decode cX10_is 68 = .ok (.ireturn, 1) := by decide +kernel
theorem dX10_number_0 : decode cX10_number 0 = .ok (.aload_n 0, 1) := by decide +kernel
theorem dX10_number_1 : decode cX10_number 1 = .ok (.getfield 153, 3) := by decide +kernel
theorem dX10_number_4 : decode cX10_number 4 = .ok (.ifCond .le 5, 3) := by decide +kernel
theorem dX10_number_7 : decode cX10_number 7 = .ok (.iconst 0, 1) := by decide +kernel
theorem dX10_number_8 : decode cX10_number 8 = .ok (.ireturn, 1) := by decide +kernel
theorem dX10_number_9 : decode cX10_number 9 = .ok (.aload_n 0, 1) := by decide +kernel
theorem dX10_number_10 : decode cX10_number 10 = .ok (.invokevirtual 162, 3) := by decide +kernel
theorem dX10_number_13 : decode cX10_number 13 = .ok (.pop, 1) := by decide +kernel
theorem dX10_number_14 : decode cX10_number 14 = .ok (.iconst 0, 1) := by decide +kernel
theorem dX10_number_15 : decode cX10_number 15 = .ok (.istore_n 3, 1) := by decide +kernel
theorem dX10_number_16 : decode cX10_number 16 = .ok (.aload_n 0, 1) := by decide +kernel
theorem dX10_number_17 : decode cX10_number 17 = .ok (.getfield 156, 3) := by decide +kernel
theorem dX10_number_20 : decode cX10_number 20 = .ok (.aload_n 0, 1) := by decide +kernel
theorem dX10_number_21 : decode cX10_number 21 = .ok (.getfield 146, 3) := by decide +kernel
theorem dX10_number_24 : decode cX10_number 24 = .ok (.if_icmp .ge 80, 3) := by decide +kernel
theorem dX10_number_27 : decode cX10_number 27 = .ok (.aload_n 0, 1) := by decide +kernel
theorem dX10_number_28 : decode cX10_number 28 = .ok (.getfield 7, 3) := by decide +kernel
theorem dX10_number_31 : decode cX10_number 31 = .ok (.aload_n 0, 1) := by decide +kernel
theorem dX10_number_32 : decode cX10_number 32 = .ok (.getfield 156, 3) := by decide +kernel
theorem dX10_number_35 : decode cX10_number 35 = .ok (.baload, 1) := by decide +kernel
theorem dX10_number_36 : decode cX10_number 36 = .ok (.bipush 48, 2) := by decide +kernel
theorem dX10_number_38 : decode cX10_number 38 = .ok (.if_icmp .lt 66, 3) := by decide +kernel
theorem dX10_number_41 : decode cX10_number 41 = .ok (.aload_n 0, 1) := by decide +kernel
theorem dX10_number_42 : decode cX10_number 42 = .ok (.getfield 7, 3) := by decide +kernel
theorem dX10_number_45 : decode cX10_number 45 = .ok (.aload_n 0, 1) := by decide +kernel
theorem dX10_number_46 : decode cX10_number 46 = .ok (.getfield 156, 3) := by decide +kernel
theorem dX10_number_49 : decode cX10_number 49 = .ok (.baload, 1) := by decide +kernel
theorem dX10_number_50 : decode cX10_number 50 = .ok (.bipush 57, 2) := by decide +kernel
theorem dX10_number_52 : decode cX10_number 52 = .ok (.if_icmp .gt 52, 3) := by decide +kernel
theorem dX10_number_55 : decode cX10_number 55 = .ok (.aload_n 0, 1) := by decide +kernel
theorem dX10_number_56 : decode cX10_number 56 = .ok (.getfield 156, 3) := by decide +kernel
theorem dX10_number_59 : decode cX10_number 59 = .ok (.aload_n 0, 1) := by decide +kernel
theorem dX10_number_60 : decode cX10_number 60 = .ok (.getfield 159, 3) := by decide +kernel
theorem dX10_number_63 : decode cX10_number 63 = .ok (.isub, 1) := by decide +kernel
theorem dX10_number_64 : decode cX10_number 64 = .ok (.iconst 4, 1) := by decide +kernel
theorem dX10_number_65 : decode cX10_number 65 = .ok (.if_icmp .ge 23, 3) := by decide +kernel
theorem dX10_number_68 : decode cX10_number 68 = .ok (.bipush 10, 2) := by decide +kernel
theorem dX10_number_70 : decode cX10_number 70 = .ok (.iload_n 3, 1) := by decide +kernel
theorem dX10_number_71 : decode cX10_number 71 = .ok (.imul, 1) := by decide +kernel
theorem dX10_number_72 : decode cX10_number 72 = .ok (.aload_n 0, 1) := by decide +kernel
theorem dX10_number_73 : decode cX10_number 73 = .ok (.getfield 7, 3) := by decide +kernel
theorem dX10_number_76 : decode cX10_number 76 = .ok (.aload_n 0, 1) := by decide +kernel
theorem dX10_number_77 : decode cX10_number 77 = .ok (.getfield 156, 3) := by decide +kernel
theorem dX10_number_80 : decode cX10_number 80 = .ok (.baload, 1) := by decide +kernel
theorem dX10_number_81 : decode cX10_number 81 = .ok (.iadd, 1) := by decide +kernel
theorem dX10_number_82 : decode cX10_number 82 = .ok (.bipush 48, 2) := by decide +kernel
theorem dX10_number_84 : decode cX10_number 84 = .ok (.isub, 1) := by decide +kernel
theorem dX10_number_85 : decode cX10_number 85 = .ok (.goto 5, 3) := by decide +kernel
theorem dX10_number_88 : decode cX10_number 88 = .ok (.ldc 183, 2) := by decide +kernel
theorem dX10_number_90 : decode cX10_number 90 = .ok (.istore_n 3, 1) := by decide +kernel
theorem dX10_number_91 : decode cX10_number 91 = .ok (.aload_n 0, 1) := by decide +kernel
theorem dX10_number_92 : decode cX10_number 92 = .ok (.dup, 1) := by decide +kernel
theorem dX10_number_93 : decode cX10_number 93 = .ok (.getfield 156, 3) := by decide +kernel
theorem dX10_number_96 : decode cX10_number 96 = .ok (.iconst 1, 1) := by decide +kernel
theorem dX10_number_97 : decode cX10_number 97 = .ok (.iadd, 1) := by decide +kernel
theorem dX10_number_98 : decode cX10_number 98 = .ok (.putfield 156, 3) := by decide +kernel
theorem dX10_number_101 : decode cX10_number 101 = .ok (.goto (-85), 3) := by decide +kernel
theorem dX10_number_104 : decode cX10_number 104 = .ok (.aload_n 0, 1) := by decide +kernel
theorem dX10_number_105 : decode cX10_number 105 = .ok (.getfield 156, 3) := by decide +kernel
theorem dX10_number_108 : decode cX10_number 108 = .ok (.aload_n 0, 1) := by decide +kernel
theorem dX10_number_109 : decode cX10_number 109 = .ok (.getfield 159, 3) := by decide +kernel
theorem dX10_number_112 : decode cX10_number 112 = .ok (.if_icmp .ne 15, 3) := by decide +kernel
theorem dX10_number_115 : decode cX10_number 115 = .ok (.aload_n 0, 1) := by decide +kernel
theorem dX10_number_116 : decode cX10_number 116 = .ok (.iconst 1, 1) := by decide +kernel
theorem dX10_number_117 : decode cX10_number 117 = .ok (.aload_n 0, 1) := by decide +kernel
theorem dX10_number_118 : decode cX10_number 118 = .ok (.getfield 159, 3) := by decide +kernel
theorem dX10_number_121 : decode cX10_number 121 = .ok (.invokevirtual 169, 3) := by decide +kernel
theorem dX10_number_124 : decode cX10_number 124 = .ok (.goto 21, 3) := by decide +kernel
theorem dX10_number_127 : decode cX10_number 127 = .ok (.iload_n 3, 1) := by decide +kernel
theorem dX10_number_128 : decode cX10_number 128 = .ok (.iload_n 1, 1) := by decide +kernel
theorem dX10_number_129 : decode cX10_number 129 = .ok (.iload_n 2, 1) := by decide +kernel
theorem dX10_number_130 : decode cX10_number 130 = .ok (.invokestatic 184, 3) := by decide +kernel
theorem dX10_number_133 : decode cX10_number 133 = .ok (.ifCond .ne 12, 3) := by decide +kernel
theorem dX10_number_136 : decode cX10_number 136 = .ok (.aload_n 0, 1) := by decide +kernel
theorem dX10_number_137 : decode cX10_number 137 = .ok (.iconst 2, 1) := by decide +kernel
theorem dX10_number_138 : decode cX10_number 138 = .ok (.aload_n 0, 1) := by decide +kernel
theorem dX10_number_139 : decode cX10_number 139 = .ok (.getfield 159, 3) := by decide +kernel
theorem dX10_number_142 : decode cX10_number 142 = .ok (.invokevirtual 169, 3) := by decide +kernel
theorem dX10_number_145 : decode cX10_number 145 = .ok (.iload_n 3, 1) := by decide +kernel
theorem dX10_number_146 : decode cX10_number 146 = .ok (.ireturn, 1) := by decide +kernel
theorem dX10_kindOf_0 : decode cX10_kindOf 0 = .ok (.iload_n 1, 1) := by decide +kernel
theorem dX10_kindOf_1 : decode cX10_kindOf 1 = .ok (.tableswitch 64 0 6 #[43, 46, 49, 52, 55, 58, 61], 43) := by decide +kernel
theorem dX10_kindOf_44 : decode cX10_kindOf 44 = .ok (.ldc 188, 2) := by decide +kernel
theorem dX10_kindOf_46 : decode cX10_kindOf 46 = .ok (.areturn, 1) := by decide +kernel
theorem dX10_kindOf_47 : decode cX10_kindOf 47 = .ok (.ldc 190, 2) := by decide +kernel
theorem dX10_kindOf_49 : decode cX10_kindOf 49 = .ok (.areturn, 1) := by decide +kernel
theorem dX10_kindOf_50 : decode cX10_kindOf 50 = .ok (.ldc 192, 2) := by decide +kernel
theorem dX10_kindOf_52 : decode cX10_kindOf 52 = .ok (.areturn, 1) := by decide +kernel
theorem dX10_kindOf_53 : decode cX10_kindOf 53 = .ok (.ldc 194, 2) := by decide +kernel
theorem dX10_kindOf_55 : decode cX10_kindOf 55 = .ok (.areturn, 1) := by decide +kernel
theorem dX10_kindOf_56 : decode cX10_kindOf 56 = .ok (.ldc 196, 2) := by decide +kernel
theorem dX10_kindOf_58 : decode cX10_kindOf 58 = .ok (.areturn, 1) := by decide +kernel
theorem dX10_kindOf_59 : decode cX10_kindOf 59 = .ok (.ldc 198, 2) := by decide +kernel
theorem dX10_kindOf_61 : decode cX10_kindOf 61 = .ok (.areturn, 1) := by decide +kernel
theorem dX10_kindOf_62 : decode cX10_kindOf 62 = .ok (.ldc 200, 2) := by decide +kernel
theorem dX10_kindOf_64 : decode cX10_kindOf 64 = .ok (.areturn, 1) := by decide +kernel
theorem dX10_kindOf_65 : decode cX10_kindOf 65 = .ok (.ldc 202, 2) := by decide +kernel
theorem dX10_kindOf_67 : decode cX10_kindOf 67 = .ok (.areturn, 1) := by decide +kernel
theorem dX10_wayOf_0 : decode cX10_wayOf 0 = .ok (.iload_n 1, 1) := by decide +kernel
theorem dX10_wayOf_1 : decode cX10_wayOf 1 = .ok (.ifCond .ne 8, 3) := by decide +kernel
theorem dX10_wayOf_4 : decode cX10_wayOf 4 = .ok (.ldc 204, 2) := by decide +kernel
theorem dX10_wayOf_6 : decode cX10_wayOf 6 = .ok (.goto 25, 3) := by decide +kernel
theorem dX10_wayOf_9 : decode cX10_wayOf 9 = .ok (.iload_n 1, 1) := by decide +kernel
theorem dX10_wayOf_10 : decode cX10_wayOf 10 = .ok (.iconst 1, 1) := by decide +kernel
theorem dX10_wayOf_11 : decode cX10_wayOf 11 = .ok (.if_icmp .ne 8, 3) := by decide +kernel
theorem dX10_wayOf_14 : decode cX10_wayOf 14 = .ok (.ldc 206, 2) := by decide +kernel
theorem dX10_wayOf_16 : decode cX10_wayOf 16 = .ok (.goto 15, 3) := by decide +kernel
theorem dX10_wayOf_19 : decode cX10_wayOf 19 = .ok (.iload_n 1, 1) := by decide +kernel
theorem dX10_wayOf_20 : decode cX10_wayOf 20 = .ok (.iconst 2, 1) := by decide +kernel
theorem dX10_wayOf_21 : decode cX10_wayOf 21 = .ok (.if_icmp .ne 8, 3) := by decide +kernel
theorem dX10_wayOf_24 : decode cX10_wayOf 24 = .ok (.ldc 208, 2) := by decide +kernel
theorem dX10_wayOf_26 : decode cX10_wayOf 26 = .ok (.goto 5, 3) := by decide +kernel
theorem dX10_wayOf_29 : decode cX10_wayOf 29 = .ok (.ldc 210, 2) := by decide +kernel
theorem dX10_wayOf_31 : decode cX10_wayOf 31 = .ok (.areturn, 1) := by decide +kernel
theorem dX10_clauseOf_0 : decode cX10_clauseOf 0 = .ok (.iload_n 1, 1) := by decide +kernel
theorem dX10_clauseOf_1 : decode cX10_clauseOf 1 = .ok (.ifCond .ne 8, 3) := by decide +kernel
theorem dX10_clauseOf_4 : decode cX10_clauseOf 4 = .ok (.ldc 212, 2) := by decide +kernel
theorem dX10_clauseOf_6 : decode cX10_clauseOf 6 = .ok (.goto 25, 3) := by decide +kernel
theorem dX10_clauseOf_9 : decode cX10_clauseOf 9 = .ok (.iload_n 1, 1) := by decide +kernel
theorem dX10_clauseOf_10 : decode cX10_clauseOf 10 = .ok (.iconst 1, 1) := by decide +kernel
theorem dX10_clauseOf_11 : decode cX10_clauseOf 11 = .ok (.if_icmp .ne 8, 3) := by decide +kernel
theorem dX10_clauseOf_14 : decode cX10_clauseOf 14 = .ok (.ldc 213, 2) := by decide +kernel
theorem dX10_clauseOf_16 : decode cX10_clauseOf 16 = .ok (.goto 15, 3) := by decide +kernel
theorem dX10_clauseOf_19 : decode cX10_clauseOf 19 = .ok (.iload_n 1, 1) := by decide +kernel
theorem dX10_clauseOf_20 : decode cX10_clauseOf 20 = .ok (.iconst 2, 1) := by decide +kernel
theorem dX10_clauseOf_21 : decode cX10_clauseOf 21 = .ok (.if_icmp .ne 8, 3) := by decide +kernel
theorem dX10_clauseOf_24 : decode cX10_clauseOf 24 = .ok (.ldc 214, 2) := by decide +kernel
theorem dX10_clauseOf_26 : decode cX10_clauseOf 26 = .ok (.goto 5, 3) := by decide +kernel
theorem dX10_clauseOf_29 : decode cX10_clauseOf 29 = .ok (.ldc 216, 2) := by decide +kernel
theorem dX10_clauseOf_31 : decode cX10_clauseOf 31 = .ok (.areturn, 1) := by decide +kernel
theorem dX10_one_0 : decode cX10_one 0 = .ok (.aload_n 0, 1) := by decide +kernel
theorem dX10_one_1 : decode cX10_one 1 = .ok (.invokevirtual 217, 3) := by decide +kernel
theorem dX10_one_4 : decode cX10_one 4 = .ok (.aload_n 0, 1) := by decide +kernel
theorem dX10_one_5 : decode cX10_one 5 = .ok (.getfield 153, 3) := by decide +kernel
theorem dX10_one_8 : decode cX10_one 8 = .ok (.ifCond .ne 28, 3) := by decide +kernel
theorem dX10_one_11 : decode cX10_one 11 = .ok (.aload_n 0, 1) := by decide +kernel
theorem dX10_one_12 : decode cX10_one 12 = .ok (.aload_n 1, 1) := by decide +kernel
theorem dX10_one_13 : decode cX10_one 13 = .ok (.invokevirtual 220, 3) := by decide +kernel
theorem dX10_one_16 : decode cX10_one 16 = .ok (.ifCond .ne 20, 3) := by decide +kernel
theorem dX10_one_19 : decode cX10_one 19 = .ok (.aload_n 0, 1) := by decide +kernel
theorem dX10_one_20 : decode cX10_one 20 = .ok (.aload_n 2, 1) := by decide +kernel
theorem dX10_one_21 : decode cX10_one 21 = .ok (.invokevirtual 220, 3) := by decide +kernel
theorem dX10_one_24 : decode cX10_one 24 = .ok (.ifCond .ne 12, 3) := by decide +kernel
theorem dX10_one_27 : decode cX10_one 27 = .ok (.aload_n 0, 1) := by decide +kernel
theorem dX10_one_28 : decode cX10_one 28 = .ok (.iconst 1, 1) := by decide +kernel
theorem dX10_one_29 : decode cX10_one 29 = .ok (.aload_n 0, 1) := by decide +kernel
theorem dX10_one_30 : decode cX10_one 30 = .ok (.getfield 159, 3) := by decide +kernel
theorem dX10_one_33 : decode cX10_one 33 = .ok (.invokevirtual 169, 3) := by decide +kernel
theorem dX10_one_36 : decode cX10_one 36 = .ok (.aload_n 0, 1) := by decide +kernel
theorem dX10_one_37 : decode cX10_one 37 = .ok (.getfield 153, 3) := by decide +kernel
theorem dX10_one_40 : decode cX10_one 40 = .ok (.ifCond .ne 15, 3) := by decide +kernel
theorem dX10_one_43 : decode cX10_one 43 = .ok (.aload_n 0, 1) := by decide +kernel
theorem dX10_one_44 : decode cX10_one 44 = .ok (.aload_n 1, 1) := by decide +kernel
theorem dX10_one_45 : decode cX10_one 45 = .ok (.invokevirtual 220, 3) := by decide +kernel
theorem dX10_one_48 : decode cX10_one 48 = .ok (.ifCond .eq 7, 3) := by decide +kernel
theorem dX10_one_51 : decode cX10_one 51 = .ok (.iconst 1, 1) := by decide +kernel
theorem dX10_one_52 : decode cX10_one 52 = .ok (.goto 4, 3) := by decide +kernel
theorem dX10_one_55 : decode cX10_one 55 = .ok (.iconst 0, 1) := by decide +kernel
theorem dX10_one_56 : decode cX10_one 56 = .ok (.ireturn, 1) := by decide +kernel
theorem dX10_motion_0 : decode cX10_motion 0 = .ok (.aload_n 0, 1) := by decide +kernel
theorem dX10_motion_1 : decode cX10_motion 1 = .ok (.invokevirtual 217, 3) := by decide +kernel
theorem dX10_motion_4 : decode cX10_motion 4 = .ok (.iconst 0, 1) := by decide +kernel
theorem dX10_motion_5 : decode cX10_motion 5 = .ok (.istore_n 1, 1) := by decide +kernel
theorem dX10_motion_6 : decode cX10_motion 6 = .ok (.iload_n 1, 1) := by decide +kernel
theorem dX10_motion_7 : decode cX10_motion 7 = .ok (.bipush 8, 2) := by decide +kernel
theorem dX10_motion_9 : decode cX10_motion 9 = .ok (.if_icmp .ge 21, 3) := by decide +kernel
theorem dX10_motion_12 : decode cX10_motion 12 = .ok (.aload_n 0, 1) := by decide +kernel
theorem dX10_motion_13 : decode cX10_motion 13 = .ok (.aload_n 0, 1) := by decide +kernel
theorem dX10_motion_14 : decode cX10_motion 14 = .ok (.iload_n 1, 1) := by decide +kernel
theorem dX10_motion_15 : decode cX10_motion 15 = .ok (.invokevirtual 224, 3) := by decide +kernel
theorem dX10_motion_18 : decode cX10_motion 18 = .ok (.invokevirtual 220, 3) := by decide +kernel
theorem dX10_motion_21 : decode cX10_motion 21 = .ok (.ifCond .ne 9, 3) := by decide +kernel
theorem dX10_motion_24 : decode cX10_motion 24 = .ok (.iinc 1 1, 3) := by decide +kernel
theorem dX10_motion_27 : decode cX10_motion 27 = .ok (.goto (-21), 3) := by decide +kernel
theorem dX10_motion_30 : decode cX10_motion 30 = .ok (.aload_n 0, 1) := by decide +kernel
theorem dX10_motion_31 : decode cX10_motion 31 = .ok (.getfield 153, 3) := by decide +kernel
theorem dX10_motion_34 : decode cX10_motion 34 = .ok (.ifCond .le 4, 3) := by decide +kernel
theorem dX10_motion_37 : decode cX10_motion 37 = .ok (.return_, 1) := by decide +kernel
theorem dX10_motion_38 : decode cX10_motion 38 = .ok (.iload_n 1, 1) := by decide +kernel
theorem dX10_motion_39 : decode cX10_motion 39 = .ok (.bipush 8, 2) := by decide +kernel
theorem dX10_motion_41 : decode cX10_motion 41 = .ok (.if_icmp .ne 13, 3) := by decide +kernel
theorem dX10_motion_44 : decode cX10_motion 44 = .ok (.aload_n 0, 1) := by decide +kernel
theorem dX10_motion_45 : decode cX10_motion 45 = .ok (.iconst 1, 1) := by decide +kernel
theorem dX10_motion_46 : decode cX10_motion 46 = .ok (.aload_n 0, 1) := by decide +kernel
theorem dX10_motion_47 : decode cX10_motion 47 = .ok (.getfield 159, 3) := by decide +kernel
theorem dX10_motion_50 : decode cX10_motion 50 = .ok (.invokevirtual 169, 3) := by decide +kernel
theorem dX10_motion_53 : decode cX10_motion 53 = .ok (.return_, 1) := by decide +kernel
theorem dX10_motion_54 : decode cX10_motion 54 = .ok (.aload_n 0, 1) := by decide +kernel
theorem dX10_motion_55 : decode cX10_motion 55 = .ok (.getfield 13, 3) := by decide +kernel
theorem dX10_motion_58 : decode cX10_motion 58 = .ok (.iconst 4, 1) := by decide +kernel
theorem dX10_motion_59 : decode cX10_motion 59 = .ok (.iload_n 1, 1) := by decide +kernel
theorem dX10_motion_60 : decode cX10_motion 60 = .ok (.iadd, 1) := by decide +kernel
theorem dX10_motion_61 : decode cX10_motion 61 = .ok (.baload, 1) := by decide +kernel
theorem dX10_motion_62 : decode cX10_motion 62 = .ok (.ifCond .eq 13, 3) := by decide +kernel
theorem dX10_motion_65 : decode cX10_motion 65 = .ok (.aload_n 0, 1) := by decide +kernel
theorem dX10_motion_66 : decode cX10_motion 66 = .ok (.iconst 3, 1) := by decide +kernel
theorem dX10_motion_67 : decode cX10_motion 67 = .ok (.aload_n 0, 1) := by decide +kernel
theorem dX10_motion_68 : decode cX10_motion 68 = .ok (.getfield 159, 3) := by decide +kernel
theorem dX10_motion_71 : decode cX10_motion 71 = .ok (.invokevirtual 169, 3) := by decide +kernel
theorem dX10_motion_74 : decode cX10_motion 74 = .ok (.return_, 1) := by decide +kernel
theorem dX10_motion_75 : decode cX10_motion 75 = .ok (.aload_n 0, 1) := by decide +kernel
theorem dX10_motion_76 : decode cX10_motion 76 = .ok (.getfield 13, 3) := by decide +kernel
theorem dX10_motion_79 : decode cX10_motion 79 = .ok (.iconst 4, 1) := by decide +kernel
theorem dX10_motion_80 : decode cX10_motion 80 = .ok (.iload_n 1, 1) := by decide +kernel
theorem dX10_motion_81 : decode cX10_motion 81 = .ok (.iadd, 1) := by decide +kernel
theorem dX10_motion_82 : decode cX10_motion 82 = .ok (.iconst 1, 1) := by decide +kernel
theorem dX10_motion_83 : decode cX10_motion 83 = .ok (.bastore, 1) := by decide +kernel
theorem dX10_motion_84 : decode cX10_motion 84 = .ok (.aload_n 0, 1) := by decide +kernel
theorem dX10_motion_85 : decode cX10_motion 85 = .ok (.ldc 228, 2) := by decide +kernel
theorem dX10_motion_87 : decode cX10_motion 87 = .ok (.ldc 228, 2) := by decide +kernel
theorem dX10_motion_89 : decode cX10_motion 89 = .ok (.invokevirtual 229, 3) := by decide +kernel
theorem dX10_motion_92 : decode cX10_motion 92 = .ok (.pop, 1) := by decide +kernel
theorem dX10_motion_93 : decode cX10_motion 93 = .ok (.aload_n 0, 1) := by decide +kernel
theorem dX10_motion_94 : decode cX10_motion 94 = .ok (.getfield 19, 3) := by decide +kernel
theorem dX10_motion_97 : decode cX10_motion 97 = .ok (.iconst 1, 1) := by decide +kernel
theorem dX10_motion_98 : decode cX10_motion 98 = .ok (.aaload, 1) := by decide +kernel
theorem dX10_motion_99 : decode cX10_motion 99 = .ok (.iload_n 1, 1) := by decide +kernel
theorem dX10_motion_100 : decode cX10_motion 100 = .ok (.aload_n 0, 1) := by decide +kernel
theorem dX10_motion_101 : decode cX10_motion 101 = .ok (.iconst 1, 1) := by decide +kernel
theorem dX10_motion_102 : decode cX10_motion 102 = .ok (.bipush 99, 2) := by decide +kernel
theorem dX10_motion_104 : decode cX10_motion 104 = .ok (.invokevirtual 233, 3) := by decide +kernel
theorem dX10_motion_107 : decode cX10_motion 107 = .ok (.iastore, 1) := by decide +kernel
theorem dX10_motion_108 : decode cX10_motion 108 = .ok (.aload_n 0, 1) := by decide +kernel
theorem dX10_motion_109 : decode cX10_motion 109 = .ok (.getfield 153, 3) := by decide +kernel
theorem dX10_motion_112 : decode cX10_motion 112 = .ok (.ifCond .le 4, 3) := by decide +kernel
theorem dX10_motion_115 : decode cX10_motion 115 = .ok (.return_, 1) := by decide +kernel
theorem dX10_motion_116 : decode cX10_motion 116 = .ok (.aload_n 0, 1) := by decide +kernel
theorem dX10_motion_117 : decode cX10_motion 117 = .ok (.invokevirtual 217, 3) := by decide +kernel
theorem dX10_motion_120 : decode cX10_motion 120 = .ok (.aload_n 0, 1) := by decide +kernel
theorem dX10_motion_121 : decode cX10_motion 121 = .ok (.getfield 27, 3) := by decide +kernel
theorem dX10_motion_124 : decode cX10_motion 124 = .ok (.iconst 1, 1) := by decide +kernel
theorem dX10_motion_125 : decode cX10_motion 125 = .ok (.aaload, 1) := by decide +kernel
theorem dX10_motion_126 : decode cX10_motion 126 = .ok (.iload_n 1, 1) := by decide +kernel
theorem dX10_motion_127 : decode cX10_motion 127 = .ok (.aload_n 0, 1) := by decide +kernel
theorem dX10_motion_128 : decode cX10_motion 128 = .ok (.ldc 236, 2) := by decide +kernel
theorem dX10_motion_130 : decode cX10_motion 130 = .ok (.invokevirtual 220, 3) := by decide +kernel
theorem dX10_motion_133 : decode cX10_motion 133 = .ok (.bastore, 1) := by decide +kernel
theorem dX10_motion_134 : decode cX10_motion 134 = .ok (.aload_n 0, 1) := by decide +kernel
theorem dX10_motion_135 : decode cX10_motion 135 = .ok (.getfield 27, 3) := by decide +kernel
theorem dX10_motion_138 : decode cX10_motion 138 = .ok (.iconst 1, 1) := by decide +kernel
theorem dX10_motion_139 : decode cX10_motion 139 = .ok (.aaload, 1) := by decide +kernel
theorem dX10_motion_140 : decode cX10_motion 140 = .ok (.iload_n 1, 1) := by decide +kernel
theorem dX10_motion_141 : decode cX10_motion 141 = .ok (.baload, 1) := by decide +kernel
theorem dX10_motion_142 : decode cX10_motion 142 = .ok (.ifCond .eq 7, 3) := by decide +kernel
theorem dX10_motion_145 : decode cX10_motion 145 = .ok (.aload_n 0, 1) := by decide +kernel
theorem dX10_motion_146 : decode cX10_motion 146 = .ok (.invokevirtual 217, 3) := by decide +kernel
theorem dX10_motion_149 : decode cX10_motion 149 = .ok (.aload_n 0, 1) := by decide +kernel
theorem dX10_motion_150 : decode cX10_motion 150 = .ok (.getfield 30, 3) := by decide +kernel
theorem dX10_motion_153 : decode cX10_motion 153 = .ok (.iconst 1, 1) := by decide +kernel
theorem dX10_motion_154 : decode cX10_motion 154 = .ok (.aaload, 1) := by decide +kernel
theorem dX10_motion_155 : decode cX10_motion 155 = .ok (.iload_n 1, 1) := by decide +kernel
theorem dX10_motion_156 : decode cX10_motion 156 = .ok (.aload_n 0, 1) := by decide +kernel
theorem dX10_motion_157 : decode cX10_motion 157 = .ok (.ldc 237, 2) := by decide +kernel
theorem dX10_motion_159 : decode cX10_motion 159 = .ok (.invokevirtual 220, 3) := by decide +kernel
theorem dX10_motion_162 : decode cX10_motion 162 = .ok (.bastore, 1) := by decide +kernel
theorem dX10_motion_163 : decode cX10_motion 163 = .ok (.aload_n 0, 1) := by decide +kernel
theorem dX10_motion_164 : decode cX10_motion 164 = .ok (.getfield 30, 3) := by decide +kernel
theorem dX10_motion_167 : decode cX10_motion 167 = .ok (.iconst 1, 1) := by decide +kernel
theorem dX10_motion_168 : decode cX10_motion 168 = .ok (.aaload, 1) := by decide +kernel
theorem dX10_motion_169 : decode cX10_motion 169 = .ok (.iload_n 1, 1) := by decide +kernel
theorem dX10_motion_170 : decode cX10_motion 170 = .ok (.baload, 1) := by decide +kernel
theorem dX10_motion_171 : decode cX10_motion 171 = .ok (.ifCond .eq 7, 3) := by decide +kernel
theorem dX10_motion_174 : decode cX10_motion 174 = .ok (.aload_n 0, 1) := by decide +kernel
theorem dX10_motion_175 : decode cX10_motion 175 = .ok (.invokevirtual 217, 3) := by decide +kernel
theorem dX10_motion_178 : decode cX10_motion 178 = .ok (.aload_n 0, 1) := by decide +kernel
theorem dX10_motion_179 : decode cX10_motion 179 = .ok (.getfield 153, 3) := by decide +kernel
theorem dX10_motion_182 : decode cX10_motion 182 = .ok (.ifCond .ne 21, 3) := by decide +kernel
theorem dX10_motion_185 : decode cX10_motion 185 = .ok (.aload_n 0, 1) := by decide +kernel
theorem dX10_motion_186 : decode cX10_motion 186 = .ok (.ldc 239, 2) := by decide +kernel
theorem dX10_motion_188 : decode cX10_motion 188 = .ok (.invokevirtual 220, 3) := by decide +kernel
theorem dX10_motion_191 : decode cX10_motion 191 = .ok (.ifCond .ne 12, 3) := by decide +kernel
theorem dX10_motion_194 : decode cX10_motion 194 = .ok (.aload_n 0, 1) := by decide +kernel
theorem dX10_motion_195 : decode cX10_motion 195 = .ok (.iconst 1, 1) := by decide +kernel
theorem dX10_motion_196 : decode cX10_motion 196 = .ok (.aload_n 0, 1) := by decide +kernel
theorem dX10_motion_197 : decode cX10_motion 197 = .ok (.getfield 159, 3) := by decide +kernel
theorem dX10_motion_200 : decode cX10_motion 200 = .ok (.invokevirtual 169, 3) := by decide +kernel
theorem dX10_motion_203 : decode cX10_motion 203 = .ok (.aload_n 0, 1) := by decide +kernel
theorem dX10_motion_204 : decode cX10_motion 204 = .ok (.getfield 153, 3) := by decide +kernel
theorem dX10_motion_207 : decode cX10_motion 207 = .ok (.ifCond .le 4, 3) := by decide +kernel
theorem dX10_motion_210 : decode cX10_motion 210 = .ok (.return_, 1) := by decide +kernel
theorem dX10_motion_211 : decode cX10_motion 211 = .ok (.aload_n 0, 1) := by decide +kernel
theorem dX10_motion_212 : decode cX10_motion 212 = .ok (.invokevirtual 217, 3) := by decide +kernel
