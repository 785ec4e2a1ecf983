theorem dL_law_0 : decode cL_law 0 = .ok (.new 11, 3) := by decide +kernel
theorem dL_law_3 : decode cL_law 3 = .ok (.dup, 1) := by decide +kernel
theorem dL_law_4 : decode cL_law 4 = .ok (.invokespecial 137, 3) := by decide +kernel
theorem dL_law_7 : decode cL_law 7 = .ok (.astore_n 1, 1) := by decide +kernel
theorem dL_law_8 : decode cL_law 8 = .ok (.bipush 64, 2) := by decide +kernel
theorem dL_law_10 : decode cL_law 10 = .ok (.newarray .long, 2) := by decide +kernel
theorem dL_law_12 : decode cL_law 12 = .ok (.astore_n 2, 1) := by decide +kernel
theorem dL_law_13 : decode cL_law 13 = .ok (.bipush 64, 2) := by decide +kernel
theorem dL_law_15 : decode cL_law 15 = .ok (.newarray .long, 2) := by decide +kernel
theorem dL_law_17 : decode cL_law 17 = .ok (.astore_n 3, 1) := by decide +kernel
theorem dL_law_18 : decode cL_law 18 = .ok (.bipush 21, 2) := by decide +kernel
theorem dL_law_20 : decode cL_law 20 = .ok (.newarray .int, 2) := by decide +kernel
theorem dL_law_22 : decode cL_law 22 = .ok (.astore 4, 2) := by decide +kernel
theorem dL_law_24 : decode cL_law 24 = .ok (.bipush 21, 2) := by decide +kernel
theorem dL_law_26 : decode cL_law 26 = .ok (.newarray .int, 2) := by decide +kernel
theorem dL_law_28 : decode cL_law 28 = .ok (.astore 5, 2) := by decide +kernel
theorem dL_law_30 : decode cL_law 30 = .ok (.bipush 21, 2) := by decide +kernel
theorem dL_law_32 : decode cL_law 32 = .ok (.newarray .int, 2) := by decide +kernel
theorem dL_law_34 : decode cL_law 34 = .ok (.astore 6, 2) := by decide +kernel
theorem dL_law_36 : decode cL_law 36 = .ok (.bipush 12, 2) := by decide +kernel
theorem dL_law_38 : decode cL_law 38 = .ok (.newarray .int, 2) := by decide +kernel
theorem dL_law_40 : decode cL_law 40 = .ok (.astore 7, 2) := by decide +kernel
theorem dL_law_42 : decode cL_law 42 = .ok (.bipush 8, 2) := by decide +kernel
theorem dL_law_44 : decode cL_law 44 = .ok (.newarray .int, 2) := by decide +kernel
theorem dL_law_46 : decode cL_law 46 = .ok (.astore 8, 2) := by decide +kernel
theorem dL_law_48 : decode cL_law 48 = .ok (.bipush 12, 2) := by decide +kernel
theorem dL_law_50 : decode cL_law 50 = .ok (.newarray .int, 2) := by decide +kernel
theorem dL_law_52 : decode cL_law 52 = .ok (.astore 9, 2) := by decide +kernel
theorem dL_law_54 : decode cL_law 54 = .ok (.bipush 6, 2) := by decide +kernel
theorem dL_law_56 : decode cL_law 56 = .ok (.newarray .int, 2) := by decide +kernel
theorem dL_law_58 : decode cL_law 58 = .ok (.astore 10, 2) := by decide +kernel
theorem dL_law_60 : decode cL_law 60 = .ok (.aload 5, 2) := by decide +kernel
theorem dL_law_62 : decode cL_law 62 = .ok (.iconst 0, 1) := by decide +kernel
theorem dL_law_63 : decode cL_law 63 = .ok (.iconst 1, 1) := by decide +kernel
theorem dL_law_64 : decode cL_law 64 = .ok (.iastore, 1) := by decide +kernel
theorem dL_law_65 : decode cL_law 65 = .ok (.aload 10, 2) := by decide +kernel
theorem dL_law_67 : decode cL_law 67 = .ok (.iconst 0, 1) := by decide +kernel
theorem dL_law_68 : decode cL_law 68 = .ok (.iconst 1, 1) := by decide +kernel
theorem dL_law_69 : decode cL_law 69 = .ok (.iastore, 1) := by decide +kernel
theorem dL_law_70 : decode cL_law 70 = .ok (.aload 10, 2) := by decide +kernel
theorem dL_law_72 : decode cL_law 72 = .ok (.iconst 2, 1) := by decide +kernel
theorem dL_law_73 : decode cL_law 73 = .ok (.iconst 1, 1) := by decide +kernel
theorem dL_law_74 : decode cL_law 74 = .ok (.iastore, 1) := by decide +kernel
theorem dL_law_75 : decode cL_law 75 = .ok (.iconst 1, 1) := by decide +kernel
theorem dL_law_76 : decode cL_law 76 = .ok (.istore 11, 2) := by decide +kernel
theorem dL_law_78 : decode cL_law 78 = .ok (.iconst 0, 1) := by decide +kernel
theorem dL_law_79 : decode cL_law 79 = .ok (.istore 12, 2) := by decide +kernel
theorem dL_law_81 : decode cL_law 81 = .ok (.iload 12, 2) := by decide +kernel
theorem dL_law_83 : decode cL_law 83 = .ok (.bipush 70, 2) := by decide +kernel
theorem dL_law_85 : decode cL_law 85 = .ok (.if_icmp .ge 478, 3) := by decide +kernel
theorem dL_law_88 : decode cL_law 88 = .ok (.iload 11, 2) := by decide +kernel
theorem dL_law_90 : decode cL_law 90 = .ok (.ifCond .eq 473, 3) := by decide +kernel
theorem dL_law_93 : decode cL_law 93 = .ok (.aload_n 0, 1) := by decide +kernel
theorem dL_law_94 : decode cL_law 94 = .ok (.iload 12, 2) := by decide +kernel
theorem dL_law_96 : decode cL_law 96 = .ok (.invokestatic 138, 3) := by decide +kernel
theorem dL_law_99 : decode cL_law 99 = .ok (.istore 13, 2) := by decide +kernel
theorem dL_law_101 : decode cL_law 101 = .ok (.iload 13, 2) := by decide +kernel
theorem dL_law_103 : decode cL_law 103 = .ok (.bipush 30, 2) := by decide +kernel
theorem dL_law_105 : decode cL_law 105 = .ok (.invokestatic 61, 3) := by decide +kernel
theorem dL_law_108 : decode cL_law 108 = .ok (.istore 14, 2) := by decide +kernel
theorem dL_law_110 : decode cL_law 110 = .ok (.iload 13, 2) := by decide +kernel
theorem dL_law_112 : decode cL_law 112 = .ok (.iconst 5, 1) := by decide +kernel
theorem dL_law_113 : decode cL_law 113 = .ok (.ishr, 1) := by decide +kernel
theorem dL_law_114 : decode cL_law 114 = .ok (.istore 15, 2) := by decide +kernel
theorem dL_law_116 : decode cL_law 116 = .ok (.iload 14, 2) := by decide +kernel
theorem dL_law_118 : decode cL_law 118 = .ok (.bipush 12, 2) := by decide +kernel
theorem dL_law_120 : decode cL_law 120 = .ok (.if_icmp .ge 48, 3) := by decide +kernel
theorem dL_law_123 : decode cL_law 123 = .ok (.aload_n 1, 1) := by decide +kernel
theorem dL_law_124 : decode cL_law 124 = .ok (.iload 14, 2) := by decide +kernel
theorem dL_law_126 : decode cL_law 126 = .ok (.iconst 3, 1) := by decide +kernel
theorem dL_law_127 : decode cL_law 127 = .ok (.if_icmp .ge 7, 3) := by decide +kernel
theorem dL_law_130 : decode cL_law 130 = .ok (.iconst 0, 1) := by decide +kernel
theorem dL_law_131 : decode cL_law 131 = .ok (.goto 15, 3) := by decide +kernel
theorem dL_law_134 : decode cL_law 134 = .ok (.iload 14, 2) := by decide +kernel
theorem dL_law_136 : decode cL_law 136 = .ok (.bipush 11, 2) := by decide +kernel
theorem dL_law_138 : decode cL_law 138 = .ok (.if_icmp .ge 7, 3) := by decide +kernel
theorem dL_law_141 : decode cL_law 141 = .ok (.iconst 1, 1) := by decide +kernel
theorem dL_law_142 : decode cL_law 142 = .ok (.goto 4, 3) := by decide +kernel
theorem dL_law_145 : decode cL_law 145 = .ok (.iconst 2, 1) := by decide +kernel
theorem dL_law_146 : decode cL_law 146 = .ok (.iload 15, 2) := by decide +kernel
theorem dL_law_148 : decode cL_law 148 = .ok (.aload_n 2, 1) := by decide +kernel
theorem dL_law_149 : decode cL_law 149 = .ok (.aload_n 3, 1) := by decide +kernel
theorem dL_law_150 : decode cL_law 150 = .ok (.aload 4, 2) := by decide +kernel
theorem dL_law_152 : decode cL_law 152 = .ok (.aload 5, 2) := by decide +kernel
theorem dL_law_154 : decode cL_law 154 = .ok (.aload 6, 2) := by decide +kernel
theorem dL_law_156 : decode cL_law 156 = .ok (.aload 7, 2) := by decide +kernel
theorem dL_law_158 : decode cL_law 158 = .ok (.aload 10, 2) := by decide +kernel
theorem dL_law_160 : decode cL_law 160 = .ok (.invokestatic 142, 3) := by decide +kernel
theorem dL_law_163 : decode cL_law 163 = .ok (.istore 11, 2) := by decide +kernel
theorem dL_law_165 : decode cL_law 165 = .ok (.goto 353, 3) := by decide +kernel
theorem dL_law_168 : decode cL_law 168 = .ok (.iload 14, 2) := by decide +kernel
theorem dL_law_170 : decode cL_law 170 = .ok (.bipush 16, 2) := by decide +kernel
theorem dL_law_172 : decode cL_law 172 = .ok (.if_icmp .ge 30, 3) := by decide +kernel
theorem dL_law_175 : decode cL_law 175 = .ok (.aload_n 1, 1) := by decide +kernel
theorem dL_law_176 : decode cL_law 176 = .ok (.iload 15, 2) := by decide +kernel
theorem dL_law_178 : decode cL_law 178 = .ok (.aload_n 2, 1) := by decide +kernel
theorem dL_law_179 : decode cL_law 179 = .ok (.aload_n 3, 1) := by decide +kernel
theorem dL_law_180 : decode cL_law 180 = .ok (.aload 4, 2) := by decide +kernel
theorem dL_law_182 : decode cL_law 182 = .ok (.aload 5, 2) := by decide +kernel
theorem dL_law_184 : decode cL_law 184 = .ok (.aload 6, 2) := by decide +kernel
theorem dL_law_186 : decode cL_law 186 = .ok (.aload 7, 2) := by decide +kernel
theorem dL_law_188 : decode cL_law 188 = .ok (.aload 8, 2) := by decide +kernel
theorem dL_law_190 : decode cL_law 190 = .ok (.aload 9, 2) := by decide +kernel
theorem dL_law_192 : decode cL_law 192 = .ok (.aload 10, 2) := by decide +kernel
theorem dL_law_194 : decode cL_law 194 = .ok (.invokestatic 146, 3) := by decide +kernel
theorem dL_law_197 : decode cL_law 197 = .ok (.istore 11, 2) := by decide +kernel
theorem dL_law_199 : decode cL_law 199 = .ok (.goto 319, 3) := by decide +kernel
theorem dL_law_202 : decode cL_law 202 = .ok (.iload 14, 2) := by decide +kernel
theorem dL_law_204 : decode cL_law 204 = .ok (.bipush 18, 2) := by decide +kernel
theorem dL_law_206 : decode cL_law 206 = .ok (.if_icmp .ge 110, 3) := by decide +kernel
theorem dL_law_209 : decode cL_law 209 = .ok (.iload 15, 2) := by decide +kernel
theorem dL_law_211 : decode cL_law 211 = .ok (.iconst 3, 1) := by decide +kernel
theorem dL_law_212 : decode cL_law 212 = .ok (.invokestatic 61, 3) := by decide +kernel
theorem dL_law_215 : decode cL_law 215 = .ok (.ifCond .le 12, 3) := by decide +kernel
theorem dL_law_218 : decode cL_law 218 = .ok (.aload 10, 2) := by decide +kernel
theorem dL_law_220 : decode cL_law 220 = .ok (.iconst 0, 1) := by decide +kernel
theorem dL_law_221 : decode cL_law 221 = .ok (.iaload, 1) := by decide +kernel
theorem dL_law_222 : decode cL_law 222 = .ok (.iconst 1, 1) := by decide +kernel
theorem dL_law_223 : decode cL_law 223 = .ok (.isub, 1) := by decide +kernel
theorem dL_law_224 : decode cL_law 224 = .ok (.goto 14, 3) := by decide +kernel
theorem dL_law_227 : decode cL_law 227 = .ok (.iload 15, 2) := by decide +kernel
theorem dL_law_229 : decode cL_law 229 = .ok (.iconst 2, 1) := by decide +kernel
theorem dL_law_230 : decode cL_law 230 = .ok (.ishr, 1) := by decide +kernel
theorem dL_law_231 : decode cL_law 231 = .ok (.aload 10, 2) := by decide +kernel
theorem dL_law_233 : decode cL_law 233 = .ok (.iconst 0, 1) := by decide +kernel
theorem dL_law_234 : decode cL_law 234 = .ok (.iaload, 1) := by decide +kernel
theorem dL_law_235 : decode cL_law 235 = .ok (.invokestatic 61, 3) := by decide +kernel
theorem dL_law_238 : decode cL_law 238 = .ok (.istore 16, 2) := by decide +kernel
theorem dL_law_240 : decode cL_law 240 = .ok (.aload 10, 2) := by decide +kernel
theorem dL_law_242 : decode cL_law 242 = .ok (.iconst 2, 1) := by decide +kernel
theorem dL_law_243 : decode cL_law 243 = .ok (.iaload, 1) := by decide +kernel
theorem dL_law_244 : decode cL_law 244 = .ok (.bipush 6, 2) := by decide +kernel
theorem dL_law_246 : decode cL_law 246 = .ok (.if_icmp .ge 7, 3) := by decide +kernel
theorem dL_law_249 : decode cL_law 249 = .ok (.iconst 1, 1) := by decide +kernel
theorem dL_law_250 : decode cL_law 250 = .ok (.goto 4, 3) := by decide +kernel
theorem dL_law_253 : decode cL_law 253 = .ok (.iconst 0, 1) := by decide +kernel
theorem dL_law_254 : decode cL_law 254 = .ok (.istore 17, 2) := by decide +kernel
theorem dL_law_256 : decode cL_law 256 = .ok (.iload 17, 2) := by decide +kernel
theorem dL_law_258 : decode cL_law 258 = .ok (.ifCond .eq 20, 3) := by decide +kernel
theorem dL_law_261 : decode cL_law 261 = .ok (.aload 7, 2) := by decide +kernel
theorem dL_law_263 : decode cL_law 263 = .ok (.aload 10, 2) := by decide +kernel
theorem dL_law_265 : decode cL_law 265 = .ok (.iconst 2, 1) := by decide +kernel
theorem dL_law_266 : decode cL_law 266 = .ok (.iaload, 1) := by decide +kernel
theorem dL_law_267 : decode cL_law 267 = .ok (.iload 16, 2) := by decide +kernel
theorem dL_law_269 : decode cL_law 269 = .ok (.iastore, 1) := by decide +kernel
theorem dL_law_270 : decode cL_law 270 = .ok (.aload 10, 2) := by decide +kernel
theorem dL_law_272 : decode cL_law 272 = .ok (.iconst 2, 1) := by decide +kernel
theorem dL_law_273 : decode cL_law 273 = .ok (.dup2, 1) := by decide +kernel
theorem dL_law_274 : decode cL_law 274 = .ok (.iaload, 1) := by decide +kernel
theorem dL_law_275 : decode cL_law 275 = .ok (.iconst 1, 1) := by decide +kernel
theorem dL_law_276 : decode cL_law 276 = .ok (.iadd, 1) := by decide +kernel
theorem dL_law_277 : decode cL_law 277 = .ok (.iastore, 1) := by decide +kernel
theorem dL_law_278 : decode cL_law 278 = .ok (.aload_n 1, 1) := by decide +kernel
theorem dL_law_279 : decode cL_law 279 = .ok (.iconst 0, 1) := by decide +kernel
theorem dL_law_280 : decode cL_law 280 = .ok (.iload 16, 2) := by decide +kernel
theorem dL_law_282 : decode cL_law 282 = .ok (.iconst 0, 1) := by decide +kernel
theorem dL_law_283 : decode cL_law 283 = .ok (.iconst 0, 1) := by decide +kernel
theorem dL_law_284 : decode cL_law 284 = .ok (.invokestatic 101, 3) := by decide +kernel
theorem dL_law_287 : decode cL_law 287 = .ok (.iload 17, 2) := by decide +kernel
theorem dL_law_289 : decode cL_law 289 = .ok (.ifCond .eq 12, 3) := by decide +kernel
theorem dL_law_292 : decode cL_law 292 = .ok (.aload 10, 2) := by decide +kernel
theorem dL_law_294 : decode cL_law 294 = .ok (.iconst 2, 1) := by decide +kernel
theorem dL_law_295 : decode cL_law 295 = .ok (.iaload, 1) := by decide +kernel
theorem dL_law_296 : decode cL_law 296 = .ok (.iconst 1, 1) := by decide +kernel
theorem dL_law_297 : decode cL_law 297 = .ok (.isub, 1) := by decide +kernel
theorem dL_law_298 : decode cL_law 298 = .ok (.goto 5, 3) := by decide +kernel
theorem dL_law_301 : decode cL_law 301 = .ok (.ldc 28, 2) := by decide +kernel
theorem dL_law_303 : decode cL_law 303 = .ok (.if_icmp .ne 7, 3) := by decide +kernel
theorem dL_law_306 : decode cL_law 306 = .ok (.iconst 1, 1) := by decide +kernel
theorem dL_law_307 : decode cL_law 307 = .ok (.goto 4, 3) := by decide +kernel
theorem dL_law_310 : decode cL_law 310 = .ok (.iconst 0, 1) := by decide +kernel
theorem dL_law_311 : decode cL_law 311 = .ok (.istore 11, 2) := by decide +kernel
theorem dL_law_313 : decode cL_law 313 = .ok (.goto 205, 3) := by decide +kernel
theorem dL_law_316 : decode cL_law 316 = .ok (.iload 14, 2) := by decide +kernel
theorem dL_law_318 : decode cL_law 318 = .ok (.bipush 24, 2) := by decide +kernel
theorem dL_law_320 : decode cL_law 320 = .ok (.if_icmp .ge 47, 3) := by decide +kernel
theorem dL_law_323 : decode cL_law 323 = .ok (.aload_n 1, 1) := by decide +kernel
theorem dL_law_324 : decode cL_law 324 = .ok (.iload 14, 2) := by decide +kernel
theorem dL_law_326 : decode cL_law 326 = .ok (.bipush 20, 2) := by decide +kernel
theorem dL_law_328 : decode cL_law 328 = .ok (.if_icmp .ge 7, 3) := by decide +kernel
theorem dL_law_331 : decode cL_law 331 = .ok (.iconst 0, 1) := by decide +kernel
theorem dL_law_332 : decode cL_law 332 = .ok (.goto 15, 3) := by decide +kernel
theorem dL_law_335 : decode cL_law 335 = .ok (.iload 14, 2) := by decide +kernel
theorem dL_law_337 : decode cL_law 337 = .ok (.bipush 22, 2) := by decide +kernel
theorem dL_law_339 : decode cL_law 339 = .ok (.if_icmp .ge 7, 3) := by decide +kernel
theorem dL_law_342 : decode cL_law 342 = .ok (.iconst 1, 1) := by decide +kernel
theorem dL_law_343 : decode cL_law 343 = .ok (.goto 4, 3) := by decide +kernel
theorem dL_law_346 : decode cL_law 346 = .ok (.iconst 2, 1) := by decide +kernel
theorem dL_law_347 : decode cL_law 347 = .ok (.iload 15, 2) := by decide +kernel
theorem dL_law_349 : decode cL_law 349 = .ok (.aload_n 2, 1) := by decide +kernel
theorem dL_law_350 : decode cL_law 350 = .ok (.aload_n 3, 1) := by decide +kernel
theorem dL_law_351 : decode cL_law 351 = .ok (.aload 7, 2) := by decide +kernel
theorem dL_law_353 : decode cL_law 353 = .ok (.aload 8, 2) := by decide +kernel
theorem dL_law_355 : decode cL_law 355 = .ok (.aload 9, 2) := by decide +kernel
theorem dL_law_357 : decode cL_law 357 = .ok (.aload 10, 2) := by decide +kernel
theorem dL_law_359 : decode cL_law 359 = .ok (.invokestatic 150, 3) := by decide +kernel
theorem dL_law_362 : decode cL_law 362 = .ok (.istore 11, 2) := by decide +kernel
theorem dL_law_364 : decode cL_law 364 = .ok (.goto 154, 3) := by decide +kernel
theorem dL_law_367 : decode cL_law 367 = .ok (.iload 14, 2) := by decide +kernel
theorem dL_law_369 : decode cL_law 369 = .ok (.bipush 28, 2) := by decide +kernel
theorem dL_law_371 : decode cL_law 371 = .ok (.if_icmp .ge 108, 3) := by decide +kernel
theorem dL_law_374 : decode cL_law 374 = .ok (.iload 15, 2) := by decide +kernel
theorem dL_law_376 : decode cL_law 376 = .ok (.aload 10, 2) := by decide +kernel
theorem dL_law_378 : decode cL_law 378 = .ok (.iconst 2, 1) := by decide +kernel
theorem dL_law_379 : decode cL_law 379 = .ok (.iaload, 1) := by decide +kernel
theorem dL_law_380 : decode cL_law 380 = .ok (.invokestatic 61, 3) := by decide +kernel
theorem dL_law_383 : decode cL_law 383 = .ok (.istore 16, 2) := by decide +kernel
theorem dL_law_385 : decode cL_law 385 = .ok (.aload 7, 2) := by decide +kernel
theorem dL_law_387 : decode cL_law 387 = .ok (.iload 16, 2) := by decide +kernel
theorem dL_law_389 : decode cL_law 389 = .ok (.iaload, 1) := by decide +kernel
theorem dL_law_390 : decode cL_law 390 = .ok (.aload_n 2, 1) := by decide +kernel
theorem dL_law_391 : decode cL_law 391 = .ok (.aload_n 3, 1) := by decide +kernel
theorem dL_law_392 : decode cL_law 392 = .ok (.aload 8, 2) := by decide +kernel
theorem dL_law_394 : decode cL_law 394 = .ok (.aload 9, 2) := by decide +kernel
theorem dL_law_396 : decode cL_law 396 = .ok (.aload 10, 2) := by decide +kernel
theorem dL_law_398 : decode cL_law 398 = .ok (.invokestatic 111, 3) := by decide +kernel
theorem dL_law_401 : decode cL_law 401 = .ok (.ifCond .ne 7, 3) := by decide +kernel
theorem dL_law_404 : decode cL_law 404 = .ok (.iconst 1, 1) := by decide +kernel
theorem dL_law_405 : decode cL_law 405 = .ok (.goto 4, 3) := by decide +kernel
theorem dL_law_408 : decode cL_law 408 = .ok (.iconst 0, 1) := by decide +kernel
theorem dL_law_409 : decode cL_law 409 = .ok (.istore 17, 2) := by decide +kernel
theorem dL_law_411 : decode cL_law 411 = .ok (.aload 7, 2) := by decide +kernel
theorem dL_law_413 : decode cL_law 413 = .ok (.bipush 6, 2) := by decide +kernel
theorem dL_law_415 : decode cL_law 415 = .ok (.iload 16, 2) := by decide +kernel
theorem dL_law_417 : decode cL_law 417 = .ok (.iadd, 1) := by decide +kernel
theorem dL_law_418 : decode cL_law 418 = .ok (.iload 17, 2) := by decide +kernel
theorem dL_law_420 : decode cL_law 420 = .ok (.ifCond .eq 13, 3) := by decide +kernel
theorem dL_law_423 : decode cL_law 423 = .ok (.aload 7, 2) := by decide +kernel
theorem dL_law_425 : decode cL_law 425 = .ok (.iload 16, 2) := by decide +kernel
theorem dL_law_427 : decode cL_law 427 = .ok (.iaload, 1) := by decide +kernel
theorem dL_law_428 : decode cL_law 428 = .ok (.iconst 1, 1) := by decide +kernel
theorem dL_law_429 : decode cL_law 429 = .ok (.iadd, 1) := by decide +kernel
theorem dL_law_430 : decode cL_law 430 = .ok (.goto 11, 3) := by decide +kernel
theorem dL_law_433 : decode cL_law 433 = .ok (.aload 7, 2) := by decide +kernel
theorem dL_law_435 : decode cL_law 435 = .ok (.bipush 6, 2) := by decide +kernel
theorem dL_law_437 : decode cL_law 437 = .ok (.iload 16, 2) := by decide +kernel
theorem dL_law_439 : decode cL_law 439 = .ok (.iadd, 1) := by decide +kernel
theorem dL_law_440 : decode cL_law 440 = .ok (.iaload, 1) := by decide +kernel
theorem dL_law_441 : decode cL_law 441 = .ok (.iastore, 1) := by decide +kernel
theorem dL_law_442 : decode cL_law 442 = .ok (.aload_n 1, 1) := by decide +kernel
theorem dL_law_443 : decode cL_law 443 = .ok (.iconst 3, 1) := by decide +kernel
theorem dL_law_444 : decode cL_law 444 = .ok (.iload 16, 2) := by decide +kernel
theorem dL_law_446 : decode cL_law 446 = .ok (.iconst 0, 1) := by decide +kernel
theorem dL_law_447 : decode cL_law 447 = .ok (.iconst 0, 1) := by decide +kernel
theorem dL_law_448 : decode cL_law 448 = .ok (.invokestatic 101, 3) := by decide +kernel
theorem dL_law_451 : decode cL_law 451 = .ok (.iload 17, 2) := by decide +kernel
theorem dL_law_453 : decode cL_law 453 = .ok (.ifCond .eq 11, 3) := by decide +kernel
theorem dL_law_456 : decode cL_law 456 = .ok (.aload 7, 2) := by decide +kernel
theorem dL_law_458 : decode cL_law 458 = .ok (.iload 16, 2) := by decide +kernel
theorem dL_law_460 : decode cL_law 460 = .ok (.iaload, 1) := by decide +kernel
theorem dL_law_461 : decode cL_law 461 = .ok (.goto 5, 3) := by decide +kernel
theorem dL_law_464 : decode cL_law 464 = .ok (.ldc 28, 2) := by decide +kernel
theorem dL_law_466 : decode cL_law 466 = .ok (.if_icmp .ne 7, 3) := by decide +kernel
theorem dL_law_469 : decode cL_law 469 = .ok (.iconst 1, 1) := by decide +kernel
theorem dL_law_470 : decode cL_law 470 = .ok (.goto 4, 3) := by decide +kernel
theorem dL_law_473 : decode cL_law 473 = .ok (.iconst 0, 1) := by decide +kernel
theorem dL_law_474 : decode cL_law 474 = .ok (.istore 11, 2) := by decide +kernel
theorem dL_law_476 : decode cL_law 476 = .ok (.goto 42, 3) := by decide +kernel
theorem dL_law_479 : decode cL_law 479 = .ok (.iconst 1, 1) := by decide +kernel
theorem dL_law_480 : decode cL_law 480 = .ok (.iload 15, 2) := by decide +kernel
theorem dL_law_482 : decode cL_law 482 = .ok (.iconst 4, 1) := by decide +kernel
theorem dL_law_483 : decode cL_law 483 = .ok (.invokestatic 61, 3) := by decide +kernel
theorem dL_law_486 : decode cL_law 486 = .ok (.iadd, 1) := by decide +kernel
theorem dL_law_487 : decode cL_law 487 = .ok (.istore 16, 2) := by decide +kernel
theorem dL_law_489 : decode cL_law 489 = .ok (.aload 10, 2) := by decide +kernel
theorem dL_law_491 : decode cL_law 491 = .ok (.iconst 5, 1) := by decide +kernel
theorem dL_law_492 : decode cL_law 492 = .ok (.dup2, 1) := by decide +kernel
theorem dL_law_493 : decode cL_law 493 = .ok (.iaload, 1) := by decide +kernel
theorem dL_law_494 : decode cL_law 494 = .ok (.iload 16, 2) := by decide +kernel
theorem dL_law_496 : decode cL_law 496 = .ok (.iadd, 1) := by decide +kernel
theorem dL_law_497 : decode cL_law 497 = .ok (.iastore, 1) := by decide +kernel
theorem dL_law_498 : decode cL_law 498 = .ok (.aload_n 1, 1) := by decide +kernel
theorem dL_law_499 : decode cL_law 499 = .ok (.iload 16, 2) := by decide +kernel
theorem dL_law_501 : decode cL_law 501 = .ok (.invokevirtual 154, 3) := by decide +kernel
theorem dL_law_504 : decode cL_law 504 = .ok (.aload 10, 2) := by decide +kernel
theorem dL_law_506 : decode cL_law 506 = .ok (.iconst 5, 1) := by decide +kernel
theorem dL_law_507 : decode cL_law 507 = .ok (.iaload, 1) := by decide +kernel
theorem dL_law_508 : decode cL_law 508 = .ok (.if_icmp .ne 7, 3) := by decide +kernel
theorem dL_law_511 : decode cL_law 511 = .ok (.iconst 1, 1) := by decide +kernel
theorem dL_law_512 : decode cL_law 512 = .ok (.goto 4, 3) := by decide +kernel
theorem dL_law_515 : decode cL_law 515 = .ok (.iconst 0, 1) := by decide +kernel
theorem dL_law_516 : decode cL_law 516 = .ok (.istore 11, 2) := by decide +kernel
theorem dL_law_518 : decode cL_law 518 = .ok (.iload 11, 2) := by decide +kernel
theorem dL_law_520 : decode cL_law 520 = .ok (.ifCond .eq 34, 3) := by decide +kernel
theorem dL_law_523 : decode cL_law 523 = .ok (.aload_n 1, 1) := by decide +kernel
theorem dL_law_524 : decode cL_law 524 = .ok (.iload 15, 2) := by decide +kernel
theorem dL_law_526 : decode cL_law 526 = .ok (.iconst 1, 1) := by decide +kernel
theorem dL_law_527 : decode cL_law 527 = .ok (.ishr, 1) := by decide +kernel
theorem dL_law_528 : decode cL_law 528 = .ok (.aload_n 2, 1) := by decide +kernel
theorem dL_law_529 : decode cL_law 529 = .ok (.aload_n 3, 1) := by decide +kernel
theorem dL_law_530 : decode cL_law 530 = .ok (.aload 4, 2) := by decide +kernel
theorem dL_law_532 : decode cL_law 532 = .ok (.aload 5, 2) := by decide +kernel
theorem dL_law_534 : decode cL_law 534 = .ok (.aload 6, 2) := by decide +kernel
theorem dL_law_536 : decode cL_law 536 = .ok (.aload 7, 2) := by decide +kernel
theorem dL_law_538 : decode cL_law 538 = .ok (.aload 8, 2) := by decide +kernel
theorem dL_law_540 : decode cL_law 540 = .ok (.aload 9, 2) := by decide +kernel
theorem dL_law_542 : decode cL_law 542 = .ok (.aload 10, 2) := by decide +kernel
theorem dL_law_544 : decode cL_law 544 = .ok (.invokestatic 157, 3) := by decide +kernel
theorem dL_law_547 : decode cL_law 547 = .ok (.ifCond .eq 7, 3) := by decide +kernel
theorem dL_law_550 : decode cL_law 550 = .ok (.iconst 1, 1) := by decide +kernel
theorem dL_law_551 : decode cL_law 551 = .ok (.goto 4, 3) := by decide +kernel
theorem dL_law_554 : decode cL_law 554 = .ok (.iconst 0, 1) := by decide +kernel
theorem dL_law_555 : decode cL_law 555 = .ok (.istore 11, 2) := by decide +kernel
theorem dL_law_557 : decode cL_law 557 = .ok (.iinc 12 1, 3) := by decide +kernel
theorem dL_law_560 : decode cL_law 560 = .ok (.goto (-479), 3) := by decide +kernel
theorem dL_law_563 : decode cL_law 563 = .ok (.iload 11, 2) := by decide +kernel
theorem dL_law_565 : decode cL_law 565 = .ok (.ireturn, 1) := by decide +kernel
