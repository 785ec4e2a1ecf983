theorem dL_merges_0 : decode cL_merges 0 = .ok (.aload 10, 2) := by decide +kernel
theorem dL_merges_2 : decode cL_merges 2 = .ok (.iconst 2, 1) := by decide +kernel
theorem dL_merges_3 : decode cL_merges 3 = .ok (.iaload, 1) := by decide +kernel
theorem dL_merges_4 : decode cL_merges 4 = .ok (.iconst 2, 1) := by decide +kernel
theorem dL_merges_5 : decode cL_merges 5 = .ok (.if_icmp .ge 5, 3) := by decide +kernel
theorem dL_merges_8 : decode cL_merges 8 = .ok (.iconst 1, 1) := by decide +kernel
theorem dL_merges_9 : decode cL_merges 9 = .ok (.ireturn, 1) := by decide +kernel
theorem dL_merges_10 : decode cL_merges 10 = .ok (.iload_n 1, 1) := by decide +kernel
theorem dL_merges_11 : decode cL_merges 11 = .ok (.aload 10, 2) := by decide +kernel
theorem dL_merges_13 : decode cL_merges 13 = .ok (.iconst 2, 1) := by decide +kernel
theorem dL_merges_14 : decode cL_merges 14 = .ok (.iaload, 1) := by decide +kernel
theorem dL_merges_15 : decode cL_merges 15 = .ok (.invokestatic 61, 3) := by decide +kernel
theorem dL_merges_18 : decode cL_merges 18 = .ok (.istore 11, 2) := by decide +kernel
theorem dL_merges_20 : decode cL_merges 20 = .ok (.iload 11, 2) := by decide +kernel
theorem dL_merges_22 : decode cL_merges 22 = .ok (.iconst 1, 1) := by decide +kernel
theorem dL_merges_23 : decode cL_merges 23 = .ok (.iadd, 1) := by decide +kernel
theorem dL_merges_24 : decode cL_merges 24 = .ok (.iload_n 1, 1) := by decide +kernel
theorem dL_merges_25 : decode cL_merges 25 = .ok (.iconst 3, 1) := by decide +kernel
theorem dL_merges_26 : decode cL_merges 26 = .ok (.ishr, 1) := by decide +kernel
theorem dL_merges_27 : decode cL_merges 27 = .ok (.aload 10, 2) := by decide +kernel
theorem dL_merges_29 : decode cL_merges 29 = .ok (.iconst 2, 1) := by decide +kernel
theorem dL_merges_30 : decode cL_merges 30 = .ok (.iaload, 1) := by decide +kernel
theorem dL_merges_31 : decode cL_merges 31 = .ok (.iconst 1, 1) := by decide +kernel
theorem dL_merges_32 : decode cL_merges 32 = .ok (.isub, 1) := by decide +kernel
theorem dL_merges_33 : decode cL_merges 33 = .ok (.invokestatic 61, 3) := by decide +kernel
theorem dL_merges_36 : decode cL_merges 36 = .ok (.iadd, 1) := by decide +kernel
theorem dL_merges_37 : decode cL_merges 37 = .ok (.aload 10, 2) := by decide +kernel
theorem dL_merges_39 : decode cL_merges 39 = .ok (.iconst 2, 1) := by decide +kernel
theorem dL_merges_40 : decode cL_merges 40 = .ok (.iaload, 1) := by decide +kernel
theorem dL_merges_41 : decode cL_merges 41 = .ok (.irem, 1) := by decide +kernel
theorem dL_merges_42 : decode cL_merges 42 = .ok (.istore 12, 2) := by decide +kernel
theorem dL_merges_44 : decode cL_merges 44 = .ok (.iload_n 1, 1) := by decide +kernel
theorem dL_merges_45 : decode cL_merges 45 = .ok (.iconst 5, 1) := by decide +kernel
theorem dL_merges_46 : decode cL_merges 46 = .ok (.ishr, 1) := by decide +kernel
theorem dL_merges_47 : decode cL_merges 47 = .ok (.iconst 3, 1) := by decide +kernel
theorem dL_merges_48 : decode cL_merges 48 = .ok (.invokestatic 61, 3) := by decide +kernel
theorem dL_merges_51 : decode cL_merges 51 = .ok (.iconst 1, 1) := by decide +kernel
theorem dL_merges_52 : decode cL_merges 52 = .ok (.isub, 1) := by decide +kernel
theorem dL_merges_53 : decode cL_merges 53 = .ok (.istore 13, 2) := by decide +kernel
theorem dL_merges_55 : decode cL_merges 55 = .ok (.aload 7, 2) := by decide +kernel
theorem dL_merges_57 : decode cL_merges 57 = .ok (.iload 11, 2) := by decide +kernel
theorem dL_merges_59 : decode cL_merges 59 = .ok (.iaload, 1) := by decide +kernel
theorem dL_merges_60 : decode cL_merges 60 = .ok (.istore 14, 2) := by decide +kernel
theorem dL_merges_62 : decode cL_merges 62 = .ok (.aload 7, 2) := by decide +kernel
theorem dL_merges_64 : decode cL_merges 64 = .ok (.iload 12, 2) := by decide +kernel
theorem dL_merges_66 : decode cL_merges 66 = .ok (.iaload, 1) := by decide +kernel
theorem dL_merges_67 : decode cL_merges 67 = .ok (.istore 15, 2) := by decide +kernel
theorem dL_merges_69 : decode cL_merges 69 = .ok (.iload 14, 2) := by decide +kernel
theorem dL_merges_71 : decode cL_merges 71 = .ok (.iload 15, 2) := by decide +kernel
theorem dL_merges_73 : decode cL_merges 73 = .ok (.aload 5, 2) := by decide +kernel
theorem dL_merges_75 : decode cL_merges 75 = .ok (.invokestatic 82, 3) := by decide +kernel
theorem dL_merges_78 : decode cL_merges 78 = .ok (.istore 16, 2) := by decide +kernel
theorem dL_merges_80 : decode cL_merges 80 = .ok (.lconst 0, 1) := by decide +kernel
theorem dL_merges_81 : decode cL_merges 81 = .ok (.lstore 17, 2) := by decide +kernel
theorem dL_merges_83 : decode cL_merges 83 = .ok (.iconst 0, 1) := by decide +kernel
theorem dL_merges_84 : decode cL_merges 84 = .ok (.istore 19, 2) := by decide +kernel
theorem dL_merges_86 : decode cL_merges 86 = .ok (.aload 10, 2) := by decide +kernel
theorem dL_merges_88 : decode cL_merges 88 = .ok (.iconst 1, 1) := by decide +kernel
theorem dL_merges_89 : decode cL_merges 89 = .ok (.iaload, 1) := by decide +kernel
theorem dL_merges_90 : decode cL_merges 90 = .ok (.ifCond .ne 7, 3) := by decide +kernel
theorem dL_merges_93 : decode cL_merges 93 = .ok (.iconst 0, 1) := by decide +kernel
theorem dL_merges_94 : decode cL_merges 94 = .ok (.goto 14, 3) := by decide +kernel
theorem dL_merges_97 : decode cL_merges 97 = .ok (.iload_n 1, 1) := by decide +kernel
theorem dL_merges_98 : decode cL_merges 98 = .ok (.bipush 7, 2) := by decide +kernel
theorem dL_merges_100 : decode cL_merges 100 = .ok (.ishr, 1) := by decide +kernel
theorem dL_merges_101 : decode cL_merges 101 = .ok (.aload 10, 2) := by decide +kernel
theorem dL_merges_103 : decode cL_merges 103 = .ok (.iconst 1, 1) := by decide +kernel
theorem dL_merges_104 : decode cL_merges 104 = .ok (.iaload, 1) := by decide +kernel
theorem dL_merges_105 : decode cL_merges 105 = .ok (.invokestatic 61, 3) := by decide +kernel
theorem dL_merges_108 : decode cL_merges 108 = .ok (.istore 20, 2) := by decide +kernel
theorem dL_merges_110 : decode cL_merges 110 = .ok (.iload_n 1, 1) := by decide +kernel
theorem dL_merges_111 : decode cL_merges 111 = .ok (.bipush 9, 2) := by decide +kernel
theorem dL_merges_113 : decode cL_merges 113 = .ok (.ishr, 1) := by decide +kernel
theorem dL_merges_114 : decode cL_merges 114 = .ok (.iconst 4, 1) := by decide +kernel
theorem dL_merges_115 : decode cL_merges 115 = .ok (.invokestatic 61, 3) := by decide +kernel
theorem dL_merges_118 : decode cL_merges 118 = .ok (.istore 21, 2) := by decide +kernel
theorem dL_merges_120 : decode cL_merges 120 = .ok (.aload_n 0, 1) := by decide +kernel
theorem dL_merges_121 : decode cL_merges 121 = .ok (.iload 11, 2) := by decide +kernel
theorem dL_merges_123 : decode cL_merges 123 = .ok (.iload 12, 2) := by decide +kernel
theorem dL_merges_125 : decode cL_merges 125 = .ok (.invokevirtual 86, 3) := by decide +kernel
theorem dL_merges_128 : decode cL_merges 128 = .ok (.iload 16, 2) := by decide +kernel
theorem dL_merges_130 : decode cL_merges 130 = .ok (.if_icmp .ne 7, 3) := by decide +kernel
theorem dL_merges_133 : decode cL_merges 133 = .ok (.iconst 1, 1) := by decide +kernel
theorem dL_merges_134 : decode cL_merges 134 = .ok (.goto 4, 3) := by decide +kernel
theorem dL_merges_137 : decode cL_merges 137 = .ok (.iconst 0, 1) := by decide +kernel
theorem dL_merges_138 : decode cL_merges 138 = .ok (.istore 22, 2) := by decide +kernel
theorem dL_merges_140 : decode cL_merges 140 = .ok (.iconst 0, 1) := by decide +kernel
theorem dL_merges_141 : decode cL_merges 141 = .ok (.istore 23, 2) := by decide +kernel
theorem dL_merges_143 : decode cL_merges 143 = .ok (.iload 23, 2) := by decide +kernel
theorem dL_merges_145 : decode cL_merges 145 = .ok (.bipush 6, 2) := by decide +kernel
theorem dL_merges_147 : decode cL_merges 147 = .ok (.if_icmp .ge 176, 3) := by decide +kernel
theorem dL_merges_150 : decode cL_merges 150 = .ok (.iload 16, 2) := by decide +kernel
theorem dL_merges_152 : decode cL_merges 152 = .ok (.iload 23, 2) := by decide +kernel
theorem dL_merges_154 : decode cL_merges 154 = .ok (.aload_n 2, 1) := by decide +kernel
theorem dL_merges_155 : decode cL_merges 155 = .ok (.aload_n 3, 1) := by decide +kernel
theorem dL_merges_156 : decode cL_merges 156 = .ok (.invokestatic 31, 3) := by decide +kernel
theorem dL_merges_159 : decode cL_merges 159 = .ok (.iload 14, 2) := by decide +kernel
theorem dL_merges_161 : decode cL_merges 161 = .ok (.iload 23, 2) := by decide +kernel
theorem dL_merges_163 : decode cL_merges 163 = .ok (.aload_n 2, 1) := by decide +kernel
theorem dL_merges_164 : decode cL_merges 164 = .ok (.aload_n 3, 1) := by decide +kernel
theorem dL_merges_165 : decode cL_merges 165 = .ok (.invokestatic 31, 3) := by decide +kernel
theorem dL_merges_168 : decode cL_merges 168 = .ok (.iload 15, 2) := by decide +kernel
theorem dL_merges_170 : decode cL_merges 170 = .ok (.iload 23, 2) := by decide +kernel
theorem dL_merges_172 : decode cL_merges 172 = .ok (.aload_n 2, 1) := by decide +kernel
theorem dL_merges_173 : decode cL_merges 173 = .ok (.aload_n 3, 1) := by decide +kernel
theorem dL_merges_174 : decode cL_merges 174 = .ok (.invokestatic 31, 3) := by decide +kernel
theorem dL_merges_177 : decode cL_merges 177 = .ok (.iload 13, 2) := by decide +kernel
theorem dL_merges_179 : decode cL_merges 179 = .ok (.iconst 1, 1) := by decide +kernel
theorem dL_merges_180 : decode cL_merges 180 = .ok (.if_icmp .ge 7, 3) := by decide +kernel
theorem dL_merges_183 : decode cL_merges 183 = .ok (.iconst 1, 1) := by decide +kernel
theorem dL_merges_184 : decode cL_merges 184 = .ok (.goto 4, 3) := by decide +kernel
theorem dL_merges_187 : decode cL_merges 187 = .ok (.iconst 0, 1) := by decide +kernel
theorem dL_merges_188 : decode cL_merges 188 = .ok (.invokestatic 88, 3) := by decide +kernel
theorem dL_merges_191 : decode cL_merges 191 = .ok (.lstore 24, 2) := by decide +kernel
theorem dL_merges_193 : decode cL_merges 193 = .ok (.lload 17, 2) := by decide +kernel
theorem dL_merges_195 : decode cL_merges 195 = .ok (.lload 24, 2) := by decide +kernel
theorem dL_merges_197 : decode cL_merges 197 = .ok (.bipush 41, 2) := by decide +kernel
theorem dL_merges_199 : decode cL_merges 199 = .ok (.lshr, 1) := by decide +kernel
theorem dL_merges_200 : decode cL_merges 200 = .ok (.ladd, 1) := by decide +kernel
theorem dL_merges_201 : decode cL_merges 201 = .ok (.lstore 17, 2) := by decide +kernel
theorem dL_merges_203 : decode cL_merges 203 = .ok (.lload 24, 2) := by decide +kernel
theorem dL_merges_205 : decode cL_merges 205 = .ok (.ldc2_w 92, 3) := by decide +kernel
theorem dL_merges_208 : decode cL_merges 208 = .ok (.land, 1) := by decide +kernel
theorem dL_merges_209 : decode cL_merges 209 = .ok (.lstore 26, 2) := by decide +kernel
theorem dL_merges_211 : decode cL_merges 211 = .ok (.iload 19, 2) := by decide +kernel
theorem dL_merges_213 : decode cL_merges 213 = .ok (.ifCond .ne 29, 3) := by decide +kernel
theorem dL_merges_216 : decode cL_merges 216 = .ok (.lload 26, 2) := by decide +kernel
theorem dL_merges_218 : decode cL_merges 218 = .ok (.lconst 0, 1) := by decide +kernel
theorem dL_merges_219 : decode cL_merges 219 = .ok (.lcmp, 1) := by decide +kernel
theorem dL_merges_220 : decode cL_merges 220 = .ok (.ifCond .eq 26, 3) := by decide +kernel
theorem dL_merges_223 : decode cL_merges 223 = .ok (.iload 23, 2) := by decide +kernel
theorem dL_merges_225 : decode cL_merges 225 = .ok (.lload 26, 2) := by decide +kernel
theorem dL_merges_227 : decode cL_merges 227 = .ok (.aload 8, 2) := by decide +kernel
theorem dL_merges_229 : decode cL_merges 229 = .ok (.aload 9, 2) := by decide +kernel
theorem dL_merges_231 : decode cL_merges 231 = .ok (.aload 10, 2) := by decide +kernel
theorem dL_merges_233 : decode cL_merges 233 = .ok (.invokestatic 53, 3) := by decide +kernel
theorem dL_merges_236 : decode cL_merges 236 = .ok (.bipush 64, 2) := by decide +kernel
theorem dL_merges_238 : decode cL_merges 238 = .ok (.irem, 1) := by decide +kernel
theorem dL_merges_239 : decode cL_merges 239 = .ok (.ifCond .le 7, 3) := by decide +kernel
theorem dL_merges_242 : decode cL_merges 242 = .ok (.iconst 1, 1) := by decide +kernel
theorem dL_merges_243 : decode cL_merges 243 = .ok (.goto 4, 3) := by decide +kernel
theorem dL_merges_246 : decode cL_merges 246 = .ok (.iconst 0, 1) := by decide +kernel
theorem dL_merges_247 : decode cL_merges 247 = .ok (.istore 19, 2) := by decide +kernel
theorem dL_merges_249 : decode cL_merges 249 = .ok (.iload 23, 2) := by decide +kernel
theorem dL_merges_251 : decode cL_merges 251 = .ok (.iload 20, 2) := by decide +kernel
theorem dL_merges_253 : decode cL_merges 253 = .ok (.if_icmp .ne 64, 3) := by decide +kernel
theorem dL_merges_256 : decode cL_merges 256 = .ok (.iload 23, 2) := by decide +kernel
theorem dL_merges_258 : decode cL_merges 258 = .ok (.aload 10, 2) := by decide +kernel
theorem dL_merges_260 : decode cL_merges 260 = .ok (.iconst 1, 1) := by decide +kernel
theorem dL_merges_261 : decode cL_merges 261 = .ok (.iaload, 1) := by decide +kernel
theorem dL_merges_262 : decode cL_merges 262 = .ok (.if_icmp .ge 55, 3) := by decide +kernel
theorem dL_merges_265 : decode cL_merges 265 = .ok (.iload 13, 2) := by decide +kernel
theorem dL_merges_267 : decode cL_merges 267 = .ok (.ifCond .lt 50, 3) := by decide +kernel
theorem dL_merges_270 : decode cL_merges 270 = .ok (.iload 22, 2) := by decide +kernel
theorem dL_merges_272 : decode cL_merges 272 = .ok (.ifCond .eq 42, 3) := by decide +kernel
theorem dL_merges_275 : decode cL_merges 275 = .ok (.aload_n 0, 1) := by decide +kernel
theorem dL_merges_276 : decode cL_merges 276 = .ok (.iload 11, 2) := by decide +kernel
theorem dL_merges_278 : decode cL_merges 278 = .ok (.iload 12, 2) := by decide +kernel
theorem dL_merges_280 : decode cL_merges 280 = .ok (.iload 23, 2) := by decide +kernel
theorem dL_merges_282 : decode cL_merges 282 = .ok (.iload 21, 2) := by decide +kernel
theorem dL_merges_284 : decode cL_merges 284 = .ok (.iload 13, 2) := by decide +kernel
theorem dL_merges_286 : decode cL_merges 286 = .ok (.invokevirtual 94, 3) := by decide +kernel
theorem dL_merges_289 : decode cL_merges 289 = .ok (.lload 26, 2) := by decide +kernel
theorem dL_merges_291 : decode cL_merges 291 = .ok (.lconst 0, 1) := by decide +kernel
theorem dL_merges_292 : decode cL_merges 292 = .ok (.lcmp, 1) := by decide +kernel
theorem dL_merges_293 : decode cL_merges 293 = .ok (.ifCond .ne 7, 3) := by decide +kernel
theorem dL_merges_296 : decode cL_merges 296 = .ok (.iconst (-1), 1) := by decide +kernel
theorem dL_merges_297 : decode cL_merges 297 = .ok (.goto 10, 3) := by decide +kernel
theorem dL_merges_300 : decode cL_merges 300 = .ok (.lload 26, 2) := by decide +kernel
theorem dL_merges_302 : decode cL_merges 302 = .ok (.iload 21, 2) := by decide +kernel
theorem dL_merges_304 : decode cL_merges 304 = .ok (.invokestatic 45, 3) := by decide +kernel
theorem dL_merges_307 : decode cL_merges 307 = .ok (.if_icmp .ne 7, 3) := by decide +kernel
theorem dL_merges_310 : decode cL_merges 310 = .ok (.iconst 1, 1) := by decide +kernel
theorem dL_merges_311 : decode cL_merges 311 = .ok (.goto 4, 3) := by decide +kernel
theorem dL_merges_314 : decode cL_merges 314 = .ok (.iconst 0, 1) := by decide +kernel
theorem dL_merges_315 : decode cL_merges 315 = .ok (.istore 22, 2) := by decide +kernel
theorem dL_merges_317 : decode cL_merges 317 = .ok (.iinc 23 1, 3) := by decide +kernel
theorem dL_merges_320 : decode cL_merges 320 = .ok (.goto (-177), 3) := by decide +kernel
theorem dL_merges_323 : decode cL_merges 323 = .ok (.iload 22, 2) := by decide +kernel
theorem dL_merges_325 : decode cL_merges 325 = .ok (.ifCond .eq 22, 3) := by decide +kernel
theorem dL_merges_328 : decode cL_merges 328 = .ok (.aload_n 0, 1) := by decide +kernel
theorem dL_merges_329 : decode cL_merges 329 = .ok (.iload 11, 2) := by decide +kernel
theorem dL_merges_331 : decode cL_merges 331 = .ok (.iload 12, 2) := by decide +kernel
theorem dL_merges_333 : decode cL_merges 333 = .ok (.invokevirtual 98, 3) := by decide +kernel
theorem dL_merges_336 : decode cL_merges 336 = .ok (.i2l, 1) := by decide +kernel
theorem dL_merges_337 : decode cL_merges 337 = .ok (.lload 17, 2) := by decide +kernel
theorem dL_merges_339 : decode cL_merges 339 = .ok (.lcmp, 1) := by decide +kernel
theorem dL_merges_340 : decode cL_merges 340 = .ok (.ifCond .ne 7, 3) := by decide +kernel
theorem dL_merges_343 : decode cL_merges 343 = .ok (.iconst 1, 1) := by decide +kernel
theorem dL_merges_344 : decode cL_merges 344 = .ok (.goto 4, 3) := by decide +kernel
theorem dL_merges_347 : decode cL_merges 347 = .ok (.iconst 0, 1) := by decide +kernel
theorem dL_merges_348 : decode cL_merges 348 = .ok (.istore 22, 2) := by decide +kernel
theorem dL_merges_350 : decode cL_merges 350 = .ok (.iload 13, 2) := by decide +kernel
theorem dL_merges_352 : decode cL_merges 352 = .ok (.ifCond .ge 10, 3) := by decide +kernel
theorem dL_merges_355 : decode cL_merges 355 = .ok (.lload 17, 2) := by decide +kernel
theorem dL_merges_357 : decode cL_merges 357 = .ok (.lconst 0, 1) := by decide +kernel
theorem dL_merges_358 : decode cL_merges 358 = .ok (.lcmp, 1) := by decide +kernel
theorem dL_merges_359 : decode cL_merges 359 = .ok (.ifCond .ne 12, 3) := by decide +kernel
theorem dL_merges_362 : decode cL_merges 362 = .ok (.iload 19, 2) := by decide +kernel
theorem dL_merges_364 : decode cL_merges 364 = .ok (.ifCond .ne 7, 3) := by decide +kernel
theorem dL_merges_367 : decode cL_merges 367 = .ok (.iconst 1, 1) := by decide +kernel
theorem dL_merges_368 : decode cL_merges 368 = .ok (.goto 4, 3) := by decide +kernel
theorem dL_merges_371 : decode cL_merges 371 = .ok (.iconst 0, 1) := by decide +kernel
theorem dL_merges_372 : decode cL_merges 372 = .ok (.istore 23, 2) := by decide +kernel
theorem dL_merges_374 : decode cL_merges 374 = .ok (.aload 10, 2) := by decide +kernel
theorem dL_merges_376 : decode cL_merges 376 = .ok (.iconst 0, 1) := by decide +kernel
theorem dL_merges_377 : decode cL_merges 377 = .ok (.iaload, 1) := by decide +kernel
theorem dL_merges_378 : decode cL_merges 378 = .ok (.bipush 21, 2) := by decide +kernel
theorem dL_merges_380 : decode cL_merges 380 = .ok (.if_icmp .ne 6, 3) := by decide +kernel
theorem dL_merges_383 : decode cL_merges 383 = .ok (.iload 22, 2) := by decide +kernel
theorem dL_merges_385 : decode cL_merges 385 = .ok (.ireturn, 1) := by decide +kernel
theorem dL_merges_386 : decode cL_merges 386 = .ok (.iload 23, 2) := by decide +kernel
theorem dL_merges_388 : decode cL_merges 388 = .ok (.ifCond .ne 30, 3) := by decide +kernel
theorem dL_merges_391 : decode cL_merges 391 = .ok (.iload 22, 2) := by decide +kernel
theorem dL_merges_393 : decode cL_merges 393 = .ok (.ifCond .eq 23, 3) := by decide +kernel
theorem dL_merges_396 : decode cL_merges 396 = .ok (.aload_n 0, 1) := by decide +kernel
theorem dL_merges_397 : decode cL_merges 397 = .ok (.iconst 1, 1) := by decide +kernel
theorem dL_merges_398 : decode cL_merges 398 = .ok (.iload 11, 2) := by decide +kernel
theorem dL_merges_400 : decode cL_merges 400 = .ok (.iload 12, 2) := by decide +kernel
theorem dL_merges_402 : decode cL_merges 402 = .ok (.iload 13, 2) := by decide +kernel
theorem dL_merges_404 : decode cL_merges 404 = .ok (.invokestatic 101, 3) := by decide +kernel
theorem dL_merges_407 : decode cL_merges 407 = .ok (.ldc 28, 2) := by decide +kernel
theorem dL_merges_409 : decode cL_merges 409 = .ok (.if_icmp .ne 7, 3) := by decide +kernel
theorem dL_merges_412 : decode cL_merges 412 = .ok (.iconst 1, 1) := by decide +kernel
theorem dL_merges_413 : decode cL_merges 413 = .ok (.goto 4, 3) := by decide +kernel
theorem dL_merges_416 : decode cL_merges 416 = .ok (.iconst 0, 1) := by decide +kernel
theorem dL_merges_417 : decode cL_merges 417 = .ok (.ireturn, 1) := by decide +kernel
theorem dL_merges_418 : decode cL_merges 418 = .ok (.iload 11, 2) := by decide +kernel
theorem dL_merges_420 : decode cL_merges 420 = .ok (.aload_n 2, 1) := by decide +kernel
theorem dL_merges_421 : decode cL_merges 421 = .ok (.aload_n 3, 1) := by decide +kernel
theorem dL_merges_422 : decode cL_merges 422 = .ok (.aload 4, 2) := by decide +kernel
theorem dL_merges_424 : decode cL_merges 424 = .ok (.aload 5, 2) := by decide +kernel
theorem dL_merges_426 : decode cL_merges 426 = .ok (.aload 6, 2) := by decide +kernel
theorem dL_merges_428 : decode cL_merges 428 = .ok (.aload 7, 2) := by decide +kernel
theorem dL_merges_430 : decode cL_merges 430 = .ok (.aload 10, 2) := by decide +kernel
theorem dL_merges_432 : decode cL_merges 432 = .ok (.invokestatic 68, 3) := by decide +kernel
theorem dL_merges_435 : decode cL_merges 435 = .ok (.istore 24, 2) := by decide +kernel
theorem dL_merges_437 : decode cL_merges 437 = .ok (.iconst 0, 1) := by decide +kernel
theorem dL_merges_438 : decode cL_merges 438 = .ok (.istore 25, 2) := by decide +kernel
theorem dL_merges_440 : decode cL_merges 440 = .ok (.iconst 0, 1) := by decide +kernel
theorem dL_merges_441 : decode cL_merges 441 = .ok (.istore 26, 2) := by decide +kernel
theorem dL_merges_443 : decode cL_merges 443 = .ok (.iconst 0, 1) := by decide +kernel
theorem dL_merges_444 : decode cL_merges 444 = .ok (.istore 27, 2) := by decide +kernel
theorem dL_merges_446 : decode cL_merges 446 = .ok (.iload 27, 2) := by decide +kernel
theorem dL_merges_448 : decode cL_merges 448 = .ok (.bipush 12, 2) := by decide +kernel
theorem dL_merges_450 : decode cL_merges 450 = .ok (.if_icmp .ge 167, 3) := by decide +kernel
theorem dL_merges_453 : decode cL_merges 453 = .ok (.aload 4, 2) := by decide +kernel
theorem dL_merges_455 : decode cL_merges 455 = .ok (.iload 27, 2) := by decide +kernel
theorem dL_merges_457 : decode cL_merges 457 = .ok (.bipush 6, 2) := by decide +kernel
theorem dL_merges_459 : decode cL_merges 459 = .ok (.if_icmp .ge 8, 3) := by decide +kernel
theorem dL_merges_462 : decode cL_merges 462 = .ok (.iload 14, 2) := by decide +kernel
theorem dL_merges_464 : decode cL_merges 464 = .ok (.goto 5, 3) := by decide +kernel
theorem dL_merges_467 : decode cL_merges 467 = .ok (.iload 15, 2) := by decide +kernel
theorem dL_merges_469 : decode cL_merges 469 = .ok (.iaload, 1) := by decide +kernel
theorem dL_merges_470 : decode cL_merges 470 = .ok (.iconst 3, 1) := by decide +kernel
theorem dL_merges_471 : decode cL_merges 471 = .ok (.iload 27, 2) := by decide +kernel
theorem dL_merges_473 : decode cL_merges 473 = .ok (.bipush 6, 2) := by decide +kernel
theorem dL_merges_475 : decode cL_merges 475 = .ok (.irem, 1) := by decide +kernel
theorem dL_merges_476 : decode cL_merges 476 = .ok (.imul, 1) := by decide +kernel
theorem dL_merges_477 : decode cL_merges 477 = .ok (.ishr, 1) := by decide +kernel
theorem dL_merges_478 : decode cL_merges 478 = .ok (.bipush 8, 2) := by decide +kernel
theorem dL_merges_480 : decode cL_merges 480 = .ok (.irem, 1) := by decide +kernel
theorem dL_merges_481 : decode cL_merges 481 = .ok (.iconst 1, 1) := by decide +kernel
theorem dL_merges_482 : decode cL_merges 482 = .ok (.isub, 1) := by decide +kernel
theorem dL_merges_483 : decode cL_merges 483 = .ok (.istore 28, 2) := by decide +kernel
theorem dL_merges_485 : decode cL_merges 485 = .ok (.iload 28, 2) := by decide +kernel
theorem dL_merges_487 : decode cL_merges 487 = .ok (.ifCond .lt 124, 3) := by decide +kernel
theorem dL_merges_490 : decode cL_merges 490 = .ok (.iload 27, 2) := by decide +kernel
theorem dL_merges_492 : decode cL_merges 492 = .ok (.bipush 6, 2) := by decide +kernel
theorem dL_merges_494 : decode cL_merges 494 = .ok (.if_icmp .lt 17, 3) := by decide +kernel
theorem dL_merges_497 : decode cL_merges 497 = .ok (.iload 14, 2) := by decide +kernel
theorem dL_merges_499 : decode cL_merges 499 = .ok (.iload 28, 2) := by decide +kernel
theorem dL_merges_501 : decode cL_merges 501 = .ok (.aload_n 2, 1) := by decide +kernel
theorem dL_merges_502 : decode cL_merges 502 = .ok (.aload_n 3, 1) := by decide +kernel
theorem dL_merges_503 : decode cL_merges 503 = .ok (.invokestatic 31, 3) := by decide +kernel
theorem dL_merges_506 : decode cL_merges 506 = .ok (.lconst 0, 1) := by decide +kernel
theorem dL_merges_507 : decode cL_merges 507 = .ok (.lcmp, 1) := by decide +kernel
theorem dL_merges_508 : decode cL_merges 508 = .ok (.ifCond .ne 103, 3) := by decide +kernel
theorem dL_merges_511 : decode cL_merges 511 = .ok (.iload 16, 2) := by decide +kernel
theorem dL_merges_513 : decode cL_merges 513 = .ok (.iload 28, 2) := by decide +kernel
theorem dL_merges_515 : decode cL_merges 515 = .ok (.aload_n 2, 1) := by decide +kernel
theorem dL_merges_516 : decode cL_merges 516 = .ok (.aload_n 3, 1) := by decide +kernel
theorem dL_merges_517 : decode cL_merges 517 = .ok (.invokestatic 31, 3) := by decide +kernel
theorem dL_merges_520 : decode cL_merges 520 = .ok (.iload 14, 2) := by decide +kernel
theorem dL_merges_522 : decode cL_merges 522 = .ok (.iload 28, 2) := by decide +kernel
theorem dL_merges_524 : decode cL_merges 524 = .ok (.aload_n 2, 1) := by decide +kernel
theorem dL_merges_525 : decode cL_merges 525 = .ok (.aload_n 3, 1) := by decide +kernel
theorem dL_merges_526 : decode cL_merges 526 = .ok (.invokestatic 31, 3) := by decide +kernel
theorem dL_merges_529 : decode cL_merges 529 = .ok (.iload 15, 2) := by decide +kernel
theorem dL_merges_531 : decode cL_merges 531 = .ok (.iload 28, 2) := by decide +kernel
theorem dL_merges_533 : decode cL_merges 533 = .ok (.aload_n 2, 1) := by decide +kernel
theorem dL_merges_534 : decode cL_merges 534 = .ok (.aload_n 3, 1) := by decide +kernel
theorem dL_merges_535 : decode cL_merges 535 = .ok (.invokestatic 31, 3) := by decide +kernel
theorem dL_merges_538 : decode cL_merges 538 = .ok (.iload 13, 2) := by decide +kernel
theorem dL_merges_540 : decode cL_merges 540 = .ok (.iconst 1, 1) := by decide +kernel
theorem dL_merges_541 : decode cL_merges 541 = .ok (.if_icmp .ge 7, 3) := by decide +kernel
theorem dL_merges_544 : decode cL_merges 544 = .ok (.iconst 1, 1) := by decide +kernel
theorem dL_merges_545 : decode cL_merges 545 = .ok (.goto 4, 3) := by decide +kernel
theorem dL_merges_548 : decode cL_merges 548 = .ok (.iconst 0, 1) := by decide +kernel
theorem dL_merges_549 : decode cL_merges 549 = .ok (.invokestatic 88, 3) := by decide +kernel
theorem dL_merges_552 : decode cL_merges 552 = .ok (.ldc2_w 92, 3) := by decide +kernel
theorem dL_merges_555 : decode cL_merges 555 = .ok (.land, 1) := by decide +kernel
theorem dL_merges_556 : decode cL_merges 556 = .ok (.lstore 29, 2) := by decide +kernel
theorem dL_merges_558 : decode cL_merges 558 = .ok (.iload 24, 2) := by decide +kernel
theorem dL_merges_560 : decode cL_merges 560 = .ok (.iload 28, 2) := by decide +kernel
theorem dL_merges_562 : decode cL_merges 562 = .ok (.lload 29, 2) := by decide +kernel
theorem dL_merges_564 : decode cL_merges 564 = .ok (.aload_n 2, 1) := by decide +kernel
theorem dL_merges_565 : decode cL_merges 565 = .ok (.aload_n 3, 1) := by decide +kernel
theorem dL_merges_566 : decode cL_merges 566 = .ok (.invokestatic 37, 3) := by decide +kernel
theorem dL_merges_569 : decode cL_merges 569 = .ok (.iload 25, 2) := by decide +kernel
theorem dL_merges_571 : decode cL_merges 571 = .ok (.lload 29, 2) := by decide +kernel
theorem dL_merges_573 : decode cL_merges 573 = .ok (.lconst 0, 1) := by decide +kernel
theorem dL_merges_574 : decode cL_merges 574 = .ok (.lcmp, 1) := by decide +kernel
theorem dL_merges_575 : decode cL_merges 575 = .ok (.ifCond .ne 7, 3) := by decide +kernel
theorem dL_merges_578 : decode cL_merges 578 = .ok (.iconst 0, 1) := by decide +kernel
theorem dL_merges_579 : decode cL_merges 579 = .ok (.goto 12, 3) := by decide +kernel
theorem dL_merges_582 : decode cL_merges 582 = .ok (.iload 28, 2) := by decide +kernel
theorem dL_merges_584 : decode cL_merges 584 = .ok (.iconst 1, 1) := by decide +kernel
theorem dL_merges_585 : decode cL_merges 585 = .ok (.iadd, 1) := by decide +kernel
theorem dL_merges_586 : decode cL_merges 586 = .ok (.iconst 3, 1) := by decide +kernel
theorem dL_merges_587 : decode cL_merges 587 = .ok (.iload 26, 2) := by decide +kernel
theorem dL_merges_589 : decode cL_merges 589 = .ok (.imul, 1) := by decide +kernel
theorem dL_merges_590 : decode cL_merges 590 = .ok (.ishl, 1) := by decide +kernel
theorem dL_merges_591 : decode cL_merges 591 = .ok (.ior, 1) := by decide +kernel
theorem dL_merges_592 : decode cL_merges 592 = .ok (.istore 25, 2) := by decide +kernel
theorem dL_merges_594 : decode cL_merges 594 = .ok (.iload 26, 2) := by decide +kernel
theorem dL_merges_596 : decode cL_merges 596 = .ok (.lload 29, 2) := by decide +kernel
theorem dL_merges_598 : decode cL_merges 598 = .ok (.lconst 0, 1) := by decide +kernel
theorem dL_merges_599 : decode cL_merges 599 = .ok (.lcmp, 1) := by decide +kernel
theorem dL_merges_600 : decode cL_merges 600 = .ok (.ifCond .ne 7, 3) := by decide +kernel
theorem dL_merges_603 : decode cL_merges 603 = .ok (.iconst 0, 1) := by decide +kernel
theorem dL_merges_604 : decode cL_merges 604 = .ok (.goto 4, 3) := by decide +kernel
theorem dL_merges_607 : decode cL_merges 607 = .ok (.iconst 1, 1) := by decide +kernel
theorem dL_merges_608 : decode cL_merges 608 = .ok (.iadd, 1) := by decide +kernel
theorem dL_merges_609 : decode cL_merges 609 = .ok (.istore 26, 2) := by decide +kernel
theorem dL_merges_611 : decode cL_merges 611 = .ok (.iinc 27 1, 3) := by decide +kernel
theorem dL_merges_614 : decode cL_merges 614 = .ok (.goto (-168), 3) := by decide +kernel
theorem dL_merges_617 : decode cL_merges 617 = .ok (.aload 4, 2) := by decide +kernel
theorem dL_merges_619 : decode cL_merges 619 = .ok (.iload 24, 2) := by decide +kernel
theorem dL_merges_621 : decode cL_merges 621 = .ok (.iload 25, 2) := by decide +kernel
theorem dL_merges_623 : decode cL_merges 623 = .ok (.iastore, 1) := by decide +kernel
theorem dL_merges_624 : decode cL_merges 624 = .ok (.aload 5, 2) := by decide +kernel
theorem dL_merges_626 : decode cL_merges 626 = .ok (.iload 24, 2) := by decide +kernel
theorem dL_merges_628 : decode cL_merges 628 = .ok (.dup2, 1) := by decide +kernel
theorem dL_merges_629 : decode cL_merges 629 = .ok (.iaload, 1) := by decide +kernel
theorem dL_merges_630 : decode cL_merges 630 = .ok (.aload 5, 2) := by decide +kernel
theorem dL_merges_632 : decode cL_merges 632 = .ok (.iload 15, 2) := by decide +kernel
theorem dL_merges_634 : decode cL_merges 634 = .ok (.iaload, 1) := by decide +kernel
theorem dL_merges_635 : decode cL_merges 635 = .ok (.ior, 1) := by decide +kernel
theorem dL_merges_636 : decode cL_merges 636 = .ok (.iastore, 1) := by decide +kernel
theorem dL_merges_637 : decode cL_merges 637 = .ok (.aload 6, 2) := by decide +kernel
theorem dL_merges_639 : decode cL_merges 639 = .ok (.iload 24, 2) := by decide +kernel
theorem dL_merges_641 : decode cL_merges 641 = .ok (.dup2, 1) := by decide +kernel
theorem dL_merges_642 : decode cL_merges 642 = .ok (.iaload, 1) := by decide +kernel
theorem dL_merges_643 : decode cL_merges 643 = .ok (.bipush 64, 2) := by decide +kernel
theorem dL_merges_645 : decode cL_merges 645 = .ok (.iload 15, 2) := by decide +kernel
theorem dL_merges_647 : decode cL_merges 647 = .ok (.iconst 1, 1) := by decide +kernel
theorem dL_merges_648 : decode cL_merges 648 = .ok (.iadd, 1) := by decide +kernel
theorem dL_merges_649 : decode cL_merges 649 = .ok (.imul, 1) := by decide +kernel
theorem dL_merges_650 : decode cL_merges 650 = .ok (.iadd, 1) := by decide +kernel
theorem dL_merges_651 : decode cL_merges 651 = .ok (.iastore, 1) := by decide +kernel
theorem dL_merges_652 : decode cL_merges 652 = .ok (.iload 22, 2) := by decide +kernel
theorem dL_merges_654 : decode cL_merges 654 = .ok (.ifCond .eq 23, 3) := by decide +kernel
theorem dL_merges_657 : decode cL_merges 657 = .ok (.aload_n 0, 1) := by decide +kernel
theorem dL_merges_658 : decode cL_merges 658 = .ok (.iconst 1, 1) := by decide +kernel
theorem dL_merges_659 : decode cL_merges 659 = .ok (.iload 11, 2) := by decide +kernel
theorem dL_merges_661 : decode cL_merges 661 = .ok (.iload 12, 2) := by decide +kernel
theorem dL_merges_663 : decode cL_merges 663 = .ok (.iload 13, 2) := by decide +kernel
theorem dL_merges_665 : decode cL_merges 665 = .ok (.invokestatic 101, 3) := by decide +kernel
theorem dL_merges_668 : decode cL_merges 668 = .ok (.iload 24, 2) := by decide +kernel
theorem dL_merges_670 : decode cL_merges 670 = .ok (.if_icmp .ne 7, 3) := by decide +kernel
theorem dL_merges_673 : decode cL_merges 673 = .ok (.iconst 1, 1) := by decide +kernel
theorem dL_merges_674 : decode cL_merges 674 = .ok (.goto 4, 3) := by decide +kernel
theorem dL_merges_677 : decode cL_merges 677 = .ok (.iconst 0, 1) := by decide +kernel
theorem dL_merges_678 : decode cL_merges 678 = .ok (.ireturn, 1) := by decide +kernel
theorem dL_same_0 : decode cL_same 0 = .ok (.iconst 1, 1) := by decide +kernel
theorem dL_same_1 : decode cL_same 1 = .ok (.istore 11, 2) := by decide +kernel
theorem dL_same_3 : decode cL_same 3 = .ok (.iconst 0, 1) := by decide +kernel
theorem dL_same_4 : decode cL_same 4 = .ok (.istore 12, 2) := by decide +kernel
theorem dL_same_6 : decode cL_same 6 = .ok (.iload 12, 2) := by decide +kernel
theorem dL_same_8 : decode cL_same 8 = .ok (.aload 10, 2) := by decide +kernel
theorem dL_same_10 : decode cL_same 10 = .ok (.iconst 2, 1) := by decide +kernel
theorem dL_same_11 : decode cL_same 11 = .ok (.iaload, 1) := by decide +kernel
theorem dL_same_12 : decode cL_same 12 = .ok (.if_icmp .ge 93, 3) := by decide +kernel
theorem dL_same_15 : decode cL_same 15 = .ok (.iload 11, 2) := by decide +kernel
theorem dL_same_17 : decode cL_same 17 = .ok (.ifCond .eq 88, 3) := by decide +kernel
theorem dL_same_20 : decode cL_same 20 = .ok (.aload_n 0, 1) := by decide +kernel
theorem dL_same_21 : decode cL_same 21 = .ok (.iload 12, 2) := by decide +kernel
theorem dL_same_23 : decode cL_same 23 = .ok (.invokevirtual 105, 3) := by decide +kernel
theorem dL_same_26 : decode cL_same 26 = .ok (.aload 7, 2) := by decide +kernel
theorem dL_same_28 : decode cL_same 28 = .ok (.iload 12, 2) := by decide +kernel
theorem dL_same_30 : decode cL_same 30 = .ok (.iaload, 1) := by decide +kernel
theorem dL_same_31 : decode cL_same 31 = .ok (.if_icmp .ne 65, 3) := by decide +kernel
theorem dL_same_34 : decode cL_same 34 = .ok (.aload_n 0, 1) := by decide +kernel
theorem dL_same_35 : decode cL_same 35 = .ok (.iload 12, 2) := by decide +kernel
theorem dL_same_37 : decode cL_same 37 = .ok (.invokevirtual 108, 3) := by decide +kernel
theorem dL_same_40 : decode cL_same 40 = .ok (.aload 7, 2) := by decide +kernel
theorem dL_same_42 : decode cL_same 42 = .ok (.bipush 6, 2) := by decide +kernel
theorem dL_same_44 : decode cL_same 44 = .ok (.iload 12, 2) := by decide +kernel
theorem dL_same_46 : decode cL_same 46 = .ok (.iadd, 1) := by decide +kernel
theorem dL_same_47 : decode cL_same 47 = .ok (.iaload, 1) := by decide +kernel
theorem dL_same_48 : decode cL_same 48 = .ok (.ifCond .eq 27, 3) := by decide +kernel
theorem dL_same_51 : decode cL_same 51 = .ok (.aload 7, 2) := by decide +kernel
theorem dL_same_53 : decode cL_same 53 = .ok (.bipush 6, 2) := by decide +kernel
theorem dL_same_55 : decode cL_same 55 = .ok (.iload 12, 2) := by decide +kernel
theorem dL_same_57 : decode cL_same 57 = .ok (.iadd, 1) := by decide +kernel
theorem dL_same_58 : decode cL_same 58 = .ok (.iaload, 1) := by decide +kernel
theorem dL_same_59 : decode cL_same 59 = .ok (.iconst 1, 1) := by decide +kernel
theorem dL_same_60 : decode cL_same 60 = .ok (.isub, 1) := by decide +kernel
theorem dL_same_61 : decode cL_same 61 = .ok (.aload_n 2, 1) := by decide +kernel
theorem dL_same_62 : decode cL_same 62 = .ok (.aload_n 3, 1) := by decide +kernel
theorem dL_same_63 : decode cL_same 63 = .ok (.aload 8, 2) := by decide +kernel
theorem dL_same_65 : decode cL_same 65 = .ok (.aload 9, 2) := by decide +kernel
theorem dL_same_67 : decode cL_same 67 = .ok (.aload 10, 2) := by decide +kernel
theorem dL_same_69 : decode cL_same 69 = .ok (.invokestatic 111, 3) := by decide +kernel
theorem dL_same_72 : decode cL_same 72 = .ok (.ifCond .eq 7, 3) := by decide +kernel
theorem dL_same_75 : decode cL_same 75 = .ok (.iconst (-1), 1) := by decide +kernel
theorem dL_same_76 : decode cL_same 76 = .ok (.goto 13, 3) := by decide +kernel
theorem dL_same_79 : decode cL_same 79 = .ok (.aload 7, 2) := by decide +kernel
theorem dL_same_81 : decode cL_same 81 = .ok (.bipush 6, 2) := by decide +kernel
theorem dL_same_83 : decode cL_same 83 = .ok (.iload 12, 2) := by decide +kernel
theorem dL_same_85 : decode cL_same 85 = .ok (.iadd, 1) := by decide +kernel
theorem dL_same_86 : decode cL_same 86 = .ok (.iaload, 1) := by decide +kernel
theorem dL_same_87 : decode cL_same 87 = .ok (.iconst 1, 1) := by decide +kernel
theorem dL_same_88 : decode cL_same 88 = .ok (.isub, 1) := by decide +kernel
theorem dL_same_89 : decode cL_same 89 = .ok (.if_icmp .ne 7, 3) := by decide +kernel
theorem dL_same_92 : decode cL_same 92 = .ok (.iconst 1, 1) := by decide +kernel
theorem dL_same_93 : decode cL_same 93 = .ok (.goto 4, 3) := by decide +kernel
theorem dL_same_96 : decode cL_same 96 = .ok (.iconst 0, 1) := by decide +kernel
theorem dL_same_97 : decode cL_same 97 = .ok (.istore 11, 2) := by decide +kernel
theorem dL_same_99 : decode cL_same 99 = .ok (.iinc 12 1, 3) := by decide +kernel
theorem dL_same_102 : decode cL_same 102 = .ok (.goto (-96), 3) := by decide +kernel
theorem dL_same_105 : decode cL_same 105 = .ok (.iconst 0, 1) := by decide +kernel
theorem dL_same_106 : decode cL_same 106 = .ok (.istore 12, 2) := by decide +kernel
theorem dL_same_108 : decode cL_same 108 = .ok (.iload 12, 2) := by decide +kernel
theorem dL_same_110 : decode cL_same 110 = .ok (.iconst 3, 1) := by decide +kernel
theorem dL_same_111 : decode cL_same 111 = .ok (.if_icmp .ge 423, 3) := by decide +kernel
theorem dL_same_114 : decode cL_same 114 = .ok (.iload 11, 2) := by decide +kernel
theorem dL_same_116 : decode cL_same 116 = .ok (.ifCond .eq 418, 3) := by decide +kernel
theorem dL_same_119 : decode cL_same 119 = .ok (.iload 12, 2) := by decide +kernel
theorem dL_same_121 : decode cL_same 121 = .ok (.ifCond .ne 12, 3) := by decide +kernel
theorem dL_same_124 : decode cL_same 124 = .ok (.aload 10, 2) := by decide +kernel
theorem dL_same_126 : decode cL_same 126 = .ok (.iconst 0, 1) := by decide +kernel
theorem dL_same_127 : decode cL_same 127 = .ok (.iaload, 1) := by decide +kernel
theorem dL_same_128 : decode cL_same 128 = .ok (.iconst 1, 1) := by decide +kernel
theorem dL_same_129 : decode cL_same 129 = .ok (.isub, 1) := by decide +kernel
theorem dL_same_130 : decode cL_same 130 = .ok (.goto 14, 3) := by decide +kernel
theorem dL_same_133 : decode cL_same 133 = .ok (.iload_n 1, 1) := by decide +kernel
theorem dL_same_134 : decode cL_same 134 = .ok (.iload 12, 2) := by decide +kernel
theorem dL_same_136 : decode cL_same 136 = .ok (.ishr, 1) := by decide +kernel
theorem dL_same_137 : decode cL_same 137 = .ok (.aload 10, 2) := by decide +kernel
theorem dL_same_139 : decode cL_same 139 = .ok (.iconst 0, 1) := by decide +kernel
theorem dL_same_140 : decode cL_same 140 = .ok (.iaload, 1) := by decide +kernel
theorem dL_same_141 : decode cL_same 141 = .ok (.invokestatic 61, 3) := by decide +kernel
theorem dL_same_144 : decode cL_same 144 = .ok (.istore 13, 2) := by decide +kernel
theorem dL_same_146 : decode cL_same 146 = .ok (.iload 13, 2) := by decide +kernel
theorem dL_same_148 : decode cL_same 148 = .ok (.aload_n 2, 1) := by decide +kernel
theorem dL_same_149 : decode cL_same 149 = .ok (.aload_n 3, 1) := by decide +kernel
theorem dL_same_150 : decode cL_same 150 = .ok (.aload 8, 2) := by decide +kernel
theorem dL_same_152 : decode cL_same 152 = .ok (.aload 9, 2) := by decide +kernel
theorem dL_same_154 : decode cL_same 154 = .ok (.aload 10, 2) := by decide +kernel
theorem dL_same_156 : decode cL_same 156 = .ok (.invokestatic 57, 3) := by decide +kernel
theorem dL_same_159 : decode cL_same 159 = .ok (.istore 14, 2) := by decide +kernel
theorem dL_same_161 : decode cL_same 161 = .ok (.iconst 0, 1) := by decide +kernel
theorem dL_same_162 : decode cL_same 162 = .ok (.istore 15, 2) := by decide +kernel
theorem dL_same_164 : decode cL_same 164 = .ok (.iconst 0, 1) := by decide +kernel
theorem dL_same_165 : decode cL_same 165 = .ok (.istore 16, 2) := by decide +kernel
theorem dL_same_167 : decode cL_same 167 = .ok (.iload 16, 2) := by decide +kernel
theorem dL_same_169 : decode cL_same 169 = .ok (.bipush 21, 2) := by decide +kernel
theorem dL_same_171 : decode cL_same 171 = .ok (.if_icmp .ge 24, 3) := by decide +kernel
theorem dL_same_174 : decode cL_same 174 = .ok (.iload 15, 2) := by decide +kernel
theorem dL_same_176 : decode cL_same 176 = .ok (.aload 5, 2) := by decide +kernel
theorem dL_same_178 : decode cL_same 178 = .ok (.iload 13, 2) := by decide +kernel
theorem dL_same_180 : decode cL_same 180 = .ok (.iaload, 1) := by decide +kernel
theorem dL_same_181 : decode cL_same 181 = .ok (.iload 16, 2) := by decide +kernel
theorem dL_same_183 : decode cL_same 183 = .ok (.ishr, 1) := by decide +kernel
theorem dL_same_184 : decode cL_same 184 = .ok (.iconst 1, 1) := by decide +kernel
theorem dL_same_185 : decode cL_same 185 = .ok (.iand, 1) := by decide +kernel
theorem dL_same_186 : decode cL_same 186 = .ok (.iadd, 1) := by decide +kernel
theorem dL_same_187 : decode cL_same 187 = .ok (.istore 15, 2) := by decide +kernel
theorem dL_same_189 : decode cL_same 189 = .ok (.iinc 16 1, 3) := by decide +kernel
theorem dL_same_192 : decode cL_same 192 = .ok (.goto (-25), 3) := by decide +kernel
theorem dL_same_195 : decode cL_same 195 = .ok (.aload_n 0, 1) := by decide +kernel
theorem dL_same_196 : decode cL_same 196 = .ok (.iload 13, 2) := by decide +kernel
theorem dL_same_198 : decode cL_same 198 = .ok (.iconst 0, 1) := by decide +kernel
theorem dL_same_199 : decode cL_same 199 = .ok (.invokevirtual 115, 3) := by decide +kernel
theorem dL_same_202 : decode cL_same 202 = .ok (.aload 6, 2) := by decide +kernel
theorem dL_same_204 : decode cL_same 204 = .ok (.iload 13, 2) := by decide +kernel
theorem dL_same_206 : decode cL_same 206 = .ok (.iaload, 1) := by decide +kernel
theorem dL_same_207 : decode cL_same 207 = .ok (.sipush 4096, 3) := by decide +kernel
theorem dL_same_210 : decode cL_same 210 = .ok (.idiv, 1) := by decide +kernel
theorem dL_same_211 : decode cL_same 211 = .ok (.if_icmp .ne 108, 3) := by decide +kernel
theorem dL_same_214 : decode cL_same 214 = .ok (.aload_n 0, 1) := by decide +kernel
theorem dL_same_215 : decode cL_same 215 = .ok (.iload 13, 2) := by decide +kernel
theorem dL_same_217 : decode cL_same 217 = .ok (.iconst 1, 1) := by decide +kernel
theorem dL_same_218 : decode cL_same 218 = .ok (.invokevirtual 115, 3) := by decide +kernel
theorem dL_same_221 : decode cL_same 221 = .ok (.aload 6, 2) := by decide +kernel
theorem dL_same_223 : decode cL_same 223 = .ok (.iload 13, 2) := by decide +kernel
theorem dL_same_225 : decode cL_same 225 = .ok (.iaload, 1) := by decide +kernel
theorem dL_same_226 : decode cL_same 226 = .ok (.bipush 64, 2) := by decide +kernel
theorem dL_same_228 : decode cL_same 228 = .ok (.irem, 1) := by decide +kernel
theorem dL_same_229 : decode cL_same 229 = .ok (.iconst 1, 1) := by decide +kernel
theorem dL_same_230 : decode cL_same 230 = .ok (.isub, 1) := by decide +kernel
theorem dL_same_231 : decode cL_same 231 = .ok (.if_icmp .ne 88, 3) := by decide +kernel
theorem dL_same_234 : decode cL_same 234 = .ok (.aload_n 0, 1) := by decide +kernel
theorem dL_same_235 : decode cL_same 235 = .ok (.iload 13, 2) := by decide +kernel
theorem dL_same_237 : decode cL_same 237 = .ok (.iconst 2, 1) := by decide +kernel
theorem dL_same_238 : decode cL_same 238 = .ok (.invokevirtual 115, 3) := by decide +kernel
theorem dL_same_241 : decode cL_same 241 = .ok (.aload 6, 2) := by decide +kernel
theorem dL_same_243 : decode cL_same 243 = .ok (.iload 13, 2) := by decide +kernel
theorem dL_same_245 : decode cL_same 245 = .ok (.iaload, 1) := by decide +kernel
theorem dL_same_246 : decode cL_same 246 = .ok (.bipush 64, 2) := by decide +kernel
theorem dL_same_248 : decode cL_same 248 = .ok (.idiv, 1) := by decide +kernel
theorem dL_same_249 : decode cL_same 249 = .ok (.bipush 64, 2) := by decide +kernel
theorem dL_same_251 : decode cL_same 251 = .ok (.irem, 1) := by decide +kernel
theorem dL_same_252 : decode cL_same 252 = .ok (.iconst 1, 1) := by decide +kernel
theorem dL_same_253 : decode cL_same 253 = .ok (.isub, 1) := by decide +kernel
theorem dL_same_254 : decode cL_same 254 = .ok (.if_icmp .ne 65, 3) := by decide +kernel
theorem dL_same_257 : decode cL_same 257 = .ok (.aload_n 0, 1) := by decide +kernel
theorem dL_same_258 : decode cL_same 258 = .ok (.iload 13, 2) := by decide +kernel
theorem dL_same_260 : decode cL_same 260 = .ok (.iconst 3, 1) := by decide +kernel
theorem dL_same_261 : decode cL_same 261 = .ok (.invokevirtual 115, 3) := by decide +kernel
theorem dL_same_264 : decode cL_same 264 = .ok (.aload 4, 2) := by decide +kernel
theorem dL_same_266 : decode cL_same 266 = .ok (.iload 13, 2) := by decide +kernel
theorem dL_same_268 : decode cL_same 268 = .ok (.iaload, 1) := by decide +kernel
theorem dL_same_269 : decode cL_same 269 = .ok (.invokestatic 65, 3) := by decide +kernel
theorem dL_same_272 : decode cL_same 272 = .ok (.if_icmp .ne 47, 3) := by decide +kernel
theorem dL_same_275 : decode cL_same 275 = .ok (.aload_n 0, 1) := by decide +kernel
theorem dL_same_276 : decode cL_same 276 = .ok (.iload 13, 2) := by decide +kernel
theorem dL_same_278 : decode cL_same 278 = .ok (.iconst 4, 1) := by decide +kernel
theorem dL_same_279 : decode cL_same 279 = .ok (.invokevirtual 115, 3) := by decide +kernel
theorem dL_same_282 : decode cL_same 282 = .ok (.iload 15, 2) := by decide +kernel
theorem dL_same_284 : decode cL_same 284 = .ok (.if_icmp .ne 35, 3) := by decide +kernel
theorem dL_same_287 : decode cL_same 287 = .ok (.aload_n 0, 1) := by decide +kernel
theorem dL_same_288 : decode cL_same 288 = .ok (.iload 13, 2) := by decide +kernel
theorem dL_same_290 : decode cL_same 290 = .ok (.invokevirtual 118, 3) := by decide +kernel
theorem dL_same_293 : decode cL_same 293 = .ok (.iload 14, 2) := by decide +kernel
theorem dL_same_295 : decode cL_same 295 = .ok (.bipush 64, 2) := by decide +kernel
theorem dL_same_297 : decode cL_same 297 = .ok (.irem, 1) := by decide +kernel
theorem dL_same_298 : decode cL_same 298 = .ok (.if_icmp .ne 21, 3) := by decide +kernel
theorem dL_same_301 : decode cL_same 301 = .ok (.aload_n 0, 1) := by decide +kernel
theorem dL_same_302 : decode cL_same 302 = .ok (.iload 13, 2) := by decide +kernel
theorem dL_same_304 : decode cL_same 304 = .ok (.invokevirtual 120, 3) := by decide +kernel
theorem dL_same_307 : decode cL_same 307 = .ok (.iload 14, 2) := by decide +kernel
theorem dL_same_309 : decode cL_same 309 = .ok (.bipush 64, 2) := by decide +kernel
theorem dL_same_311 : decode cL_same 311 = .ok (.idiv, 1) := by decide +kernel
theorem dL_same_312 : decode cL_same 312 = .ok (.if_icmp .ne 7, 3) := by decide +kernel
theorem dL_same_315 : decode cL_same 315 = .ok (.iconst 1, 1) := by decide +kernel
theorem dL_same_316 : decode cL_same 316 = .ok (.goto 4, 3) := by decide +kernel
theorem dL_same_319 : decode cL_same 319 = .ok (.iconst 0, 1) := by decide +kernel
theorem dL_same_320 : decode cL_same 320 = .ok (.istore 11, 2) := by decide +kernel
theorem dL_same_322 : decode cL_same 322 = .ok (.iconst (-1), 1) := by decide +kernel
theorem dL_same_323 : decode cL_same 323 = .ok (.istore 16, 2) := by decide +kernel
theorem dL_same_325 : decode cL_same 325 = .ok (.iconst 5, 1) := by decide +kernel
theorem dL_same_326 : decode cL_same 326 = .ok (.istore 17, 2) := by decide +kernel
theorem dL_same_328 : decode cL_same 328 = .ok (.iload 17, 2) := by decide +kernel
theorem dL_same_330 : decode cL_same 330 = .ok (.ifCond .lt 91, 3) := by decide +kernel
theorem dL_same_333 : decode cL_same 333 = .ok (.aload 4, 2) := by decide +kernel
theorem dL_same_335 : decode cL_same 335 = .ok (.iload 13, 2) := by decide +kernel
theorem dL_same_337 : decode cL_same 337 = .ok (.iaload, 1) := by decide +kernel
theorem dL_same_338 : decode cL_same 338 = .ok (.iconst 3, 1) := by decide +kernel
theorem dL_same_339 : decode cL_same 339 = .ok (.iload 17, 2) := by decide +kernel
theorem dL_same_341 : decode cL_same 341 = .ok (.imul, 1) := by decide +kernel
theorem dL_same_342 : decode cL_same 342 = .ok (.ishr, 1) := by decide +kernel
theorem dL_same_343 : decode cL_same 343 = .ok (.bipush 8, 2) := by decide +kernel
theorem dL_same_345 : decode cL_same 345 = .ok (.irem, 1) := by decide +kernel
theorem dL_same_346 : decode cL_same 346 = .ok (.iconst 1, 1) := by decide +kernel
theorem dL_same_347 : decode cL_same 347 = .ok (.isub, 1) := by decide +kernel
theorem dL_same_348 : decode cL_same 348 = .ok (.istore 18, 2) := by decide +kernel
theorem dL_same_350 : decode cL_same 350 = .ok (.iload 11, 2) := by decide +kernel
theorem dL_same_352 : decode cL_same 352 = .ok (.ifCond .eq 20, 3) := by decide +kernel
theorem dL_same_355 : decode cL_same 355 = .ok (.aload_n 0, 1) := by decide +kernel
theorem dL_same_356 : decode cL_same 356 = .ok (.iload 13, 2) := by decide +kernel
theorem dL_same_358 : decode cL_same 358 = .ok (.iload 17, 2) := by decide +kernel
theorem dL_same_360 : decode cL_same 360 = .ok (.invokevirtual 123, 3) := by decide +kernel
theorem dL_same_363 : decode cL_same 363 = .ok (.iload 18, 2) := by decide +kernel
theorem dL_same_365 : decode cL_same 365 = .ok (.if_icmp .ne 7, 3) := by decide +kernel
theorem dL_same_368 : decode cL_same 368 = .ok (.iconst 1, 1) := by decide +kernel
theorem dL_same_369 : decode cL_same 369 = .ok (.goto 4, 3) := by decide +kernel
theorem dL_same_372 : decode cL_same 372 = .ok (.iconst 0, 1) := by decide +kernel
theorem dL_same_373 : decode cL_same 373 = .ok (.istore 11, 2) := by decide +kernel
theorem dL_same_375 : decode cL_same 375 = .ok (.iload 18, 2) := by decide +kernel
theorem dL_same_377 : decode cL_same 377 = .ok (.ifCond .lt 34, 3) := by decide +kernel
theorem dL_same_380 : decode cL_same 380 = .ok (.iload 18, 2) := by decide +kernel
theorem dL_same_382 : decode cL_same 382 = .ok (.iload 13, 2) := by decide +kernel
theorem dL_same_384 : decode cL_same 384 = .ok (.iload 18, 2) := by decide +kernel
theorem dL_same_386 : decode cL_same 386 = .ok (.aload_n 2, 1) := by decide +kernel
theorem dL_same_387 : decode cL_same 387 = .ok (.aload_n 3, 1) := by decide +kernel
theorem dL_same_388 : decode cL_same 388 = .ok (.invokestatic 31, 3) := by decide +kernel
theorem dL_same_391 : decode cL_same 391 = .ok (.aload 8, 2) := by decide +kernel
theorem dL_same_393 : decode cL_same 393 = .ok (.aload 9, 2) := by decide +kernel
theorem dL_same_395 : decode cL_same 395 = .ok (.aload 10, 2) := by decide +kernel
theorem dL_same_397 : decode cL_same 397 = .ok (.invokestatic 53, 3) := by decide +kernel
theorem dL_same_400 : decode cL_same 400 = .ok (.bipush 64, 2) := by decide +kernel
theorem dL_same_402 : decode cL_same 402 = .ok (.irem, 1) := by decide +kernel
theorem dL_same_403 : decode cL_same 403 = .ok (.ifCond .le 8, 3) := by decide +kernel
theorem dL_same_406 : decode cL_same 406 = .ok (.iload 18, 2) := by decide +kernel
theorem dL_same_408 : decode cL_same 408 = .ok (.goto 5, 3) := by decide +kernel
theorem dL_same_411 : decode cL_same 411 = .ok (.iload 16, 2) := by decide +kernel
theorem dL_same_413 : decode cL_same 413 = .ok (.istore 16, 2) := by decide +kernel
theorem dL_same_415 : decode cL_same 415 = .ok (.iinc 17 (-1), 3) := by decide +kernel
theorem dL_same_418 : decode cL_same 418 = .ok (.goto (-90), 3) := by decide +kernel
theorem dL_same_421 : decode cL_same 421 = .ok (.iload 11, 2) := by decide +kernel
theorem dL_same_423 : decode cL_same 423 = .ok (.ifCond .eq 18, 3) := by decide +kernel
theorem dL_same_426 : decode cL_same 426 = .ok (.aload_n 0, 1) := by decide +kernel
theorem dL_same_427 : decode cL_same 427 = .ok (.iload 13, 2) := by decide +kernel
theorem dL_same_429 : decode cL_same 429 = .ok (.invokevirtual 126, 3) := by decide +kernel
theorem dL_same_432 : decode cL_same 432 = .ok (.iload 16, 2) := by decide +kernel
theorem dL_same_434 : decode cL_same 434 = .ok (.if_icmp .ne 7, 3) := by decide +kernel
theorem dL_same_437 : decode cL_same 437 = .ok (.iconst 1, 1) := by decide +kernel
theorem dL_same_438 : decode cL_same 438 = .ok (.goto 4, 3) := by decide +kernel
theorem dL_same_441 : decode cL_same 441 = .ok (.iconst 0, 1) := by decide +kernel
theorem dL_same_442 : decode cL_same 442 = .ok (.istore 11, 2) := by decide +kernel
theorem dL_same_444 : decode cL_same 444 = .ok (.iconst 0, 1) := by decide +kernel
theorem dL_same_445 : decode cL_same 445 = .ok (.istore 17, 2) := by decide +kernel
theorem dL_same_447 : decode cL_same 447 = .ok (.iload 17, 2) := by decide +kernel
theorem dL_same_449 : decode cL_same 449 = .ok (.aload 10, 2) := by decide +kernel
theorem dL_same_451 : decode cL_same 451 = .ok (.iconst 1, 1) := by decide +kernel
theorem dL_same_452 : decode cL_same 452 = .ok (.iaload, 1) := by decide +kernel
theorem dL_same_453 : decode cL_same 453 = .ok (.if_icmp .ge 75, 3) := by decide +kernel
theorem dL_same_456 : decode cL_same 456 = .ok (.iload 11, 2) := by decide +kernel
theorem dL_same_458 : decode cL_same 458 = .ok (.ifCond .eq 70, 3) := by decide +kernel
theorem dL_same_461 : decode cL_same 461 = .ok (.iload 13, 2) := by decide +kernel
theorem dL_same_463 : decode cL_same 463 = .ok (.iload 17, 2) := by decide +kernel
theorem dL_same_465 : decode cL_same 465 = .ok (.aload_n 2, 1) := by decide +kernel
theorem dL_same_466 : decode cL_same 466 = .ok (.aload_n 3, 1) := by decide +kernel
theorem dL_same_467 : decode cL_same 467 = .ok (.invokestatic 31, 3) := by decide +kernel
theorem dL_same_470 : decode cL_same 470 = .ok (.lstore 18, 2) := by decide +kernel
theorem dL_same_472 : decode cL_same 472 = .ok (.iload_n 1, 1) := by decide +kernel
theorem dL_same_473 : decode cL_same 473 = .ok (.iconst 3, 1) := by decide +kernel
theorem dL_same_474 : decode cL_same 474 = .ok (.iload 17, 2) := by decide +kernel
theorem dL_same_476 : decode cL_same 476 = .ok (.iadd, 1) := by decide +kernel
theorem dL_same_477 : decode cL_same 477 = .ok (.ishr, 1) := by decide +kernel
theorem dL_same_478 : decode cL_same 478 = .ok (.iconst 4, 1) := by decide +kernel
theorem dL_same_479 : decode cL_same 479 = .ok (.invokestatic 61, 3) := by decide +kernel
theorem dL_same_482 : decode cL_same 482 = .ok (.istore 20, 2) := by decide +kernel
theorem dL_same_484 : decode cL_same 484 = .ok (.aload_n 0, 1) := by decide +kernel
theorem dL_same_485 : decode cL_same 485 = .ok (.iload 13, 2) := by decide +kernel
theorem dL_same_487 : decode cL_same 487 = .ok (.iload 17, 2) := by decide +kernel
theorem dL_same_489 : decode cL_same 489 = .ok (.iload 20, 2) := by decide +kernel
theorem dL_same_491 : decode cL_same 491 = .ok (.invokevirtual 129, 3) := by decide +kernel
theorem dL_same_494 : decode cL_same 494 = .ok (.lload 18, 2) := by decide +kernel
theorem dL_same_496 : decode cL_same 496 = .ok (.lconst 0, 1) := by decide +kernel
theorem dL_same_497 : decode cL_same 497 = .ok (.lcmp, 1) := by decide +kernel
theorem dL_same_498 : decode cL_same 498 = .ok (.ifCond .ne 7, 3) := by decide +kernel
theorem dL_same_501 : decode cL_same 501 = .ok (.iconst (-1), 1) := by decide +kernel
theorem dL_same_502 : decode cL_same 502 = .ok (.goto 10, 3) := by decide +kernel
theorem dL_same_505 : decode cL_same 505 = .ok (.lload 18, 2) := by decide +kernel
theorem dL_same_507 : decode cL_same 507 = .ok (.iload 20, 2) := by decide +kernel
theorem dL_same_509 : decode cL_same 509 = .ok (.invokestatic 45, 3) := by decide +kernel
theorem dL_same_512 : decode cL_same 512 = .ok (.if_icmp .ne 7, 3) := by decide +kernel
theorem dL_same_515 : decode cL_same 515 = .ok (.iconst 1, 1) := by decide +kernel
theorem dL_same_516 : decode cL_same 516 = .ok (.goto 4, 3) := by decide +kernel
theorem dL_same_519 : decode cL_same 519 = .ok (.iconst 0, 1) := by decide +kernel
theorem dL_same_520 : decode cL_same 520 = .ok (.istore 11, 2) := by decide +kernel
theorem dL_same_522 : decode cL_same 522 = .ok (.iinc 17 1, 3) := by decide +kernel
theorem dL_same_525 : decode cL_same 525 = .ok (.goto (-78), 3) := by decide +kernel
theorem dL_same_528 : decode cL_same 528 = .ok (.iinc 12 1, 3) := by decide +kernel
theorem dL_same_531 : decode cL_same 531 = .ok (.goto (-423), 3) := by decide +kernel
theorem dL_same_534 : decode cL_same 534 = .ok (.iload 11, 2) := by decide +kernel
theorem dL_same_536 : decode cL_same 536 = .ok (.ireturn, 1) := by decide +kernel
theorem dL_rules_0 : decode cL_rules 0 = .ok (.iload_n 1, 1) := by decide +kernel
theorem dL_rules_1 : decode cL_rules 1 = .ok (.ifCond .ne 123, 3) := by decide +kernel
theorem dL_rules_4 : decode cL_rules 4 = .ok (.aload 8, 2) := by decide +kernel
theorem dL_rules_6 : decode cL_rules 6 = .ok (.iconst 3, 1) := by decide +kernel
theorem dL_rules_7 : decode cL_rules 7 = .ok (.iaload, 1) := by decide +kernel
theorem dL_rules_8 : decode cL_rules 8 = .ok (.bipush 8, 2) := by decide +kernel
theorem dL_rules_10 : decode cL_rules 10 = .ok (.if_icmp .ne 5, 3) := by decide +kernel
theorem dL_rules_13 : decode cL_rules 13 = .ok (.iconst 1, 1) := by decide +kernel
theorem dL_rules_14 : decode cL_rules 14 = .ok (.ireturn, 1) := by decide +kernel
theorem dL_rules_15 : decode cL_rules 15 = .ok (.iload_n 2, 1) := by decide +kernel
theorem dL_rules_16 : decode cL_rules 16 = .ok (.iconst 3, 1) := by decide +kernel
theorem dL_rules_17 : decode cL_rules 17 = .ok (.invokestatic 61, 3) := by decide +kernel
theorem dL_rules_20 : decode cL_rules 20 = .ok (.istore 9, 2) := by decide +kernel
theorem dL_rules_22 : decode cL_rules 22 = .ok (.iload_n 2, 1) := by decide +kernel
theorem dL_rules_23 : decode cL_rules 23 = .ok (.iconst 2, 1) := by decide +kernel
theorem dL_rules_24 : decode cL_rules 24 = .ok (.ishr, 1) := by decide +kernel
theorem dL_rules_25 : decode cL_rules 25 = .ok (.iconst 4, 1) := by decide +kernel
theorem dL_rules_26 : decode cL_rules 26 = .ok (.invokestatic 61, 3) := by decide +kernel
theorem dL_rules_29 : decode cL_rules 29 = .ok (.istore 10, 2) := by decide +kernel
theorem dL_rules_31 : decode cL_rules 31 = .ok (.iconst 1, 1) := by decide +kernel
theorem dL_rules_32 : decode cL_rules 32 = .ok (.iload_n 2, 1) := by decide +kernel
theorem dL_rules_33 : decode cL_rules 33 = .ok (.iconst 4, 1) := by decide +kernel
theorem dL_rules_34 : decode cL_rules 34 = .ok (.ishr, 1) := by decide +kernel
theorem dL_rules_35 : decode cL_rules 35 = .ok (.iconst 4, 1) := by decide +kernel
theorem dL_rules_36 : decode cL_rules 36 = .ok (.invokestatic 61, 3) := by decide +kernel
theorem dL_rules_39 : decode cL_rules 39 = .ok (.bipush 100, 2) := by decide +kernel
theorem dL_rules_41 : decode cL_rules 41 = .ok (.imul, 1) := by decide +kernel
theorem dL_rules_42 : decode cL_rules 42 = .ok (.iadd, 1) := by decide +kernel
theorem dL_rules_43 : decode cL_rules 43 = .ok (.istore 11, 2) := by decide +kernel
theorem dL_rules_45 : decode cL_rules 45 = .ok (.iload 11, 2) := by decide +kernel
theorem dL_rules_47 : decode cL_rules 47 = .ok (.iload_n 2, 1) := by decide +kernel
theorem dL_rules_48 : decode cL_rules 48 = .ok (.bipush 6, 2) := by decide +kernel
theorem dL_rules_50 : decode cL_rules 50 = .ok (.ishr, 1) := by decide +kernel
theorem dL_rules_51 : decode cL_rules 51 = .ok (.bipush 7, 2) := by decide +kernel
theorem dL_rules_53 : decode cL_rules 53 = .ok (.invokestatic 61, 3) := by decide +kernel
theorem dL_rules_56 : decode cL_rules 56 = .ok (.bipush 100, 2) := by decide +kernel
theorem dL_rules_58 : decode cL_rules 58 = .ok (.imul, 1) := by decide +kernel
theorem dL_rules_59 : decode cL_rules 59 = .ok (.iadd, 1) := by decide +kernel
theorem dL_rules_60 : decode cL_rules 60 = .ok (.istore 12, 2) := by decide +kernel
theorem dL_rules_62 : decode cL_rules 62 = .ok (.aload 6, 2) := by decide +kernel
theorem dL_rules_64 : decode cL_rules 64 = .ok (.aload 8, 2) := by decide +kernel
theorem dL_rules_66 : decode cL_rules 66 = .ok (.iconst 3, 1) := by decide +kernel
theorem dL_rules_67 : decode cL_rules 67 = .ok (.iaload, 1) := by decide +kernel
theorem dL_rules_68 : decode cL_rules 68 = .ok (.iload 9, 2) := by decide +kernel
theorem dL_rules_70 : decode cL_rules 70 = .ok (.iconst 4, 1) := by decide +kernel
theorem dL_rules_71 : decode cL_rules 71 = .ok (.iload 10, 2) := by decide +kernel
theorem dL_rules_73 : decode cL_rules 73 = .ok (.imul, 1) := by decide +kernel
theorem dL_rules_74 : decode cL_rules 74 = .ok (.iadd, 1) := by decide +kernel
theorem dL_rules_75 : decode cL_rules 75 = .ok (.bipush 16, 2) := by decide +kernel
theorem dL_rules_77 : decode cL_rules 77 = .ok (.iload 11, 2) := by decide +kernel
theorem dL_rules_79 : decode cL_rules 79 = .ok (.imul, 1) := by decide +kernel
theorem dL_rules_80 : decode cL_rules 80 = .ok (.iadd, 1) := by decide +kernel
theorem dL_rules_81 : decode cL_rules 81 = .ok (.sipush 16384, 3) := by decide +kernel
theorem dL_rules_84 : decode cL_rules 84 = .ok (.iload 12, 2) := by decide +kernel
theorem dL_rules_86 : decode cL_rules 86 = .ok (.imul, 1) := by decide +kernel
theorem dL_rules_87 : decode cL_rules 87 = .ok (.iadd, 1) := by decide +kernel
theorem dL_rules_88 : decode cL_rules 88 = .ok (.iastore, 1) := by decide +kernel
theorem dL_rules_89 : decode cL_rules 89 = .ok (.aload 8, 2) := by decide +kernel
theorem dL_rules_91 : decode cL_rules 91 = .ok (.iconst 3, 1) := by decide +kernel
theorem dL_rules_92 : decode cL_rules 92 = .ok (.dup2, 1) := by decide +kernel
theorem dL_rules_93 : decode cL_rules 93 = .ok (.iaload, 1) := by decide +kernel
theorem dL_rules_94 : decode cL_rules 94 = .ok (.iconst 1, 1) := by decide +kernel
theorem dL_rules_95 : decode cL_rules 95 = .ok (.iadd, 1) := by decide +kernel
theorem dL_rules_96 : decode cL_rules 96 = .ok (.iastore, 1) := by decide +kernel
theorem dL_rules_97 : decode cL_rules 97 = .ok (.aload_n 0, 1) := by decide +kernel
theorem dL_rules_98 : decode cL_rules 98 = .ok (.iload 9, 2) := by decide +kernel
theorem dL_rules_100 : decode cL_rules 100 = .ok (.iload 10, 2) := by decide +kernel
theorem dL_rules_102 : decode cL_rules 102 = .ok (.iload 11, 2) := by decide +kernel
theorem dL_rules_104 : decode cL_rules 104 = .ok (.iload 12, 2) := by decide +kernel
theorem dL_rules_106 : decode cL_rules 106 = .ok (.invokevirtual 131, 3) := by decide +kernel
theorem dL_rules_109 : decode cL_rules 109 = .ok (.aload 8, 2) := by decide +kernel
theorem dL_rules_111 : decode cL_rules 111 = .ok (.iconst 3, 1) := by decide +kernel
theorem dL_rules_112 : decode cL_rules 112 = .ok (.iaload, 1) := by decide +kernel
theorem dL_rules_113 : decode cL_rules 113 = .ok (.iconst 1, 1) := by decide +kernel
theorem dL_rules_114 : decode cL_rules 114 = .ok (.isub, 1) := by decide +kernel
theorem dL_rules_115 : decode cL_rules 115 = .ok (.if_icmp .ne 7, 3) := by decide +kernel
theorem dL_rules_118 : decode cL_rules 118 = .ok (.iconst 1, 1) := by decide +kernel
theorem dL_rules_119 : decode cL_rules 119 = .ok (.goto 4, 3) := by decide +kernel
theorem dL_rules_122 : decode cL_rules 122 = .ok (.iconst 0, 1) := by decide +kernel
theorem dL_rules_123 : decode cL_rules 123 = .ok (.ireturn, 1) := by decide +kernel
theorem dL_rules_124 : decode cL_rules 124 = .ok (.aload 8, 2) := by decide +kernel
theorem dL_rules_126 : decode cL_rules 126 = .ok (.iconst 3, 1) := by decide +kernel
theorem dL_rules_127 : decode cL_rules 127 = .ok (.iaload, 1) := by decide +kernel
theorem dL_rules_128 : decode cL_rules 128 = .ok (.ifCond .ne 5, 3) := by decide +kernel
theorem dL_rules_131 : decode cL_rules 131 = .ok (.iconst 1, 1) := by decide +kernel
theorem dL_rules_132 : decode cL_rules 132 = .ok (.ireturn, 1) := by decide +kernel
theorem dL_rules_133 : decode cL_rules 133 = .ok (.iload_n 2, 1) := by decide +kernel
theorem dL_rules_134 : decode cL_rules 134 = .ok (.aload 8, 2) := by decide +kernel
theorem dL_rules_136 : decode cL_rules 136 = .ok (.iconst 3, 1) := by decide +kernel
theorem dL_rules_137 : decode cL_rules 137 = .ok (.iaload, 1) := by decide +kernel
theorem dL_rules_138 : decode cL_rules 138 = .ok (.invokestatic 61, 3) := by decide +kernel
theorem dL_rules_141 : decode cL_rules 141 = .ok (.istore 9, 2) := by decide +kernel
theorem dL_rules_143 : decode cL_rules 143 = .ok (.aload 6, 2) := by decide +kernel
theorem dL_rules_145 : decode cL_rules 145 = .ok (.iload 9, 2) := by decide +kernel
theorem dL_rules_147 : decode cL_rules 147 = .ok (.iaload, 1) := by decide +kernel
theorem dL_rules_148 : decode cL_rules 148 = .ok (.bipush 16, 2) := by decide +kernel
theorem dL_rules_150 : decode cL_rules 150 = .ok (.idiv, 1) := by decide +kernel
theorem dL_rules_151 : decode cL_rules 151 = .ok (.sipush 1024, 3) := by decide +kernel
theorem dL_rules_154 : decode cL_rules 154 = .ok (.irem, 1) := by decide +kernel
theorem dL_rules_155 : decode cL_rules 155 = .ok (.istore 10, 2) := by decide +kernel
theorem dL_rules_157 : decode cL_rules 157 = .ok (.aload 6, 2) := by decide +kernel
theorem dL_rules_159 : decode cL_rules 159 = .ok (.iload 9, 2) := by decide +kernel
theorem dL_rules_161 : decode cL_rules 161 = .ok (.iaload, 1) := by decide +kernel
theorem dL_rules_162 : decode cL_rules 162 = .ok (.sipush 16384, 3) := by decide +kernel
theorem dL_rules_165 : decode cL_rules 165 = .ok (.idiv, 1) := by decide +kernel
theorem dL_rules_166 : decode cL_rules 166 = .ok (.istore 11, 2) := by decide +kernel
theorem dL_rules_168 : decode cL_rules 168 = .ok (.iload_n 1, 1) := by decide +kernel
theorem dL_rules_169 : decode cL_rules 169 = .ok (.iconst 1, 1) := by decide +kernel
theorem dL_rules_170 : decode cL_rules 170 = .ok (.if_icmp .ne 201, 3) := by decide +kernel
theorem dL_rules_173 : decode cL_rules 173 = .ok (.iload 10, 2) := by decide +kernel
theorem dL_rules_175 : decode cL_rules 175 = .ok (.iload_n 2, 1) := by decide +kernel
theorem dL_rules_176 : decode cL_rules 176 = .ok (.iconst 3, 1) := by decide +kernel
theorem dL_rules_177 : decode cL_rules 177 = .ok (.ishr, 1) := by decide +kernel
theorem dL_rules_178 : decode cL_rules 178 = .ok (.iconst 3, 1) := by decide +kernel
theorem dL_rules_179 : decode cL_rules 179 = .ok (.invokestatic 61, 3) := by decide +kernel
theorem dL_rules_182 : decode cL_rules 182 = .ok (.iload 11, 2) := by decide +kernel
theorem dL_rules_184 : decode cL_rules 184 = .ok (.iload 10, 2) := by decide +kernel
theorem dL_rules_186 : decode cL_rules 186 = .ok (.isub, 1) := by decide +kernel
theorem dL_rules_187 : decode cL_rules 187 = .ok (.imul, 1) := by decide +kernel
theorem dL_rules_188 : decode cL_rules 188 = .ok (.bipush 8, 2) := by decide +kernel
theorem dL_rules_190 : decode cL_rules 190 = .ok (.idiv, 1) := by decide +kernel
theorem dL_rules_191 : decode cL_rules 191 = .ok (.iadd, 1) := by decide +kernel
theorem dL_rules_192 : decode cL_rules 192 = .ok (.istore 12, 2) := by decide +kernel
theorem dL_rules_194 : decode cL_rules 194 = .ok (.iload 11, 2) := by decide +kernel
theorem dL_rules_196 : decode cL_rules 196 = .ok (.iload_n 2, 1) := by decide +kernel
theorem dL_rules_197 : decode cL_rules 197 = .ok (.iconst 5, 1) := by decide +kernel
theorem dL_rules_198 : decode cL_rules 198 = .ok (.ishr, 1) := by decide +kernel
theorem dL_rules_199 : decode cL_rules 199 = .ok (.iconst 3, 1) := by decide +kernel
theorem dL_rules_200 : decode cL_rules 200 = .ok (.invokestatic 61, 3) := by decide +kernel
theorem dL_rules_203 : decode cL_rules 203 = .ok (.iload 11, 2) := by decide +kernel
theorem dL_rules_205 : decode cL_rules 205 = .ok (.iload 10, 2) := by decide +kernel
theorem dL_rules_207 : decode cL_rules 207 = .ok (.isub, 1) := by decide +kernel
theorem dL_rules_208 : decode cL_rules 208 = .ok (.imul, 1) := by decide +kernel
theorem dL_rules_209 : decode cL_rules 209 = .ok (.bipush 8, 2) := by decide +kernel
theorem dL_rules_211 : decode cL_rules 211 = .ok (.idiv, 1) := by decide +kernel
theorem dL_rules_212 : decode cL_rules 212 = .ok (.isub, 1) := by decide +kernel
theorem dL_rules_213 : decode cL_rules 213 = .ok (.istore 13, 2) := by decide +kernel
theorem dL_rules_215 : decode cL_rules 215 = .ok (.iconst 0, 1) := by decide +kernel
theorem dL_rules_216 : decode cL_rules 216 = .ok (.istore 14, 2) := by decide +kernel
theorem dL_rules_218 : decode cL_rules 218 = .ok (.iconst 0, 1) := by decide +kernel
theorem dL_rules_219 : decode cL_rules 219 = .ok (.istore 15, 2) := by decide +kernel
theorem dL_rules_221 : decode cL_rules 221 = .ok (.iload 15, 2) := by decide +kernel
theorem dL_rules_223 : decode cL_rules 223 = .ok (.aload 8, 2) := by decide +kernel
theorem dL_rules_225 : decode cL_rules 225 = .ok (.iconst 0, 1) := by decide +kernel
theorem dL_rules_226 : decode cL_rules 226 = .ok (.iaload, 1) := by decide +kernel
theorem dL_rules_227 : decode cL_rules 227 = .ok (.if_icmp .ge 39, 3) := by decide +kernel
theorem dL_rules_230 : decode cL_rules 230 = .ok (.iload 14, 2) := by decide +kernel
theorem dL_rules_232 : decode cL_rules 232 = .ok (.iload 15, 2) := by decide +kernel
theorem dL_rules_234 : decode cL_rules 234 = .ok (.aload_n 3, 1) := by decide +kernel
theorem dL_rules_235 : decode cL_rules 235 = .ok (.aload 4, 2) := by decide +kernel
theorem dL_rules_237 : decode cL_rules 237 = .ok (.aload 6, 2) := by decide +kernel
theorem dL_rules_239 : decode cL_rules 239 = .ok (.aload 7, 2) := by decide +kernel
theorem dL_rules_241 : decode cL_rules 241 = .ok (.aload 8, 2) := by decide +kernel
theorem dL_rules_243 : decode cL_rules 243 = .ok (.invokestatic 111, 3) := by decide +kernel
theorem dL_rules_246 : decode cL_rules 246 = .ok (.ifCond .eq 10, 3) := by decide +kernel
theorem dL_rules_249 : decode cL_rules 249 = .ok (.iconst 1, 1) := by decide +kernel
theorem dL_rules_250 : decode cL_rules 250 = .ok (.iload 15, 2) := by decide +kernel
theorem dL_rules_252 : decode cL_rules 252 = .ok (.ishl, 1) := by decide +kernel
theorem dL_rules_253 : decode cL_rules 253 = .ok (.goto 4, 3) := by decide +kernel
theorem dL_rules_256 : decode cL_rules 256 = .ok (.iconst 0, 1) := by decide +kernel
theorem dL_rules_257 : decode cL_rules 257 = .ok (.ior, 1) := by decide +kernel
theorem dL_rules_258 : decode cL_rules 258 = .ok (.istore 14, 2) := by decide +kernel
theorem dL_rules_260 : decode cL_rules 260 = .ok (.iinc 15 1, 3) := by decide +kernel
theorem dL_rules_263 : decode cL_rules 263 = .ok (.goto (-42), 3) := by decide +kernel
theorem dL_rules_266 : decode cL_rules 266 = .ok (.aload 6, 2) := by decide +kernel
theorem dL_rules_268 : decode cL_rules 268 = .ok (.iload 9, 2) := by decide +kernel
theorem dL_rules_270 : decode cL_rules 270 = .ok (.aload 6, 2) := by decide +kernel
theorem dL_rules_272 : decode cL_rules 272 = .ok (.iload 9, 2) := by decide +kernel
theorem dL_rules_274 : decode cL_rules 274 = .ok (.iaload, 1) := by decide +kernel
theorem dL_rules_275 : decode cL_rules 275 = .ok (.bipush 16, 2) := by decide +kernel
theorem dL_rules_277 : decode cL_rules 277 = .ok (.irem, 1) := by decide +kernel
theorem dL_rules_278 : decode cL_rules 278 = .ok (.bipush 16, 2) := by decide +kernel
theorem dL_rules_280 : decode cL_rules 280 = .ok (.iload 12, 2) := by decide +kernel
theorem dL_rules_282 : decode cL_rules 282 = .ok (.imul, 1) := by decide +kernel
theorem dL_rules_283 : decode cL_rules 283 = .ok (.iadd, 1) := by decide +kernel
theorem dL_rules_284 : decode cL_rules 284 = .ok (.sipush 16384, 3) := by decide +kernel
theorem dL_rules_287 : decode cL_rules 287 = .ok (.iload 13, 2) := by decide +kernel
theorem dL_rules_289 : decode cL_rules 289 = .ok (.imul, 1) := by decide +kernel
theorem dL_rules_290 : decode cL_rules 290 = .ok (.iadd, 1) := by decide +kernel
theorem dL_rules_291 : decode cL_rules 291 = .ok (.iastore, 1) := by decide +kernel
theorem dL_rules_292 : decode cL_rules 292 = .ok (.iconst 0, 1) := by decide +kernel
theorem dL_rules_293 : decode cL_rules 293 = .ok (.istore 15, 2) := by decide +kernel
theorem dL_rules_295 : decode cL_rules 295 = .ok (.iconst 0, 1) := by decide +kernel
theorem dL_rules_296 : decode cL_rules 296 = .ok (.istore 16, 2) := by decide +kernel
theorem dL_rules_298 : decode cL_rules 298 = .ok (.iload 16, 2) := by decide +kernel
theorem dL_rules_300 : decode cL_rules 300 = .ok (.aload 8, 2) := by decide +kernel
theorem dL_rules_302 : decode cL_rules 302 = .ok (.iconst 0, 1) := by decide +kernel
theorem dL_rules_303 : decode cL_rules 303 = .ok (.iaload, 1) := by decide +kernel
theorem dL_rules_304 : decode cL_rules 304 = .ok (.if_icmp .ge 46, 3) := by decide +kernel
theorem dL_rules_307 : decode cL_rules 307 = .ok (.iload 15, 2) := by decide +kernel
theorem dL_rules_309 : decode cL_rules 309 = .ok (.iload 16, 2) := by decide +kernel
theorem dL_rules_311 : decode cL_rules 311 = .ok (.aload_n 3, 1) := by decide +kernel
theorem dL_rules_312 : decode cL_rules 312 = .ok (.aload 4, 2) := by decide +kernel
theorem dL_rules_314 : decode cL_rules 314 = .ok (.aload 6, 2) := by decide +kernel
theorem dL_rules_316 : decode cL_rules 316 = .ok (.aload 7, 2) := by decide +kernel
theorem dL_rules_318 : decode cL_rules 318 = .ok (.aload 8, 2) := by decide +kernel
theorem dL_rules_320 : decode cL_rules 320 = .ok (.invokestatic 111, 3) := by decide +kernel
theorem dL_rules_323 : decode cL_rules 323 = .ok (.ifCond .eq 17, 3) := by decide +kernel
theorem dL_rules_326 : decode cL_rules 326 = .ok (.iload 14, 2) := by decide +kernel
theorem dL_rules_328 : decode cL_rules 328 = .ok (.iload 16, 2) := by decide +kernel
theorem dL_rules_330 : decode cL_rules 330 = .ok (.ishr, 1) := by decide +kernel
theorem dL_rules_331 : decode cL_rules 331 = .ok (.iconst 1, 1) := by decide +kernel
theorem dL_rules_332 : decode cL_rules 332 = .ok (.iand, 1) := by decide +kernel
theorem dL_rules_333 : decode cL_rules 333 = .ok (.ifCond .ne 7, 3) := by decide +kernel
theorem dL_rules_336 : decode cL_rules 336 = .ok (.iconst 1, 1) := by decide +kernel
theorem dL_rules_337 : decode cL_rules 337 = .ok (.goto 4, 3) := by decide +kernel
theorem dL_rules_340 : decode cL_rules 340 = .ok (.iconst 0, 1) := by decide +kernel
theorem dL_rules_341 : decode cL_rules 341 = .ok (.iadd, 1) := by decide +kernel
theorem dL_rules_342 : decode cL_rules 342 = .ok (.istore 15, 2) := by decide +kernel
theorem dL_rules_344 : decode cL_rules 344 = .ok (.iinc 16 1, 3) := by decide +kernel
theorem dL_rules_347 : decode cL_rules 347 = .ok (.goto (-49), 3) := by decide +kernel
theorem dL_rules_350 : decode cL_rules 350 = .ok (.aload_n 0, 1) := by decide +kernel
theorem dL_rules_351 : decode cL_rules 351 = .ok (.iload 9, 2) := by decide +kernel
theorem dL_rules_353 : decode cL_rules 353 = .ok (.iload 12, 2) := by decide +kernel
theorem dL_rules_355 : decode cL_rules 355 = .ok (.iload 13, 2) := by decide +kernel
theorem dL_rules_357 : decode cL_rules 357 = .ok (.invokevirtual 134, 3) := by decide +kernel
theorem dL_rules_360 : decode cL_rules 360 = .ok (.iload 15, 2) := by decide +kernel
theorem dL_rules_362 : decode cL_rules 362 = .ok (.if_icmp .ne 7, 3) := by decide +kernel
theorem dL_rules_365 : decode cL_rules 365 = .ok (.iconst 1, 1) := by decide +kernel
theorem dL_rules_366 : decode cL_rules 366 = .ok (.goto 4, 3) := by decide +kernel
theorem dL_rules_369 : decode cL_rules 369 = .ok (.iconst 0, 1) := by decide +kernel
theorem dL_rules_370 : decode cL_rules 370 = .ok (.ireturn, 1) := by decide +kernel
theorem dL_rules_371 : decode cL_rules 371 = .ok (.aload 8, 2) := by decide +kernel
theorem dL_rules_373 : decode cL_rules 373 = .ok (.iconst 1, 1) := by decide +kernel
theorem dL_rules_374 : decode cL_rules 374 = .ok (.iaload, 1) := by decide +kernel
theorem dL_rules_375 : decode cL_rules 375 = .ok (.ifCond .ne 5, 3) := by decide +kernel
theorem dL_rules_378 : decode cL_rules 378 = .ok (.iconst 1, 1) := by decide +kernel
theorem dL_rules_379 : decode cL_rules 379 = .ok (.ireturn, 1) := by decide +kernel
theorem dL_rules_380 : decode cL_rules 380 = .ok (.iload_n 2, 1) := by decide +kernel
theorem dL_rules_381 : decode cL_rules 381 = .ok (.iconst 3, 1) := by decide +kernel
theorem dL_rules_382 : decode cL_rules 382 = .ok (.ishr, 1) := by decide +kernel
theorem dL_rules_383 : decode cL_rules 383 = .ok (.aload 8, 2) := by decide +kernel
theorem dL_rules_385 : decode cL_rules 385 = .ok (.iconst 1, 1) := by decide +kernel
theorem dL_rules_386 : decode cL_rules 386 = .ok (.iaload, 1) := by decide +kernel
theorem dL_rules_387 : decode cL_rules 387 = .ok (.invokestatic 61, 3) := by decide +kernel
theorem dL_rules_390 : decode cL_rules 390 = .ok (.istore 12, 2) := by decide +kernel
theorem dL_rules_392 : decode cL_rules 392 = .ok (.aload 8, 2) := by decide +kernel
theorem dL_rules_394 : decode cL_rules 394 = .ok (.iconst 5, 1) := by decide +kernel
theorem dL_rules_395 : decode cL_rules 395 = .ok (.iaload, 1) := by decide +kernel
theorem dL_rules_396 : decode cL_rules 396 = .ok (.iload_n 2, 1) := by decide +kernel
theorem dL_rules_397 : decode cL_rules 397 = .ok (.bipush 6, 2) := by decide +kernel
theorem dL_rules_399 : decode cL_rules 399 = .ok (.ishr, 1) := by decide +kernel
theorem dL_rules_400 : decode cL_rules 400 = .ok (.bipush 6, 2) := by decide +kernel
theorem dL_rules_402 : decode cL_rules 402 = .ok (.invokestatic 61, 3) := by decide +kernel
theorem dL_rules_405 : decode cL_rules 405 = .ok (.iadd, 1) := by decide +kernel
theorem dL_rules_406 : decode cL_rules 406 = .ok (.istore 13, 2) := by decide +kernel
theorem dL_rules_408 : decode cL_rules 408 = .ok (.aload 6, 2) := by decide +kernel
theorem dL_rules_410 : decode cL_rules 410 = .ok (.iload 9, 2) := by decide +kernel
theorem dL_rules_412 : decode cL_rules 412 = .ok (.iaload, 1) := by decide +kernel
theorem dL_rules_413 : decode cL_rules 413 = .ok (.iconst 4, 1) := by decide +kernel
theorem dL_rules_414 : decode cL_rules 414 = .ok (.irem, 1) := by decide +kernel
theorem dL_rules_415 : decode cL_rules 415 = .ok (.iconst 1, 1) := by decide +kernel
theorem dL_rules_416 : decode cL_rules 416 = .ok (.if_icmp .ne 16, 3) := by decide +kernel
theorem dL_rules_419 : decode cL_rules 419 = .ok (.aload 8, 2) := by decide +kernel
theorem dL_rules_421 : decode cL_rules 421 = .ok (.iconst 4, 1) := by decide +kernel
theorem dL_rules_422 : decode cL_rules 422 = .ok (.iaload, 1) := by decide +kernel
theorem dL_rules_423 : decode cL_rules 423 = .ok (.bipush 12, 2) := by decide +kernel
theorem dL_rules_425 : decode cL_rules 425 = .ok (.if_icmp .ge 7, 3) := by decide +kernel
theorem dL_rules_428 : decode cL_rules 428 = .ok (.iconst 1, 1) := by decide +kernel
theorem dL_rules_429 : decode cL_rules 429 = .ok (.goto 4, 3) := by decide +kernel
theorem dL_rules_432 : decode cL_rules 432 = .ok (.iconst 0, 1) := by decide +kernel
theorem dL_rules_433 : decode cL_rules 433 = .ok (.istore 14, 2) := by decide +kernel
theorem dL_rules_435 : decode cL_rules 435 = .ok (.iload 14, 2) := by decide +kernel
theorem dL_rules_437 : decode cL_rules 437 = .ok (.ifCond .eq 32, 3) := by decide +kernel
theorem dL_rules_440 : decode cL_rules 440 = .ok (.aload 7, 2) := by decide +kernel
theorem dL_rules_442 : decode cL_rules 442 = .ok (.aload 8, 2) := by decide +kernel
theorem dL_rules_444 : decode cL_rules 444 = .ok (.iconst 4, 1) := by decide +kernel
theorem dL_rules_445 : decode cL_rules 445 = .ok (.iaload, 1) := by decide +kernel
theorem dL_rules_446 : decode cL_rules 446 = .ok (.iload 9, 2) := by decide +kernel
theorem dL_rules_448 : decode cL_rules 448 = .ok (.bipush 8, 2) := by decide +kernel
theorem dL_rules_450 : decode cL_rules 450 = .ok (.iload 12, 2) := by decide +kernel
theorem dL_rules_452 : decode cL_rules 452 = .ok (.imul, 1) := by decide +kernel
theorem dL_rules_453 : decode cL_rules 453 = .ok (.iadd, 1) := by decide +kernel
theorem dL_rules_454 : decode cL_rules 454 = .ok (.bipush 64, 2) := by decide +kernel
theorem dL_rules_456 : decode cL_rules 456 = .ok (.iload 13, 2) := by decide +kernel
theorem dL_rules_458 : decode cL_rules 458 = .ok (.imul, 1) := by decide +kernel
theorem dL_rules_459 : decode cL_rules 459 = .ok (.iadd, 1) := by decide +kernel
theorem dL_rules_460 : decode cL_rules 460 = .ok (.iastore, 1) := by decide +kernel
theorem dL_rules_461 : decode cL_rules 461 = .ok (.aload 8, 2) := by decide +kernel
theorem dL_rules_463 : decode cL_rules 463 = .ok (.iconst 4, 1) := by decide +kernel
theorem dL_rules_464 : decode cL_rules 464 = .ok (.dup2, 1) := by decide +kernel
theorem dL_rules_465 : decode cL_rules 465 = .ok (.iaload, 1) := by decide +kernel
theorem dL_rules_466 : decode cL_rules 466 = .ok (.iconst 1, 1) := by decide +kernel
theorem dL_rules_467 : decode cL_rules 467 = .ok (.iadd, 1) := by decide +kernel
theorem dL_rules_468 : decode cL_rules 468 = .ok (.iastore, 1) := by decide +kernel
theorem dL_rules_469 : decode cL_rules 469 = .ok (.aload_n 0, 1) := by decide +kernel
theorem dL_rules_470 : decode cL_rules 470 = .ok (.iconst 2, 1) := by decide +kernel
theorem dL_rules_471 : decode cL_rules 471 = .ok (.iload 9, 2) := by decide +kernel
theorem dL_rules_473 : decode cL_rules 473 = .ok (.iload 12, 2) := by decide +kernel
theorem dL_rules_475 : decode cL_rules 475 = .ok (.iload 13, 2) := by decide +kernel
theorem dL_rules_477 : decode cL_rules 477 = .ok (.invokestatic 101, 3) := by decide +kernel
theorem dL_rules_480 : decode cL_rules 480 = .ok (.iload 14, 2) := by decide +kernel
theorem dL_rules_482 : decode cL_rules 482 = .ok (.ifCond .eq 12, 3) := by decide +kernel
theorem dL_rules_485 : decode cL_rules 485 = .ok (.aload 8, 2) := by decide +kernel
theorem dL_rules_487 : decode cL_rules 487 = .ok (.iconst 4, 1) := by decide +kernel
theorem dL_rules_488 : decode cL_rules 488 = .ok (.iaload, 1) := by decide +kernel
theorem dL_rules_489 : decode cL_rules 489 = .ok (.iconst 1, 1) := by decide +kernel
theorem dL_rules_490 : decode cL_rules 490 = .ok (.isub, 1) := by decide +kernel
theorem dL_rules_491 : decode cL_rules 491 = .ok (.goto 5, 3) := by decide +kernel
theorem dL_rules_494 : decode cL_rules 494 = .ok (.ldc 28, 2) := by decide +kernel
theorem dL_rules_496 : decode cL_rules 496 = .ok (.if_icmp .ne 7, 3) := by decide +kernel
theorem dL_rules_499 : decode cL_rules 499 = .ok (.iconst 1, 1) := by decide +kernel
theorem dL_rules_500 : decode cL_rules 500 = .ok (.goto 4, 3) := by decide +kernel
theorem dL_rules_503 : decode cL_rules 503 = .ok (.iconst 0, 1) := by decide +kernel
theorem dL_rules_504 : decode cL_rules 504 = .ok (.ireturn, 1) := by decide +kernel
