/-! printed by a program of ours: the law's decode rows -/
theorem dL_law_0 : decode cL_law 0 = .ok (.new 9, 3) := by decide +kernel
theorem dL_law_3 : decode cL_law 3 = .ok (.dup, 1) := by decide +kernel
theorem dL_law_4 : decode cL_law 4 = .ok (.invokespecial 218, 3) := by decide +kernel
theorem dL_law_7 : decode cL_law 7 = .ok (.astore_n 1, 1) := by decide +kernel
theorem dL_law_8 : decode cL_law 8 = .ok (.aload_n 1, 1) := by decide +kernel
theorem dL_law_9 : decode cL_law 9 = .ok (.iconst 0, 1) := by decide +kernel
theorem dL_law_10 : decode cL_law 10 = .ok (.invokevirtual 161, 3) := by decide +kernel
theorem dL_law_13 : decode cL_law 13 = .ok (.iconst 1, 1) := by decide +kernel
theorem dL_law_14 : decode cL_law 14 = .ok (.if_icmp .ne 53, 3) := by decide +kernel
theorem dL_law_17 : decode cL_law 17 = .ok (.aload_n 1, 1) := by decide +kernel
theorem dL_law_18 : decode cL_law 18 = .ok (.iconst 0, 1) := by decide +kernel
theorem dL_law_19 : decode cL_law 19 = .ok (.invokevirtual 219, 3) := by decide +kernel
theorem dL_law_22 : decode cL_law 22 = .ok (.ifCond .ne 45, 3) := by decide +kernel
theorem dL_law_25 : decode cL_law 25 = .ok (.aload_n 1, 1) := by decide +kernel
theorem dL_law_26 : decode cL_law 26 = .ok (.iconst 3, 1) := by decide +kernel
theorem dL_law_27 : decode cL_law 27 = .ok (.invokevirtual 161, 3) := by decide +kernel
theorem dL_law_30 : decode cL_law 30 = .ok (.ifCond .ne 37, 3) := by decide +kernel
theorem dL_law_33 : decode cL_law 33 = .ok (.aload_n 1, 1) := by decide +kernel
theorem dL_law_34 : decode cL_law 34 = .ok (.iconst 5, 1) := by decide +kernel
theorem dL_law_35 : decode cL_law 35 = .ok (.invokevirtual 161, 3) := by decide +kernel
theorem dL_law_38 : decode cL_law 38 = .ok (.sipush 365, 3) := by decide +kernel
theorem dL_law_41 : decode cL_law 41 = .ok (.if_icmp .ne 26, 3) := by decide +kernel
theorem dL_law_44 : decode cL_law 44 = .ok (.aload_n 1, 1) := by decide +kernel
theorem dL_law_45 : decode cL_law 45 = .ok (.invokevirtual 221, 3) := by decide +kernel
theorem dL_law_48 : decode cL_law 48 = .ok (.ifCond .ne 19, 3) := by decide +kernel
theorem dL_law_51 : decode cL_law 51 = .ok (.aload_n 1, 1) := by decide +kernel
theorem dL_law_52 : decode cL_law 52 = .ok (.invokestatic 224, 3) := by decide +kernel
theorem dL_law_55 : decode cL_law 55 = .ok (.iconst (-1), 1) := by decide +kernel
theorem dL_law_56 : decode cL_law 56 = .ok (.if_icmp .ne 11, 3) := by decide +kernel
theorem dL_law_59 : decode cL_law 59 = .ok (.aload_n 1, 1) := by decide +kernel
theorem dL_law_60 : decode cL_law 60 = .ok (.iconst 5, 1) := by decide +kernel
theorem dL_law_61 : decode cL_law 61 = .ok (.invokevirtual 158, 3) := by decide +kernel
theorem dL_law_64 : decode cL_law 64 = .ok (.ifCond .eq 5, 3) := by decide +kernel
theorem dL_law_67 : decode cL_law 67 = .ok (.iconst 0, 1) := by decide +kernel
theorem dL_law_68 : decode cL_law 68 = .ok (.ireturn, 1) := by decide +kernel
theorem dL_law_69 : decode cL_law 69 = .ok (.aload_n 0, 1) := by decide +kernel
theorem dL_law_70 : decode cL_law 70 = .ok (.invokestatic 228, 3) := by decide +kernel
theorem dL_law_73 : decode cL_law 73 = .ok (.astore_n 2, 1) := by decide +kernel
theorem dL_law_74 : decode cL_law 74 = .ok (.aload_n 0, 1) := by decide +kernel
theorem dL_law_75 : decode cL_law 75 = .ok (.bipush 6, 2) := by decide +kernel
theorem dL_law_77 : decode cL_law 77 = .ok (.invokestatic 41, 3) := by decide +kernel
theorem dL_law_80 : decode cL_law 80 = .ok (.aload_n 2, 1) := by decide +kernel
theorem dL_law_81 : decode cL_law 81 = .ok (.invokevirtual 20, 3) := by decide +kernel
theorem dL_law_84 : decode cL_law 84 = .ok (.invokestatic 45, 3) := by decide +kernel
theorem dL_law_87 : decode cL_law 87 = .ok (.istore_n 3, 1) := by decide +kernel
theorem dL_law_88 : decode cL_law 88 = .ok (.new 53, 3) := by decide +kernel
theorem dL_law_91 : decode cL_law 91 = .ok (.dup, 1) := by decide +kernel
theorem dL_law_92 : decode cL_law 92 = .ok (.invokespecial 55, 3) := by decide +kernel
theorem dL_law_95 : decode cL_law 95 = .ok (.aload_n 2, 1) := by decide +kernel
theorem dL_law_96 : decode cL_law 96 = .ok (.iconst 0, 1) := by decide +kernel
theorem dL_law_97 : decode cL_law 97 = .ok (.iload_n 3, 1) := by decide +kernel
theorem dL_law_98 : decode cL_law 98 = .ok (.invokevirtual 232, 3) := by decide +kernel
theorem dL_law_101 : decode cL_law 101 = .ok (.invokevirtual 58, 3) := by decide +kernel
theorem dL_law_104 : decode cL_law 104 = .ok (.ldc 236, 2) := by decide +kernel
theorem dL_law_106 : decode cL_law 106 = .ok (.aload_n 0, 1) := by decide +kernel
theorem dL_law_107 : decode cL_law 107 = .ok (.bipush 7, 2) := by decide +kernel
theorem dL_law_109 : decode cL_law 109 = .ok (.invokestatic 41, 3) := by decide +kernel
theorem dL_law_112 : decode cL_law 112 = .ok (.iconst 5, 1) := by decide +kernel
theorem dL_law_113 : decode cL_law 113 = .ok (.invokestatic 45, 3) := by decide +kernel
theorem dL_law_116 : decode cL_law 116 = .ok (.invokevirtual 26, 3) := by decide +kernel
theorem dL_law_119 : decode cL_law 119 = .ok (.invokevirtual 86, 3) := by decide +kernel
theorem dL_law_122 : decode cL_law 122 = .ok (.aload_n 2, 1) := by decide +kernel
theorem dL_law_123 : decode cL_law 123 = .ok (.iload_n 3, 1) := by decide +kernel
theorem dL_law_124 : decode cL_law 124 = .ok (.invokevirtual 238, 3) := by decide +kernel
theorem dL_law_127 : decode cL_law 127 = .ok (.invokevirtual 58, 3) := by decide +kernel
theorem dL_law_130 : decode cL_law 130 = .ok (.invokevirtual 77, 3) := by decide +kernel
theorem dL_law_133 : decode cL_law 133 = .ok (.astore 4, 2) := by decide +kernel
theorem dL_law_135 : decode cL_law 135 = .ok (.aload_n 1, 1) := by decide +kernel
theorem dL_law_136 : decode cL_law 136 = .ok (.aload 4, 2) := by decide +kernel
theorem dL_law_138 : decode cL_law 138 = .ok (.invokestatic 241, 3) := by decide +kernel
theorem dL_law_141 : decode cL_law 141 = .ok (.ifCond .ne 5, 3) := by decide +kernel
theorem dL_law_144 : decode cL_law 144 = .ok (.iconst 0, 1) := by decide +kernel
theorem dL_law_145 : decode cL_law 145 = .ok (.ireturn, 1) := by decide +kernel
theorem dL_law_146 : decode cL_law 146 = .ok (.aload_n 1, 1) := by decide +kernel
theorem dL_law_147 : decode cL_law 147 = .ok (.invokevirtual 221, 3) := by decide +kernel
theorem dL_law_150 : decode cL_law 150 = .ok (.istore 5, 2) := by decide +kernel
theorem dL_law_152 : decode cL_law 152 = .ok (.iload 5, 2) := by decide +kernel
theorem dL_law_154 : decode cL_law 154 = .ok (.ifCond .lt 31, 3) := by decide +kernel
theorem dL_law_157 : decode cL_law 157 = .ok (.iload 5, 2) := by decide +kernel
theorem dL_law_159 : decode cL_law 159 = .ok (.aload 4, 2) := by decide +kernel
theorem dL_law_161 : decode cL_law 161 = .ok (.invokevirtual 20, 3) := by decide +kernel
theorem dL_law_164 : decode cL_law 164 = .ok (.if_icmp .gt 19, 3) := by decide +kernel
theorem dL_law_167 : decode cL_law 167 = .ok (.aload_n 1, 1) := by decide +kernel
theorem dL_law_168 : decode cL_law 168 = .ok (.invokestatic 224, 3) := by decide +kernel
theorem dL_law_171 : decode cL_law 171 = .ok (.iconst (-1), 1) := by decide +kernel
theorem dL_law_172 : decode cL_law 172 = .ok (.if_icmp .ne 11, 3) := by decide +kernel
theorem dL_law_175 : decode cL_law 175 = .ok (.aload_n 1, 1) := by decide +kernel
theorem dL_law_176 : decode cL_law 176 = .ok (.iconst 3, 1) := by decide +kernel
theorem dL_law_177 : decode cL_law 177 = .ok (.invokevirtual 161, 3) := by decide +kernel
theorem dL_law_180 : decode cL_law 180 = .ok (.ifCond .eq 5, 3) := by decide +kernel
theorem dL_law_183 : decode cL_law 183 = .ok (.iconst 0, 1) := by decide +kernel
theorem dL_law_184 : decode cL_law 184 = .ok (.ireturn, 1) := by decide +kernel
theorem dL_law_185 : decode cL_law 185 = .ok (.aload_n 1, 1) := by decide +kernel
theorem dL_law_186 : decode cL_law 186 = .ok (.aload_n 2, 1) := by decide +kernel
theorem dL_law_187 : decode cL_law 187 = .ok (.invokestatic 241, 3) := by decide +kernel
theorem dL_law_190 : decode cL_law 190 = .ok (.ifCond .eq 34, 3) := by decide +kernel
theorem dL_law_193 : decode cL_law 193 = .ok (.aload_n 1, 1) := by decide +kernel
theorem dL_law_194 : decode cL_law 194 = .ok (.invokevirtual 221, 3) := by decide +kernel
theorem dL_law_197 : decode cL_law 197 = .ok (.iconst (-1), 1) := by decide +kernel
theorem dL_law_198 : decode cL_law 198 = .ok (.if_icmp .ne 26, 3) := by decide +kernel
theorem dL_law_201 : decode cL_law 201 = .ok (.aload_n 1, 1) := by decide +kernel
theorem dL_law_202 : decode cL_law 202 = .ok (.invokestatic 224, 3) := by decide +kernel
theorem dL_law_205 : decode cL_law 205 = .ok (.aload_n 0, 1) := by decide +kernel
theorem dL_law_206 : decode cL_law 206 = .ok (.invokestatic 108, 3) := by decide +kernel
theorem dL_law_209 : decode cL_law 209 = .ok (.if_icmp .ne 15, 3) := by decide +kernel
theorem dL_law_212 : decode cL_law 212 = .ok (.aload_n 1, 1) := by decide +kernel
theorem dL_law_213 : decode cL_law 213 = .ok (.iconst 0, 1) := by decide +kernel
theorem dL_law_214 : decode cL_law 214 = .ok (.invokevirtual 161, 3) := by decide +kernel
theorem dL_law_217 : decode cL_law 217 = .ok (.aload_n 0, 1) := by decide +kernel
theorem dL_law_218 : decode cL_law 218 = .ok (.invokestatic 81, 3) := by decide +kernel
theorem dL_law_221 : decode cL_law 221 = .ok (.if_icmp .eq 5, 3) := by decide +kernel
theorem dL_law_224 : decode cL_law 224 = .ok (.iconst 0, 1) := by decide +kernel
theorem dL_law_225 : decode cL_law 225 = .ok (.ireturn, 1) := by decide +kernel
theorem dL_law_226 : decode cL_law 226 = .ok (.lconst 0, 1) := by decide +kernel
theorem dL_law_227 : decode cL_law 227 = .ok (.lstore 6, 2) := by decide +kernel
theorem dL_law_229 : decode cL_law 229 = .ok (.iconst 0, 1) := by decide +kernel
theorem dL_law_230 : decode cL_law 230 = .ok (.istore 8, 2) := by decide +kernel
theorem dL_law_232 : decode cL_law 232 = .ok (.iconst 0, 1) := by decide +kernel
theorem dL_law_233 : decode cL_law 233 = .ok (.istore 9, 2) := by decide +kernel
theorem dL_law_235 : decode cL_law 235 = .ok (.iload 9, 2) := by decide +kernel
theorem dL_law_237 : decode cL_law 237 = .ok (.bipush 16, 2) := by decide +kernel
theorem dL_law_239 : decode cL_law 239 = .ok (.if_icmp .ge 781, 3) := by decide +kernel
theorem dL_law_242 : decode cL_law 242 = .ok (.aload_n 0, 1) := by decide +kernel
theorem dL_law_243 : decode cL_law 243 = .ok (.bipush 8, 2) := by decide +kernel
theorem dL_law_245 : decode cL_law 245 = .ok (.iload 9, 2) := by decide +kernel
theorem dL_law_247 : decode cL_law 247 = .ok (.iadd, 1) := by decide +kernel
theorem dL_law_248 : decode cL_law 248 = .ok (.invokestatic 41, 3) := by decide +kernel
theorem dL_law_251 : decode cL_law 251 = .ok (.istore 10, 2) := by decide +kernel
theorem dL_law_253 : decode cL_law 253 = .ok (.aload_n 1, 1) := by decide +kernel
theorem dL_law_254 : decode cL_law 254 = .ok (.invokestatic 245, 3) := by decide +kernel
theorem dL_law_257 : decode cL_law 257 = .ok (.lstore 11, 2) := by decide +kernel
theorem dL_law_259 : decode cL_law 259 = .ok (.aload_n 1, 1) := by decide +kernel
theorem dL_law_260 : decode cL_law 260 = .ok (.invokevirtual 249, 3) := by decide +kernel
theorem dL_law_263 : decode cL_law 263 = .ok (.istore 13, 2) := by decide +kernel
theorem dL_law_265 : decode cL_law 265 = .ok (.iload 10, 2) := by decide +kernel
theorem dL_law_267 : decode cL_law 267 = .ok (.iconst 4, 1) := by decide +kernel
theorem dL_law_268 : decode cL_law 268 = .ok (.ishr, 1) := by decide +kernel
theorem dL_law_269 : decode cL_law 269 = .ok (.aload_n 0, 1) := by decide +kernel
theorem dL_law_270 : decode cL_law 270 = .ok (.invokestatic 108, 3) := by decide +kernel
theorem dL_law_273 : decode cL_law 273 = .ok (.invokestatic 45, 3) := by decide +kernel
theorem dL_law_276 : decode cL_law 276 = .ok (.istore 14, 2) := by decide +kernel
theorem dL_law_278 : decode cL_law 278 = .ok (.iload 10, 2) := by decide +kernel
theorem dL_law_280 : decode cL_law 280 = .ok (.bipush 8, 2) := by decide +kernel
theorem dL_law_282 : decode cL_law 282 = .ok (.ishr, 1) := by decide +kernel
theorem dL_law_283 : decode cL_law 283 = .ok (.aload_n 0, 1) := by decide +kernel
theorem dL_law_284 : decode cL_law 284 = .ok (.invokestatic 108, 3) := by decide +kernel
theorem dL_law_287 : decode cL_law 287 = .ok (.invokestatic 45, 3) := by decide +kernel
theorem dL_law_290 : decode cL_law 290 = .ok (.istore 15, 2) := by decide +kernel
theorem dL_law_292 : decode cL_law 292 = .ok (.iload 10, 2) := by decide +kernel
theorem dL_law_294 : decode cL_law 294 = .ok (.bipush 11, 2) := by decide +kernel
theorem dL_law_296 : decode cL_law 296 = .ok (.invokestatic 45, 3) := by decide +kernel
theorem dL_law_299 : decode cL_law 299 = .ok (.tableswitch 590 0 9 #[53, 53, 53, 147, 208, 296, 372, 415, 455, 475], 53) := by decide +kernel
theorem dL_law_352 : decode cL_law 352 = .ok (.iload 10, 2) := by decide +kernel
theorem dL_law_354 : decode cL_law 354 = .ok (.bipush 8, 2) := by decide +kernel
theorem dL_law_356 : decode cL_law 356 = .ok (.ishr, 1) := by decide +kernel
theorem dL_law_357 : decode cL_law 357 = .ok (.aload_n 0, 1) := by decide +kernel
theorem dL_law_358 : decode cL_law 358 = .ok (.invokestatic 97, 3) := by decide +kernel
theorem dL_law_361 : decode cL_law 361 = .ok (.invokestatic 45, 3) := by decide +kernel
theorem dL_law_364 : decode cL_law 364 = .ok (.istore 17, 2) := by decide +kernel
theorem dL_law_366 : decode cL_law 366 = .ok (.iconst 1, 1) := by decide +kernel
theorem dL_law_367 : decode cL_law 367 = .ok (.iload 10, 2) := by decide +kernel
theorem dL_law_369 : decode cL_law 369 = .ok (.bipush 11, 2) := by decide +kernel
theorem dL_law_371 : decode cL_law 371 = .ok (.ishr, 1) := by decide +kernel
theorem dL_law_372 : decode cL_law 372 = .ok (.sipush 9000, 3) := by decide +kernel
theorem dL_law_375 : decode cL_law 375 = .ok (.invokestatic 45, 3) := by decide +kernel
theorem dL_law_378 : decode cL_law 378 = .ok (.iadd, 1) := by decide +kernel
theorem dL_law_379 : decode cL_law 379 = .ok (.istore 18, 2) := by decide +kernel
theorem dL_law_381 : decode cL_law 381 = .ok (.aload_n 1, 1) := by decide +kernel
theorem dL_law_382 : decode cL_law 382 = .ok (.iload 14, 2) := by decide +kernel
theorem dL_law_384 : decode cL_law 384 = .ok (.iload 17, 2) := by decide +kernel
theorem dL_law_386 : decode cL_law 386 = .ok (.iload 18, 2) := by decide +kernel
theorem dL_law_388 : decode cL_law 388 = .ok (.invokevirtual 252, 3) := by decide +kernel
theorem dL_law_391 : decode cL_law 391 = .ok (.istore 19, 2) := by decide +kernel
theorem dL_law_393 : decode cL_law 393 = .ok (.aload_n 1, 1) := by decide +kernel
theorem dL_law_394 : decode cL_law 394 = .ok (.iload 14, 2) := by decide +kernel
theorem dL_law_396 : decode cL_law 396 = .ok (.iload 17, 2) := by decide +kernel
theorem dL_law_398 : decode cL_law 398 = .ok (.iload 18, 2) := by decide +kernel
theorem dL_law_400 : decode cL_law 400 = .ok (.invokevirtual 255, 3) := by decide +kernel
theorem dL_law_403 : decode cL_law 403 = .ok (.istore 16, 2) := by decide +kernel
theorem dL_law_405 : decode cL_law 405 = .ok (.iload 16, 2) := by decide +kernel
theorem dL_law_407 : decode cL_law 407 = .ok (.iload 19, 2) := by decide +kernel
theorem dL_law_409 : decode cL_law 409 = .ok (.if_icmp .ne 35, 3) := by decide +kernel
theorem dL_law_412 : decode cL_law 412 = .ok (.aload_n 1, 1) := by decide +kernel
theorem dL_law_413 : decode cL_law 413 = .ok (.aload_n 1, 1) := by decide +kernel
theorem dL_law_414 : decode cL_law 414 = .ok (.invokevirtual 197, 3) := by decide +kernel
theorem dL_law_417 : decode cL_law 417 = .ok (.iconst 1, 1) := by decide +kernel
theorem dL_law_418 : decode cL_law 418 = .ok (.isub, 1) := by decide +kernel
theorem dL_law_419 : decode cL_law 419 = .ok (.iconst 4, 1) := by decide +kernel
theorem dL_law_420 : decode cL_law 420 = .ok (.invokevirtual 258, 3) := by decide +kernel
theorem dL_law_423 : decode cL_law 423 = .ok (.iload 16, 2) := by decide +kernel
theorem dL_law_425 : decode cL_law 425 = .ok (.if_icmp .ne 19, 3) := by decide +kernel
theorem dL_law_428 : decode cL_law 428 = .ok (.aload_n 1, 1) := by decide +kernel
theorem dL_law_429 : decode cL_law 429 = .ok (.aload_n 1, 1) := by decide +kernel
theorem dL_law_430 : decode cL_law 430 = .ok (.invokevirtual 197, 3) := by decide +kernel
theorem dL_law_433 : decode cL_law 433 = .ok (.iconst 1, 1) := by decide +kernel
theorem dL_law_434 : decode cL_law 434 = .ok (.isub, 1) := by decide +kernel
theorem dL_law_435 : decode cL_law 435 = .ok (.iconst 0, 1) := by decide +kernel
theorem dL_law_436 : decode cL_law 436 = .ok (.invokevirtual 258, 3) := by decide +kernel
theorem dL_law_439 : decode cL_law 439 = .ok (.iload 14, 2) := by decide +kernel
theorem dL_law_441 : decode cL_law 441 = .ok (.if_icmp .eq 471, 3) := by decide +kernel
theorem dL_law_444 : decode cL_law 444 = .ok (.iconst 0, 1) := by decide +kernel
theorem dL_law_445 : decode cL_law 445 = .ok (.ireturn, 1) := by decide +kernel
theorem dL_law_446 : decode cL_law 446 = .ok (.iload 10, 2) := by decide +kernel
theorem dL_law_448 : decode cL_law 448 = .ok (.bipush 8, 2) := by decide +kernel
theorem dL_law_450 : decode cL_law 450 = .ok (.ishr, 1) := by decide +kernel
theorem dL_law_451 : decode cL_law 451 = .ok (.bipush 10, 2) := by decide +kernel
theorem dL_law_453 : decode cL_law 453 = .ok (.invokestatic 45, 3) := by decide +kernel
theorem dL_law_456 : decode cL_law 456 = .ok (.istore 17, 2) := by decide +kernel
theorem dL_law_458 : decode cL_law 458 = .ok (.aload_n 1, 1) := by decide +kernel
theorem dL_law_459 : decode cL_law 459 = .ok (.bipush 6, 2) := by decide +kernel
theorem dL_law_461 : decode cL_law 461 = .ok (.invokevirtual 158, 3) := by decide +kernel
theorem dL_law_464 : decode cL_law 464 = .ok (.istore 18, 2) := by decide +kernel
theorem dL_law_466 : decode cL_law 466 = .ok (.aload_n 1, 1) := by decide +kernel
theorem dL_law_467 : decode cL_law 467 = .ok (.iload 17, 2) := by decide +kernel
theorem dL_law_469 : decode cL_law 469 = .ok (.invokestatic 261, 3) := by decide +kernel
theorem dL_law_472 : decode cL_law 472 = .ok (.istore 16, 2) := by decide +kernel
theorem dL_law_474 : decode cL_law 474 = .ok (.iload 16, 2) := by decide +kernel
theorem dL_law_476 : decode cL_law 476 = .ok (.ifCond .lt 436, 3) := by decide +kernel
theorem dL_law_479 : decode cL_law 479 = .ok (.aload_n 1, 1) := by decide +kernel
theorem dL_law_480 : decode cL_law 480 = .ok (.iload 17, 2) := by decide +kernel
theorem dL_law_482 : decode cL_law 482 = .ok (.bipush 6, 2) := by decide +kernel
theorem dL_law_484 : decode cL_law 484 = .ok (.invokevirtual 258, 3) := by decide +kernel
theorem dL_law_487 : decode cL_law 487 = .ok (.iconst 1, 1) := by decide +kernel
theorem dL_law_488 : decode cL_law 488 = .ok (.if_icmp .ne 17, 3) := by decide +kernel
theorem dL_law_491 : decode cL_law 491 = .ok (.aload_n 1, 1) := by decide +kernel
theorem dL_law_492 : decode cL_law 492 = .ok (.bipush 6, 2) := by decide +kernel
theorem dL_law_494 : decode cL_law 494 = .ok (.invokevirtual 158, 3) := by decide +kernel
theorem dL_law_497 : decode cL_law 497 = .ok (.iload 18, 2) := by decide +kernel
theorem dL_law_499 : decode cL_law 499 = .ok (.iload 16, 2) := by decide +kernel
theorem dL_law_501 : decode cL_law 501 = .ok (.iadd, 1) := by decide +kernel
theorem dL_law_502 : decode cL_law 502 = .ok (.if_icmp .eq 410, 3) := by decide +kernel
theorem dL_law_505 : decode cL_law 505 = .ok (.iconst 0, 1) := by decide +kernel
theorem dL_law_506 : decode cL_law 506 = .ok (.ireturn, 1) := by decide +kernel
theorem dL_law_507 : decode cL_law 507 = .ok (.iload 10, 2) := by decide +kernel
theorem dL_law_509 : decode cL_law 509 = .ok (.bipush 8, 2) := by decide +kernel
theorem dL_law_511 : decode cL_law 511 = .ok (.ishr, 1) := by decide +kernel
theorem dL_law_512 : decode cL_law 512 = .ok (.sipush 600, 3) := by decide +kernel
theorem dL_law_515 : decode cL_law 515 = .ok (.invokestatic 45, 3) := by decide +kernel
theorem dL_law_518 : decode cL_law 518 = .ok (.istore 17, 2) := by decide +kernel
theorem dL_law_520 : decode cL_law 520 = .ok (.aload_n 1, 1) := by decide +kernel
theorem dL_law_521 : decode cL_law 521 = .ok (.iload 14, 2) := by decide +kernel
theorem dL_law_523 : decode cL_law 523 = .ok (.invokevirtual 209, 3) := by decide +kernel
theorem dL_law_526 : decode cL_law 526 = .ok (.istore 18, 2) := by decide +kernel
theorem dL_law_528 : decode cL_law 528 = .ok (.aload_n 1, 1) := by decide +kernel
theorem dL_law_529 : decode cL_law 529 = .ok (.iconst 0, 1) := by decide +kernel
theorem dL_law_530 : decode cL_law 530 = .ok (.invokevirtual 212, 3) := by decide +kernel
theorem dL_law_533 : decode cL_law 533 = .ok (.istore 19, 2) := by decide +kernel
theorem dL_law_535 : decode cL_law 535 = .ok (.aload_n 1, 1) := by decide +kernel
theorem dL_law_536 : decode cL_law 536 = .ok (.iload 14, 2) := by decide +kernel
theorem dL_law_538 : decode cL_law 538 = .ok (.iload 17, 2) := by decide +kernel
theorem dL_law_540 : decode cL_law 540 = .ok (.invokestatic 265, 3) := by decide +kernel
theorem dL_law_543 : decode cL_law 543 = .ok (.istore 16, 2) := by decide +kernel
theorem dL_law_545 : decode cL_law 545 = .ok (.iload 16, 2) := by decide +kernel
theorem dL_law_547 : decode cL_law 547 = .ok (.ifCond .lt 32, 3) := by decide +kernel
theorem dL_law_550 : decode cL_law 550 = .ok (.aload_n 1, 1) := by decide +kernel
theorem dL_law_551 : decode cL_law 551 = .ok (.iload 14, 2) := by decide +kernel
theorem dL_law_553 : decode cL_law 553 = .ok (.invokevirtual 209, 3) := by decide +kernel
theorem dL_law_556 : decode cL_law 556 = .ok (.iload 18, 2) := by decide +kernel
theorem dL_law_558 : decode cL_law 558 = .ok (.iload 17, 2) := by decide +kernel
theorem dL_law_560 : decode cL_law 560 = .ok (.isub, 1) := by decide +kernel
theorem dL_law_561 : decode cL_law 561 = .ok (.if_icmp .ne 16, 3) := by decide +kernel
theorem dL_law_564 : decode cL_law 564 = .ok (.aload_n 1, 1) := by decide +kernel
theorem dL_law_565 : decode cL_law 565 = .ok (.iconst 0, 1) := by decide +kernel
theorem dL_law_566 : decode cL_law 566 = .ok (.invokevirtual 212, 3) := by decide +kernel
theorem dL_law_569 : decode cL_law 569 = .ok (.iload 19, 2) := by decide +kernel
theorem dL_law_571 : decode cL_law 571 = .ok (.iload 16, 2) := by decide +kernel
theorem dL_law_573 : decode cL_law 573 = .ok (.isub, 1) := by decide +kernel
theorem dL_law_574 : decode cL_law 574 = .ok (.if_icmp .eq 5, 3) := by decide +kernel
theorem dL_law_577 : decode cL_law 577 = .ok (.iconst 0, 1) := by decide +kernel
theorem dL_law_578 : decode cL_law 578 = .ok (.ireturn, 1) := by decide +kernel
theorem dL_law_579 : decode cL_law 579 = .ok (.iload 16, 2) := by decide +kernel
theorem dL_law_581 : decode cL_law 581 = .ok (.bipush (-2), 2) := by decide +kernel
theorem dL_law_583 : decode cL_law 583 = .ok (.if_icmp .ne 329, 3) := by decide +kernel
theorem dL_law_586 : decode cL_law 586 = .ok (.iload 17, 2) := by decide +kernel
theorem dL_law_588 : decode cL_law 588 = .ok (.iload 18, 2) := by decide +kernel
theorem dL_law_590 : decode cL_law 590 = .ok (.if_icmp .gt 322, 3) := by decide +kernel
theorem dL_law_593 : decode cL_law 593 = .ok (.iconst 0, 1) := by decide +kernel
theorem dL_law_594 : decode cL_law 594 = .ok (.ireturn, 1) := by decide +kernel
theorem dL_law_595 : decode cL_law 595 = .ok (.iload 10, 2) := by decide +kernel
theorem dL_law_597 : decode cL_law 597 = .ok (.bipush 12, 2) := by decide +kernel
theorem dL_law_599 : decode cL_law 599 = .ok (.ishr, 1) := by decide +kernel
theorem dL_law_600 : decode cL_law 600 = .ok (.sipush 300, 3) := by decide +kernel
theorem dL_law_603 : decode cL_law 603 = .ok (.invokestatic 45, 3) := by decide +kernel
theorem dL_law_606 : decode cL_law 606 = .ok (.istore 17, 2) := by decide +kernel
theorem dL_law_608 : decode cL_law 608 = .ok (.aload_n 1, 1) := by decide +kernel
theorem dL_law_609 : decode cL_law 609 = .ok (.iload 14, 2) := by decide +kernel
theorem dL_law_611 : decode cL_law 611 = .ok (.invokevirtual 200, 3) := by decide +kernel
theorem dL_law_614 : decode cL_law 614 = .ok (.istore 18, 2) := by decide +kernel
theorem dL_law_616 : decode cL_law 616 = .ok (.aload_n 1, 1) := by decide +kernel
theorem dL_law_617 : decode cL_law 617 = .ok (.iload 15, 2) := by decide +kernel
theorem dL_law_619 : decode cL_law 619 = .ok (.invokevirtual 164, 3) := by decide +kernel
theorem dL_law_622 : decode cL_law 622 = .ok (.istore 19, 2) := by decide +kernel
theorem dL_law_624 : decode cL_law 624 = .ok (.aload_n 1, 1) := by decide +kernel
theorem dL_law_625 : decode cL_law 625 = .ok (.iload 14, 2) := by decide +kernel
theorem dL_law_627 : decode cL_law 627 = .ok (.iload 15, 2) := by decide +kernel
theorem dL_law_629 : decode cL_law 629 = .ok (.iload 17, 2) := by decide +kernel
theorem dL_law_631 : decode cL_law 631 = .ok (.invokestatic 269, 3) := by decide +kernel
theorem dL_law_634 : decode cL_law 634 = .ok (.istore 16, 2) := by decide +kernel
theorem dL_law_636 : decode cL_law 636 = .ok (.iload 16, 2) := by decide +kernel
theorem dL_law_638 : decode cL_law 638 = .ok (.ifCond .lt 274, 3) := by decide +kernel
theorem dL_law_641 : decode cL_law 641 = .ok (.aload_n 1, 1) := by decide +kernel
theorem dL_law_642 : decode cL_law 642 = .ok (.iload 14, 2) := by decide +kernel
theorem dL_law_644 : decode cL_law 644 = .ok (.invokevirtual 200, 3) := by decide +kernel
theorem dL_law_647 : decode cL_law 647 = .ok (.iload 18, 2) := by decide +kernel
theorem dL_law_649 : decode cL_law 649 = .ok (.iload 17, 2) := by decide +kernel
theorem dL_law_651 : decode cL_law 651 = .ok (.isub, 1) := by decide +kernel
theorem dL_law_652 : decode cL_law 652 = .ok (.if_icmp .ne 17, 3) := by decide +kernel
theorem dL_law_655 : decode cL_law 655 = .ok (.aload_n 1, 1) := by decide +kernel
theorem dL_law_656 : decode cL_law 656 = .ok (.iload 15, 2) := by decide +kernel
theorem dL_law_658 : decode cL_law 658 = .ok (.invokevirtual 164, 3) := by decide +kernel
theorem dL_law_661 : decode cL_law 661 = .ok (.iload 19, 2) := by decide +kernel
theorem dL_law_663 : decode cL_law 663 = .ok (.iload 16, 2) := by decide +kernel
theorem dL_law_665 : decode cL_law 665 = .ok (.isub, 1) := by decide +kernel
theorem dL_law_666 : decode cL_law 666 = .ok (.if_icmp .eq 246, 3) := by decide +kernel
theorem dL_law_669 : decode cL_law 669 = .ok (.iconst 0, 1) := by decide +kernel
theorem dL_law_670 : decode cL_law 670 = .ok (.ireturn, 1) := by decide +kernel
theorem dL_law_671 : decode cL_law 671 = .ok (.aload_n 1, 1) := by decide +kernel
theorem dL_law_672 : decode cL_law 672 = .ok (.iconst 0, 1) := by decide +kernel
theorem dL_law_673 : decode cL_law 673 = .ok (.invokevirtual 273, 3) := by decide +kernel
theorem dL_law_676 : decode cL_law 676 = .ok (.invokestatic 275, 3) := by decide +kernel
theorem dL_law_679 : decode cL_law 679 = .ok (.istore 17, 2) := by decide +kernel
theorem dL_law_681 : decode cL_law 681 = .ok (.aload_n 1, 1) := by decide +kernel
theorem dL_law_682 : decode cL_law 682 = .ok (.iload 14, 2) := by decide +kernel
theorem dL_law_684 : decode cL_law 684 = .ok (.invokestatic 280, 3) := by decide +kernel
theorem dL_law_687 : decode cL_law 687 = .ok (.istore 16, 2) := by decide +kernel
theorem dL_law_689 : decode cL_law 689 = .ok (.iload 16, 2) := by decide +kernel
theorem dL_law_691 : decode cL_law 691 = .ok (.ifCond .lt 221, 3) := by decide +kernel
theorem dL_law_694 : decode cL_law 694 = .ok (.iload 16, 2) := by decide +kernel
theorem dL_law_696 : decode cL_law 696 = .ok (.iload 17, 2) := by decide +kernel
theorem dL_law_698 : decode cL_law 698 = .ok (.iconst 1, 1) := by decide +kernel
theorem dL_law_699 : decode cL_law 699 = .ok (.iadd, 1) := by decide +kernel
theorem dL_law_700 : decode cL_law 700 = .ok (.if_icmp .ne 12, 3) := by decide +kernel
theorem dL_law_703 : decode cL_law 703 = .ok (.aload_n 1, 1) := by decide +kernel
theorem dL_law_704 : decode cL_law 704 = .ok (.iload 14, 2) := by decide +kernel
theorem dL_law_706 : decode cL_law 706 = .ok (.invokevirtual 173, 3) := by decide +kernel
theorem dL_law_709 : decode cL_law 709 = .ok (.ifCond .eq 203, 3) := by decide +kernel
theorem dL_law_712 : decode cL_law 712 = .ok (.iconst 0, 1) := by decide +kernel
theorem dL_law_713 : decode cL_law 713 = .ok (.ireturn, 1) := by decide +kernel
theorem dL_law_714 : decode cL_law 714 = .ok (.aload_n 1, 1) := by decide +kernel
theorem dL_law_715 : decode cL_law 715 = .ok (.iload 14, 2) := by decide +kernel
theorem dL_law_717 : decode cL_law 717 = .ok (.invokevirtual 206, 3) := by decide +kernel
theorem dL_law_720 : decode cL_law 720 = .ok (.istore 17, 2) := by decide +kernel
theorem dL_law_722 : decode cL_law 722 = .ok (.aload_n 1, 1) := by decide +kernel
theorem dL_law_723 : decode cL_law 723 = .ok (.iload 14, 2) := by decide +kernel
theorem dL_law_725 : decode cL_law 725 = .ok (.invokestatic 283, 3) := by decide +kernel
theorem dL_law_728 : decode cL_law 728 = .ok (.istore 16, 2) := by decide +kernel
theorem dL_law_730 : decode cL_law 730 = .ok (.iload 16, 2) := by decide +kernel
theorem dL_law_732 : decode cL_law 732 = .ok (.ifCond .lt 180, 3) := by decide +kernel
theorem dL_law_735 : decode cL_law 735 = .ok (.iload 16, 2) := by decide +kernel
theorem dL_law_737 : decode cL_law 737 = .ok (.iload 17, 2) := by decide +kernel
theorem dL_law_739 : decode cL_law 739 = .ok (.if_icmp .ne 13, 3) := by decide +kernel
theorem dL_law_742 : decode cL_law 742 = .ok (.aload_n 1, 1) := by decide +kernel
theorem dL_law_743 : decode cL_law 743 = .ok (.iload 14, 2) := by decide +kernel
theorem dL_law_745 : decode cL_law 745 = .ok (.invokevirtual 173, 3) := by decide +kernel
theorem dL_law_748 : decode cL_law 748 = .ok (.iconst (-1), 1) := by decide +kernel
theorem dL_law_749 : decode cL_law 749 = .ok (.if_icmp .eq 163, 3) := by decide +kernel
theorem dL_law_752 : decode cL_law 752 = .ok (.iconst 0, 1) := by decide +kernel
theorem dL_law_753 : decode cL_law 753 = .ok (.ireturn, 1) := by decide +kernel
theorem dL_law_754 : decode cL_law 754 = .ok (.aload_n 1, 1) := by decide +kernel
theorem dL_law_755 : decode cL_law 755 = .ok (.iconst 0, 1) := by decide +kernel
theorem dL_law_756 : decode cL_law 756 = .ok (.iload 10, 2) := by decide +kernel
theorem dL_law_758 : decode cL_law 758 = .ok (.bipush 8, 2) := by decide +kernel
theorem dL_law_760 : decode cL_law 760 = .ok (.ishr, 1) := by decide +kernel
theorem dL_law_761 : decode cL_law 761 = .ok (.bipush 101, 2) := by decide +kernel
theorem dL_law_763 : decode cL_law 763 = .ok (.invokestatic 45, 3) := by decide +kernel
theorem dL_law_766 : decode cL_law 766 = .ok (.invokevirtual 286, 3) := by decide +kernel
theorem dL_law_769 : decode cL_law 769 = .ok (.istore 16, 2) := by decide +kernel
theorem dL_law_771 : decode cL_law 771 = .ok (.goto 141, 3) := by decide +kernel
theorem dL_law_774 : decode cL_law 774 = .ok (.iconst 1, 1) := by decide +kernel
theorem dL_law_775 : decode cL_law 775 = .ok (.iload 10, 2) := by decide +kernel
theorem dL_law_777 : decode cL_law 777 = .ok (.bipush 8, 2) := by decide +kernel
theorem dL_law_779 : decode cL_law 779 = .ok (.ishr, 1) := by decide +kernel
theorem dL_law_780 : decode cL_law 780 = .ok (.bipush 25, 2) := by decide +kernel
theorem dL_law_782 : decode cL_law 782 = .ok (.invokestatic 45, 3) := by decide +kernel
theorem dL_law_785 : decode cL_law 785 = .ok (.iadd, 1) := by decide +kernel
theorem dL_law_786 : decode cL_law 786 = .ok (.istore 17, 2) := by decide +kernel
theorem dL_law_788 : decode cL_law 788 = .ok (.aload_n 1, 1) := by decide +kernel
theorem dL_law_789 : decode cL_law 789 = .ok (.invokevirtual 152, 3) := by decide +kernel
theorem dL_law_792 : decode cL_law 792 = .ok (.istore 18, 2) := by decide +kernel
theorem dL_law_794 : decode cL_law 794 = .ok (.aload_n 1, 1) := by decide +kernel
theorem dL_law_795 : decode cL_law 795 = .ok (.iload 14, 2) := by decide +kernel
theorem dL_law_797 : decode cL_law 797 = .ok (.iload 17, 2) := by decide +kernel
theorem dL_law_799 : decode cL_law 799 = .ok (.invokevirtual 289, 3) := by decide +kernel
theorem dL_law_802 : decode cL_law 802 = .ok (.istore 19, 2) := by decide +kernel
theorem dL_law_804 : decode cL_law 804 = .ok (.aload_n 1, 1) := by decide +kernel
theorem dL_law_805 : decode cL_law 805 = .ok (.iconst 2, 1) := by decide +kernel
theorem dL_law_806 : decode cL_law 806 = .ok (.invokevirtual 158, 3) := by decide +kernel
theorem dL_law_809 : decode cL_law 809 = .ok (.istore 20, 2) := by decide +kernel
theorem dL_law_811 : decode cL_law 811 = .ok (.aload_n 1, 1) := by decide +kernel
theorem dL_law_812 : decode cL_law 812 = .ok (.iload 14, 2) := by decide +kernel
theorem dL_law_814 : decode cL_law 814 = .ok (.iload 17, 2) := by decide +kernel
theorem dL_law_816 : decode cL_law 816 = .ok (.invokevirtual 292, 3) := by decide +kernel
theorem dL_law_819 : decode cL_law 819 = .ok (.istore 21, 2) := by decide +kernel
theorem dL_law_821 : decode cL_law 821 = .ok (.aload_n 1, 1) := by decide +kernel
theorem dL_law_822 : decode cL_law 822 = .ok (.iload 14, 2) := by decide +kernel
theorem dL_law_824 : decode cL_law 824 = .ok (.invokevirtual 200, 3) := by decide +kernel
theorem dL_law_827 : decode cL_law 827 = .ok (.istore 22, 2) := by decide +kernel
theorem dL_law_829 : decode cL_law 829 = .ok (.aload_n 1, 1) := by decide +kernel
theorem dL_law_830 : decode cL_law 830 = .ok (.iload 17, 2) := by decide +kernel
theorem dL_law_832 : decode cL_law 832 = .ok (.invokevirtual 295, 3) := by decide +kernel
theorem dL_law_835 : decode cL_law 835 = .ok (.istore 16, 2) := by decide +kernel
theorem dL_law_837 : decode cL_law 837 = .ok (.aload_n 1, 1) := by decide +kernel
theorem dL_law_838 : decode cL_law 838 = .ok (.invokevirtual 152, 3) := by decide +kernel
theorem dL_law_841 : decode cL_law 841 = .ok (.iload 18, 2) := by decide +kernel
theorem dL_law_843 : decode cL_law 843 = .ok (.iload 17, 2) := by decide +kernel
theorem dL_law_845 : decode cL_law 845 = .ok (.iadd, 1) := by decide +kernel
theorem dL_law_846 : decode cL_law 846 = .ok (.if_icmp .ne 41, 3) := by decide +kernel
theorem dL_law_849 : decode cL_law 849 = .ok (.aload_n 1, 1) := by decide +kernel
theorem dL_law_850 : decode cL_law 850 = .ok (.iload 14, 2) := by decide +kernel
theorem dL_law_852 : decode cL_law 852 = .ok (.invokevirtual 167, 3) := by decide +kernel
theorem dL_law_855 : decode cL_law 855 = .ok (.iload 19, 2) := by decide +kernel
theorem dL_law_857 : decode cL_law 857 = .ok (.if_icmp .ne 30, 3) := by decide +kernel
theorem dL_law_860 : decode cL_law 860 = .ok (.aload_n 1, 1) := by decide +kernel
theorem dL_law_861 : decode cL_law 861 = .ok (.iconst 2, 1) := by decide +kernel
theorem dL_law_862 : decode cL_law 862 = .ok (.invokevirtual 158, 3) := by decide +kernel
theorem dL_law_865 : decode cL_law 865 = .ok (.iload 20, 2) := by decide +kernel
theorem dL_law_867 : decode cL_law 867 = .ok (.iload 16, 2) := by decide +kernel
theorem dL_law_869 : decode cL_law 869 = .ok (.iadd, 1) := by decide +kernel
theorem dL_law_870 : decode cL_law 870 = .ok (.if_icmp .ne 17, 3) := by decide +kernel
theorem dL_law_873 : decode cL_law 873 = .ok (.aload_n 1, 1) := by decide +kernel
theorem dL_law_874 : decode cL_law 874 = .ok (.iload 14, 2) := by decide +kernel
theorem dL_law_876 : decode cL_law 876 = .ok (.invokevirtual 200, 3) := by decide +kernel
theorem dL_law_879 : decode cL_law 879 = .ok (.iload 22, 2) := by decide +kernel
theorem dL_law_881 : decode cL_law 881 = .ok (.iload 21, 2) := by decide +kernel
theorem dL_law_883 : decode cL_law 883 = .ok (.isub, 1) := by decide +kernel
theorem dL_law_884 : decode cL_law 884 = .ok (.if_icmp .eq 28, 3) := by decide +kernel
theorem dL_law_887 : decode cL_law 887 = .ok (.iconst 0, 1) := by decide +kernel
theorem dL_law_888 : decode cL_law 888 = .ok (.ireturn, 1) := by decide +kernel
theorem dL_law_889 : decode cL_law 889 = .ok (.aload_n 1, 1) := by decide +kernel
theorem dL_law_890 : decode cL_law 890 = .ok (.invokevirtual 298, 3) := by decide +kernel
theorem dL_law_893 : decode cL_law 893 = .ok (.aload_n 1, 1) := by decide +kernel
theorem dL_law_894 : decode cL_law 894 = .ok (.invokevirtual 152, 3) := by decide +kernel
theorem dL_law_897 : decode cL_law 897 = .ok (.if_icmp .eq 5, 3) := by decide +kernel
theorem dL_law_900 : decode cL_law 900 = .ok (.iconst 0, 1) := by decide +kernel
theorem dL_law_901 : decode cL_law 901 = .ok (.ireturn, 1) := by decide +kernel
theorem dL_law_902 : decode cL_law 902 = .ok (.lload 11, 2) := by decide +kernel
theorem dL_law_904 : decode cL_law 904 = .ok (.lstore 6, 2) := by decide +kernel
theorem dL_law_906 : decode cL_law 906 = .ok (.iconst 1, 1) := by decide +kernel
theorem dL_law_907 : decode cL_law 907 = .ok (.istore 8, 2) := by decide +kernel
theorem dL_law_909 : decode cL_law 909 = .ok (.iconst (-1), 1) := by decide +kernel
theorem dL_law_910 : decode cL_law 910 = .ok (.istore 16, 2) := by decide +kernel
theorem dL_law_912 : decode cL_law 912 = .ok (.iload 16, 2) := by decide +kernel
theorem dL_law_914 : decode cL_law 914 = .ok (.ifCond .ge 24, 3) := by decide +kernel
theorem dL_law_917 : decode cL_law 917 = .ok (.aload_n 1, 1) := by decide +kernel
theorem dL_law_918 : decode cL_law 918 = .ok (.invokestatic 245, 3) := by decide +kernel
theorem dL_law_921 : decode cL_law 921 = .ok (.lload 11, 2) := by decide +kernel
theorem dL_law_923 : decode cL_law 923 = .ok (.lcmp, 1) := by decide +kernel
theorem dL_law_924 : decode cL_law 924 = .ok (.ifCond .ne 12, 3) := by decide +kernel
theorem dL_law_927 : decode cL_law 927 = .ok (.aload_n 1, 1) := by decide +kernel
theorem dL_law_928 : decode cL_law 928 = .ok (.invokevirtual 249, 3) := by decide +kernel
theorem dL_law_931 : decode cL_law 931 = .ok (.iload 13, 2) := by decide +kernel
theorem dL_law_933 : decode cL_law 933 = .ok (.if_icmp .eq 5, 3) := by decide +kernel
theorem dL_law_936 : decode cL_law 936 = .ok (.iconst 0, 1) := by decide +kernel
theorem dL_law_937 : decode cL_law 937 = .ok (.ireturn, 1) := by decide +kernel
theorem dL_law_938 : decode cL_law 938 = .ok (.iload 16, 2) := by decide +kernel
theorem dL_law_940 : decode cL_law 940 = .ok (.ifCond .lt 21, 3) := by decide +kernel
theorem dL_law_943 : decode cL_law 943 = .ok (.aload_n 1, 1) := by decide +kernel
theorem dL_law_944 : decode cL_law 944 = .ok (.invokevirtual 249, 3) := by decide +kernel
theorem dL_law_947 : decode cL_law 947 = .ok (.bipush 8, 2) := by decide +kernel
theorem dL_law_949 : decode cL_law 949 = .ok (.iload 13, 2) := by decide +kernel
theorem dL_law_951 : decode cL_law 951 = .ok (.iconst 1, 1) := by decide +kernel
theorem dL_law_952 : decode cL_law 952 = .ok (.iadd, 1) := by decide +kernel
theorem dL_law_953 : decode cL_law 953 = .ok (.invokestatic 301, 3) := by decide +kernel
theorem dL_law_956 : decode cL_law 956 = .ok (.if_icmp .eq 5, 3) := by decide +kernel
theorem dL_law_959 : decode cL_law 959 = .ok (.iconst 0, 1) := by decide +kernel
theorem dL_law_960 : decode cL_law 960 = .ok (.ireturn, 1) := by decide +kernel
theorem dL_law_961 : decode cL_law 961 = .ok (.iload 16, 2) := by decide +kernel
theorem dL_law_963 : decode cL_law 963 = .ok (.ifCond .lt 41, 3) := by decide +kernel
theorem dL_law_966 : decode cL_law 966 = .ok (.iload 10, 2) := by decide +kernel
theorem dL_law_968 : decode cL_law 968 = .ok (.bipush 26, 2) := by decide +kernel
theorem dL_law_970 : decode cL_law 970 = .ok (.ishr, 1) := by decide +kernel
theorem dL_law_971 : decode cL_law 971 = .ok (.iconst 4, 1) := by decide +kernel
theorem dL_law_972 : decode cL_law 972 = .ok (.invokestatic 45, 3) := by decide +kernel
theorem dL_law_975 : decode cL_law 975 = .ok (.ifCond .ne 29, 3) := by decide +kernel
theorem dL_law_978 : decode cL_law 978 = .ok (.aload_n 1, 1) := by decide +kernel
theorem dL_law_979 : decode cL_law 979 = .ok (.invokevirtual 306, 3) := by decide +kernel
theorem dL_law_982 : decode cL_law 982 = .ok (.iload 13, 2) := by decide +kernel
theorem dL_law_984 : decode cL_law 984 = .ok (.bipush 7, 2) := by decide +kernel
theorem dL_law_986 : decode cL_law 986 = .ok (.invokestatic 301, 3) := by decide +kernel
theorem dL_law_989 : decode cL_law 989 = .ok (.if_icmp .ne 13, 3) := by decide +kernel
theorem dL_law_992 : decode cL_law 992 = .ok (.aload_n 1, 1) := by decide +kernel
theorem dL_law_993 : decode cL_law 993 = .ok (.invokestatic 245, 3) := by decide +kernel
theorem dL_law_996 : decode cL_law 996 = .ok (.lload 11, 2) := by decide +kernel
theorem dL_law_998 : decode cL_law 998 = .ok (.lcmp, 1) := by decide +kernel
theorem dL_law_999 : decode cL_law 999 = .ok (.ifCond .eq 5, 3) := by decide +kernel
theorem dL_law_1002 : decode cL_law 1002 = .ok (.iconst 0, 1) := by decide +kernel
theorem dL_law_1003 : decode cL_law 1003 = .ok (.ireturn, 1) := by decide +kernel
theorem dL_law_1004 : decode cL_law 1004 = .ok (.aload_n 0, 1) := by decide +kernel
theorem dL_law_1005 : decode cL_law 1005 = .ok (.aload_n 1, 1) := by decide +kernel
theorem dL_law_1006 : decode cL_law 1006 = .ok (.invokestatic 309, 3) := by decide +kernel
theorem dL_law_1009 : decode cL_law 1009 = .ok (.ifCond .ne 5, 3) := by decide +kernel
theorem dL_law_1012 : decode cL_law 1012 = .ok (.iconst 0, 1) := by decide +kernel
theorem dL_law_1013 : decode cL_law 1013 = .ok (.ireturn, 1) := by decide +kernel
theorem dL_law_1014 : decode cL_law 1014 = .ok (.iinc 9 1, 3) := by decide +kernel
theorem dL_law_1017 : decode cL_law 1017 = .ok (.goto (-782), 3) := by decide +kernel
theorem dL_law_1020 : decode cL_law 1020 = .ok (.iload 8, 2) := by decide +kernel
theorem dL_law_1022 : decode cL_law 1022 = .ok (.ifCond .eq 24, 3) := by decide +kernel
theorem dL_law_1025 : decode cL_law 1025 = .ok (.aload_n 1, 1) := by decide +kernel
theorem dL_law_1026 : decode cL_law 1026 = .ok (.invokevirtual 313, 3) := by decide +kernel
theorem dL_law_1029 : decode cL_law 1029 = .ok (.aload_n 1, 1) := by decide +kernel
theorem dL_law_1030 : decode cL_law 1030 = .ok (.invokevirtual 152, 3) := by decide +kernel
theorem dL_law_1033 : decode cL_law 1033 = .ok (.if_icmp .ne 17, 3) := by decide +kernel
theorem dL_law_1036 : decode cL_law 1036 = .ok (.aload_n 1, 1) := by decide +kernel
theorem dL_law_1037 : decode cL_law 1037 = .ok (.invokestatic 245, 3) := by decide +kernel
theorem dL_law_1040 : decode cL_law 1040 = .ok (.lload 6, 2) := by decide +kernel
theorem dL_law_1042 : decode cL_law 1042 = .ok (.lcmp, 1) := by decide +kernel
theorem dL_law_1043 : decode cL_law 1043 = .ok (.ifCond .ne 7, 3) := by decide +kernel
theorem dL_law_1046 : decode cL_law 1046 = .ok (.iconst 1, 1) := by decide +kernel
theorem dL_law_1047 : decode cL_law 1047 = .ok (.goto 4, 3) := by decide +kernel
theorem dL_law_1050 : decode cL_law 1050 = .ok (.iconst 0, 1) := by decide +kernel
theorem dL_law_1051 : decode cL_law 1051 = .ok (.ireturn, 1) := by decide +kernel
