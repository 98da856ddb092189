theorem dlw_0 : decode code 0 = .ok (.new 8, 3) := by decide +kernel
theorem dlw_3 : decode code 3 = .ok (.dup, 1) := by decide +kernel
theorem dlw_4 : decode code 4 = .ok (.invokespecial 160, 3) := by decide +kernel
theorem dlw_7 : decode code 7 = .ok (.astore_n 1, 1) := by decide +kernel
theorem dlw_8 : decode code 8 = .ok (.new 161, 3) := by decide +kernel
theorem dlw_11 : decode code 11 = .ok (.dup, 1) := by decide +kernel
theorem dlw_12 : decode code 12 = .ok (.invokespecial 163, 3) := by decide +kernel
theorem dlw_15 : decode code 15 = .ok (.astore_n 2, 1) := by decide +kernel
theorem dlw_16 : decode code 16 = .ok (.iconst 1, 1) := by decide +kernel
theorem dlw_17 : decode code 17 = .ok (.newarray .long, 2) := by decide +kernel
theorem dlw_19 : decode code 19 = .ok (.astore_n 3, 1) := by decide +kernel
theorem dlw_20 : decode code 20 = .ok (.iconst 0, 1) := by decide +kernel
theorem dlw_21 : decode code 21 = .ok (.istore 4, 2) := by decide +kernel
theorem dlw_23 : decode code 23 = .ok (.iload 4, 2) := by decide +kernel
theorem dlw_25 : decode code 25 = .ok (.aload_n 0, 1) := by decide +kernel
theorem dlw_26 : decode code 26 = .ok (.arraylength, 1) := by decide +kernel
theorem dlw_27 : decode code 27 = .ok (.bipush 6, 2) := by decide +kernel
theorem dlw_29 : decode code 29 = .ok (.isub, 1) := by decide +kernel
theorem dlw_30 : decode code 30 = .ok (.if_icmp .gt 3163, 3) := by decide +kernel
theorem dlw_33 : decode code 33 = .ok (.aload_n 0, 1) := by decide +kernel
theorem dlw_34 : decode code 34 = .ok (.iload 4, 2) := by decide +kernel
theorem dlw_36 : decode code 36 = .ok (.iaload, 1) := by decide +kernel
theorem dlw_37 : decode code 37 = .ok (.bipush 63, 2) := by decide +kernel
theorem dlw_39 : decode code 39 = .ok (.iand, 1) := by decide +kernel
theorem dlw_40 : decode code 40 = .ok (.tableswitch 3147 0 52 #[228, 332, 388, 401, 445, 489, 569, 625, 693, 773, 841, 897, 965, 1021, 1077, 1133, 1201, 1214, 1270, 1326, 1382, 1438, 1518, 1574, 1630, 1686, 1742, 1822, 1878, 1934, 1990, 2046, 2102, 2158, 2214, 2282, 2362, 2430, 2510, 2523, 2591, 2659, 2715, 2771, 2827, 2883, 2896, 2952, 2965, 3033, 3077, 3090, 3103], 228) := by decide +kernel
theorem dlw_268 : decode code 268 = .ok (.aload_n 1, 1) := by decide +kernel
theorem dlw_269 : decode code 269 = .ok (.aload_n 0, 1) := by decide +kernel
theorem dlw_270 : decode code 270 = .ok (.iload 4, 2) := by decide +kernel
theorem dlw_272 : decode code 272 = .ok (.iconst 1, 1) := by decide +kernel
theorem dlw_273 : decode code 273 = .ok (.iadd, 1) := by decide +kernel
theorem dlw_274 : decode code 274 = .ok (.iaload, 1) := by decide +kernel
theorem dlw_275 : decode code 275 = .ok (.aload_n 0, 1) := by decide +kernel
theorem dlw_276 : decode code 276 = .ok (.iload 4, 2) := by decide +kernel
theorem dlw_278 : decode code 278 = .ok (.iconst 2, 1) := by decide +kernel
theorem dlw_279 : decode code 279 = .ok (.iadd, 1) := by decide +kernel
theorem dlw_280 : decode code 280 = .ok (.iaload, 1) := by decide +kernel
theorem dlw_281 : decode code 281 = .ok (.aload_n 0, 1) := by decide +kernel
theorem dlw_282 : decode code 282 = .ok (.iload 4, 2) := by decide +kernel
theorem dlw_284 : decode code 284 = .ok (.iconst 3, 1) := by decide +kernel
theorem dlw_285 : decode code 285 = .ok (.iadd, 1) := by decide +kernel
theorem dlw_286 : decode code 286 = .ok (.iaload, 1) := by decide +kernel
theorem dlw_287 : decode code 287 = .ok (.aload_n 0, 1) := by decide +kernel
theorem dlw_288 : decode code 288 = .ok (.iload 4, 2) := by decide +kernel
theorem dlw_290 : decode code 290 = .ok (.iconst 4, 1) := by decide +kernel
theorem dlw_291 : decode code 291 = .ok (.iadd, 1) := by decide +kernel
theorem dlw_292 : decode code 292 = .ok (.iaload, 1) := by decide +kernel
theorem dlw_293 : decode code 293 = .ok (.aload_n 0, 1) := by decide +kernel
theorem dlw_294 : decode code 294 = .ok (.iload 4, 2) := by decide +kernel
theorem dlw_296 : decode code 296 = .ok (.iconst 5, 1) := by decide +kernel
theorem dlw_297 : decode code 297 = .ok (.iadd, 1) := by decide +kernel
theorem dlw_298 : decode code 298 = .ok (.iaload, 1) := by decide +kernel
theorem dlw_299 : decode code 299 = .ok (.aload_n 3, 1) := by decide +kernel
theorem dlw_300 : decode code 300 = .ok (.invokestatic 164, 3) := by decide +kernel
theorem dlw_303 : decode code 303 = .ok (.istore 5, 2) := by decide +kernel
theorem dlw_305 : decode code 305 = .ok (.aload_n 2, 1) := by decide +kernel
theorem dlw_306 : decode code 306 = .ok (.aload_n 0, 1) := by decide +kernel
theorem dlw_307 : decode code 307 = .ok (.iload 4, 2) := by decide +kernel
theorem dlw_309 : decode code 309 = .ok (.iconst 1, 1) := by decide +kernel
theorem dlw_310 : decode code 310 = .ok (.iadd, 1) := by decide +kernel
theorem dlw_311 : decode code 311 = .ok (.iaload, 1) := by decide +kernel
theorem dlw_312 : decode code 312 = .ok (.aload_n 0, 1) := by decide +kernel
theorem dlw_313 : decode code 313 = .ok (.iload 4, 2) := by decide +kernel
theorem dlw_315 : decode code 315 = .ok (.iconst 2, 1) := by decide +kernel
theorem dlw_316 : decode code 316 = .ok (.iadd, 1) := by decide +kernel
theorem dlw_317 : decode code 317 = .ok (.iaload, 1) := by decide +kernel
theorem dlw_318 : decode code 318 = .ok (.aload_n 0, 1) := by decide +kernel
theorem dlw_319 : decode code 319 = .ok (.iload 4, 2) := by decide +kernel
theorem dlw_321 : decode code 321 = .ok (.iconst 3, 1) := by decide +kernel
theorem dlw_322 : decode code 322 = .ok (.iadd, 1) := by decide +kernel
theorem dlw_323 : decode code 323 = .ok (.iaload, 1) := by decide +kernel
theorem dlw_324 : decode code 324 = .ok (.aload_n 0, 1) := by decide +kernel
theorem dlw_325 : decode code 325 = .ok (.iload 4, 2) := by decide +kernel
theorem dlw_327 : decode code 327 = .ok (.iconst 4, 1) := by decide +kernel
theorem dlw_328 : decode code 328 = .ok (.iadd, 1) := by decide +kernel
theorem dlw_329 : decode code 329 = .ok (.iaload, 1) := by decide +kernel
theorem dlw_330 : decode code 330 = .ok (.aload_n 0, 1) := by decide +kernel
theorem dlw_331 : decode code 331 = .ok (.iload 4, 2) := by decide +kernel
theorem dlw_333 : decode code 333 = .ok (.iconst 5, 1) := by decide +kernel
theorem dlw_334 : decode code 334 = .ok (.iadd, 1) := by decide +kernel
theorem dlw_335 : decode code 335 = .ok (.iaload, 1) := by decide +kernel
theorem dlw_336 : decode code 336 = .ok (.invokevirtual 169, 3) := by decide +kernel
theorem dlw_339 : decode code 339 = .ok (.istore 6, 2) := by decide +kernel
theorem dlw_341 : decode code 341 = .ok (.aload_n 2, 1) := by decide +kernel
theorem dlw_342 : decode code 342 = .ok (.invokevirtual 170, 3) := by decide +kernel
theorem dlw_345 : decode code 345 = .ok (.iload 5, 2) := by decide +kernel
theorem dlw_347 : decode code 347 = .ok (.if_icmp .eq 5, 3) := by decide +kernel
theorem dlw_350 : decode code 350 = .ok (.iconst 0, 1) := by decide +kernel
theorem dlw_351 : decode code 351 = .ok (.ireturn, 1) := by decide +kernel
theorem dlw_352 : decode code 352 = .ok (.iload 5, 2) := by decide +kernel
theorem dlw_354 : decode code 354 = .ok (.ifCond .ne 15, 3) := by decide +kernel
theorem dlw_357 : decode code 357 = .ok (.aload_n 3, 1) := by decide +kernel
theorem dlw_358 : decode code 358 = .ok (.iconst 0, 1) := by decide +kernel
theorem dlw_359 : decode code 359 = .ok (.laload, 1) := by decide +kernel
theorem dlw_360 : decode code 360 = .ok (.iload 6, 2) := by decide +kernel
theorem dlw_362 : decode code 362 = .ok (.i2l, 1) := by decide +kernel
theorem dlw_363 : decode code 363 = .ok (.lcmp, 1) := by decide +kernel
theorem dlw_364 : decode code 364 = .ok (.ifCond .eq 5, 3) := by decide +kernel
theorem dlw_367 : decode code 367 = .ok (.iconst 0, 1) := by decide +kernel
theorem dlw_368 : decode code 368 = .ok (.ireturn, 1) := by decide +kernel
theorem dlw_369 : decode code 369 = .ok (.goto 2818, 3) := by decide +kernel
theorem dlw_372 : decode code 372 = .ok (.aload_n 1, 1) := by decide +kernel
theorem dlw_373 : decode code 373 = .ok (.aload_n 0, 1) := by decide +kernel
theorem dlw_374 : decode code 374 = .ok (.iload 4, 2) := by decide +kernel
theorem dlw_376 : decode code 376 = .ok (.iconst 1, 1) := by decide +kernel
theorem dlw_377 : decode code 377 = .ok (.iadd, 1) := by decide +kernel
theorem dlw_378 : decode code 378 = .ok (.iaload, 1) := by decide +kernel
theorem dlw_379 : decode code 379 = .ok (.aload_n 3, 1) := by decide +kernel
theorem dlw_380 : decode code 380 = .ok (.invokestatic 173, 3) := by decide +kernel
theorem dlw_383 : decode code 383 = .ok (.istore 5, 2) := by decide +kernel
theorem dlw_385 : decode code 385 = .ok (.aload_n 2, 1) := by decide +kernel
theorem dlw_386 : decode code 386 = .ok (.aload_n 0, 1) := by decide +kernel
theorem dlw_387 : decode code 387 = .ok (.iload 4, 2) := by decide +kernel
theorem dlw_389 : decode code 389 = .ok (.iconst 1, 1) := by decide +kernel
theorem dlw_390 : decode code 390 = .ok (.iadd, 1) := by decide +kernel
theorem dlw_391 : decode code 391 = .ok (.iaload, 1) := by decide +kernel
theorem dlw_392 : decode code 392 = .ok (.invokevirtual 176, 3) := by decide +kernel
theorem dlw_395 : decode code 395 = .ok (.istore 6, 2) := by decide +kernel
theorem dlw_397 : decode code 397 = .ok (.aload_n 2, 1) := by decide +kernel
theorem dlw_398 : decode code 398 = .ok (.invokevirtual 170, 3) := by decide +kernel
theorem dlw_401 : decode code 401 = .ok (.iload 5, 2) := by decide +kernel
theorem dlw_403 : decode code 403 = .ok (.if_icmp .eq 5, 3) := by decide +kernel
theorem dlw_406 : decode code 406 = .ok (.iconst 0, 1) := by decide +kernel
theorem dlw_407 : decode code 407 = .ok (.ireturn, 1) := by decide +kernel
theorem dlw_408 : decode code 408 = .ok (.iload 5, 2) := by decide +kernel
theorem dlw_410 : decode code 410 = .ok (.ifCond .ne 15, 3) := by decide +kernel
theorem dlw_413 : decode code 413 = .ok (.aload_n 3, 1) := by decide +kernel
theorem dlw_414 : decode code 414 = .ok (.iconst 0, 1) := by decide +kernel
theorem dlw_415 : decode code 415 = .ok (.laload, 1) := by decide +kernel
theorem dlw_416 : decode code 416 = .ok (.iload 6, 2) := by decide +kernel
theorem dlw_418 : decode code 418 = .ok (.i2l, 1) := by decide +kernel
theorem dlw_419 : decode code 419 = .ok (.lcmp, 1) := by decide +kernel
theorem dlw_420 : decode code 420 = .ok (.ifCond .eq 5, 3) := by decide +kernel
theorem dlw_423 : decode code 423 = .ok (.iconst 0, 1) := by decide +kernel
theorem dlw_424 : decode code 424 = .ok (.ireturn, 1) := by decide +kernel
theorem dlw_425 : decode code 425 = .ok (.goto 2762, 3) := by decide +kernel
theorem dlw_428 : decode code 428 = .ok (.aload_n 1, 1) := by decide +kernel
theorem dlw_429 : decode code 429 = .ok (.invokevirtual 177, 3) := by decide +kernel
theorem dlw_432 : decode code 432 = .ok (.aload_n 2, 1) := by decide +kernel
theorem dlw_433 : decode code 433 = .ok (.invokevirtual 180, 3) := by decide +kernel
theorem dlw_436 : decode code 436 = .ok (.if_icmp .eq 2751, 3) := by decide +kernel
theorem dlw_439 : decode code 439 = .ok (.iconst 0, 1) := by decide +kernel
theorem dlw_440 : decode code 440 = .ok (.ireturn, 1) := by decide +kernel
theorem dlw_441 : decode code 441 = .ok (.aload_n 1, 1) := by decide +kernel
theorem dlw_442 : decode code 442 = .ok (.aload_n 3, 1) := by decide +kernel
theorem dlw_443 : decode code 443 = .ok (.invokestatic 181, 3) := by decide +kernel
theorem dlw_446 : decode code 446 = .ok (.istore 5, 2) := by decide +kernel
theorem dlw_448 : decode code 448 = .ok (.aload_n 2, 1) := by decide +kernel
theorem dlw_449 : decode code 449 = .ok (.invokevirtual 184, 3) := by decide +kernel
theorem dlw_452 : decode code 452 = .ok (.istore 6, 2) := by decide +kernel
theorem dlw_454 : decode code 454 = .ok (.aload_n 2, 1) := by decide +kernel
