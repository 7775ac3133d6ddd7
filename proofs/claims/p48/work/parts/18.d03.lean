theorem dL_law_304 : decode cL_law 304 = .ok (.aload_n 2, 1) := by decide +kernel
theorem dL_law_305 : decode cL_law 305 = .ok (.iload 5, 2) := by decide +kernel
theorem dL_law_307 : decode cL_law 307 = .ok (.iload 7, 2) := by decide +kernel
theorem dL_law_309 : decode cL_law 309 = .ok (.invokestatic 183, 3) := by decide +kernel
theorem dL_law_312 : decode cL_law 312 = .ok (.goto 4, 3) := by decide +kernel
theorem dL_law_315 : decode cL_law 315 = .ok (.iconst 0, 1) := by decide +kernel
theorem dL_law_316 : decode cL_law 316 = .ok (.istore 8, 2) := by decide +kernel
theorem dL_law_318 : decode cL_law 318 = .ok (.iload 8, 2) := by decide +kernel
theorem dL_law_320 : decode cL_law 320 = .ok (.bipush (-100), 2) := by decide +kernel
theorem dL_law_322 : decode cL_law 322 = .ok (.if_icmp .eq 29, 3) := by decide +kernel
theorem dL_law_325 : decode cL_law 325 = .ok (.iload 8, 2) := by decide +kernel
theorem dL_law_327 : decode cL_law 327 = .ok (.iconst (-1), 1) := by decide +kernel
theorem dL_law_328 : decode cL_law 328 = .ok (.if_icmp .ge 25, 3) := by decide +kernel
theorem dL_law_331 : decode cL_law 331 = .ok (.iload 8, 2) := by decide +kernel
theorem dL_law_333 : decode cL_law 333 = .ok (.bipush (-9), 2) := by decide +kernel
theorem dL_law_335 : decode cL_law 335 = .ok (.if_icmp .le 18, 3) := by decide +kernel
theorem dL_law_338 : decode cL_law 338 = .ok (.aload 6, 2) := by decide +kernel
theorem dL_law_340 : decode cL_law 340 = .ok (.aload_n 1, 1) := by decide +kernel
theorem dL_law_341 : decode cL_law 341 = .ok (.aload_n 2, 1) := by decide +kernel
theorem dL_law_342 : decode cL_law 342 = .ok (.invokestatic 179, 3) := by decide +kernel
theorem dL_law_345 : decode cL_law 345 = .ok (.invokestatic 187, 3) := by decide +kernel
theorem dL_law_348 : decode cL_law 348 = .ok (.ifCond .ne 5, 3) := by decide +kernel
theorem dL_law_351 : decode cL_law 351 = .ok (.iconst 0, 1) := by decide +kernel
theorem dL_law_352 : decode cL_law 352 = .ok (.ireturn, 1) := by decide +kernel
theorem dL_law_353 : decode cL_law 353 = .ok (.iload 7, 2) := by decide +kernel
theorem dL_law_355 : decode cL_law 355 = .ok (.bipush 11, 2) := by decide +kernel
theorem dL_law_357 : decode cL_law 357 = .ok (.if_icmp .eq 10, 3) := by decide +kernel
theorem dL_law_360 : decode cL_law 360 = .ok (.iload 7, 2) := by decide +kernel
theorem dL_law_362 : decode cL_law 362 = .ok (.bipush 12, 2) := by decide +kernel
theorem dL_law_364 : decode cL_law 364 = .ok (.if_icmp .ne 34, 3) := by decide +kernel
theorem dL_law_367 : decode cL_law 367 = .ok (.aload_n 1, 1) := by decide +kernel
theorem dL_law_368 : decode cL_law 368 = .ok (.aload_n 2, 1) := by decide +kernel
theorem dL_law_369 : decode cL_law 369 = .ok (.invokestatic 191, 3) := by decide +kernel
theorem dL_law_372 : decode cL_law 372 = .ok (.lstore 9, 2) := by decide +kernel
theorem dL_law_374 : decode cL_law 374 = .ok (.aload_n 1, 1) := by decide +kernel
theorem dL_law_375 : decode cL_law 375 = .ok (.invokevirtual 194, 3) := by decide +kernel
theorem dL_law_378 : decode cL_law 378 = .ok (.istore 11, 2) := by decide +kernel
theorem dL_law_380 : decode cL_law 380 = .ok (.iload 11, 2) := by decide +kernel
theorem dL_law_382 : decode cL_law 382 = .ok (.ifCond .lt 14, 3) := by decide +kernel
theorem dL_law_385 : decode cL_law 385 = .ok (.aload_n 1, 1) := by decide +kernel
theorem dL_law_386 : decode cL_law 386 = .ok (.aload_n 2, 1) := by decide +kernel
theorem dL_law_387 : decode cL_law 387 = .ok (.invokestatic 191, 3) := by decide +kernel
theorem dL_law_390 : decode cL_law 390 = .ok (.lload 9, 2) := by decide +kernel
theorem dL_law_392 : decode cL_law 392 = .ok (.lcmp, 1) := by decide +kernel
theorem dL_law_393 : decode cL_law 393 = .ok (.ifCond .eq 5, 3) := by decide +kernel
theorem dL_law_396 : decode cL_law 396 = .ok (.iconst 0, 1) := by decide +kernel
theorem dL_law_397 : decode cL_law 397 = .ok (.ireturn, 1) := by decide +kernel
theorem dL_law_398 : decode cL_law 398 = .ok (.iload 7, 2) := by decide +kernel
theorem dL_law_400 : decode cL_law 400 = .ok (.bipush 13, 2) := by decide +kernel
theorem dL_law_402 : decode cL_law 402 = .ok (.if_icmp .ne 33, 3) := by decide +kernel
theorem dL_law_405 : decode cL_law 405 = .ok (.aload_n 1, 1) := by decide +kernel
theorem dL_law_406 : decode cL_law 406 = .ok (.invokevirtual 97, 3) := by decide +kernel
theorem dL_law_409 : decode cL_law 409 = .ok (.istore 9, 2) := by decide +kernel
theorem dL_law_411 : decode cL_law 411 = .ok (.aload_n 1, 1) := by decide +kernel
theorem dL_law_412 : decode cL_law 412 = .ok (.invokevirtual 197, 3) := by decide +kernel
theorem dL_law_415 : decode cL_law 415 = .ok (.istore 10, 2) := by decide +kernel
theorem dL_law_417 : decode cL_law 417 = .ok (.iload 10, 2) := by decide +kernel
theorem dL_law_419 : decode cL_law 419 = .ok (.ifCond .lt 14, 3) := by decide +kernel
theorem dL_law_422 : decode cL_law 422 = .ok (.aload_n 1, 1) := by decide +kernel
theorem dL_law_423 : decode cL_law 423 = .ok (.invokevirtual 97, 3) := by decide +kernel
