theorem d_L_town_332 : decode method_4_code 332 = .ok (.sipush 300, 3) := by decide +kernel
theorem d_L_town_335 : decode method_4_code 335 = .ok (.if_icmp .ne 90, 3) := by decide +kernel
theorem d_L_town_338 : decode method_4_code 338 = .ok (.aload_n 0, 1) := by decide +kernel
theorem d_L_town_339 : decode method_4_code 339 = .ok (.iconst 3, 1) := by decide +kernel
theorem d_L_town_340 : decode method_4_code 340 = .ok (.bipush 100, 2) := by decide +kernel
theorem d_L_town_342 : decode method_4_code 342 = .ok (.iload 6, 2) := by decide +kernel
theorem d_L_town_344 : decode method_4_code 344 = .ok (.bipush 8, 2) := by decide +kernel
theorem d_L_town_346 : decode method_4_code 346 = .ok (.ishr, 1) := by decide +kernel
theorem d_L_town_347 : decode method_4_code 347 = .ok (.iload 6, 2) := by decide +kernel
theorem d_L_town_349 : decode method_4_code 349 = .ok (.bipush 21, 2) := by decide +kernel
theorem d_L_town_351 : decode method_4_code 351 = .ok (.ishr, 1) := by decide +kernel
theorem d_L_town_352 : decode method_4_code 352 = .ok (.iconst 2, 1) := by decide +kernel
theorem d_L_town_353 : decode method_4_code 353 = .ok (.invokestatic 16, 3) := by decide +kernel
theorem d_L_town_356 : decode method_4_code 356 = .ok (.ifCond .ne 9, 3) := by decide +kernel
theorem d_L_town_359 : decode method_4_code 359 = .ok (.sipush 900, 3) := by decide +kernel
theorem d_L_town_362 : decode method_4_code 362 = .ok (.goto 6, 3) := by decide +kernel
theorem d_L_town_365 : decode method_4_code 365 = .ok (.sipush 3000, 3) := by decide +kernel
theorem d_L_town_368 : decode method_4_code 368 = .ok (.invokestatic 16, 3) := by decide +kernel
theorem d_L_town_371 : decode method_4_code 371 = .ok (.iadd, 1) := by decide +kernel
theorem d_L_town_372 : decode method_4_code 372 = .ok (.invokevirtual 37, 3) := by decide +kernel
theorem d_L_town_375 : decode method_4_code 375 = .ok (.sipush 2400, 3) := by decide +kernel
theorem d_L_town_378 : decode method_4_code 378 = .ok (.if_icmp .ne 47, 3) := by decide +kernel
theorem d_L_town_381 : decode method_4_code 381 = .ok (.aload_n 0, 1) := by decide +kernel
theorem d_L_town_382 : decode method_4_code 382 = .ok (.iconst 4, 1) := by decide +kernel
theorem d_L_town_383 : decode method_4_code 383 = .ok (.iload 6, 2) := by decide +kernel
theorem d_L_town_385 : decode method_4_code 385 = .ok (.bipush 12, 2) := by decide +kernel
theorem d_L_town_387 : decode method_4_code 387 = .ok (.ishr, 1) := by decide +kernel
theorem d_L_town_388 : decode method_4_code 388 = .ok (.sipush 1001, 3) := by decide +kernel
theorem d_L_town_391 : decode method_4_code 391 = .ok (.invokestatic 16, 3) := by decide +kernel
theorem d_L_town_394 : decode method_4_code 394 = .ok (.invokevirtual 37, 3) := by decide +kernel
theorem d_L_town_397 : decode method_4_code 397 = .ok (.sipush 200, 3) := by decide +kernel
theorem d_L_town_400 : decode method_4_code 400 = .ok (.if_icmp .ne 25, 3) := by decide +kernel
theorem d_L_town_403 : decode method_4_code 403 = .ok (.aload_n 0, 1) := by decide +kernel
theorem d_L_town_404 : decode method_4_code 404 = .ok (.iconst 2, 1) := by decide +kernel
theorem d_L_town_405 : decode method_4_code 405 = .ok (.iload 6, 2) := by decide +kernel
theorem d_L_town_407 : decode method_4_code 407 = .ok (.bipush 16, 2) := by decide +kernel
theorem d_L_town_409 : decode method_4_code 409 = .ok (.ishr, 1) := by decide +kernel
theorem d_L_town_410 : decode method_4_code 410 = .ok (.iconst 3, 1) := by decide +kernel
theorem d_L_town_411 : decode method_4_code 411 = .ok (.invokestatic 16, 3) := by decide +kernel
theorem d_L_town_414 : decode method_4_code 414 = .ok (.invokevirtual 37, 3) := by decide +kernel
theorem d_L_town_417 : decode method_4_code 417 = .ok (.iconst 1, 1) := by decide +kernel
theorem d_L_town_418 : decode method_4_code 418 = .ok (.if_icmp .ne 7, 3) := by decide +kernel
theorem d_L_town_421 : decode method_4_code 421 = .ok (.iconst 1, 1) := by decide +kernel
theorem d_L_town_422 : decode method_4_code 422 = .ok (.goto 4, 3) := by decide +kernel
theorem d_L_town_425 : decode method_4_code 425 = .ok (.iconst 0, 1) := by decide +kernel
theorem d_L_town_426 : decode method_4_code 426 = .ok (.ireturn, 1) := by decide +kernel
