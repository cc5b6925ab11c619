theorem d_L_shift_266 : decode method_6_code 266 = .ok (.aload_n 0, 1) := by decide +kernel
theorem d_L_shift_267 : decode method_6_code 267 = .ok (.iload 15, 2) := by decide +kernel
theorem d_L_shift_269 : decode method_6_code 269 = .ok (.iconst 1, 1) := by decide +kernel
theorem d_L_shift_270 : decode method_6_code 270 = .ok (.invokevirtual 47, 3) := by decide +kernel
theorem d_L_shift_273 : decode method_6_code 273 = .ok (.aload_n 0, 1) := by decide +kernel
theorem d_L_shift_274 : decode method_6_code 274 = .ok (.iload 21, 2) := by decide +kernel
theorem d_L_shift_276 : decode method_6_code 276 = .ok (.iconst 1, 1) := by decide +kernel
theorem d_L_shift_277 : decode method_6_code 277 = .ok (.invokevirtual 47, 3) := by decide +kernel
theorem d_L_shift_280 : decode method_6_code 280 = .ok (.isub, 1) := by decide +kernel
theorem d_L_shift_281 : decode method_6_code 281 = .ok (.istore 23, 2) := by decide +kernel
theorem d_L_shift_283 : decode method_6_code 283 = .ok (.iload 15, 2) := by decide +kernel
theorem d_L_shift_285 : decode method_6_code 285 = .ok (.ifCond .ge 8, 3) := by decide +kernel
theorem d_L_shift_288 : decode method_6_code 288 = .ok (.iload 22, 2) := by decide +kernel
theorem d_L_shift_290 : decode method_6_code 290 = .ok (.goto 33, 3) := by decide +kernel
theorem d_L_shift_293 : decode method_6_code 293 = .ok (.iload 15, 2) := by decide +kernel
theorem d_L_shift_295 : decode method_6_code 295 = .ok (.iload 21, 2) := by decide +kernel
theorem d_L_shift_297 : decode method_6_code 297 = .ok (.if_icmp .ne 7, 3) := by decide +kernel
theorem d_L_shift_300 : decode method_6_code 300 = .ok (.iconst 0, 1) := by decide +kernel
theorem d_L_shift_301 : decode method_6_code 301 = .ok (.goto 22, 3) := by decide +kernel
theorem d_L_shift_304 : decode method_6_code 304 = .ok (.bipush 10, 2) := by decide +kernel
theorem d_L_shift_306 : decode method_6_code 306 = .ok (.iload 23, 2) := by decide +kernel
theorem d_L_shift_308 : decode method_6_code 308 = .ok (.ifCond .ge 9, 3) := by decide +kernel
theorem d_L_shift_311 : decode method_6_code 311 = .ok (.iload 23, 2) := by decide +kernel
theorem d_L_shift_313 : decode method_6_code 313 = .ok (.ineg, 1) := by decide +kernel
theorem d_L_shift_314 : decode method_6_code 314 = .ok (.goto 5, 3) := by decide +kernel
theorem d_L_shift_317 : decode method_6_code 317 = .ok (.iload 23, 2) := by decide +kernel
theorem d_L_shift_319 : decode method_6_code 319 = .ok (.imul, 1) := by decide +kernel
theorem d_L_shift_320 : decode method_6_code 320 = .ok (.bipush 50, 2) := by decide +kernel
theorem d_L_shift_322 : decode method_6_code 322 = .ok (.iadd, 1) := by decide +kernel
theorem d_L_shift_323 : decode method_6_code 323 = .ok (.istore 24, 2) := by decide +kernel
theorem d_L_shift_325 : decode method_6_code 325 = .ok (.iload 24, 2) := by decide +kernel
theorem d_L_shift_327 : decode method_6_code 327 = .ok (.iload 22, 2) := by decide +kernel
theorem d_L_shift_329 : decode method_6_code 329 = .ok (.iadd, 1) := by decide +kernel
theorem d_L_shift_330 : decode method_6_code 330 = .ok (.iload 12, 2) := by decide +kernel
theorem d_L_shift_332 : decode method_6_code 332 = .ok (.if_icmp .le 9, 3) := by decide +kernel
theorem d_L_shift_335 : decode method_6_code 335 = .ok (.iconst 1, 1) := by decide +kernel
theorem d_L_shift_336 : decode method_6_code 336 = .ok (.istore 16, 2) := by decide +kernel
theorem d_L_shift_338 : decode method_6_code 338 = .ok (.goto 308, 3) := by decide +kernel
theorem d_L_shift_341 : decode method_6_code 341 = .ok (.iload 12, 2) := by decide +kernel
theorem d_L_shift_343 : decode method_6_code 343 = .ok (.iload 24, 2) := by decide +kernel
theorem d_L_shift_345 : decode method_6_code 345 = .ok (.isub, 1) := by decide +kernel
theorem d_L_shift_346 : decode method_6_code 346 = .ok (.istore 12, 2) := by decide +kernel
theorem d_L_shift_348 : decode method_6_code 348 = .ok (.iload 21, 2) := by decide +kernel
theorem d_L_shift_350 : decode method_6_code 350 = .ok (.istore 15, 2) := by decide +kernel
theorem d_L_shift_352 : decode method_6_code 352 = .ok (.aload_n 0, 1) := by decide +kernel
theorem d_L_shift_353 : decode method_6_code 353 = .ok (.iload 21, 2) := by decide +kernel
theorem d_L_shift_355 : decode method_6_code 355 = .ok (.iconst 0, 1) := by decide +kernel
theorem d_L_shift_356 : decode method_6_code 356 = .ok (.invokevirtual 47, 3) := by decide +kernel
theorem d_L_shift_359 : decode method_6_code 359 = .ok (.istore 25, 2) := by decide +kernel
theorem d_L_shift_361 : decode method_6_code 361 = .ok (.aload 5, 2) := by decide +kernel
