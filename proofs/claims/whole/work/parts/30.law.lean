theorem d_L_law_16 : decode code 16 = .ok (.iconst 0, 1) := by decide +kernel
theorem d_L_law_17 : decode code 17 = .ok (.istore_n 3, 1) := by decide +kernel
theorem d_L_law_18 : decode code 18 = .ok (.iload_n 3, 1) := by decide +kernel
theorem d_L_law_19 : decode code 19 = .ok (.aload_n 0, 1) := by decide +kernel
theorem d_L_law_20 : decode code 20 = .ok (.arraylength, 1) := by decide +kernel
theorem d_L_law_21 : decode code 21 = .ok (.iconst 5, 1) := by decide +kernel
theorem d_L_law_22 : decode code 22 = .ok (.isub, 1) := by decide +kernel
theorem d_L_law_23 : decode code 23 = .ok (.if_icmp .gt 866, 3) := by decide +kernel
theorem d_L_law_26 : decode code 26 = .ok (.aload_n 0, 1) := by decide +kernel
theorem d_L_law_27 : decode code 27 = .ok (.iload_n 3, 1) := by decide +kernel
theorem d_L_law_28 : decode code 28 = .ok (.iaload, 1) := by decide +kernel
theorem d_L_law_29 : decode code 29 = .ok (.bipush 31, 2) := by decide +kernel
theorem d_L_law_31 : decode code 31 = .ok (.iand, 1) := by decide +kernel
theorem d_L_law_32 : decode code 32 = .ok (.tableswitch 851 0 25 #[120, 143, 156, 179, 192, 235, 258, 311, 380, 433, 466, 499, 532, 555, 588, 601, 624, 647, 670, 693, 706, 755, 778, 801, 814, 837], 120) := by decide +kernel
theorem d_L_law_152 : decode code 152 = .ok (.aload_n 1, 1) := by decide +kernel
theorem d_L_law_153 : decode code 153 = .ok (.aload_n 0, 1) := by decide +kernel
theorem d_L_law_154 : decode code 154 = .ok (.iload_n 3, 1) := by decide +kernel
theorem d_L_law_155 : decode code 155 = .ok (.iconst 1, 1) := by decide +kernel
theorem d_L_law_156 : decode code 156 = .ok (.iadd, 1) := by decide +kernel
theorem d_L_law_157 : decode code 157 = .ok (.iaload, 1) := by decide +kernel
theorem d_L_law_158 : decode code 158 = .ok (.invokevirtual 13, 3) := by decide +kernel
theorem d_L_law_161 : decode code 161 = .ok (.aload_n 2, 1) := by decide +kernel
theorem d_L_law_162 : decode code 162 = .ok (.aload_n 0, 1) := by decide +kernel
theorem d_L_law_163 : decode code 163 = .ok (.iload_n 3, 1) := by decide +kernel
theorem d_L_law_164 : decode code 164 = .ok (.iconst 1, 1) := by decide +kernel
theorem d_L_law_165 : decode code 165 = .ok (.iadd, 1) := by decide +kernel
theorem d_L_law_166 : decode code 166 = .ok (.iaload, 1) := by decide +kernel
theorem d_L_law_167 : decode code 167 = .ok (.invokevirtual 17, 3) := by decide +kernel
theorem d_L_law_170 : decode code 170 = .ok (.if_icmp .eq 713, 3) := by decide +kernel
theorem d_L_law_173 : decode code 173 = .ok (.iconst 0, 1) := by decide +kernel
theorem d_L_law_174 : decode code 174 = .ok (.ireturn, 1) := by decide +kernel
theorem d_L_law_175 : decode code 175 = .ok (.aload_n 1, 1) := by decide +kernel
theorem d_L_law_176 : decode code 176 = .ok (.invokevirtual 18, 3) := by decide +kernel
theorem d_L_law_179 : decode code 179 = .ok (.aload_n 2, 1) := by decide +kernel
theorem d_L_law_180 : decode code 180 = .ok (.invokevirtual 22, 3) := by decide +kernel
theorem d_L_law_183 : decode code 183 = .ok (.if_icmp .eq 700, 3) := by decide +kernel
theorem d_L_law_186 : decode code 186 = .ok (.iconst 0, 1) := by decide +kernel
theorem d_L_law_187 : decode code 187 = .ok (.ireturn, 1) := by decide +kernel
theorem d_L_law_188 : decode code 188 = .ok (.aload_n 1, 1) := by decide +kernel
theorem d_L_law_189 : decode code 189 = .ok (.aload_n 0, 1) := by decide +kernel
theorem d_L_law_190 : decode code 190 = .ok (.iload_n 3, 1) := by decide +kernel
theorem d_L_law_191 : decode code 191 = .ok (.iconst 1, 1) := by decide +kernel
theorem d_L_law_192 : decode code 192 = .ok (.iadd, 1) := by decide +kernel
theorem d_L_law_193 : decode code 193 = .ok (.iaload, 1) := by decide +kernel
theorem d_L_law_194 : decode code 194 = .ok (.invokevirtual 23, 3) := by decide +kernel
theorem d_L_law_197 : decode code 197 = .ok (.aload_n 2, 1) := by decide +kernel
theorem d_L_law_198 : decode code 198 = .ok (.aload_n 0, 1) := by decide +kernel
theorem d_L_law_199 : decode code 199 = .ok (.iload_n 3, 1) := by decide +kernel
theorem d_L_law_200 : decode code 200 = .ok (.iconst 1, 1) := by decide +kernel
theorem d_L_law_201 : decode code 201 = .ok (.iadd, 1) := by decide +kernel
theorem d_L_law_202 : decode code 202 = .ok (.iaload, 1) := by decide +kernel
theorem d_L_law_203 : decode code 203 = .ok (.invokevirtual 26, 3) := by decide +kernel
theorem d_L_law_206 : decode code 206 = .ok (.if_icmp .eq 677, 3) := by decide +kernel
theorem d_L_law_209 : decode code 209 = .ok (.iconst 0, 1) := by decide +kernel
theorem d_L_law_210 : decode code 210 = .ok (.ireturn, 1) := by decide +kernel
theorem d_L_law_211 : decode code 211 = .ok (.aload_n 1, 1) := by decide +kernel
theorem d_L_law_212 : decode code 212 = .ok (.invokevirtual 27, 3) := by decide +kernel
theorem d_L_law_215 : decode code 215 = .ok (.aload_n 2, 1) := by decide +kernel
theorem d_L_law_216 : decode code 216 = .ok (.invokevirtual 30, 3) := by decide +kernel
theorem d_L_law_219 : decode code 219 = .ok (.if_icmp .eq 664, 3) := by decide +kernel
theorem d_L_law_222 : decode code 222 = .ok (.iconst 0, 1) := by decide +kernel
theorem d_L_law_223 : decode code 223 = .ok (.ireturn, 1) := by decide +kernel
theorem d_L_law_224 : decode code 224 = .ok (.aload_n 1, 1) := by decide +kernel
theorem d_L_law_225 : decode code 225 = .ok (.aload_n 0, 1) := by decide +kernel
theorem d_L_law_226 : decode code 226 = .ok (.iload_n 3, 1) := by decide +kernel
theorem d_L_law_227 : decode code 227 = .ok (.iconst 1, 1) := by decide +kernel
theorem d_L_law_228 : decode code 228 = .ok (.iadd, 1) := by decide +kernel
theorem d_L_law_229 : decode code 229 = .ok (.iaload, 1) := by decide +kernel
theorem d_L_law_230 : decode code 230 = .ok (.aload_n 0, 1) := by decide +kernel
theorem d_L_law_231 : decode code 231 = .ok (.iload_n 3, 1) := by decide +kernel
theorem d_L_law_232 : decode code 232 = .ok (.iconst 2, 1) := by decide +kernel
theorem d_L_law_233 : decode code 233 = .ok (.iadd, 1) := by decide +kernel
theorem d_L_law_234 : decode code 234 = .ok (.iaload, 1) := by decide +kernel
theorem d_L_law_235 : decode code 235 = .ok (.aload_n 0, 1) := by decide +kernel
theorem d_L_law_236 : decode code 236 = .ok (.iload_n 3, 1) := by decide +kernel
theorem d_L_law_237 : decode code 237 = .ok (.iconst 3, 1) := by decide +kernel
theorem d_L_law_238 : decode code 238 = .ok (.iadd, 1) := by decide +kernel
theorem d_L_law_239 : decode code 239 = .ok (.iaload, 1) := by decide +kernel
theorem d_L_law_240 : decode code 240 = .ok (.invokevirtual 31, 3) := by decide +kernel
theorem d_L_law_243 : decode code 243 = .ok (.aload_n 2, 1) := by decide +kernel
theorem d_L_law_244 : decode code 244 = .ok (.aload_n 0, 1) := by decide +kernel
theorem d_L_law_245 : decode code 245 = .ok (.iload_n 3, 1) := by decide +kernel
theorem d_L_law_246 : decode code 246 = .ok (.iconst 1, 1) := by decide +kernel
theorem d_L_law_247 : decode code 247 = .ok (.iadd, 1) := by decide +kernel
theorem d_L_law_248 : decode code 248 = .ok (.iaload, 1) := by decide +kernel
theorem d_L_law_249 : decode code 249 = .ok (.aload_n 0, 1) := by decide +kernel
theorem d_L_law_250 : decode code 250 = .ok (.iload_n 3, 1) := by decide +kernel
theorem d_L_law_251 : decode code 251 = .ok (.iconst 2, 1) := by decide +kernel
theorem d_L_law_252 : decode code 252 = .ok (.iadd, 1) := by decide +kernel
theorem d_L_law_253 : decode code 253 = .ok (.iaload, 1) := by decide +kernel
theorem d_L_law_254 : decode code 254 = .ok (.aload_n 0, 1) := by decide +kernel
theorem d_L_law_255 : decode code 255 = .ok (.iload_n 3, 1) := by decide +kernel
theorem d_L_law_256 : decode code 256 = .ok (.iconst 3, 1) := by decide +kernel
theorem d_L_law_257 : decode code 257 = .ok (.iadd, 1) := by decide +kernel
theorem d_L_law_258 : decode code 258 = .ok (.iaload, 1) := by decide +kernel
theorem d_L_law_259 : decode code 259 = .ok (.invokevirtual 35, 3) := by decide +kernel
theorem d_L_law_262 : decode code 262 = .ok (.if_icmp .eq 621, 3) := by decide +kernel
theorem d_L_law_265 : decode code 265 = .ok (.iconst 0, 1) := by decide +kernel
theorem d_L_law_266 : decode code 266 = .ok (.ireturn, 1) := by decide +kernel
theorem d_L_law_267 : decode code 267 = .ok (.aload_n 1, 1) := by decide +kernel
theorem d_L_law_268 : decode code 268 = .ok (.aload_n 0, 1) := by decide +kernel
theorem d_L_law_269 : decode code 269 = .ok (.iload_n 3, 1) := by decide +kernel
theorem d_L_law_270 : decode code 270 = .ok (.iconst 1, 1) := by decide +kernel
theorem d_L_law_271 : decode code 271 = .ok (.iadd, 1) := by decide +kernel
theorem d_L_law_272 : decode code 272 = .ok (.iaload, 1) := by decide +kernel
theorem d_L_law_273 : decode code 273 = .ok (.invokevirtual 36, 3) := by decide +kernel
theorem d_L_law_276 : decode code 276 = .ok (.aload_n 2, 1) := by decide +kernel
theorem d_L_law_277 : decode code 277 = .ok (.aload_n 0, 1) := by decide +kernel
theorem d_L_law_278 : decode code 278 = .ok (.iload_n 3, 1) := by decide +kernel
theorem d_L_law_279 : decode code 279 = .ok (.iconst 1, 1) := by decide +kernel
theorem d_L_law_280 : decode code 280 = .ok (.iadd, 1) := by decide +kernel
theorem d_L_law_281 : decode code 281 = .ok (.iaload, 1) := by decide +kernel
theorem d_L_law_282 : decode code 282 = .ok (.invokevirtual 39, 3) := by decide +kernel
theorem d_L_law_285 : decode code 285 = .ok (.if_icmp .eq 598, 3) := by decide +kernel
theorem d_L_law_288 : decode code 288 = .ok (.iconst 0, 1) := by decide +kernel
theorem d_L_law_289 : decode code 289 = .ok (.ireturn, 1) := by decide +kernel
theorem d_L_law_290 : decode code 290 = .ok (.aload_n 1, 1) := by decide +kernel
theorem d_L_law_291 : decode code 291 = .ok (.aload_n 0, 1) := by decide +kernel
theorem d_L_law_292 : decode code 292 = .ok (.iload_n 3, 1) := by decide +kernel
theorem d_L_law_293 : decode code 293 = .ok (.iconst 1, 1) := by decide +kernel
theorem d_L_law_294 : decode code 294 = .ok (.iadd, 1) := by decide +kernel
theorem d_L_law_295 : decode code 295 = .ok (.iaload, 1) := by decide +kernel
theorem d_L_law_296 : decode code 296 = .ok (.aload_n 0, 1) := by decide +kernel
theorem d_L_law_297 : decode code 297 = .ok (.iload_n 3, 1) := by decide +kernel
theorem d_L_law_298 : decode code 298 = .ok (.iconst 2, 1) := by decide +kernel
theorem d_L_law_299 : decode code 299 = .ok (.iadd, 1) := by decide +kernel
theorem d_L_law_300 : decode code 300 = .ok (.iaload, 1) := by decide +kernel
theorem d_L_law_301 : decode code 301 = .ok (.aload_n 0, 1) := by decide +kernel
theorem d_L_law_302 : decode code 302 = .ok (.iload_n 3, 1) := by decide +kernel
theorem d_L_law_303 : decode code 303 = .ok (.iconst 3, 1) := by decide +kernel
theorem d_L_law_304 : decode code 304 = .ok (.iadd, 1) := by decide +kernel
theorem d_L_law_305 : decode code 305 = .ok (.iaload, 1) := by decide +kernel
theorem d_L_law_306 : decode code 306 = .ok (.aload_n 0, 1) := by decide +kernel
theorem d_L_law_307 : decode code 307 = .ok (.iload_n 3, 1) := by decide +kernel
theorem d_L_law_308 : decode code 308 = .ok (.iconst 4, 1) := by decide +kernel
theorem d_L_law_309 : decode code 309 = .ok (.iadd, 1) := by decide +kernel
theorem d_L_law_310 : decode code 310 = .ok (.iaload, 1) := by decide +kernel
theorem d_L_law_311 : decode code 311 = .ok (.invokevirtual 40, 3) := by decide +kernel
theorem d_L_law_314 : decode code 314 = .ok (.aload_n 2, 1) := by decide +kernel
theorem d_L_law_315 : decode code 315 = .ok (.aload_n 0, 1) := by decide +kernel
theorem d_L_law_316 : decode code 316 = .ok (.iload_n 3, 1) := by decide +kernel
theorem d_L_law_317 : decode code 317 = .ok (.iconst 1, 1) := by decide +kernel
theorem d_L_law_318 : decode code 318 = .ok (.iadd, 1) := by decide +kernel
theorem d_L_law_319 : decode code 319 = .ok (.iaload, 1) := by decide +kernel
theorem d_L_law_320 : decode code 320 = .ok (.aload_n 0, 1) := by decide +kernel
theorem d_L_law_321 : decode code 321 = .ok (.iload_n 3, 1) := by decide +kernel
theorem d_L_law_322 : decode code 322 = .ok (.iconst 2, 1) := by decide +kernel
theorem d_L_law_323 : decode code 323 = .ok (.iadd, 1) := by decide +kernel
theorem d_L_law_324 : decode code 324 = .ok (.iaload, 1) := by decide +kernel
theorem d_L_law_325 : decode code 325 = .ok (.aload_n 0, 1) := by decide +kernel
theorem d_L_law_326 : decode code 326 = .ok (.iload_n 3, 1) := by decide +kernel
theorem d_L_law_327 : decode code 327 = .ok (.iconst 3, 1) := by decide +kernel
theorem d_L_law_328 : decode code 328 = .ok (.iadd, 1) := by decide +kernel
theorem d_L_law_329 : decode code 329 = .ok (.iaload, 1) := by decide +kernel
theorem d_L_law_330 : decode code 330 = .ok (.aload_n 0, 1) := by decide +kernel
theorem d_L_law_331 : decode code 331 = .ok (.iload_n 3, 1) := by decide +kernel
theorem d_L_law_332 : decode code 332 = .ok (.iconst 4, 1) := by decide +kernel
theorem d_L_law_333 : decode code 333 = .ok (.iadd, 1) := by decide +kernel
theorem d_L_law_334 : decode code 334 = .ok (.iaload, 1) := by decide +kernel
theorem d_L_law_335 : decode code 335 = .ok (.invokevirtual 44, 3) := by decide +kernel
theorem d_L_law_338 : decode code 338 = .ok (.if_icmp .eq 545, 3) := by decide +kernel
theorem d_L_law_341 : decode code 341 = .ok (.iconst 0, 1) := by decide +kernel
theorem d_L_law_342 : decode code 342 = .ok (.ireturn, 1) := by decide +kernel
theorem d_L_law_343 : decode code 343 = .ok (.aload_n 1, 1) := by decide +kernel
theorem d_L_law_344 : decode code 344 = .ok (.aload_n 0, 1) := by decide +kernel
theorem d_L_law_345 : decode code 345 = .ok (.iload_n 3, 1) := by decide +kernel
theorem d_L_law_346 : decode code 346 = .ok (.iconst 1, 1) := by decide +kernel
theorem d_L_law_347 : decode code 347 = .ok (.iadd, 1) := by decide +kernel
theorem d_L_law_348 : decode code 348 = .ok (.iaload, 1) := by decide +kernel
theorem d_L_law_349 : decode code 349 = .ok (.aload_n 0, 1) := by decide +kernel
theorem d_L_law_350 : decode code 350 = .ok (.iload_n 3, 1) := by decide +kernel
theorem d_L_law_351 : decode code 351 = .ok (.iconst 2, 1) := by decide +kernel
theorem d_L_law_352 : decode code 352 = .ok (.iadd, 1) := by decide +kernel
theorem d_L_law_353 : decode code 353 = .ok (.iaload, 1) := by decide +kernel
theorem d_L_law_354 : decode code 354 = .ok (.aload_n 0, 1) := by decide +kernel
theorem d_L_law_355 : decode code 355 = .ok (.iload_n 3, 1) := by decide +kernel
theorem d_L_law_356 : decode code 356 = .ok (.iconst 3, 1) := by decide +kernel
theorem d_L_law_357 : decode code 357 = .ok (.iadd, 1) := by decide +kernel
theorem d_L_law_358 : decode code 358 = .ok (.iaload, 1) := by decide +kernel
theorem d_L_law_359 : decode code 359 = .ok (.aload_n 0, 1) := by decide +kernel
theorem d_L_law_360 : decode code 360 = .ok (.iload_n 3, 1) := by decide +kernel
theorem d_L_law_361 : decode code 361 = .ok (.iconst 4, 1) := by decide +kernel
theorem d_L_law_362 : decode code 362 = .ok (.iadd, 1) := by decide +kernel
theorem d_L_law_363 : decode code 363 = .ok (.iaload, 1) := by decide +kernel
theorem d_L_law_364 : decode code 364 = .ok (.ifCond .eq 7, 3) := by decide +kernel
theorem d_L_law_367 : decode code 367 = .ok (.iconst 1, 1) := by decide +kernel
theorem d_L_law_368 : decode code 368 = .ok (.goto 4, 3) := by decide +kernel
theorem d_L_law_371 : decode code 371 = .ok (.iconst 0, 1) := by decide +kernel
theorem d_L_law_372 : decode code 372 = .ok (.invokevirtual 45, 3) := by decide +kernel
theorem d_L_law_375 : decode code 375 = .ok (.aload_n 2, 1) := by decide +kernel
theorem d_L_law_376 : decode code 376 = .ok (.aload_n 0, 1) := by decide +kernel
theorem d_L_law_377 : decode code 377 = .ok (.iload_n 3, 1) := by decide +kernel
theorem d_L_law_378 : decode code 378 = .ok (.iconst 1, 1) := by decide +kernel
theorem d_L_law_379 : decode code 379 = .ok (.iadd, 1) := by decide +kernel
theorem d_L_law_380 : decode code 380 = .ok (.iaload, 1) := by decide +kernel
theorem d_L_law_381 : decode code 381 = .ok (.aload_n 0, 1) := by decide +kernel
theorem d_L_law_382 : decode code 382 = .ok (.iload_n 3, 1) := by decide +kernel
theorem d_L_law_383 : decode code 383 = .ok (.iconst 2, 1) := by decide +kernel
theorem d_L_law_384 : decode code 384 = .ok (.iadd, 1) := by decide +kernel
theorem d_L_law_385 : decode code 385 = .ok (.iaload, 1) := by decide +kernel
theorem d_L_law_386 : decode code 386 = .ok (.aload_n 0, 1) := by decide +kernel
theorem d_L_law_387 : decode code 387 = .ok (.iload_n 3, 1) := by decide +kernel
theorem d_L_law_388 : decode code 388 = .ok (.iconst 3, 1) := by decide +kernel
theorem d_L_law_389 : decode code 389 = .ok (.iadd, 1) := by decide +kernel
theorem d_L_law_390 : decode code 390 = .ok (.iaload, 1) := by decide +kernel
theorem d_L_law_391 : decode code 391 = .ok (.aload_n 0, 1) := by decide +kernel
theorem d_L_law_392 : decode code 392 = .ok (.iload_n 3, 1) := by decide +kernel
theorem d_L_law_393 : decode code 393 = .ok (.iconst 4, 1) := by decide +kernel
theorem d_L_law_394 : decode code 394 = .ok (.iadd, 1) := by decide +kernel
theorem d_L_law_395 : decode code 395 = .ok (.iaload, 1) := by decide +kernel
theorem d_L_law_396 : decode code 396 = .ok (.ifCond .eq 7, 3) := by decide +kernel
theorem d_L_law_399 : decode code 399 = .ok (.iconst 1, 1) := by decide +kernel
theorem d_L_law_400 : decode code 400 = .ok (.goto 4, 3) := by decide +kernel
theorem d_L_law_403 : decode code 403 = .ok (.iconst 0, 1) := by decide +kernel
theorem d_L_law_404 : decode code 404 = .ok (.invokevirtual 49, 3) := by decide +kernel
theorem d_L_law_407 : decode code 407 = .ok (.if_icmp .eq 476, 3) := by decide +kernel
theorem d_L_law_410 : decode code 410 = .ok (.iconst 0, 1) := by decide +kernel
theorem d_L_law_411 : decode code 411 = .ok (.ireturn, 1) := by decide +kernel
theorem d_L_law_412 : decode code 412 = .ok (.aload_n 1, 1) := by decide +kernel
theorem d_L_law_413 : decode code 413 = .ok (.aload_n 0, 1) := by decide +kernel
theorem d_L_law_414 : decode code 414 = .ok (.iload_n 3, 1) := by decide +kernel
theorem d_L_law_415 : decode code 415 = .ok (.iconst 1, 1) := by decide +kernel
theorem d_L_law_416 : decode code 416 = .ok (.iadd, 1) := by decide +kernel
theorem d_L_law_417 : decode code 417 = .ok (.iaload, 1) := by decide +kernel
theorem d_L_law_418 : decode code 418 = .ok (.aload_n 0, 1) := by decide +kernel
theorem d_L_law_419 : decode code 419 = .ok (.iload_n 3, 1) := by decide +kernel
theorem d_L_law_420 : decode code 420 = .ok (.iconst 2, 1) := by decide +kernel
theorem d_L_law_421 : decode code 421 = .ok (.iadd, 1) := by decide +kernel
theorem d_L_law_422 : decode code 422 = .ok (.iaload, 1) := by decide +kernel
theorem d_L_law_423 : decode code 423 = .ok (.aload_n 0, 1) := by decide +kernel
theorem d_L_law_424 : decode code 424 = .ok (.iload_n 3, 1) := by decide +kernel
theorem d_L_law_425 : decode code 425 = .ok (.iconst 3, 1) := by decide +kernel
theorem d_L_law_426 : decode code 426 = .ok (.iadd, 1) := by decide +kernel
theorem d_L_law_427 : decode code 427 = .ok (.iaload, 1) := by decide +kernel
theorem d_L_law_428 : decode code 428 = .ok (.aload_n 0, 1) := by decide +kernel
theorem d_L_law_429 : decode code 429 = .ok (.iload_n 3, 1) := by decide +kernel
theorem d_L_law_430 : decode code 430 = .ok (.iconst 4, 1) := by decide +kernel
theorem d_L_law_431 : decode code 431 = .ok (.iadd, 1) := by decide +kernel
theorem d_L_law_432 : decode code 432 = .ok (.iaload, 1) := by decide +kernel
theorem d_L_law_433 : decode code 433 = .ok (.invokevirtual 50, 3) := by decide +kernel
theorem d_L_law_436 : decode code 436 = .ok (.aload_n 2, 1) := by decide +kernel
theorem d_L_law_437 : decode code 437 = .ok (.aload_n 0, 1) := by decide +kernel
theorem d_L_law_438 : decode code 438 = .ok (.iload_n 3, 1) := by decide +kernel
theorem d_L_law_439 : decode code 439 = .ok (.iconst 1, 1) := by decide +kernel
theorem d_L_law_440 : decode code 440 = .ok (.iadd, 1) := by decide +kernel
theorem d_L_law_441 : decode code 441 = .ok (.iaload, 1) := by decide +kernel
theorem d_L_law_442 : decode code 442 = .ok (.aload_n 0, 1) := by decide +kernel
theorem d_L_law_443 : decode code 443 = .ok (.iload_n 3, 1) := by decide +kernel
theorem d_L_law_444 : decode code 444 = .ok (.iconst 2, 1) := by decide +kernel
theorem d_L_law_445 : decode code 445 = .ok (.iadd, 1) := by decide +kernel
theorem d_L_law_446 : decode code 446 = .ok (.iaload, 1) := by decide +kernel
theorem d_L_law_447 : decode code 447 = .ok (.aload_n 0, 1) := by decide +kernel
theorem d_L_law_448 : decode code 448 = .ok (.iload_n 3, 1) := by decide +kernel
theorem d_L_law_449 : decode code 449 = .ok (.iconst 3, 1) := by decide +kernel
theorem d_L_law_450 : decode code 450 = .ok (.iadd, 1) := by decide +kernel
theorem d_L_law_451 : decode code 451 = .ok (.iaload, 1) := by decide +kernel
theorem d_L_law_452 : decode code 452 = .ok (.aload_n 0, 1) := by decide +kernel
theorem d_L_law_453 : decode code 453 = .ok (.iload_n 3, 1) := by decide +kernel
theorem d_L_law_454 : decode code 454 = .ok (.iconst 4, 1) := by decide +kernel
theorem d_L_law_455 : decode code 455 = .ok (.iadd, 1) := by decide +kernel
theorem d_L_law_456 : decode code 456 = .ok (.iaload, 1) := by decide +kernel
theorem d_L_law_457 : decode code 457 = .ok (.invokevirtual 53, 3) := by decide +kernel
theorem d_L_law_460 : decode code 460 = .ok (.if_icmp .eq 423, 3) := by decide +kernel
theorem d_L_law_463 : decode code 463 = .ok (.iconst 0, 1) := by decide +kernel
theorem d_L_law_464 : decode code 464 = .ok (.ireturn, 1) := by decide +kernel
theorem d_L_law_465 : decode code 465 = .ok (.aload_n 1, 1) := by decide +kernel
theorem d_L_law_466 : decode code 466 = .ok (.aload_n 0, 1) := by decide +kernel
theorem d_L_law_467 : decode code 467 = .ok (.iload_n 3, 1) := by decide +kernel
theorem d_L_law_468 : decode code 468 = .ok (.iconst 1, 1) := by decide +kernel
theorem d_L_law_469 : decode code 469 = .ok (.iadd, 1) := by decide +kernel
theorem d_L_law_470 : decode code 470 = .ok (.iaload, 1) := by decide +kernel
theorem d_L_law_471 : decode code 471 = .ok (.aload_n 0, 1) := by decide +kernel
theorem d_L_law_472 : decode code 472 = .ok (.iload_n 3, 1) := by decide +kernel
theorem d_L_law_473 : decode code 473 = .ok (.iconst 2, 1) := by decide +kernel
theorem d_L_law_474 : decode code 474 = .ok (.iadd, 1) := by decide +kernel
theorem d_L_law_475 : decode code 475 = .ok (.iaload, 1) := by decide +kernel
theorem d_L_law_476 : decode code 476 = .ok (.invokevirtual 54, 3) := by decide +kernel
theorem d_L_law_479 : decode code 479 = .ok (.aload_n 2, 1) := by decide +kernel
theorem d_L_law_480 : decode code 480 = .ok (.aload_n 0, 1) := by decide +kernel
theorem d_L_law_481 : decode code 481 = .ok (.iload_n 3, 1) := by decide +kernel
theorem d_L_law_482 : decode code 482 = .ok (.iconst 1, 1) := by decide +kernel
theorem d_L_law_483 : decode code 483 = .ok (.iadd, 1) := by decide +kernel
theorem d_L_law_484 : decode code 484 = .ok (.iaload, 1) := by decide +kernel
theorem d_L_law_485 : decode code 485 = .ok (.aload_n 0, 1) := by decide +kernel
theorem d_L_law_486 : decode code 486 = .ok (.iload_n 3, 1) := by decide +kernel
theorem d_L_law_487 : decode code 487 = .ok (.iconst 2, 1) := by decide +kernel
theorem d_L_law_488 : decode code 488 = .ok (.iadd, 1) := by decide +kernel
theorem d_L_law_489 : decode code 489 = .ok (.iaload, 1) := by decide +kernel
theorem d_L_law_490 : decode code 490 = .ok (.invokevirtual 58, 3) := by decide +kernel
theorem d_L_law_493 : decode code 493 = .ok (.if_icmp .eq 390, 3) := by decide +kernel
theorem d_L_law_496 : decode code 496 = .ok (.iconst 0, 1) := by decide +kernel
theorem d_L_law_497 : decode code 497 = .ok (.ireturn, 1) := by decide +kernel
theorem d_L_law_498 : decode code 498 = .ok (.aload_n 1, 1) := by decide +kernel
theorem d_L_law_499 : decode code 499 = .ok (.aload_n 0, 1) := by decide +kernel
theorem d_L_law_500 : decode code 500 = .ok (.iload_n 3, 1) := by decide +kernel
theorem d_L_law_501 : decode code 501 = .ok (.iconst 1, 1) := by decide +kernel
theorem d_L_law_502 : decode code 502 = .ok (.iadd, 1) := by decide +kernel
theorem d_L_law_503 : decode code 503 = .ok (.iaload, 1) := by decide +kernel
theorem d_L_law_504 : decode code 504 = .ok (.aload_n 0, 1) := by decide +kernel
theorem d_L_law_505 : decode code 505 = .ok (.iload_n 3, 1) := by decide +kernel
theorem d_L_law_506 : decode code 506 = .ok (.iconst 2, 1) := by decide +kernel
theorem d_L_law_507 : decode code 507 = .ok (.iadd, 1) := by decide +kernel
theorem d_L_law_508 : decode code 508 = .ok (.iaload, 1) := by decide +kernel
theorem d_L_law_509 : decode code 509 = .ok (.invokevirtual 59, 3) := by decide +kernel
theorem d_L_law_512 : decode code 512 = .ok (.aload_n 2, 1) := by decide +kernel
theorem d_L_law_513 : decode code 513 = .ok (.aload_n 0, 1) := by decide +kernel
theorem d_L_law_514 : decode code 514 = .ok (.iload_n 3, 1) := by decide +kernel
theorem d_L_law_515 : decode code 515 = .ok (.iconst 1, 1) := by decide +kernel
theorem d_L_law_516 : decode code 516 = .ok (.iadd, 1) := by decide +kernel
theorem d_L_law_517 : decode code 517 = .ok (.iaload, 1) := by decide +kernel
theorem d_L_law_518 : decode code 518 = .ok (.aload_n 0, 1) := by decide +kernel
theorem d_L_law_519 : decode code 519 = .ok (.iload_n 3, 1) := by decide +kernel
theorem d_L_law_520 : decode code 520 = .ok (.iconst 2, 1) := by decide +kernel
theorem d_L_law_521 : decode code 521 = .ok (.iadd, 1) := by decide +kernel
theorem d_L_law_522 : decode code 522 = .ok (.iaload, 1) := by decide +kernel
theorem d_L_law_523 : decode code 523 = .ok (.invokevirtual 62, 3) := by decide +kernel
theorem d_L_law_526 : decode code 526 = .ok (.if_icmp .eq 357, 3) := by decide +kernel
theorem d_L_law_529 : decode code 529 = .ok (.iconst 0, 1) := by decide +kernel
theorem d_L_law_530 : decode code 530 = .ok (.ireturn, 1) := by decide +kernel
theorem d_L_law_531 : decode code 531 = .ok (.aload_n 1, 1) := by decide +kernel
theorem d_L_law_532 : decode code 532 = .ok (.aload_n 0, 1) := by decide +kernel
theorem d_L_law_533 : decode code 533 = .ok (.iload_n 3, 1) := by decide +kernel
theorem d_L_law_534 : decode code 534 = .ok (.iconst 1, 1) := by decide +kernel
theorem d_L_law_535 : decode code 535 = .ok (.iadd, 1) := by decide +kernel
theorem d_L_law_536 : decode code 536 = .ok (.iaload, 1) := by decide +kernel
theorem d_L_law_537 : decode code 537 = .ok (.aload_n 0, 1) := by decide +kernel
theorem d_L_law_538 : decode code 538 = .ok (.iload_n 3, 1) := by decide +kernel
theorem d_L_law_539 : decode code 539 = .ok (.iconst 2, 1) := by decide +kernel
theorem d_L_law_540 : decode code 540 = .ok (.iadd, 1) := by decide +kernel
theorem d_L_law_541 : decode code 541 = .ok (.iaload, 1) := by decide +kernel
theorem d_L_law_542 : decode code 542 = .ok (.invokevirtual 63, 3) := by decide +kernel
theorem d_L_law_545 : decode code 545 = .ok (.aload_n 2, 1) := by decide +kernel
theorem d_L_law_546 : decode code 546 = .ok (.aload_n 0, 1) := by decide +kernel
theorem d_L_law_547 : decode code 547 = .ok (.iload_n 3, 1) := by decide +kernel
theorem d_L_law_548 : decode code 548 = .ok (.iconst 1, 1) := by decide +kernel
theorem d_L_law_549 : decode code 549 = .ok (.iadd, 1) := by decide +kernel
theorem d_L_law_550 : decode code 550 = .ok (.iaload, 1) := by decide +kernel
theorem d_L_law_551 : decode code 551 = .ok (.aload_n 0, 1) := by decide +kernel
theorem d_L_law_552 : decode code 552 = .ok (.iload_n 3, 1) := by decide +kernel
theorem d_L_law_553 : decode code 553 = .ok (.iconst 2, 1) := by decide +kernel
theorem d_L_law_554 : decode code 554 = .ok (.iadd, 1) := by decide +kernel
theorem d_L_law_555 : decode code 555 = .ok (.iaload, 1) := by decide +kernel
theorem d_L_law_556 : decode code 556 = .ok (.invokevirtual 66, 3) := by decide +kernel
theorem d_L_law_559 : decode code 559 = .ok (.if_icmp .eq 324, 3) := by decide +kernel
theorem d_L_law_562 : decode code 562 = .ok (.iconst 0, 1) := by decide +kernel
theorem d_L_law_563 : decode code 563 = .ok (.ireturn, 1) := by decide +kernel
theorem d_L_law_564 : decode code 564 = .ok (.aload_n 1, 1) := by decide +kernel
theorem d_L_law_565 : decode code 565 = .ok (.aload_n 0, 1) := by decide +kernel
theorem d_L_law_566 : decode code 566 = .ok (.iload_n 3, 1) := by decide +kernel
theorem d_L_law_567 : decode code 567 = .ok (.iconst 1, 1) := by decide +kernel
theorem d_L_law_568 : decode code 568 = .ok (.iadd, 1) := by decide +kernel
theorem d_L_law_569 : decode code 569 = .ok (.iaload, 1) := by decide +kernel
theorem d_L_law_570 : decode code 570 = .ok (.invokevirtual 67, 3) := by decide +kernel
theorem d_L_law_573 : decode code 573 = .ok (.aload_n 2, 1) := by decide +kernel
theorem d_L_law_574 : decode code 574 = .ok (.aload_n 0, 1) := by decide +kernel
theorem d_L_law_575 : decode code 575 = .ok (.iload_n 3, 1) := by decide +kernel
theorem d_L_law_576 : decode code 576 = .ok (.iconst 1, 1) := by decide +kernel
theorem d_L_law_577 : decode code 577 = .ok (.iadd, 1) := by decide +kernel
theorem d_L_law_578 : decode code 578 = .ok (.iaload, 1) := by decide +kernel
theorem d_L_law_579 : decode code 579 = .ok (.invokevirtual 70, 3) := by decide +kernel
theorem d_L_law_582 : decode code 582 = .ok (.if_icmp .eq 301, 3) := by decide +kernel
theorem d_L_law_585 : decode code 585 = .ok (.iconst 0, 1) := by decide +kernel
theorem d_L_law_586 : decode code 586 = .ok (.ireturn, 1) := by decide +kernel
theorem d_L_law_587 : decode code 587 = .ok (.aload_n 1, 1) := by decide +kernel
theorem d_L_law_588 : decode code 588 = .ok (.aload_n 0, 1) := by decide +kernel
theorem d_L_law_589 : decode code 589 = .ok (.iload_n 3, 1) := by decide +kernel
theorem d_L_law_590 : decode code 590 = .ok (.iconst 1, 1) := by decide +kernel
theorem d_L_law_591 : decode code 591 = .ok (.iadd, 1) := by decide +kernel
theorem d_L_law_592 : decode code 592 = .ok (.iaload, 1) := by decide +kernel
theorem d_L_law_593 : decode code 593 = .ok (.aload_n 0, 1) := by decide +kernel
theorem d_L_law_594 : decode code 594 = .ok (.iload_n 3, 1) := by decide +kernel
theorem d_L_law_595 : decode code 595 = .ok (.iconst 2, 1) := by decide +kernel
theorem d_L_law_596 : decode code 596 = .ok (.iadd, 1) := by decide +kernel
theorem d_L_law_597 : decode code 597 = .ok (.iaload, 1) := by decide +kernel
theorem d_L_law_598 : decode code 598 = .ok (.invokevirtual 71, 3) := by decide +kernel
theorem d_L_law_601 : decode code 601 = .ok (.aload_n 2, 1) := by decide +kernel
theorem d_L_law_602 : decode code 602 = .ok (.aload_n 0, 1) := by decide +kernel
theorem d_L_law_603 : decode code 603 = .ok (.iload_n 3, 1) := by decide +kernel
theorem d_L_law_604 : decode code 604 = .ok (.iconst 1, 1) := by decide +kernel
theorem d_L_law_605 : decode code 605 = .ok (.iadd, 1) := by decide +kernel
theorem d_L_law_606 : decode code 606 = .ok (.iaload, 1) := by decide +kernel
theorem d_L_law_607 : decode code 607 = .ok (.aload_n 0, 1) := by decide +kernel
theorem d_L_law_608 : decode code 608 = .ok (.iload_n 3, 1) := by decide +kernel
theorem d_L_law_609 : decode code 609 = .ok (.iconst 2, 1) := by decide +kernel
theorem d_L_law_610 : decode code 610 = .ok (.iadd, 1) := by decide +kernel
theorem d_L_law_611 : decode code 611 = .ok (.iaload, 1) := by decide +kernel
theorem d_L_law_612 : decode code 612 = .ok (.invokevirtual 74, 3) := by decide +kernel
theorem d_L_law_615 : decode code 615 = .ok (.if_icmp .eq 268, 3) := by decide +kernel
theorem d_L_law_618 : decode code 618 = .ok (.iconst 0, 1) := by decide +kernel
theorem d_L_law_619 : decode code 619 = .ok (.ireturn, 1) := by decide +kernel
theorem d_L_law_620 : decode code 620 = .ok (.aload_n 1, 1) := by decide +kernel
theorem d_L_law_621 : decode code 621 = .ok (.invokevirtual 75, 3) := by decide +kernel
theorem d_L_law_624 : decode code 624 = .ok (.aload_n 2, 1) := by decide +kernel
theorem d_L_law_625 : decode code 625 = .ok (.invokevirtual 78, 3) := by decide +kernel
theorem d_L_law_628 : decode code 628 = .ok (.if_icmp .eq 255, 3) := by decide +kernel
theorem d_L_law_631 : decode code 631 = .ok (.iconst 0, 1) := by decide +kernel
theorem d_L_law_632 : decode code 632 = .ok (.ireturn, 1) := by decide +kernel
theorem d_L_law_633 : decode code 633 = .ok (.aload_n 1, 1) := by decide +kernel
theorem d_L_law_634 : decode code 634 = .ok (.aload_n 0, 1) := by decide +kernel
theorem d_L_law_635 : decode code 635 = .ok (.iload_n 3, 1) := by decide +kernel
theorem d_L_law_636 : decode code 636 = .ok (.iconst 1, 1) := by decide +kernel
theorem d_L_law_637 : decode code 637 = .ok (.iadd, 1) := by decide +kernel
theorem d_L_law_638 : decode code 638 = .ok (.iaload, 1) := by decide +kernel
theorem d_L_law_639 : decode code 639 = .ok (.invokevirtual 79, 3) := by decide +kernel
theorem d_L_law_642 : decode code 642 = .ok (.aload_n 2, 1) := by decide +kernel
theorem d_L_law_643 : decode code 643 = .ok (.aload_n 0, 1) := by decide +kernel
theorem d_L_law_644 : decode code 644 = .ok (.iload_n 3, 1) := by decide +kernel
theorem d_L_law_645 : decode code 645 = .ok (.iconst 1, 1) := by decide +kernel
theorem d_L_law_646 : decode code 646 = .ok (.iadd, 1) := by decide +kernel
theorem d_L_law_647 : decode code 647 = .ok (.iaload, 1) := by decide +kernel
theorem d_L_law_648 : decode code 648 = .ok (.invokevirtual 82, 3) := by decide +kernel
theorem d_L_law_651 : decode code 651 = .ok (.if_icmp .eq 232, 3) := by decide +kernel
theorem d_L_law_654 : decode code 654 = .ok (.iconst 0, 1) := by decide +kernel
theorem d_L_law_655 : decode code 655 = .ok (.ireturn, 1) := by decide +kernel
theorem d_L_law_656 : decode code 656 = .ok (.aload_n 1, 1) := by decide +kernel
theorem d_L_law_657 : decode code 657 = .ok (.aload_n 0, 1) := by decide +kernel
theorem d_L_law_658 : decode code 658 = .ok (.iload_n 3, 1) := by decide +kernel
theorem d_L_law_659 : decode code 659 = .ok (.iconst 1, 1) := by decide +kernel
theorem d_L_law_660 : decode code 660 = .ok (.iadd, 1) := by decide +kernel
theorem d_L_law_661 : decode code 661 = .ok (.iaload, 1) := by decide +kernel
theorem d_L_law_662 : decode code 662 = .ok (.invokevirtual 83, 3) := by decide +kernel
theorem d_L_law_665 : decode code 665 = .ok (.aload_n 2, 1) := by decide +kernel
theorem d_L_law_666 : decode code 666 = .ok (.aload_n 0, 1) := by decide +kernel
theorem d_L_law_667 : decode code 667 = .ok (.iload_n 3, 1) := by decide +kernel
theorem d_L_law_668 : decode code 668 = .ok (.iconst 1, 1) := by decide +kernel
theorem d_L_law_669 : decode code 669 = .ok (.iadd, 1) := by decide +kernel
theorem d_L_law_670 : decode code 670 = .ok (.iaload, 1) := by decide +kernel
theorem d_L_law_671 : decode code 671 = .ok (.invokevirtual 86, 3) := by decide +kernel
theorem d_L_law_674 : decode code 674 = .ok (.if_icmp .eq 209, 3) := by decide +kernel
theorem d_L_law_677 : decode code 677 = .ok (.iconst 0, 1) := by decide +kernel
theorem d_L_law_678 : decode code 678 = .ok (.ireturn, 1) := by decide +kernel
theorem d_L_law_679 : decode code 679 = .ok (.aload_n 1, 1) := by decide +kernel
theorem d_L_law_680 : decode code 680 = .ok (.aload_n 0, 1) := by decide +kernel
theorem d_L_law_681 : decode code 681 = .ok (.iload_n 3, 1) := by decide +kernel
theorem d_L_law_682 : decode code 682 = .ok (.iconst 1, 1) := by decide +kernel
theorem d_L_law_683 : decode code 683 = .ok (.iadd, 1) := by decide +kernel
theorem d_L_law_684 : decode code 684 = .ok (.iaload, 1) := by decide +kernel
theorem d_L_law_685 : decode code 685 = .ok (.invokevirtual 87, 3) := by decide +kernel
theorem d_L_law_688 : decode code 688 = .ok (.aload_n 2, 1) := by decide +kernel
theorem d_L_law_689 : decode code 689 = .ok (.aload_n 0, 1) := by decide +kernel
theorem d_L_law_690 : decode code 690 = .ok (.iload_n 3, 1) := by decide +kernel
theorem d_L_law_691 : decode code 691 = .ok (.iconst 1, 1) := by decide +kernel
theorem d_L_law_692 : decode code 692 = .ok (.iadd, 1) := by decide +kernel
theorem d_L_law_693 : decode code 693 = .ok (.iaload, 1) := by decide +kernel
theorem d_L_law_694 : decode code 694 = .ok (.invokevirtual 90, 3) := by decide +kernel
theorem d_L_law_697 : decode code 697 = .ok (.if_icmp .eq 186, 3) := by decide +kernel
theorem d_L_law_700 : decode code 700 = .ok (.iconst 0, 1) := by decide +kernel
theorem d_L_law_701 : decode code 701 = .ok (.ireturn, 1) := by decide +kernel
theorem d_L_law_702 : decode code 702 = .ok (.aload_n 1, 1) := by decide +kernel
theorem d_L_law_703 : decode code 703 = .ok (.aload_n 0, 1) := by decide +kernel
theorem d_L_law_704 : decode code 704 = .ok (.iload_n 3, 1) := by decide +kernel
theorem d_L_law_705 : decode code 705 = .ok (.iconst 1, 1) := by decide +kernel
theorem d_L_law_706 : decode code 706 = .ok (.iadd, 1) := by decide +kernel
theorem d_L_law_707 : decode code 707 = .ok (.iaload, 1) := by decide +kernel
theorem d_L_law_708 : decode code 708 = .ok (.invokevirtual 91, 3) := by decide +kernel
theorem d_L_law_711 : decode code 711 = .ok (.aload_n 2, 1) := by decide +kernel
theorem d_L_law_712 : decode code 712 = .ok (.aload_n 0, 1) := by decide +kernel
theorem d_L_law_713 : decode code 713 = .ok (.iload_n 3, 1) := by decide +kernel
theorem d_L_law_714 : decode code 714 = .ok (.iconst 1, 1) := by decide +kernel
theorem d_L_law_715 : decode code 715 = .ok (.iadd, 1) := by decide +kernel
theorem d_L_law_716 : decode code 716 = .ok (.iaload, 1) := by decide +kernel
theorem d_L_law_717 : decode code 717 = .ok (.invokevirtual 94, 3) := by decide +kernel
theorem d_L_law_720 : decode code 720 = .ok (.if_icmp .eq 163, 3) := by decide +kernel
theorem d_L_law_723 : decode code 723 = .ok (.iconst 0, 1) := by decide +kernel
theorem d_L_law_724 : decode code 724 = .ok (.ireturn, 1) := by decide +kernel
theorem d_L_law_725 : decode code 725 = .ok (.aload_n 1, 1) := by decide +kernel
theorem d_L_law_726 : decode code 726 = .ok (.invokevirtual 95, 3) := by decide +kernel
theorem d_L_law_729 : decode code 729 = .ok (.aload_n 2, 1) := by decide +kernel
theorem d_L_law_730 : decode code 730 = .ok (.invokevirtual 98, 3) := by decide +kernel
theorem d_L_law_733 : decode code 733 = .ok (.if_icmp .eq 150, 3) := by decide +kernel
theorem d_L_law_736 : decode code 736 = .ok (.iconst 0, 1) := by decide +kernel
theorem d_L_law_737 : decode code 737 = .ok (.ireturn, 1) := by decide +kernel
theorem d_L_law_738 : decode code 738 = .ok (.aload_n 1, 1) := by decide +kernel
theorem d_L_law_739 : decode code 739 = .ok (.aload_n 0, 1) := by decide +kernel
theorem d_L_law_740 : decode code 740 = .ok (.iload_n 3, 1) := by decide +kernel
theorem d_L_law_741 : decode code 741 = .ok (.iconst 1, 1) := by decide +kernel
theorem d_L_law_742 : decode code 742 = .ok (.iadd, 1) := by decide +kernel
theorem d_L_law_743 : decode code 743 = .ok (.iaload, 1) := by decide +kernel
theorem d_L_law_744 : decode code 744 = .ok (.aload_n 0, 1) := by decide +kernel
theorem d_L_law_745 : decode code 745 = .ok (.iload_n 3, 1) := by decide +kernel
theorem d_L_law_746 : decode code 746 = .ok (.iconst 2, 1) := by decide +kernel
theorem d_L_law_747 : decode code 747 = .ok (.iadd, 1) := by decide +kernel
theorem d_L_law_748 : decode code 748 = .ok (.iaload, 1) := by decide +kernel
theorem d_L_law_749 : decode code 749 = .ok (.ifCond .eq 7, 3) := by decide +kernel
theorem d_L_law_752 : decode code 752 = .ok (.iconst 1, 1) := by decide +kernel
theorem d_L_law_753 : decode code 753 = .ok (.goto 4, 3) := by decide +kernel
theorem d_L_law_756 : decode code 756 = .ok (.iconst 0, 1) := by decide +kernel
theorem d_L_law_757 : decode code 757 = .ok (.invokevirtual 99, 3) := by decide +kernel
theorem d_L_law_760 : decode code 760 = .ok (.aload_n 2, 1) := by decide +kernel
theorem d_L_law_761 : decode code 761 = .ok (.aload_n 0, 1) := by decide +kernel
theorem d_L_law_762 : decode code 762 = .ok (.iload_n 3, 1) := by decide +kernel
theorem d_L_law_763 : decode code 763 = .ok (.iconst 1, 1) := by decide +kernel
theorem d_L_law_764 : decode code 764 = .ok (.iadd, 1) := by decide +kernel
theorem d_L_law_765 : decode code 765 = .ok (.iaload, 1) := by decide +kernel
theorem d_L_law_766 : decode code 766 = .ok (.aload_n 0, 1) := by decide +kernel
theorem d_L_law_767 : decode code 767 = .ok (.iload_n 3, 1) := by decide +kernel
theorem d_L_law_768 : decode code 768 = .ok (.iconst 2, 1) := by decide +kernel
theorem d_L_law_769 : decode code 769 = .ok (.iadd, 1) := by decide +kernel
theorem d_L_law_770 : decode code 770 = .ok (.iaload, 1) := by decide +kernel
theorem d_L_law_771 : decode code 771 = .ok (.ifCond .eq 7, 3) := by decide +kernel
theorem d_L_law_774 : decode code 774 = .ok (.iconst 1, 1) := by decide +kernel
theorem d_L_law_775 : decode code 775 = .ok (.goto 4, 3) := by decide +kernel
theorem d_L_law_778 : decode code 778 = .ok (.iconst 0, 1) := by decide +kernel
theorem d_L_law_779 : decode code 779 = .ok (.invokevirtual 103, 3) := by decide +kernel
theorem d_L_law_782 : decode code 782 = .ok (.if_icmp .eq 101, 3) := by decide +kernel
theorem d_L_law_785 : decode code 785 = .ok (.iconst 0, 1) := by decide +kernel
theorem d_L_law_786 : decode code 786 = .ok (.ireturn, 1) := by decide +kernel
theorem d_L_law_787 : decode code 787 = .ok (.aload_n 1, 1) := by decide +kernel
theorem d_L_law_788 : decode code 788 = .ok (.aload_n 0, 1) := by decide +kernel
theorem d_L_law_789 : decode code 789 = .ok (.iload_n 3, 1) := by decide +kernel
theorem d_L_law_790 : decode code 790 = .ok (.iconst 1, 1) := by decide +kernel
theorem d_L_law_791 : decode code 791 = .ok (.iadd, 1) := by decide +kernel
theorem d_L_law_792 : decode code 792 = .ok (.iaload, 1) := by decide +kernel
theorem d_L_law_793 : decode code 793 = .ok (.invokevirtual 104, 3) := by decide +kernel
theorem d_L_law_796 : decode code 796 = .ok (.aload_n 2, 1) := by decide +kernel
theorem d_L_law_797 : decode code 797 = .ok (.aload_n 0, 1) := by decide +kernel
theorem d_L_law_798 : decode code 798 = .ok (.iload_n 3, 1) := by decide +kernel
theorem d_L_law_799 : decode code 799 = .ok (.iconst 1, 1) := by decide +kernel
theorem d_L_law_800 : decode code 800 = .ok (.iadd, 1) := by decide +kernel
theorem d_L_law_801 : decode code 801 = .ok (.iaload, 1) := by decide +kernel
theorem d_L_law_802 : decode code 802 = .ok (.invokevirtual 107, 3) := by decide +kernel
theorem d_L_law_805 : decode code 805 = .ok (.if_icmp .eq 78, 3) := by decide +kernel
theorem d_L_law_808 : decode code 808 = .ok (.iconst 0, 1) := by decide +kernel
theorem d_L_law_809 : decode code 809 = .ok (.ireturn, 1) := by decide +kernel
theorem d_L_law_810 : decode code 810 = .ok (.aload_n 1, 1) := by decide +kernel
theorem d_L_law_811 : decode code 811 = .ok (.aload_n 0, 1) := by decide +kernel
theorem d_L_law_812 : decode code 812 = .ok (.iload_n 3, 1) := by decide +kernel
theorem d_L_law_813 : decode code 813 = .ok (.iconst 1, 1) := by decide +kernel
theorem d_L_law_814 : decode code 814 = .ok (.iadd, 1) := by decide +kernel
theorem d_L_law_815 : decode code 815 = .ok (.iaload, 1) := by decide +kernel
theorem d_L_law_816 : decode code 816 = .ok (.invokevirtual 108, 3) := by decide +kernel
theorem d_L_law_819 : decode code 819 = .ok (.aload_n 2, 1) := by decide +kernel
theorem d_L_law_820 : decode code 820 = .ok (.aload_n 0, 1) := by decide +kernel
theorem d_L_law_821 : decode code 821 = .ok (.iload_n 3, 1) := by decide +kernel
theorem d_L_law_822 : decode code 822 = .ok (.iconst 1, 1) := by decide +kernel
theorem d_L_law_823 : decode code 823 = .ok (.iadd, 1) := by decide +kernel
theorem d_L_law_824 : decode code 824 = .ok (.iaload, 1) := by decide +kernel
theorem d_L_law_825 : decode code 825 = .ok (.invokevirtual 111, 3) := by decide +kernel
theorem d_L_law_828 : decode code 828 = .ok (.if_icmp .eq 55, 3) := by decide +kernel
theorem d_L_law_831 : decode code 831 = .ok (.iconst 0, 1) := by decide +kernel
theorem d_L_law_832 : decode code 832 = .ok (.ireturn, 1) := by decide +kernel
theorem d_L_law_833 : decode code 833 = .ok (.aload_n 1, 1) := by decide +kernel
theorem d_L_law_834 : decode code 834 = .ok (.invokevirtual 112, 3) := by decide +kernel
theorem d_L_law_837 : decode code 837 = .ok (.aload_n 2, 1) := by decide +kernel
theorem d_L_law_838 : decode code 838 = .ok (.invokevirtual 115, 3) := by decide +kernel
theorem d_L_law_841 : decode code 841 = .ok (.if_icmp .eq 42, 3) := by decide +kernel
theorem d_L_law_844 : decode code 844 = .ok (.iconst 0, 1) := by decide +kernel
theorem d_L_law_845 : decode code 845 = .ok (.ireturn, 1) := by decide +kernel
theorem d_L_law_846 : decode code 846 = .ok (.aload_n 1, 1) := by decide +kernel
theorem d_L_law_847 : decode code 847 = .ok (.aload_n 0, 1) := by decide +kernel
theorem d_L_law_848 : decode code 848 = .ok (.iload_n 3, 1) := by decide +kernel
theorem d_L_law_849 : decode code 849 = .ok (.iconst 1, 1) := by decide +kernel
theorem d_L_law_850 : decode code 850 = .ok (.iadd, 1) := by decide +kernel
theorem d_L_law_851 : decode code 851 = .ok (.iaload, 1) := by decide +kernel
theorem d_L_law_852 : decode code 852 = .ok (.invokevirtual 116, 3) := by decide +kernel
theorem d_L_law_855 : decode code 855 = .ok (.aload_n 2, 1) := by decide +kernel
theorem d_L_law_856 : decode code 856 = .ok (.aload_n 0, 1) := by decide +kernel
theorem d_L_law_857 : decode code 857 = .ok (.iload_n 3, 1) := by decide +kernel
theorem d_L_law_858 : decode code 858 = .ok (.iconst 1, 1) := by decide +kernel
theorem d_L_law_859 : decode code 859 = .ok (.iadd, 1) := by decide +kernel
theorem d_L_law_860 : decode code 860 = .ok (.iaload, 1) := by decide +kernel
theorem d_L_law_861 : decode code 861 = .ok (.invokevirtual 119, 3) := by decide +kernel
theorem d_L_law_864 : decode code 864 = .ok (.if_icmp .eq 19, 3) := by decide +kernel
theorem d_L_law_867 : decode code 867 = .ok (.iconst 0, 1) := by decide +kernel
theorem d_L_law_868 : decode code 868 = .ok (.ireturn, 1) := by decide +kernel
theorem d_L_law_869 : decode code 869 = .ok (.aload_n 1, 1) := by decide +kernel
theorem d_L_law_870 : decode code 870 = .ok (.invokevirtual 120, 3) := by decide +kernel
theorem d_L_law_873 : decode code 873 = .ok (.aload_n 2, 1) := by decide +kernel
theorem d_L_law_874 : decode code 874 = .ok (.invokevirtual 124, 3) := by decide +kernel
theorem d_L_law_877 : decode code 877 = .ok (.lcmp, 1) := by decide +kernel
theorem d_L_law_878 : decode code 878 = .ok (.ifCond .eq 5, 3) := by decide +kernel
theorem d_L_law_881 : decode code 881 = .ok (.iconst 0, 1) := by decide +kernel
theorem d_L_law_882 : decode code 882 = .ok (.ireturn, 1) := by decide +kernel
theorem d_L_law_883 : decode code 883 = .ok (.iinc 3 5, 3) := by decide +kernel
theorem d_L_law_886 : decode code 886 = .ok (.goto (-868), 3) := by decide +kernel
theorem d_L_law_889 : decode code 889 = .ok (.iconst 1, 1) := by decide +kernel
theorem d_L_law_890 : decode code 890 = .ok (.ireturn, 1) := by decide +kernel
def m_L_law_779 (r1 : Nat) (r2 : Nat) (x3 : Int32) (B18 : Int32 → St → Prop) (L : Nat) (xs : Nat → Int32) (Q : Int32 → St → Prop) (t0 : Int32) (t1 : Int32) (t2 : Nat) (t3 : Int32) (σ : St) : Prop :=
  m_10_bestOrder t2 t1 t0 (fun (v_2 : Int32) (σ_1 : St) => ((t3 = v_2 → ∀ x3_3 : Int32, x3_3 = x3 + 5 → B18 x3_3 σ_1) ∧ (¬ t3 = v_2 → Q (0 : Int32) σ_1))) σ
def m_L_law_757 (r1 : Nat) (r2 : Nat) (x3 : Int32) (B18 : Int32 → St → Prop) (L : Nat) (xs : Nat → Int32) (Q : Int32 → St → Prop) (t0 : Int32) (t1 : Int32) (t2 : Nat) (σ : St) : Prop :=
  m_9_bestOrder t2 t1 t0 (fun (v_2 : Int32) (σ_1 : St) => vp_in (x3 + (1 : Int32)) L ∧ vp_in (x3 + (2 : Int32)) L ∧ (((xs ((x3 + (2 : Int32))).toNatClampNeg) = 0 → m_L_law_779 r1 r2 x3 B18 L xs Q  (0 : Int32) (xs ((x3 + (1 : Int32))).toNatClampNeg) r2 v_2 σ_1) ∧ (¬ (xs ((x3 + (2 : Int32))).toNatClampNeg) = 0 → m_L_law_779 r1 r2 x3 B18 L xs Q  (1 : Int32) (xs ((x3 + (1 : Int32))).toNatClampNeg) r2 v_2 σ_1))) σ
def m_L_law_404 (r1 : Nat) (r2 : Nat) (x3 : Int32) (B18 : Int32 → St → Prop) (L : Nat) (xs : Nat → Int32) (Q : Int32 → St → Prop) (t0 : Int32) (t1 : Int32) (t2 : Int32) (t3 : Int32) (t4 : Nat) (t5 : Int32) (σ : St) : Prop :=
  m_10_park t4 t3 t2 t1 t0 (fun (v_2 : Int32) (σ_1 : St) => ((t5 = v_2 → ∀ x3_3 : Int32, x3_3 = x3 + 5 → B18 x3_3 σ_1) ∧ (¬ t5 = v_2 → Q (0 : Int32) σ_1))) σ
def m_L_law_372 (r1 : Nat) (r2 : Nat) (x3 : Int32) (B18 : Int32 → St → Prop) (L : Nat) (xs : Nat → Int32) (Q : Int32 → St → Prop) (t0 : Int32) (t1 : Int32) (t2 : Int32) (t3 : Int32) (t4 : Nat) (σ : St) : Prop :=
  m_9_park t4 t3 t2 t1 t0 (fun (v_2 : Int32) (σ_1 : St) => vp_in (x3 + (1 : Int32)) L ∧ vp_in (x3 + (2 : Int32)) L ∧ vp_in (x3 + (3 : Int32)) L ∧ vp_in (x3 + (4 : Int32)) L ∧ (((xs ((x3 + (4 : Int32))).toNatClampNeg) = 0 → m_L_law_404 r1 r2 x3 B18 L xs Q  (0 : Int32) (xs ((x3 + (3 : Int32))).toNatClampNeg) (xs ((x3 + (2 : Int32))).toNatClampNeg) (xs ((x3 + (1 : Int32))).toNatClampNeg) r2 v_2 σ_1) ∧ (¬ (xs ((x3 + (4 : Int32))).toNatClampNeg) = 0 → m_L_law_404 r1 r2 x3 B18 L xs Q  (1 : Int32) (xs ((x3 + (3 : Int32))).toNatClampNeg) (xs ((x3 + (2 : Int32))).toNatClampNeg) (xs ((x3 + (1 : Int32))).toNatClampNeg) r2 v_2 σ_1))) σ
def m_L_law_18 (r1 : Nat) (r2 : Nat) (L : Nat) (xs : Nat → Int32) (Q : Int32 → St → Prop) (B18 : Int32 → St → Prop) (x3 : Int32) (σ : St) : Prop :=
  ((((Int32.ofNat L) - (5 : Int32)) < x3 → Q (1 : Int32) σ) ∧ (¬ ((Int32.ofNat L) - (5 : Int32)) < x3 → vp_in x3 L ∧ (((((xs (x3).toNatClampNeg) &&& (31 : Int32)).toInt < 0 ∨ 25 < ((xs (x3).toNatClampNeg) &&& (31 : Int32)).toInt) → ∀ x3_2 : Int32, x3_2 = x3 + 5 → B18 x3_2 σ) ∧ (((xs (x3).toNatClampNeg) &&& (31 : Int32)) = 0 → vp_in (x3 + (1 : Int32)) L ∧ m_9_type r1 (xs ((x3 + (1 : Int32))).toNatClampNeg) (fun (v_4 : Int32) (σ_3 : St) => vp_in (x3 + (1 : Int32)) L ∧ m_10_type r2 (xs ((x3 + (1 : Int32))).toNatClampNeg) (fun (v_6 : Int32) (σ_5 : St) => ((v_4 = v_6 → ∀ x3_7 : Int32, x3_7 = x3 + 5 → B18 x3_7 σ_5) ∧ (¬ v_4 = v_6 → Q (0 : Int32) σ_5))) σ_3) σ) ∧ (((xs (x3).toNatClampNeg) &&& (31 : Int32)) = 1 → m_9_clearText r1 (fun (v_9 : Int32) (σ_8 : St) => m_10_clearText r2 (fun (v_11 : Int32) (σ_10 : St) => ((v_9 = v_11 → ∀ x3_12 : Int32, x3_12 = x3 + 5 → B18 x3_12 σ_10) ∧ (¬ v_9 = v_11 → Q (0 : Int32) σ_10))) σ_8) σ) ∧ (((xs (x3).toNatClampNeg) &&& (31 : Int32)) = 2 → vp_in (x3 + (1 : Int32)) L ∧ m_9_load r1 (xs ((x3 + (1 : Int32))).toNatClampNeg) (fun (v_14 : Int32) (σ_13 : St) => vp_in (x3 + (1 : Int32)) L ∧ m_10_load r2 (xs ((x3 + (1 : Int32))).toNatClampNeg) (fun (v_16 : Int32) (σ_15 : St) => ((v_14 = v_16 → ∀ x3_17 : Int32, x3_17 = x3 + 5 → B18 x3_17 σ_15) ∧ (¬ v_14 = v_16 → Q (0 : Int32) σ_15))) σ_13) σ) ∧ (((xs (x3).toNatClampNeg) &&& (31 : Int32)) = 3 → m_9_faultKind r1 (fun (v_19 : Int32) (σ_18 : St) => m_10_faultKind r2 (fun (v_21 : Int32) (σ_20 : St) => ((v_19 = v_21 → ∀ x3_22 : Int32, x3_22 = x3 + 5 → B18 x3_22 σ_20) ∧ (¬ v_19 = v_21 → Q (0 : Int32) σ_20))) σ_18) σ) ∧ (((xs (x3).toNatClampNeg) &&& (31 : Int32)) = 4 → vp_in (x3 + (1 : Int32)) L ∧ vp_in (x3 + (2 : Int32)) L ∧ vp_in (x3 + (3 : Int32)) L ∧ m_9_addStreet r1 (xs ((x3 + (1 : Int32))).toNatClampNeg) (xs ((x3 + (2 : Int32))).toNatClampNeg) (xs ((x3 + (3 : Int32))).toNatClampNeg) (fun (v_24 : Int32) (σ_23 : St) => vp_in (x3 + (1 : Int32)) L ∧ vp_in (x3 + (2 : Int32)) L ∧ vp_in (x3 + (3 : Int32)) L ∧ m_10_addStreet r2 (xs ((x3 + (1 : Int32))).toNatClampNeg) (xs ((x3 + (2 : Int32))).toNatClampNeg) (xs ((x3 + (3 : Int32))).toNatClampNeg) (fun (v_26 : Int32) (σ_25 : St) => ((v_24 = v_26 → ∀ x3_27 : Int32, x3_27 = x3 + 5 → B18 x3_27 σ_25) ∧ (¬ v_24 = v_26 → Q (0 : Int32) σ_25))) σ_23) σ) ∧ (((xs (x3).toNatClampNeg) &&& (31 : Int32)) = 5 → vp_in (x3 + (1 : Int32)) L ∧ m_9_dropStreet r1 (xs ((x3 + (1 : Int32))).toNatClampNeg) (fun (v_29 : Int32) (σ_28 : St) => vp_in (x3 + (1 : Int32)) L ∧ m_10_dropStreet r2 (xs ((x3 + (1 : Int32))).toNatClampNeg) (fun (v_31 : Int32) (σ_30 : St) => ((v_29 = v_31 → ∀ x3_32 : Int32, x3_32 = x3 + 5 → B18 x3_32 σ_30) ∧ (¬ v_29 = v_31 → Q (0 : Int32) σ_30))) σ_28) σ) ∧ (((xs (x3).toNatClampNeg) &&& (31 : Int32)) = 6 → vp_in (x3 + (1 : Int32)) L ∧ vp_in (x3 + (2 : Int32)) L ∧ vp_in (x3 + (3 : Int32)) L ∧ vp_in (x3 + (4 : Int32)) L ∧ m_9_lay r1 (xs ((x3 + (1 : Int32))).toNatClampNeg) (xs ((x3 + (2 : Int32))).toNatClampNeg) (xs ((x3 + (3 : Int32))).toNatClampNeg) (xs ((x3 + (4 : Int32))).toNatClampNeg) (fun (v_34 : Int32) (σ_33 : St) => vp_in (x3 + (1 : Int32)) L ∧ vp_in (x3 + (2 : Int32)) L ∧ vp_in (x3 + (3 : Int32)) L ∧ vp_in (x3 + (4 : Int32)) L ∧ m_10_lay r2 (xs ((x3 + (1 : Int32))).toNatClampNeg) (xs ((x3 + (2 : Int32))).toNatClampNeg) (xs ((x3 + (3 : Int32))).toNatClampNeg) (xs ((x3 + (4 : Int32))).toNatClampNeg) (fun (v_36 : Int32) (σ_35 : St) => ((v_34 = v_36 → ∀ x3_37 : Int32, x3_37 = x3 + 5 → B18 x3_37 σ_35) ∧ (¬ v_34 = v_36 → Q (0 : Int32) σ_35))) σ_33) σ) ∧ (((xs (x3).toNatClampNeg) &&& (31 : Int32)) = 7 → vp_in (x3 + (1 : Int32)) L ∧ vp_in (x3 + (2 : Int32)) L ∧ vp_in (x3 + (3 : Int32)) L ∧ vp_in (x3 + (4 : Int32)) L ∧ (((xs ((x3 + (4 : Int32))).toNatClampNeg) = 0 → m_L_law_372 r1 r2 x3 B18 L xs Q  (0 : Int32) (xs ((x3 + (3 : Int32))).toNatClampNeg) (xs ((x3 + (2 : Int32))).toNatClampNeg) (xs ((x3 + (1 : Int32))).toNatClampNeg) r1 σ) ∧ (¬ (xs ((x3 + (4 : Int32))).toNatClampNeg) = 0 → m_L_law_372 r1 r2 x3 B18 L xs Q  (1 : Int32) (xs ((x3 + (3 : Int32))).toNatClampNeg) (xs ((x3 + (2 : Int32))).toNatClampNeg) (xs ((x3 + (1 : Int32))).toNatClampNeg) r1 σ))) ∧ (((xs (x3).toNatClampNeg) &&& (31 : Int32)) = 8 → vp_in (x3 + (1 : Int32)) L ∧ vp_in (x3 + (2 : Int32)) L ∧ vp_in (x3 + (3 : Int32)) L ∧ vp_in (x3 + (4 : Int32)) L ∧ m_9_cell r1 (xs ((x3 + (1 : Int32))).toNatClampNeg) (xs ((x3 + (2 : Int32))).toNatClampNeg) (xs ((x3 + (3 : Int32))).toNatClampNeg) (xs ((x3 + (4 : Int32))).toNatClampNeg) (fun (v_39 : Int32) (σ_38 : St) => vp_in (x3 + (1 : Int32)) L ∧ vp_in (x3 + (2 : Int32)) L ∧ vp_in (x3 + (3 : Int32)) L ∧ vp_in (x3 + (4 : Int32)) L ∧ m_10_cell r2 (xs ((x3 + (1 : Int32))).toNatClampNeg) (xs ((x3 + (2 : Int32))).toNatClampNeg) (xs ((x3 + (3 : Int32))).toNatClampNeg) (xs ((x3 + (4 : Int32))).toNatClampNeg) (fun (v_41 : Int32) (σ_40 : St) => ((v_39 = v_41 → ∀ x3_42 : Int32, x3_42 = x3 + 5 → B18 x3_42 σ_40) ∧ (¬ v_39 = v_41 → Q (0 : Int32) σ_40))) σ_38) σ) ∧ (((xs (x3).toNatClampNeg) &&& (31 : Int32)) = 9 → vp_in (x3 + (1 : Int32)) L ∧ vp_in (x3 + (2 : Int32)) L ∧ m_9_street r1 (xs ((x3 + (1 : Int32))).toNatClampNeg) (xs ((x3 + (2 : Int32))).toNatClampNeg) (fun (v_44 : Int32) (σ_43 : St) => vp_in (x3 + (1 : Int32)) L ∧ vp_in (x3 + (2 : Int32)) L ∧ m_10_street r2 (xs ((x3 + (1 : Int32))).toNatClampNeg) (xs ((x3 + (2 : Int32))).toNatClampNeg) (fun (v_46 : Int32) (σ_45 : St) => ((v_44 = v_46 → ∀ x3_47 : Int32, x3_47 = x3 + 5 → B18 x3_47 σ_45) ∧ (¬ v_44 = v_46 → Q (0 : Int32) σ_45))) σ_43) σ) ∧ (((xs (x3).toNatClampNeg) &&& (31 : Int32)) = 10 → vp_in (x3 + (1 : Int32)) L ∧ vp_in (x3 + (2 : Int32)) L ∧ m_9_set r1 (xs ((x3 + (1 : Int32))).toNatClampNeg) (xs ((x3 + (2 : Int32))).toNatClampNeg) (fun (v_49 : Int32) (σ_48 : St) => vp_in (x3 + (1 : Int32)) L ∧ vp_in (x3 + (2 : Int32)) L ∧ m_10_set r2 (xs ((x3 + (1 : Int32))).toNatClampNeg) (xs ((x3 + (2 : Int32))).toNatClampNeg) (fun (v_51 : Int32) (σ_50 : St) => ((v_49 = v_51 → ∀ x3_52 : Int32, x3_52 = x3 + 5 → B18 x3_52 σ_50) ∧ (¬ v_49 = v_51 → Q (0 : Int32) σ_50))) σ_48) σ) ∧ (((xs (x3).toNatClampNeg) &&& (31 : Int32)) = 11 → vp_in (x3 + (1 : Int32)) L ∧ vp_in (x3 + (2 : Int32)) L ∧ m_9_addLeg r1 (xs ((x3 + (1 : Int32))).toNatClampNeg) (xs ((x3 + (2 : Int32))).toNatClampNeg) (fun (v_54 : Int32) (σ_53 : St) => vp_in (x3 + (1 : Int32)) L ∧ vp_in (x3 + (2 : Int32)) L ∧ m_10_addLeg r2 (xs ((x3 + (1 : Int32))).toNatClampNeg) (xs ((x3 + (2 : Int32))).toNatClampNeg) (fun (v_56 : Int32) (σ_55 : St) => ((v_54 = v_56 → ∀ x3_57 : Int32, x3_57 = x3 + 5 → B18 x3_57 σ_55) ∧ (¬ v_54 = v_56 → Q (0 : Int32) σ_55))) σ_53) σ) ∧ (((xs (x3).toNatClampNeg) &&& (31 : Int32)) = 12 → vp_in (x3 + (1 : Int32)) L ∧ m_9_dropLeg r1 (xs ((x3 + (1 : Int32))).toNatClampNeg) (fun (v_59 : Int32) (σ_58 : St) => vp_in (x3 + (1 : Int32)) L ∧ m_10_dropLeg r2 (xs ((x3 + (1 : Int32))).toNatClampNeg) (fun (v_61 : Int32) (σ_60 : St) => ((v_59 = v_61 → ∀ x3_62 : Int32, x3_62 = x3 + 5 → B18 x3_62 σ_60) ∧ (¬ v_59 = v_61 → Q (0 : Int32) σ_60))) σ_58) σ) ∧ (((xs (x3).toNatClampNeg) &&& (31 : Int32)) = 13 → vp_in (x3 + (1 : Int32)) L ∧ vp_in (x3 + (2 : Int32)) L ∧ m_9_leg r1 (xs ((x3 + (1 : Int32))).toNatClampNeg) (xs ((x3 + (2 : Int32))).toNatClampNeg) (fun (v_64 : Int32) (σ_63 : St) => vp_in (x3 + (1 : Int32)) L ∧ vp_in (x3 + (2 : Int32)) L ∧ m_10_leg r2 (xs ((x3 + (1 : Int32))).toNatClampNeg) (xs ((x3 + (2 : Int32))).toNatClampNeg) (fun (v_66 : Int32) (σ_65 : St) => ((v_64 = v_66 → ∀ x3_67 : Int32, x3_67 = x3 + 5 → B18 x3_67 σ_65) ∧ (¬ v_64 = v_66 → Q (0 : Int32) σ_65))) σ_63) σ) ∧ (((xs (x3).toNatClampNeg) &&& (31 : Int32)) = 14 → m_9_shift r1 (fun (v_69 : Int32) (σ_68 : St) => m_10_shift r2 (fun (v_71 : Int32) (σ_70 : St) => ((v_69 = v_71 → ∀ x3_72 : Int32, x3_72 = x3 + 5 → B18 x3_72 σ_70) ∧ (¬ v_69 = v_71 → Q (0 : Int32) σ_70))) σ_68) σ) ∧ (((xs (x3).toNatClampNeg) &&& (31 : Int32)) = 15 → vp_in (x3 + (1 : Int32)) L ∧ m_9_night r1 (xs ((x3 + (1 : Int32))).toNatClampNeg) (fun (v_74 : Int32) (σ_73 : St) => vp_in (x3 + (1 : Int32)) L ∧ m_10_night r2 (xs ((x3 + (1 : Int32))).toNatClampNeg) (fun (v_76 : Int32) (σ_75 : St) => ((v_74 = v_76 → ∀ x3_77 : Int32, x3_77 = x3 + 5 → B18 x3_77 σ_75) ∧ (¬ v_74 = v_76 → Q (0 : Int32) σ_75))) σ_73) σ) ∧ (((xs (x3).toNatClampNeg) &&& (31 : Int32)) = 16 → vp_in (x3 + (1 : Int32)) L ∧ m_9_rain r1 (xs ((x3 + (1 : Int32))).toNatClampNeg) (fun (v_79 : Int32) (σ_78 : St) => vp_in (x3 + (1 : Int32)) L ∧ m_10_rain r2 (xs ((x3 + (1 : Int32))).toNatClampNeg) (fun (v_81 : Int32) (σ_80 : St) => ((v_79 = v_81 → ∀ x3_82 : Int32, x3_82 = x3 + 5 → B18 x3_82 σ_80) ∧ (¬ v_79 = v_81 → Q (0 : Int32) σ_80))) σ_78) σ) ∧ (((xs (x3).toNatClampNeg) &&& (31 : Int32)) = 17 → vp_in (x3 + (1 : Int32)) L ∧ m_9_latest r1 (xs ((x3 + (1 : Int32))).toNatClampNeg) (fun (v_84 : Int32) (σ_83 : St) => vp_in (x3 + (1 : Int32)) L ∧ m_10_latest r2 (xs ((x3 + (1 : Int32))).toNatClampNeg) (fun (v_86 : Int32) (σ_85 : St) => ((v_84 = v_86 → ∀ x3_87 : Int32, x3_87 = x3 + 5 → B18 x3_87 σ_85) ∧ (¬ v_84 = v_86 → Q (0 : Int32) σ_85))) σ_83) σ) ∧ (((xs (x3).toNatClampNeg) &&& (31 : Int32)) = 18 → vp_in (x3 + (1 : Int32)) L ∧ m_9_ifSpeed r1 (xs ((x3 + (1 : Int32))).toNatClampNeg) (fun (v_89 : Int32) (σ_88 : St) => vp_in (x3 + (1 : Int32)) L ∧ m_10_ifSpeed r2 (xs ((x3 + (1 : Int32))).toNatClampNeg) (fun (v_91 : Int32) (σ_90 : St) => ((v_89 = v_91 → ∀ x3_92 : Int32, x3_92 = x3 + 5 → B18 x3_92 σ_90) ∧ (¬ v_89 = v_91 → Q (0 : Int32) σ_90))) σ_88) σ) ∧ (((xs (x3).toNatClampNeg) &&& (31 : Int32)) = 19 → m_9_bestSpeed r1 (fun (v_94 : Int32) (σ_93 : St) => m_10_bestSpeed r2 (fun (v_96 : Int32) (σ_95 : St) => ((v_94 = v_96 → ∀ x3_97 : Int32, x3_97 = x3 + 5 → B18 x3_97 σ_95) ∧ (¬ v_94 = v_96 → Q (0 : Int32) σ_95))) σ_93) σ) ∧ (((xs (x3).toNatClampNeg) &&& (31 : Int32)) = 20 → vp_in (x3 + (1 : Int32)) L ∧ vp_in (x3 + (2 : Int32)) L ∧ (((xs ((x3 + (2 : Int32))).toNatClampNeg) = 0 → m_L_law_757 r1 r2 x3 B18 L xs Q  (0 : Int32) (xs ((x3 + (1 : Int32))).toNatClampNeg) r1 σ) ∧ (¬ (xs ((x3 + (2 : Int32))).toNatClampNeg) = 0 → m_L_law_757 r1 r2 x3 B18 L xs Q  (1 : Int32) (xs ((x3 + (1 : Int32))).toNatClampNeg) r1 σ))) ∧ (((xs (x3).toNatClampNeg) &&& (31 : Int32)) = 21 → vp_in (x3 + (1 : Int32)) L ∧ m_9_nightsTo r1 (xs ((x3 + (1 : Int32))).toNatClampNeg) (fun (v_99 : Int32) (σ_98 : St) => vp_in (x3 + (1 : Int32)) L ∧ m_10_nightsTo r2 (xs ((x3 + (1 : Int32))).toNatClampNeg) (fun (v_101 : Int32) (σ_100 : St) => ((v_99 = v_101 → ∀ x3_102 : Int32, x3_102 = x3 + 5 → B18 x3_102 σ_100) ∧ (¬ v_99 = v_101 → Q (0 : Int32) σ_100))) σ_98) σ) ∧ (((xs (x3).toNatClampNeg) &&& (31 : Int32)) = 22 → vp_in (x3 + (1 : Int32)) L ∧ m_9_account r1 (xs ((x3 + (1 : Int32))).toNatClampNeg) (fun (v_104 : Int32) (σ_103 : St) => vp_in (x3 + (1 : Int32)) L ∧ m_10_account r2 (xs ((x3 + (1 : Int32))).toNatClampNeg) (fun (v_106 : Int32) (σ_105 : St) => ((v_104 = v_106 → ∀ x3_107 : Int32, x3_107 = x3 + 5 → B18 x3_107 σ_105) ∧ (¬ v_104 = v_106 → Q (0 : Int32) σ_105))) σ_103) σ) ∧ (((xs (x3).toNatClampNeg) &&& (31 : Int32)) = 23 → m_9_undo r1 (fun (v_109 : Int32) (σ_108 : St) => m_10_undo r2 (fun (v_111 : Int32) (σ_110 : St) => ((v_109 = v_111 → ∀ x3_112 : Int32, x3_112 = x3 + 5 → B18 x3_112 σ_110) ∧ (¬ v_109 = v_111 → Q (0 : Int32) σ_110))) σ_108) σ) ∧ (((xs (x3).toNatClampNeg) &&& (31 : Int32)) = 24 → vp_in (x3 + (1 : Int32)) L ∧ m_9_count r1 (xs ((x3 + (1 : Int32))).toNatClampNeg) (fun (v_114 : Int32) (σ_113 : St) => vp_in (x3 + (1 : Int32)) L ∧ m_10_count r2 (xs ((x3 + (1 : Int32))).toNatClampNeg) (fun (v_116 : Int32) (σ_115 : St) => ((v_114 = v_116 → ∀ x3_117 : Int32, x3_117 = x3 + 5 → B18 x3_117 σ_115) ∧ (¬ v_114 = v_116 → Q (0 : Int32) σ_115))) σ_113) σ) ∧ (((xs (x3).toNatClampNeg) &&& (31 : Int32)) = 25 → m_9_digest r1 (fun (v_119 : Int64) (σ_118 : St) => m_10_digest r2 (fun (v_121 : Int64) (σ_120 : St) => (((lg_cmp v_119 v_121) = 0 → ∀ x3_122 : Int32, x3_122 = x3 + 5 → B18 x3_122 σ_120) ∧ (¬ (lg_cmp v_119 v_121) = 0 → Q (0 : Int32) σ_120))) σ_118) σ))))
def m_L_law (r1 : Nat) (r2 : Nat) (L : Nat) (xs : Nat → Int32) (Q : Int32 → St → Prop) (σ : St) : Prop :=
  itN (m_L_law_18 r1 r2 L xs Q) (fun _ _ => False) FU (0 : Int32) σ
section LB
variable {p : Program} {l : Launch} {e : Env} {R : Room} {s : State} {m : MethodId} {args : Array Value} {below : List Frame} {meth : Method} {c : Code} {cells slots : Nat} {QW : State → Prop}
variable {D : va_G} {ac : Nat → ClassId} {ad st : Nat → Nat} {A : Nat → Prop}
set_option maxHeartbeats 4000000 in
set_option maxRecDepth 100000 in
theorem w_L_law_779 {r1 : Nat} {r2 : Nat} {x3 : Int32} {B18 : Int32 → St → Prop} {b L : Nat} {xs : Nat → Int32} {Q : Int32 → St → Prop} {t0 : Int32} {t1 : Int32} {t2 : Nat} {t3 : Int32} {σ : St} {H : Heap} {locs : List Loc} {ls : Array Slot} (S : SC A D ac st p m c code 4 s args "SweeperRoundsLaw" R cells slots 8 189) (hR : RtI A D ac ad p l e R s m args below meth c code cells slots QW Q) (hX : va_X b L xs s s.heap ∧ b < s.heap.size ∧ ¬ A b) (hk_r1 : kd r1 = 9) (hk_r2 : kd r2 = 10) (hk_t2 : kd t2 = 10) (hB18 : ∀ (x3 : Int32) (σ : St) (H : Heap) (locs : List Loc) (ls : Array Slot), DG A D ac ad s σ H locs → lv_has ls 4 [(0, .ref b), (1, .ref (ad r1)), (2, .ref (ad r2)), (3, .int x3)] → B18 x3 σ → W p l e R s m args below meth c H locs cells slots QW (F0 m 18 ls [])) (hG : DG A D ac ad s σ H locs) (hl : lv_has ls 4 [(0, .ref b), (1, .ref (ad r1)), (2, .ref (ad r2)), (3, .int x3)]) (hf : m_L_law_779 r1 r2 x3 B18 L xs Q t0 t1 t2 t3 σ) : W p l e R s m args below meth c H locs cells slots QW (F0 m 779 ls [.int t0, .int t1, .ref (ad t2), .int t3]) := by
  have hx := S.1.1
  have hb := S.1.2.1
  unfold m_L_law_779 at hf
  refine iv_L_103 S hl.1 hG hk_t2 (c_10_bestOrder l hk_t2 hf) ⟨Nat.le_of_ble_eq_true rfl, Nat.le_of_ble_eq_true rfl⟩ (Nat.le_of_ble_eq_true rfl) d_L_law_779 (fun v_2 σ_1 hf H locs hG => ?_)
  refine lv_icmp_eq (tgt := 883) hx hb d_L_law_782 (by decide) (fun hc => ?_) (fun hc => ?_)
  · have hf := hf.1 hc
    obtain ⟨x3_3, ex3_3⟩ : ∃ y : Int32, y = x3 + 5 := ⟨_, rfl⟩
    have hf := hf x3_3 ex3_3
    refine lv_iinc (v := x3_3) (lv' := [(3, .int x3_3), (0, .ref b), (1, .ref (ad r1)), (2, .ref (ad r2))]) hx hb d_L_law_883 hl (k := 3) rfl (by rw [ex3_3]; rfl) (by decide) rfl (fun ls hl => ?_)
    refine lv_goto (tgt := 18) hx hb d_L_law_886 (by decide) ?_
    exact hB18 _ _ _ _ _  hG (lv_sub hl [1, 2, 3, 0] rfl) hf
  · have hf := hf.2 hc
    refine lv_iconst (v := (0 : Int32)) hx hb d_L_law_785 (by decide) ?_
    exact hR _ _ _ _ _ _ hG hf d_L_law_786
set_option maxHeartbeats 4000000 in
set_option maxRecDepth 100000 in
theorem w_L_law_757 {r1 : Nat} {r2 : Nat} {x3 : Int32} {B18 : Int32 → St → Prop} {b L : Nat} {xs : Nat → Int32} {Q : Int32 → St → Prop} {t0 : Int32} {t1 : Int32} {t2 : Nat} {σ : St} {H : Heap} {locs : List Loc} {ls : Array Slot} (S : SC A D ac st p m c code 4 s args "SweeperRoundsLaw" R cells slots 8 189) (hR : RtI A D ac ad p l e R s m args below meth c code cells slots QW Q) (hX : va_X b L xs s s.heap ∧ b < s.heap.size ∧ ¬ A b) (hk_r1 : kd r1 = 9) (hk_r2 : kd r2 = 10) (hk_t2 : kd t2 = 9) (hB18 : ∀ (x3 : Int32) (σ : St) (H : Heap) (locs : List Loc) (ls : Array Slot), DG A D ac ad s σ H locs → lv_has ls 4 [(0, .ref b), (1, .ref (ad r1)), (2, .ref (ad r2)), (3, .int x3)] → B18 x3 σ → W p l e R s m args below meth c H locs cells slots QW (F0 m 18 ls [])) (hG : DG A D ac ad s σ H locs) (hl : lv_has ls 4 [(0, .ref b), (1, .ref (ad r1)), (2, .ref (ad r2)), (3, .int x3)]) (hf : m_L_law_757 r1 r2 x3 B18 L xs Q t0 t1 t2 σ) : W p l e R s m args below meth c H locs cells slots QW (F0 m 757 ls [.int t0, .int t1, .ref (ad t2)]) := by
  have hx := S.1.1
  have hb := S.1.2.1
  unfold m_L_law_757 at hf
  refine iv_L_99 S hl.1 hG hk_t2 (c_9_bestOrder l hk_t2 hf) ⟨Nat.le_of_ble_eq_true rfl, Nat.le_of_ble_eq_true rfl⟩ (Nat.le_of_ble_eq_true rfl) d_L_law_757 (fun v_2 σ_1 hf H locs hG => ?_)
  refine lv_aload_n hx hb d_L_law_760 rfl (lv_at hl 2 rfl) ?_
  refine lv_aload_n hx hb d_L_law_761 rfl (lv_at hl 0 rfl) ?_
  refine lv_iload_n hx hb d_L_law_762 rfl (lv_at hl 3 rfl) ?_
  refine lv_iconst (v := (1 : Int32)) hx hb d_L_law_763 (by decide) ?_
  refine lv_iadd hx hb d_L_law_764 ?_
  refine va_sld hx hb hX.1 hX.2.1 hX.2.2 hG.2.2 hf.1 d_L_law_765 ?_
  have hf := hf.2
  refine lv_aload_n hx hb d_L_law_766 rfl (lv_at hl 0 rfl) ?_
  refine lv_iload_n hx hb d_L_law_767 rfl (lv_at hl 3 rfl) ?_
  refine lv_iconst (v := (2 : Int32)) hx hb d_L_law_768 (by decide) ?_
  refine lv_iadd hx hb d_L_law_769 ?_
  refine va_sld hx hb hX.1 hX.2.1 hX.2.2 hG.2.2 hf.1 d_L_law_770 ?_
  have hf := hf.2
  refine lv_if_eq (tgt := 778) hx hb d_L_law_771 (by decide) (fun hc => ?_) (fun hc => ?_)
  · have hf := hf.1 hc
    refine lv_iconst (v := (0 : Int32)) hx hb d_L_law_778 (by decide) ?_
    exact w_L_law_779 S hR hX hk_r1 hk_r2  hk_r2 hB18 hG (lv_sub hl [0, 1, 2, 3] rfl) hf
  · have hf := hf.2 hc
    refine lv_iconst (v := (1 : Int32)) hx hb d_L_law_774 (by decide) ?_
    refine lv_goto (tgt := 779) hx hb d_L_law_775 (by decide) ?_
    exact w_L_law_779 S hR hX hk_r1 hk_r2  hk_r2 hB18 hG (lv_sub hl [0, 1, 2, 3] rfl) hf
set_option maxHeartbeats 4000000 in
set_option maxRecDepth 100000 in
theorem w_L_law_404 {r1 : Nat} {r2 : Nat} {x3 : Int32} {B18 : Int32 → St → Prop} {b L : Nat} {xs : Nat → Int32} {Q : Int32 → St → Prop} {t0 : Int32} {t1 : Int32} {t2 : Int32} {t3 : Int32} {t4 : Nat} {t5 : Int32} {σ : St} {H : Heap} {locs : List Loc} {ls : Array Slot} (S : SC A D ac st p m c code 4 s args "SweeperRoundsLaw" R cells slots 8 189) (hR : RtI A D ac ad p l e R s m args below meth c code cells slots QW Q) (hX : va_X b L xs s s.heap ∧ b < s.heap.size ∧ ¬ A b) (hk_r1 : kd r1 = 9) (hk_r2 : kd r2 = 10) (hk_t4 : kd t4 = 10) (hB18 : ∀ (x3 : Int32) (σ : St) (H : Heap) (locs : List Loc) (ls : Array Slot), DG A D ac ad s σ H locs → lv_has ls 4 [(0, .ref b), (1, .ref (ad r1)), (2, .ref (ad r2)), (3, .int x3)] → B18 x3 σ → W p l e R s m args below meth c H locs cells slots QW (F0 m 18 ls [])) (hG : DG A D ac ad s σ H locs) (hl : lv_has ls 4 [(0, .ref b), (1, .ref (ad r1)), (2, .ref (ad r2)), (3, .int x3)]) (hf : m_L_law_404 r1 r2 x3 B18 L xs Q t0 t1 t2 t3 t4 t5 σ) : W p l e R s m args below meth c H locs cells slots QW (F0 m 404 ls [.int t0, .int t1, .int t2, .int t3, .ref (ad t4), .int t5]) := by
  have hx := S.1.1
  have hb := S.1.2.1
  unfold m_L_law_404 at hf
  refine iv_L_49 S hl.1 hG hk_t4 (c_10_park l hk_t4 hf) ⟨Nat.le_of_ble_eq_true rfl, Nat.le_of_ble_eq_true rfl⟩ (Nat.le_of_ble_eq_true rfl) d_L_law_404 (fun v_2 σ_1 hf H locs hG => ?_)
  refine lv_icmp_eq (tgt := 883) hx hb d_L_law_407 (by decide) (fun hc => ?_) (fun hc => ?_)
  · have hf := hf.1 hc
    obtain ⟨x3_3, ex3_3⟩ : ∃ y : Int32, y = x3 + 5 := ⟨_, rfl⟩
    have hf := hf x3_3 ex3_3
    refine lv_iinc (v := x3_3) (lv' := [(3, .int x3_3), (0, .ref b), (1, .ref (ad r1)), (2, .ref (ad r2))]) hx hb d_L_law_883 hl (k := 3) rfl (by rw [ex3_3]; rfl) (by decide) rfl (fun ls hl => ?_)
    refine lv_goto (tgt := 18) hx hb d_L_law_886 (by decide) ?_
    exact hB18 _ _ _ _ _  hG (lv_sub hl [1, 2, 3, 0] rfl) hf
  · have hf := hf.2 hc
    refine lv_iconst (v := (0 : Int32)) hx hb d_L_law_410 (by decide) ?_
    exact hR _ _ _ _ _ _ hG hf d_L_law_411
set_option maxHeartbeats 4000000 in
set_option maxRecDepth 100000 in
theorem w_L_law_372 {r1 : Nat} {r2 : Nat} {x3 : Int32} {B18 : Int32 → St → Prop} {b L : Nat} {xs : Nat → Int32} {Q : Int32 → St → Prop} {t0 : Int32} {t1 : Int32} {t2 : Int32} {t3 : Int32} {t4 : Nat} {σ : St} {H : Heap} {locs : List Loc} {ls : Array Slot} (S : SC A D ac st p m c code 4 s args "SweeperRoundsLaw" R cells slots 8 189) (hR : RtI A D ac ad p l e R s m args below meth c code cells slots QW Q) (hX : va_X b L xs s s.heap ∧ b < s.heap.size ∧ ¬ A b) (hk_r1 : kd r1 = 9) (hk_r2 : kd r2 = 10) (hk_t4 : kd t4 = 9) (hB18 : ∀ (x3 : Int32) (σ : St) (H : Heap) (locs : List Loc) (ls : Array Slot), DG A D ac ad s σ H locs → lv_has ls 4 [(0, .ref b), (1, .ref (ad r1)), (2, .ref (ad r2)), (3, .int x3)] → B18 x3 σ → W p l e R s m args below meth c H locs cells slots QW (F0 m 18 ls [])) (hG : DG A D ac ad s σ H locs) (hl : lv_has ls 4 [(0, .ref b), (1, .ref (ad r1)), (2, .ref (ad r2)), (3, .int x3)]) (hf : m_L_law_372 r1 r2 x3 B18 L xs Q t0 t1 t2 t3 t4 σ) : W p l e R s m args below meth c H locs cells slots QW (F0 m 372 ls [.int t0, .int t1, .int t2, .int t3, .ref (ad t4)]) := by
  have hx := S.1.1
  have hb := S.1.2.1
  unfold m_L_law_372 at hf
  refine iv_L_45 S hl.1 hG hk_t4 (c_9_park l hk_t4 hf) ⟨Nat.le_of_ble_eq_true rfl, Nat.le_of_ble_eq_true rfl⟩ (Nat.le_of_ble_eq_true rfl) d_L_law_372 (fun v_2 σ_1 hf H locs hG => ?_)
  refine lv_aload_n hx hb d_L_law_375 rfl (lv_at hl 2 rfl) ?_
  refine lv_aload_n hx hb d_L_law_376 rfl (lv_at hl 0 rfl) ?_
  refine lv_iload_n hx hb d_L_law_377 rfl (lv_at hl 3 rfl) ?_
  refine lv_iconst (v := (1 : Int32)) hx hb d_L_law_378 (by decide) ?_
  refine lv_iadd hx hb d_L_law_379 ?_
  refine va_sld hx hb hX.1 hX.2.1 hX.2.2 hG.2.2 hf.1 d_L_law_380 ?_
  have hf := hf.2
  refine lv_aload_n hx hb d_L_law_381 rfl (lv_at hl 0 rfl) ?_
  refine lv_iload_n hx hb d_L_law_382 rfl (lv_at hl 3 rfl) ?_
  refine lv_iconst (v := (2 : Int32)) hx hb d_L_law_383 (by decide) ?_
  refine lv_iadd hx hb d_L_law_384 ?_
  refine va_sld hx hb hX.1 hX.2.1 hX.2.2 hG.2.2 hf.1 d_L_law_385 ?_
  have hf := hf.2
  refine lv_aload_n hx hb d_L_law_386 rfl (lv_at hl 0 rfl) ?_
  refine lv_iload_n hx hb d_L_law_387 rfl (lv_at hl 3 rfl) ?_
  refine lv_iconst (v := (3 : Int32)) hx hb d_L_law_388 (by decide) ?_
  refine lv_iadd hx hb d_L_law_389 ?_
  refine va_sld hx hb hX.1 hX.2.1 hX.2.2 hG.2.2 hf.1 d_L_law_390 ?_
  have hf := hf.2
  refine lv_aload_n hx hb d_L_law_391 rfl (lv_at hl 0 rfl) ?_
  refine lv_iload_n hx hb d_L_law_392 rfl (lv_at hl 3 rfl) ?_
  refine lv_iconst (v := (4 : Int32)) hx hb d_L_law_393 (by decide) ?_
  refine lv_iadd hx hb d_L_law_394 ?_
  refine va_sld hx hb hX.1 hX.2.1 hX.2.2 hG.2.2 hf.1 d_L_law_395 ?_
  have hf := hf.2
  refine lv_if_eq (tgt := 403) hx hb d_L_law_396 (by decide) (fun hc => ?_) (fun hc => ?_)
  · have hf := hf.1 hc
    refine lv_iconst (v := (0 : Int32)) hx hb d_L_law_403 (by decide) ?_
    exact w_L_law_404 S hR hX hk_r1 hk_r2  hk_r2 hB18 hG (lv_sub hl [0, 1, 2, 3] rfl) hf
  · have hf := hf.2 hc
    refine lv_iconst (v := (1 : Int32)) hx hb d_L_law_399 (by decide) ?_
    refine lv_goto (tgt := 404) hx hb d_L_law_400 (by decide) ?_
    exact w_L_law_404 S hR hX hk_r1 hk_r2  hk_r2 hB18 hG (lv_sub hl [0, 1, 2, 3] rfl) hf
set_option maxHeartbeats 4000000 in
set_option maxRecDepth 100000 in
theorem w_L_law_18 {r1 : Nat} {r2 : Nat} {b L : Nat} {xs : Nat → Int32} {Q : Int32 → St → Prop} {B18 : Int32 → St → Prop} {x3 : Int32} {σ : St} {H : Heap} {locs : List Loc} {ls : Array Slot} (S : SC A D ac st p m c code 4 s args "SweeperRoundsLaw" R cells slots 8 189) (hR : RtI A D ac ad p l e R s m args below meth c code cells slots QW Q) (hX : va_X b L xs s s.heap ∧ b < s.heap.size ∧ ¬ A b) (hk_r1 : kd r1 = 9) (hk_r2 : kd r2 = 10) (hB18 : ∀ (x3 : Int32) (σ : St) (H : Heap) (locs : List Loc) (ls : Array Slot), DG A D ac ad s σ H locs → lv_has ls 4 [(0, .ref b), (1, .ref (ad r1)), (2, .ref (ad r2)), (3, .int x3)] → B18 x3 σ → W p l e R s m args below meth c H locs cells slots QW (F0 m 18 ls [])) (hG : DG A D ac ad s σ H locs) (hl : lv_has ls 4 [(0, .ref b), (1, .ref (ad r1)), (2, .ref (ad r2)), (3, .int x3)]) (hf : m_L_law_18 r1 r2 L xs Q B18 x3 σ) : W p l e R s m args below meth c H locs cells slots QW (F0 m 18 ls []) := by
  have hx := S.1.1
  have hb := S.1.2.1
  unfold m_L_law_18 at hf
  refine lv_iload_n hx hb d_L_law_18 rfl (lv_at hl 3 rfl) ?_
  refine lv_aload_n hx hb d_L_law_19 rfl (lv_at hl 0 rfl) ?_
  refine va_slen hx hb hX.1 hX.2.1 hX.2.2 hG.2.2 d_L_law_20 ?_
  refine lv_iconst (v := (5 : Int32)) hx hb d_L_law_21 (by decide) ?_
  refine lv_isub hx hb d_L_law_22 ?_
  refine lv_icmp_gt (tgt := 889) hx hb d_L_law_23 (by decide) (fun hc => ?_) (fun hc => ?_)
  · have hf := hf.1 hc
    refine lv_iconst (v := (1 : Int32)) hx hb d_L_law_889 (by decide) ?_
    exact hR _ _ _ _ _ _ hG hf d_L_law_890
  · have hf := hf.2 hc
    refine lv_aload_n hx hb d_L_law_26 rfl (lv_at hl 0 rfl) ?_
    refine lv_iload_n hx hb d_L_law_27 rfl (lv_at hl 3 rfl) ?_
    refine va_sld hx hb hX.1 hX.2.1 hX.2.2 hG.2.2 hf.1 d_L_law_28 ?_
    have hf := hf.2
    refine lv_bipush (v := (31 : Int32)) hx hb d_L_law_29 (by decide) ?_
    refine lv_iand hx hb d_L_law_31 ?_
    refine lv_topi (fun q_1 eq_1 => ?_)
    rcases sw_0_25 q_1 with hq_1 | hq_1 | hq_1 | hq_1 | hq_1 | hq_1 | hq_1 | hq_1 | hq_1 | hq_1 | hq_1 | hq_1 | hq_1 | hq_1 | hq_1 | hq_1 | hq_1 | hq_1 | hq_1 | hq_1 | hq_1 | hq_1 | hq_1 | hq_1 | hq_1 | hq_1 | hq_1
    · rw [eq_1] at hq_1 ⊢
      refine lv_tableOut (tgt := 883) hx hb d_L_law_32 hq_1 (by decide) ?_
      have hf := hf.1 hq_1
      obtain ⟨x3_2, ex3_2⟩ : ∃ y : Int32, y = x3 + 5 := ⟨_, rfl⟩
      have hf := hf x3_2 ex3_2
      refine lv_iinc (v := x3_2) (lv' := [(3, .int x3_2), (0, .ref b), (1, .ref (ad r1)), (2, .ref (ad r2))]) hx hb d_L_law_883 hl (k := 3) rfl (by rw [ex3_2]; rfl) (by decide) rfl (fun ls hl => ?_)
      refine lv_goto (tgt := 18) hx hb d_L_law_886 (by decide) ?_
      exact hB18 _ _ _ _ _  hG (lv_sub hl [1, 2, 3, 0] rfl) hf
    · subst hq_1
      refine lv_tableIn (off := 120) (tgt := 152) hx hb d_L_law_32 (by decide) (by decide) (by decide) (by decide) ?_
      have hf := hf.2.1 eq_1.symm
      refine lv_aload_n hx hb d_L_law_152 rfl (lv_at hl 1 rfl) ?_
      refine lv_aload_n hx hb d_L_law_153 rfl (lv_at hl 0 rfl) ?_
      refine lv_iload_n hx hb d_L_law_154 rfl (lv_at hl 3 rfl) ?_
      refine lv_iconst (v := (1 : Int32)) hx hb d_L_law_155 (by decide) ?_
      refine lv_iadd hx hb d_L_law_156 ?_
      refine va_sld hx hb hX.1 hX.2.1 hX.2.2 hG.2.2 hf.1 d_L_law_157 ?_
      have hf := hf.2
      refine iv_L_13 S hl.1 hG hk_r1 (c_9_type l hk_r1 hf) ⟨Nat.le_of_ble_eq_true rfl, Nat.le_of_ble_eq_true rfl⟩ (Nat.le_of_ble_eq_true rfl) d_L_law_158 (fun v_4 σ_3 hf H locs hG => ?_)
      refine lv_aload_n hx hb d_L_law_161 rfl (lv_at hl 2 rfl) ?_
      refine lv_aload_n hx hb d_L_law_162 rfl (lv_at hl 0 rfl) ?_
      refine lv_iload_n hx hb d_L_law_163 rfl (lv_at hl 3 rfl) ?_
      refine lv_iconst (v := (1 : Int32)) hx hb d_L_law_164 (by decide) ?_
      refine lv_iadd hx hb d_L_law_165 ?_
      refine va_sld hx hb hX.1 hX.2.1 hX.2.2 hG.2.2 hf.1 d_L_law_166 ?_
      have hf := hf.2
      refine iv_L_17 S hl.1 hG hk_r2 (c_10_type l hk_r2 hf) ⟨Nat.le_of_ble_eq_true rfl, Nat.le_of_ble_eq_true rfl⟩ (Nat.le_of_ble_eq_true rfl) d_L_law_167 (fun v_6 σ_5 hf H locs hG => ?_)
      refine lv_icmp_eq (tgt := 883) hx hb d_L_law_170 (by decide) (fun hc => ?_) (fun hc => ?_)
      · have hf := hf.1 hc
        obtain ⟨x3_7, ex3_7⟩ : ∃ y : Int32, y = x3 + 5 := ⟨_, rfl⟩
        have hf := hf x3_7 ex3_7
        refine lv_iinc (v := x3_7) (lv' := [(3, .int x3_7), (0, .ref b), (1, .ref (ad r1)), (2, .ref (ad r2))]) hx hb d_L_law_883 hl (k := 3) rfl (by rw [ex3_7]; rfl) (by decide) rfl (fun ls hl => ?_)
        refine lv_goto (tgt := 18) hx hb d_L_law_886 (by decide) ?_
        exact hB18 _ _ _ _ _  hG (lv_sub hl [1, 2, 3, 0] rfl) hf
      · have hf := hf.2 hc
        refine lv_iconst (v := (0 : Int32)) hx hb d_L_law_173 (by decide) ?_
        exact hR _ _ _ _ _ _ hG hf d_L_law_174
    · subst hq_1
      refine lv_tableIn (off := 143) (tgt := 175) hx hb d_L_law_32 (by decide) (by decide) (by decide) (by decide) ?_
      have hf := hf.2.2.1 eq_1.symm
      refine lv_aload_n hx hb d_L_law_175 rfl (lv_at hl 1 rfl) ?_
      refine iv_L_18 S hl.1 hG hk_r1 (c_9_clearText l hk_r1 hf) ⟨Nat.le_of_ble_eq_true rfl, Nat.le_of_ble_eq_true rfl⟩ (Nat.le_of_ble_eq_true rfl) d_L_law_176 (fun v_9 σ_8 hf H locs hG => ?_)
      refine lv_aload_n hx hb d_L_law_179 rfl (lv_at hl 2 rfl) ?_
      refine iv_L_22 S hl.1 hG hk_r2 (c_10_clearText l hk_r2 hf) ⟨Nat.le_of_ble_eq_true rfl, Nat.le_of_ble_eq_true rfl⟩ (Nat.le_of_ble_eq_true rfl) d_L_law_180 (fun v_11 σ_10 hf H locs hG => ?_)
      refine lv_icmp_eq (tgt := 883) hx hb d_L_law_183 (by decide) (fun hc => ?_) (fun hc => ?_)
      · have hf := hf.1 hc
        obtain ⟨x3_12, ex3_12⟩ : ∃ y : Int32, y = x3 + 5 := ⟨_, rfl⟩
        have hf := hf x3_12 ex3_12
        refine lv_iinc (v := x3_12) (lv' := [(3, .int x3_12), (0, .ref b), (1, .ref (ad r1)), (2, .ref (ad r2))]) hx hb d_L_law_883 hl (k := 3) rfl (by rw [ex3_12]; rfl) (by decide) rfl (fun ls hl => ?_)
        refine lv_goto (tgt := 18) hx hb d_L_law_886 (by decide) ?_
        exact hB18 _ _ _ _ _  hG (lv_sub hl [1, 2, 3, 0] rfl) hf
      · have hf := hf.2 hc
        refine lv_iconst (v := (0 : Int32)) hx hb d_L_law_186 (by decide) ?_
        exact hR _ _ _ _ _ _ hG hf d_L_law_187
    · subst hq_1
      refine lv_tableIn (off := 156) (tgt := 188) hx hb d_L_law_32 (by decide) (by decide) (by decide) (by decide) ?_
      have hf := hf.2.2.2.1 eq_1.symm
      refine lv_aload_n hx hb d_L_law_188 rfl (lv_at hl 1 rfl) ?_
      refine lv_aload_n hx hb d_L_law_189 rfl (lv_at hl 0 rfl) ?_
      refine lv_iload_n hx hb d_L_law_190 rfl (lv_at hl 3 rfl) ?_
      refine lv_iconst (v := (1 : Int32)) hx hb d_L_law_191 (by decide) ?_
      refine lv_iadd hx hb d_L_law_192 ?_
      refine va_sld hx hb hX.1 hX.2.1 hX.2.2 hG.2.2 hf.1 d_L_law_193 ?_
      have hf := hf.2
      refine iv_L_23 S hl.1 hG hk_r1 (c_9_load l hk_r1 hf) ⟨Nat.le_of_ble_eq_true rfl, Nat.le_of_ble_eq_true rfl⟩ (Nat.le_of_ble_eq_true rfl) d_L_law_194 (fun v_14 σ_13 hf H locs hG => ?_)
      refine lv_aload_n hx hb d_L_law_197 rfl (lv_at hl 2 rfl) ?_
      refine lv_aload_n hx hb d_L_law_198 rfl (lv_at hl 0 rfl) ?_
      refine lv_iload_n hx hb d_L_law_199 rfl (lv_at hl 3 rfl) ?_
      refine lv_iconst (v := (1 : Int32)) hx hb d_L_law_200 (by decide) ?_
      refine lv_iadd hx hb d_L_law_201 ?_
      refine va_sld hx hb hX.1 hX.2.1 hX.2.2 hG.2.2 hf.1 d_L_law_202 ?_
      have hf := hf.2
      refine iv_L_26 S hl.1 hG hk_r2 (c_10_load l hk_r2 hf) ⟨Nat.le_of_ble_eq_true rfl, Nat.le_of_ble_eq_true rfl⟩ (Nat.le_of_ble_eq_true rfl) d_L_law_203 (fun v_16 σ_15 hf H locs hG => ?_)
      refine lv_icmp_eq (tgt := 883) hx hb d_L_law_206 (by decide) (fun hc => ?_) (fun hc => ?_)
      · have hf := hf.1 hc
        obtain ⟨x3_17, ex3_17⟩ : ∃ y : Int32, y = x3 + 5 := ⟨_, rfl⟩
        have hf := hf x3_17 ex3_17
        refine lv_iinc (v := x3_17) (lv' := [(3, .int x3_17), (0, .ref b), (1, .ref (ad r1)), (2, .ref (ad r2))]) hx hb d_L_law_883 hl (k := 3) rfl (by rw [ex3_17]; rfl) (by decide) rfl (fun ls hl => ?_)
        refine lv_goto (tgt := 18) hx hb d_L_law_886 (by decide) ?_
        exact hB18 _ _ _ _ _  hG (lv_sub hl [1, 2, 3, 0] rfl) hf
      · have hf := hf.2 hc
        refine lv_iconst (v := (0 : Int32)) hx hb d_L_law_209 (by decide) ?_
        exact hR _ _ _ _ _ _ hG hf d_L_law_210
    · subst hq_1
      refine lv_tableIn (off := 179) (tgt := 211) hx hb d_L_law_32 (by decide) (by decide) (by decide) (by decide) ?_
      have hf := hf.2.2.2.2.1 eq_1.symm
      refine lv_aload_n hx hb d_L_law_211 rfl (lv_at hl 1 rfl) ?_
      refine iv_L_27 S hl.1 hG hk_r1 (c_9_faultKind l hk_r1 hf) ⟨Nat.le_of_ble_eq_true rfl, Nat.le_of_ble_eq_true rfl⟩ (Nat.le_of_ble_eq_true rfl) d_L_law_212 (fun v_19 σ_18 hf H locs hG => ?_)
      refine lv_aload_n hx hb d_L_law_215 rfl (lv_at hl 2 rfl) ?_
      refine iv_L_30 S hl.1 hG hk_r2 (c_10_faultKind l hk_r2 hf) ⟨Nat.le_of_ble_eq_true rfl, Nat.le_of_ble_eq_true rfl⟩ (Nat.le_of_ble_eq_true rfl) d_L_law_216 (fun v_21 σ_20 hf H locs hG => ?_)
      refine lv_icmp_eq (tgt := 883) hx hb d_L_law_219 (by decide) (fun hc => ?_) (fun hc => ?_)
      · have hf := hf.1 hc
        obtain ⟨x3_22, ex3_22⟩ : ∃ y : Int32, y = x3 + 5 := ⟨_, rfl⟩
        have hf := hf x3_22 ex3_22
        refine lv_iinc (v := x3_22) (lv' := [(3, .int x3_22), (0, .ref b), (1, .ref (ad r1)), (2, .ref (ad r2))]) hx hb d_L_law_883 hl (k := 3) rfl (by rw [ex3_22]; rfl) (by decide) rfl (fun ls hl => ?_)
        refine lv_goto (tgt := 18) hx hb d_L_law_886 (by decide) ?_
        exact hB18 _ _ _ _ _  hG (lv_sub hl [1, 2, 3, 0] rfl) hf
      · have hf := hf.2 hc
        refine lv_iconst (v := (0 : Int32)) hx hb d_L_law_222 (by decide) ?_
        exact hR _ _ _ _ _ _ hG hf d_L_law_223
    · subst hq_1
      refine lv_tableIn (off := 192) (tgt := 224) hx hb d_L_law_32 (by decide) (by decide) (by decide) (by decide) ?_
      have hf := hf.2.2.2.2.2.1 eq_1.symm
      refine lv_aload_n hx hb d_L_law_224 rfl (lv_at hl 1 rfl) ?_
      refine lv_aload_n hx hb d_L_law_225 rfl (lv_at hl 0 rfl) ?_
      refine lv_iload_n hx hb d_L_law_226 rfl (lv_at hl 3 rfl) ?_
      refine lv_iconst (v := (1 : Int32)) hx hb d_L_law_227 (by decide) ?_
      refine lv_iadd hx hb d_L_law_228 ?_
      refine va_sld hx hb hX.1 hX.2.1 hX.2.2 hG.2.2 hf.1 d_L_law_229 ?_
      have hf := hf.2
      refine lv_aload_n hx hb d_L_law_230 rfl (lv_at hl 0 rfl) ?_
      refine lv_iload_n hx hb d_L_law_231 rfl (lv_at hl 3 rfl) ?_
      refine lv_iconst (v := (2 : Int32)) hx hb d_L_law_232 (by decide) ?_
      refine lv_iadd hx hb d_L_law_233 ?_
      refine va_sld hx hb hX.1 hX.2.1 hX.2.2 hG.2.2 hf.1 d_L_law_234 ?_
      have hf := hf.2
      refine lv_aload_n hx hb d_L_law_235 rfl (lv_at hl 0 rfl) ?_
      refine lv_iload_n hx hb d_L_law_236 rfl (lv_at hl 3 rfl) ?_
      refine lv_iconst (v := (3 : Int32)) hx hb d_L_law_237 (by decide) ?_
      refine lv_iadd hx hb d_L_law_238 ?_
      refine va_sld hx hb hX.1 hX.2.1 hX.2.2 hG.2.2 hf.1 d_L_law_239 ?_
      have hf := hf.2
      refine iv_L_31 S hl.1 hG hk_r1 (c_9_addStreet l hk_r1 hf) ⟨Nat.le_of_ble_eq_true rfl, Nat.le_of_ble_eq_true rfl⟩ (Nat.le_of_ble_eq_true rfl) d_L_law_240 (fun v_24 σ_23 hf H locs hG => ?_)
      refine lv_aload_n hx hb d_L_law_243 rfl (lv_at hl 2 rfl) ?_
      refine lv_aload_n hx hb d_L_law_244 rfl (lv_at hl 0 rfl) ?_
      refine lv_iload_n hx hb d_L_law_245 rfl (lv_at hl 3 rfl) ?_
      refine lv_iconst (v := (1 : Int32)) hx hb d_L_law_246 (by decide) ?_
      refine lv_iadd hx hb d_L_law_247 ?_
      refine va_sld hx hb hX.1 hX.2.1 hX.2.2 hG.2.2 hf.1 d_L_law_248 ?_
      have hf := hf.2
      refine lv_aload_n hx hb d_L_law_249 rfl (lv_at hl 0 rfl) ?_
      refine lv_iload_n hx hb d_L_law_250 rfl (lv_at hl 3 rfl) ?_
      refine lv_iconst (v := (2 : Int32)) hx hb d_L_law_251 (by decide) ?_
      refine lv_iadd hx hb d_L_law_252 ?_
      refine va_sld hx hb hX.1 hX.2.1 hX.2.2 hG.2.2 hf.1 d_L_law_253 ?_
      have hf := hf.2
      refine lv_aload_n hx hb d_L_law_254 rfl (lv_at hl 0 rfl) ?_
      refine lv_iload_n hx hb d_L_law_255 rfl (lv_at hl 3 rfl) ?_
      refine lv_iconst (v := (3 : Int32)) hx hb d_L_law_256 (by decide) ?_
      refine lv_iadd hx hb d_L_law_257 ?_
      refine va_sld hx hb hX.1 hX.2.1 hX.2.2 hG.2.2 hf.1 d_L_law_258 ?_
      have hf := hf.2
      refine iv_L_35 S hl.1 hG hk_r2 (c_10_addStreet l hk_r2 hf) ⟨Nat.le_of_ble_eq_true rfl, Nat.le_of_ble_eq_true rfl⟩ (Nat.le_of_ble_eq_true rfl) d_L_law_259 (fun v_26 σ_25 hf H locs hG => ?_)
      refine lv_icmp_eq (tgt := 883) hx hb d_L_law_262 (by decide) (fun hc => ?_) (fun hc => ?_)
      · have hf := hf.1 hc
        obtain ⟨x3_27, ex3_27⟩ : ∃ y : Int32, y = x3 + 5 := ⟨_, rfl⟩
        have hf := hf x3_27 ex3_27
        refine lv_iinc (v := x3_27) (lv' := [(3, .int x3_27), (0, .ref b), (1, .ref (ad r1)), (2, .ref (ad r2))]) hx hb d_L_law_883 hl (k := 3) rfl (by rw [ex3_27]; rfl) (by decide) rfl (fun ls hl => ?_)
        refine lv_goto (tgt := 18) hx hb d_L_law_886 (by decide) ?_
        exact hB18 _ _ _ _ _  hG (lv_sub hl [1, 2, 3, 0] rfl) hf
      · have hf := hf.2 hc
        refine lv_iconst (v := (0 : Int32)) hx hb d_L_law_265 (by decide) ?_
        exact hR _ _ _ _ _ _ hG hf d_L_law_266
    · subst hq_1
      refine lv_tableIn (off := 235) (tgt := 267) hx hb d_L_law_32 (by decide) (by decide) (by decide) (by decide) ?_
      have hf := hf.2.2.2.2.2.2.1 eq_1.symm
      refine lv_aload_n hx hb d_L_law_267 rfl (lv_at hl 1 rfl) ?_
      refine lv_aload_n hx hb d_L_law_268 rfl (lv_at hl 0 rfl) ?_
      refine lv_iload_n hx hb d_L_law_269 rfl (lv_at hl 3 rfl) ?_
      refine lv_iconst (v := (1 : Int32)) hx hb d_L_law_270 (by decide) ?_
      refine lv_iadd hx hb d_L_law_271 ?_
      refine va_sld hx hb hX.1 hX.2.1 hX.2.2 hG.2.2 hf.1 d_L_law_272 ?_
      have hf := hf.2
      refine iv_L_36 S hl.1 hG hk_r1 (c_9_dropStreet l hk_r1 hf) ⟨Nat.le_of_ble_eq_true rfl, Nat.le_of_ble_eq_true rfl⟩ (Nat.le_of_ble_eq_true rfl) d_L_law_273 (fun v_29 σ_28 hf H locs hG => ?_)
      refine lv_aload_n hx hb d_L_law_276 rfl (lv_at hl 2 rfl) ?_
      refine lv_aload_n hx hb d_L_law_277 rfl (lv_at hl 0 rfl) ?_
      refine lv_iload_n hx hb d_L_law_278 rfl (lv_at hl 3 rfl) ?_
      refine lv_iconst (v := (1 : Int32)) hx hb d_L_law_279 (by decide) ?_
      refine lv_iadd hx hb d_L_law_280 ?_
      refine va_sld hx hb hX.1 hX.2.1 hX.2.2 hG.2.2 hf.1 d_L_law_281 ?_
      have hf := hf.2
      refine iv_L_39 S hl.1 hG hk_r2 (c_10_dropStreet l hk_r2 hf) ⟨Nat.le_of_ble_eq_true rfl, Nat.le_of_ble_eq_true rfl⟩ (Nat.le_of_ble_eq_true rfl) d_L_law_282 (fun v_31 σ_30 hf H locs hG => ?_)
      refine lv_icmp_eq (tgt := 883) hx hb d_L_law_285 (by decide) (fun hc => ?_) (fun hc => ?_)
      · have hf := hf.1 hc
        obtain ⟨x3_32, ex3_32⟩ : ∃ y : Int32, y = x3 + 5 := ⟨_, rfl⟩
        have hf := hf x3_32 ex3_32
        refine lv_iinc (v := x3_32) (lv' := [(3, .int x3_32), (0, .ref b), (1, .ref (ad r1)), (2, .ref (ad r2))]) hx hb d_L_law_883 hl (k := 3) rfl (by rw [ex3_32]; rfl) (by decide) rfl (fun ls hl => ?_)
        refine lv_goto (tgt := 18) hx hb d_L_law_886 (by decide) ?_
        exact hB18 _ _ _ _ _  hG (lv_sub hl [1, 2, 3, 0] rfl) hf
      · have hf := hf.2 hc
        refine lv_iconst (v := (0 : Int32)) hx hb d_L_law_288 (by decide) ?_
        exact hR _ _ _ _ _ _ hG hf d_L_law_289
    · subst hq_1
      refine lv_tableIn (off := 258) (tgt := 290) hx hb d_L_law_32 (by decide) (by decide) (by decide) (by decide) ?_
      have hf := hf.2.2.2.2.2.2.2.1 eq_1.symm
      refine lv_aload_n hx hb d_L_law_290 rfl (lv_at hl 1 rfl) ?_
      refine lv_aload_n hx hb d_L_law_291 rfl (lv_at hl 0 rfl) ?_
      refine lv_iload_n hx hb d_L_law_292 rfl (lv_at hl 3 rfl) ?_
      refine lv_iconst (v := (1 : Int32)) hx hb d_L_law_293 (by decide) ?_
      refine lv_iadd hx hb d_L_law_294 ?_
      refine va_sld hx hb hX.1 hX.2.1 hX.2.2 hG.2.2 hf.1 d_L_law_295 ?_
      have hf := hf.2
      refine lv_aload_n hx hb d_L_law_296 rfl (lv_at hl 0 rfl) ?_
      refine lv_iload_n hx hb d_L_law_297 rfl (lv_at hl 3 rfl) ?_
      refine lv_iconst (v := (2 : Int32)) hx hb d_L_law_298 (by decide) ?_
      refine lv_iadd hx hb d_L_law_299 ?_
      refine va_sld hx hb hX.1 hX.2.1 hX.2.2 hG.2.2 hf.1 d_L_law_300 ?_
      have hf := hf.2
      refine lv_aload_n hx hb d_L_law_301 rfl (lv_at hl 0 rfl) ?_
      refine lv_iload_n hx hb d_L_law_302 rfl (lv_at hl 3 rfl) ?_
      refine lv_iconst (v := (3 : Int32)) hx hb d_L_law_303 (by decide) ?_
      refine lv_iadd hx hb d_L_law_304 ?_
      refine va_sld hx hb hX.1 hX.2.1 hX.2.2 hG.2.2 hf.1 d_L_law_305 ?_
      have hf := hf.2
      refine lv_aload_n hx hb d_L_law_306 rfl (lv_at hl 0 rfl) ?_
      refine lv_iload_n hx hb d_L_law_307 rfl (lv_at hl 3 rfl) ?_
      refine lv_iconst (v := (4 : Int32)) hx hb d_L_law_308 (by decide) ?_
      refine lv_iadd hx hb d_L_law_309 ?_
      refine va_sld hx hb hX.1 hX.2.1 hX.2.2 hG.2.2 hf.1 d_L_law_310 ?_
      have hf := hf.2
      refine iv_L_40 S hl.1 hG hk_r1 (c_9_lay l hk_r1 hf) ⟨Nat.le_of_ble_eq_true rfl, Nat.le_of_ble_eq_true rfl⟩ (Nat.le_of_ble_eq_true rfl) d_L_law_311 (fun v_34 σ_33 hf H locs hG => ?_)
      refine lv_aload_n hx hb d_L_law_314 rfl (lv_at hl 2 rfl) ?_
      refine lv_aload_n hx hb d_L_law_315 rfl (lv_at hl 0 rfl) ?_
      refine lv_iload_n hx hb d_L_law_316 rfl (lv_at hl 3 rfl) ?_
      refine lv_iconst (v := (1 : Int32)) hx hb d_L_law_317 (by decide) ?_
      refine lv_iadd hx hb d_L_law_318 ?_
      refine va_sld hx hb hX.1 hX.2.1 hX.2.2 hG.2.2 hf.1 d_L_law_319 ?_
      have hf := hf.2
      refine lv_aload_n hx hb d_L_law_320 rfl (lv_at hl 0 rfl) ?_
      refine lv_iload_n hx hb d_L_law_321 rfl (lv_at hl 3 rfl) ?_
      refine lv_iconst (v := (2 : Int32)) hx hb d_L_law_322 (by decide) ?_
      refine lv_iadd hx hb d_L_law_323 ?_
      refine va_sld hx hb hX.1 hX.2.1 hX.2.2 hG.2.2 hf.1 d_L_law_324 ?_
      have hf := hf.2
      refine lv_aload_n hx hb d_L_law_325 rfl (lv_at hl 0 rfl) ?_
      refine lv_iload_n hx hb d_L_law_326 rfl (lv_at hl 3 rfl) ?_
      refine lv_iconst (v := (3 : Int32)) hx hb d_L_law_327 (by decide) ?_
      refine lv_iadd hx hb d_L_law_328 ?_
      refine va_sld hx hb hX.1 hX.2.1 hX.2.2 hG.2.2 hf.1 d_L_law_329 ?_
      have hf := hf.2
      refine lv_aload_n hx hb d_L_law_330 rfl (lv_at hl 0 rfl) ?_
      refine lv_iload_n hx hb d_L_law_331 rfl (lv_at hl 3 rfl) ?_
      refine lv_iconst (v := (4 : Int32)) hx hb d_L_law_332 (by decide) ?_
      refine lv_iadd hx hb d_L_law_333 ?_
      refine va_sld hx hb hX.1 hX.2.1 hX.2.2 hG.2.2 hf.1 d_L_law_334 ?_
      have hf := hf.2
      refine iv_L_44 S hl.1 hG hk_r2 (c_10_lay l hk_r2 hf) ⟨Nat.le_of_ble_eq_true rfl, Nat.le_of_ble_eq_true rfl⟩ (Nat.le_of_ble_eq_true rfl) d_L_law_335 (fun v_36 σ_35 hf H locs hG => ?_)
      refine lv_icmp_eq (tgt := 883) hx hb d_L_law_338 (by decide) (fun hc => ?_) (fun hc => ?_)
      · have hf := hf.1 hc
        obtain ⟨x3_37, ex3_37⟩ : ∃ y : Int32, y = x3 + 5 := ⟨_, rfl⟩
        have hf := hf x3_37 ex3_37
        refine lv_iinc (v := x3_37) (lv' := [(3, .int x3_37), (0, .ref b), (1, .ref (ad r1)), (2, .ref (ad r2))]) hx hb d_L_law_883 hl (k := 3) rfl (by rw [ex3_37]; rfl) (by decide) rfl (fun ls hl => ?_)
        refine lv_goto (tgt := 18) hx hb d_L_law_886 (by decide) ?_
        exact hB18 _ _ _ _ _  hG (lv_sub hl [1, 2, 3, 0] rfl) hf
      · have hf := hf.2 hc
        refine lv_iconst (v := (0 : Int32)) hx hb d_L_law_341 (by decide) ?_
        exact hR _ _ _ _ _ _ hG hf d_L_law_342
    · subst hq_1
      refine lv_tableIn (off := 311) (tgt := 343) hx hb d_L_law_32 (by decide) (by decide) (by decide) (by decide) ?_
      have hf := hf.2.2.2.2.2.2.2.2.1 eq_1.symm
      refine lv_aload_n hx hb d_L_law_343 rfl (lv_at hl 1 rfl) ?_
      refine lv_aload_n hx hb d_L_law_344 rfl (lv_at hl 0 rfl) ?_
      refine lv_iload_n hx hb d_L_law_345 rfl (lv_at hl 3 rfl) ?_
      refine lv_iconst (v := (1 : Int32)) hx hb d_L_law_346 (by decide) ?_
      refine lv_iadd hx hb d_L_law_347 ?_
      refine va_sld hx hb hX.1 hX.2.1 hX.2.2 hG.2.2 hf.1 d_L_law_348 ?_
      have hf := hf.2
      refine lv_aload_n hx hb d_L_law_349 rfl (lv_at hl 0 rfl) ?_
      refine lv_iload_n hx hb d_L_law_350 rfl (lv_at hl 3 rfl) ?_
      refine lv_iconst (v := (2 : Int32)) hx hb d_L_law_351 (by decide) ?_
      refine lv_iadd hx hb d_L_law_352 ?_
      refine va_sld hx hb hX.1 hX.2.1 hX.2.2 hG.2.2 hf.1 d_L_law_353 ?_
      have hf := hf.2
      refine lv_aload_n hx hb d_L_law_354 rfl (lv_at hl 0 rfl) ?_
      refine lv_iload_n hx hb d_L_law_355 rfl (lv_at hl 3 rfl) ?_
      refine lv_iconst (v := (3 : Int32)) hx hb d_L_law_356 (by decide) ?_
      refine lv_iadd hx hb d_L_law_357 ?_
      refine va_sld hx hb hX.1 hX.2.1 hX.2.2 hG.2.2 hf.1 d_L_law_358 ?_
      have hf := hf.2
      refine lv_aload_n hx hb d_L_law_359 rfl (lv_at hl 0 rfl) ?_
      refine lv_iload_n hx hb d_L_law_360 rfl (lv_at hl 3 rfl) ?_
      refine lv_iconst (v := (4 : Int32)) hx hb d_L_law_361 (by decide) ?_
      refine lv_iadd hx hb d_L_law_362 ?_
      refine va_sld hx hb hX.1 hX.2.1 hX.2.2 hG.2.2 hf.1 d_L_law_363 ?_
      have hf := hf.2
      refine lv_if_eq (tgt := 371) hx hb d_L_law_364 (by decide) (fun hc => ?_) (fun hc => ?_)
      · have hf := hf.1 hc
        refine lv_iconst (v := (0 : Int32)) hx hb d_L_law_371 (by decide) ?_
        exact w_L_law_372 S hR hX hk_r1 hk_r2  hk_r1 hB18 hG (lv_sub hl [0, 1, 2, 3] rfl) hf
      · have hf := hf.2 hc
        refine lv_iconst (v := (1 : Int32)) hx hb d_L_law_367 (by decide) ?_
        refine lv_goto (tgt := 372) hx hb d_L_law_368 (by decide) ?_
        exact w_L_law_372 S hR hX hk_r1 hk_r2  hk_r1 hB18 hG (lv_sub hl [0, 1, 2, 3] rfl) hf
    · subst hq_1
      refine lv_tableIn (off := 380) (tgt := 412) hx hb d_L_law_32 (by decide) (by decide) (by decide) (by decide) ?_
      have hf := hf.2.2.2.2.2.2.2.2.2.1 eq_1.symm
      refine lv_aload_n hx hb d_L_law_412 rfl (lv_at hl 1 rfl) ?_
      refine lv_aload_n hx hb d_L_law_413 rfl (lv_at hl 0 rfl) ?_
      refine lv_iload_n hx hb d_L_law_414 rfl (lv_at hl 3 rfl) ?_
      refine lv_iconst (v := (1 : Int32)) hx hb d_L_law_415 (by decide) ?_
      refine lv_iadd hx hb d_L_law_416 ?_
      refine va_sld hx hb hX.1 hX.2.1 hX.2.2 hG.2.2 hf.1 d_L_law_417 ?_
      have hf := hf.2
      refine lv_aload_n hx hb d_L_law_418 rfl (lv_at hl 0 rfl) ?_
      refine lv_iload_n hx hb d_L_law_419 rfl (lv_at hl 3 rfl) ?_
      refine lv_iconst (v := (2 : Int32)) hx hb d_L_law_420 (by decide) ?_
      refine lv_iadd hx hb d_L_law_421 ?_
      refine va_sld hx hb hX.1 hX.2.1 hX.2.2 hG.2.2 hf.1 d_L_law_422 ?_
      have hf := hf.2
      refine lv_aload_n hx hb d_L_law_423 rfl (lv_at hl 0 rfl) ?_
      refine lv_iload_n hx hb d_L_law_424 rfl (lv_at hl 3 rfl) ?_
      refine lv_iconst (v := (3 : Int32)) hx hb d_L_law_425 (by decide) ?_
      refine lv_iadd hx hb d_L_law_426 ?_
      refine va_sld hx hb hX.1 hX.2.1 hX.2.2 hG.2.2 hf.1 d_L_law_427 ?_
      have hf := hf.2
      refine lv_aload_n hx hb d_L_law_428 rfl (lv_at hl 0 rfl) ?_
      refine lv_iload_n hx hb d_L_law_429 rfl (lv_at hl 3 rfl) ?_
      refine lv_iconst (v := (4 : Int32)) hx hb d_L_law_430 (by decide) ?_
      refine lv_iadd hx hb d_L_law_431 ?_
      refine va_sld hx hb hX.1 hX.2.1 hX.2.2 hG.2.2 hf.1 d_L_law_432 ?_
      have hf := hf.2
      refine iv_L_50 S hl.1 hG hk_r1 (c_9_cell l hk_r1 hf) ⟨Nat.le_of_ble_eq_true rfl, Nat.le_of_ble_eq_true rfl⟩ (Nat.le_of_ble_eq_true rfl) d_L_law_433 (fun v_39 σ_38 hf H locs hG => ?_)
      refine lv_aload_n hx hb d_L_law_436 rfl (lv_at hl 2 rfl) ?_
      refine lv_aload_n hx hb d_L_law_437 rfl (lv_at hl 0 rfl) ?_
      refine lv_iload_n hx hb d_L_law_438 rfl (lv_at hl 3 rfl) ?_
      refine lv_iconst (v := (1 : Int32)) hx hb d_L_law_439 (by decide) ?_
      refine lv_iadd hx hb d_L_law_440 ?_
      refine va_sld hx hb hX.1 hX.2.1 hX.2.2 hG.2.2 hf.1 d_L_law_441 ?_
      have hf := hf.2
      refine lv_aload_n hx hb d_L_law_442 rfl (lv_at hl 0 rfl) ?_
      refine lv_iload_n hx hb d_L_law_443 rfl (lv_at hl 3 rfl) ?_
      refine lv_iconst (v := (2 : Int32)) hx hb d_L_law_444 (by decide) ?_
      refine lv_iadd hx hb d_L_law_445 ?_
      refine va_sld hx hb hX.1 hX.2.1 hX.2.2 hG.2.2 hf.1 d_L_law_446 ?_
      have hf := hf.2
      refine lv_aload_n hx hb d_L_law_447 rfl (lv_at hl 0 rfl) ?_
      refine lv_iload_n hx hb d_L_law_448 rfl (lv_at hl 3 rfl) ?_
      refine lv_iconst (v := (3 : Int32)) hx hb d_L_law_449 (by decide) ?_
      refine lv_iadd hx hb d_L_law_450 ?_
      refine va_sld hx hb hX.1 hX.2.1 hX.2.2 hG.2.2 hf.1 d_L_law_451 ?_
      have hf := hf.2
      refine lv_aload_n hx hb d_L_law_452 rfl (lv_at hl 0 rfl) ?_
      refine lv_iload_n hx hb d_L_law_453 rfl (lv_at hl 3 rfl) ?_
      refine lv_iconst (v := (4 : Int32)) hx hb d_L_law_454 (by decide) ?_
      refine lv_iadd hx hb d_L_law_455 ?_
      refine va_sld hx hb hX.1 hX.2.1 hX.2.2 hG.2.2 hf.1 d_L_law_456 ?_
      have hf := hf.2
      refine iv_L_53 S hl.1 hG hk_r2 (c_10_cell l hk_r2 hf) ⟨Nat.le_of_ble_eq_true rfl, Nat.le_of_ble_eq_true rfl⟩ (Nat.le_of_ble_eq_true rfl) d_L_law_457 (fun v_41 σ_40 hf H locs hG => ?_)
      refine lv_icmp_eq (tgt := 883) hx hb d_L_law_460 (by decide) (fun hc => ?_) (fun hc => ?_)
      · have hf := hf.1 hc
        obtain ⟨x3_42, ex3_42⟩ : ∃ y : Int32, y = x3 + 5 := ⟨_, rfl⟩
        have hf := hf x3_42 ex3_42
        refine lv_iinc (v := x3_42) (lv' := [(3, .int x3_42), (0, .ref b), (1, .ref (ad r1)), (2, .ref (ad r2))]) hx hb d_L_law_883 hl (k := 3) rfl (by rw [ex3_42]; rfl) (by decide) rfl (fun ls hl => ?_)
        refine lv_goto (tgt := 18) hx hb d_L_law_886 (by decide) ?_
        exact hB18 _ _ _ _ _  hG (lv_sub hl [1, 2, 3, 0] rfl) hf
      · have hf := hf.2 hc
        refine lv_iconst (v := (0 : Int32)) hx hb d_L_law_463 (by decide) ?_
        exact hR _ _ _ _ _ _ hG hf d_L_law_464
    · subst hq_1
      refine lv_tableIn (off := 433) (tgt := 465) hx hb d_L_law_32 (by decide) (by decide) (by decide) (by decide) ?_
      have hf := hf.2.2.2.2.2.2.2.2.2.2.1 eq_1.symm
      refine lv_aload_n hx hb d_L_law_465 rfl (lv_at hl 1 rfl) ?_
      refine lv_aload_n hx hb d_L_law_466 rfl (lv_at hl 0 rfl) ?_
      refine lv_iload_n hx hb d_L_law_467 rfl (lv_at hl 3 rfl) ?_
      refine lv_iconst (v := (1 : Int32)) hx hb d_L_law_468 (by decide) ?_
      refine lv_iadd hx hb d_L_law_469 ?_
      refine va_sld hx hb hX.1 hX.2.1 hX.2.2 hG.2.2 hf.1 d_L_law_470 ?_
      have hf := hf.2
      refine lv_aload_n hx hb d_L_law_471 rfl (lv_at hl 0 rfl) ?_
      refine lv_iload_n hx hb d_L_law_472 rfl (lv_at hl 3 rfl) ?_
      refine lv_iconst (v := (2 : Int32)) hx hb d_L_law_473 (by decide) ?_
      refine lv_iadd hx hb d_L_law_474 ?_
      refine va_sld hx hb hX.1 hX.2.1 hX.2.2 hG.2.2 hf.1 d_L_law_475 ?_
      have hf := hf.2
      refine iv_L_54 S hl.1 hG hk_r1 (c_9_street l hk_r1 hf) ⟨Nat.le_of_ble_eq_true rfl, Nat.le_of_ble_eq_true rfl⟩ (Nat.le_of_ble_eq_true rfl) d_L_law_476 (fun v_44 σ_43 hf H locs hG => ?_)
      refine lv_aload_n hx hb d_L_law_479 rfl (lv_at hl 2 rfl) ?_
      refine lv_aload_n hx hb d_L_law_480 rfl (lv_at hl 0 rfl) ?_
      refine lv_iload_n hx hb d_L_law_481 rfl (lv_at hl 3 rfl) ?_
      refine lv_iconst (v := (1 : Int32)) hx hb d_L_law_482 (by decide) ?_
      refine lv_iadd hx hb d_L_law_483 ?_
      refine va_sld hx hb hX.1 hX.2.1 hX.2.2 hG.2.2 hf.1 d_L_law_484 ?_
      have hf := hf.2
      refine lv_aload_n hx hb d_L_law_485 rfl (lv_at hl 0 rfl) ?_
      refine lv_iload_n hx hb d_L_law_486 rfl (lv_at hl 3 rfl) ?_
      refine lv_iconst (v := (2 : Int32)) hx hb d_L_law_487 (by decide) ?_
      refine lv_iadd hx hb d_L_law_488 ?_
      refine va_sld hx hb hX.1 hX.2.1 hX.2.2 hG.2.2 hf.1 d_L_law_489 ?_
      have hf := hf.2
      refine iv_L_58 S hl.1 hG hk_r2 (c_10_street l hk_r2 hf) ⟨Nat.le_of_ble_eq_true rfl, Nat.le_of_ble_eq_true rfl⟩ (Nat.le_of_ble_eq_true rfl) d_L_law_490 (fun v_46 σ_45 hf H locs hG => ?_)
      refine lv_icmp_eq (tgt := 883) hx hb d_L_law_493 (by decide) (fun hc => ?_) (fun hc => ?_)
      · have hf := hf.1 hc
        obtain ⟨x3_47, ex3_47⟩ : ∃ y : Int32, y = x3 + 5 := ⟨_, rfl⟩
        have hf := hf x3_47 ex3_47
        refine lv_iinc (v := x3_47) (lv' := [(3, .int x3_47), (0, .ref b), (1, .ref (ad r1)), (2, .ref (ad r2))]) hx hb d_L_law_883 hl (k := 3) rfl (by rw [ex3_47]; rfl) (by decide) rfl (fun ls hl => ?_)
        refine lv_goto (tgt := 18) hx hb d_L_law_886 (by decide) ?_
        exact hB18 _ _ _ _ _  hG (lv_sub hl [1, 2, 3, 0] rfl) hf
      · have hf := hf.2 hc
        refine lv_iconst (v := (0 : Int32)) hx hb d_L_law_496 (by decide) ?_
        exact hR _ _ _ _ _ _ hG hf d_L_law_497
    · subst hq_1
      refine lv_tableIn (off := 466) (tgt := 498) hx hb d_L_law_32 (by decide) (by decide) (by decide) (by decide) ?_
      have hf := hf.2.2.2.2.2.2.2.2.2.2.2.1 eq_1.symm
      refine lv_aload_n hx hb d_L_law_498 rfl (lv_at hl 1 rfl) ?_
      refine lv_aload_n hx hb d_L_law_499 rfl (lv_at hl 0 rfl) ?_
      refine lv_iload_n hx hb d_L_law_500 rfl (lv_at hl 3 rfl) ?_
      refine lv_iconst (v := (1 : Int32)) hx hb d_L_law_501 (by decide) ?_
      refine lv_iadd hx hb d_L_law_502 ?_
      refine va_sld hx hb hX.1 hX.2.1 hX.2.2 hG.2.2 hf.1 d_L_law_503 ?_
      have hf := hf.2
      refine lv_aload_n hx hb d_L_law_504 rfl (lv_at hl 0 rfl) ?_
      refine lv_iload_n hx hb d_L_law_505 rfl (lv_at hl 3 rfl) ?_
      refine lv_iconst (v := (2 : Int32)) hx hb d_L_law_506 (by decide) ?_
      refine lv_iadd hx hb d_L_law_507 ?_
      refine va_sld hx hb hX.1 hX.2.1 hX.2.2 hG.2.2 hf.1 d_L_law_508 ?_
      have hf := hf.2
      refine iv_L_59 S hl.1 hG hk_r1 (c_9_set l hk_r1 hf) ⟨Nat.le_of_ble_eq_true rfl, Nat.le_of_ble_eq_true rfl⟩ (Nat.le_of_ble_eq_true rfl) d_L_law_509 (fun v_49 σ_48 hf H locs hG => ?_)
      refine lv_aload_n hx hb d_L_law_512 rfl (lv_at hl 2 rfl) ?_
      refine lv_aload_n hx hb d_L_law_513 rfl (lv_at hl 0 rfl) ?_
      refine lv_iload_n hx hb d_L_law_514 rfl (lv_at hl 3 rfl) ?_
      refine lv_iconst (v := (1 : Int32)) hx hb d_L_law_515 (by decide) ?_
      refine lv_iadd hx hb d_L_law_516 ?_
      refine va_sld hx hb hX.1 hX.2.1 hX.2.2 hG.2.2 hf.1 d_L_law_517 ?_
      have hf := hf.2
      refine lv_aload_n hx hb d_L_law_518 rfl (lv_at hl 0 rfl) ?_
      refine lv_iload_n hx hb d_L_law_519 rfl (lv_at hl 3 rfl) ?_
      refine lv_iconst (v := (2 : Int32)) hx hb d_L_law_520 (by decide) ?_
      refine lv_iadd hx hb d_L_law_521 ?_
      refine va_sld hx hb hX.1 hX.2.1 hX.2.2 hG.2.2 hf.1 d_L_law_522 ?_
      have hf := hf.2
      refine iv_L_62 S hl.1 hG hk_r2 (c_10_set l hk_r2 hf) ⟨Nat.le_of_ble_eq_true rfl, Nat.le_of_ble_eq_true rfl⟩ (Nat.le_of_ble_eq_true rfl) d_L_law_523 (fun v_51 σ_50 hf H locs hG => ?_)
      refine lv_icmp_eq (tgt := 883) hx hb d_L_law_526 (by decide) (fun hc => ?_) (fun hc => ?_)
      · have hf := hf.1 hc
        obtain ⟨x3_52, ex3_52⟩ : ∃ y : Int32, y = x3 + 5 := ⟨_, rfl⟩
        have hf := hf x3_52 ex3_52
        refine lv_iinc (v := x3_52) (lv' := [(3, .int x3_52), (0, .ref b), (1, .ref (ad r1)), (2, .ref (ad r2))]) hx hb d_L_law_883 hl (k := 3) rfl (by rw [ex3_52]; rfl) (by decide) rfl (fun ls hl => ?_)
        refine lv_goto (tgt := 18) hx hb d_L_law_886 (by decide) ?_
        exact hB18 _ _ _ _ _  hG (lv_sub hl [1, 2, 3, 0] rfl) hf
      · have hf := hf.2 hc
        refine lv_iconst (v := (0 : Int32)) hx hb d_L_law_529 (by decide) ?_
        exact hR _ _ _ _ _ _ hG hf d_L_law_530
    · subst hq_1
      refine lv_tableIn (off := 499) (tgt := 531) hx hb d_L_law_32 (by decide) (by decide) (by decide) (by decide) ?_
      have hf := hf.2.2.2.2.2.2.2.2.2.2.2.2.1 eq_1.symm
      refine lv_aload_n hx hb d_L_law_531 rfl (lv_at hl 1 rfl) ?_
      refine lv_aload_n hx hb d_L_law_532 rfl (lv_at hl 0 rfl) ?_
      refine lv_iload_n hx hb d_L_law_533 rfl (lv_at hl 3 rfl) ?_
      refine lv_iconst (v := (1 : Int32)) hx hb d_L_law_534 (by decide) ?_
      refine lv_iadd hx hb d_L_law_535 ?_
      refine va_sld hx hb hX.1 hX.2.1 hX.2.2 hG.2.2 hf.1 d_L_law_536 ?_
      have hf := hf.2
      refine lv_aload_n hx hb d_L_law_537 rfl (lv_at hl 0 rfl) ?_
      refine lv_iload_n hx hb d_L_law_538 rfl (lv_at hl 3 rfl) ?_
      refine lv_iconst (v := (2 : Int32)) hx hb d_L_law_539 (by decide) ?_
      refine lv_iadd hx hb d_L_law_540 ?_
      refine va_sld hx hb hX.1 hX.2.1 hX.2.2 hG.2.2 hf.1 d_L_law_541 ?_
      have hf := hf.2
      refine iv_L_63 S hl.1 hG hk_r1 (c_9_addLeg l hk_r1 hf) ⟨Nat.le_of_ble_eq_true rfl, Nat.le_of_ble_eq_true rfl⟩ (Nat.le_of_ble_eq_true rfl) d_L_law_542 (fun v_54 σ_53 hf H locs hG => ?_)
      refine lv_aload_n hx hb d_L_law_545 rfl (lv_at hl 2 rfl) ?_
      refine lv_aload_n hx hb d_L_law_546 rfl (lv_at hl 0 rfl) ?_
      refine lv_iload_n hx hb d_L_law_547 rfl (lv_at hl 3 rfl) ?_
      refine lv_iconst (v := (1 : Int32)) hx hb d_L_law_548 (by decide) ?_
      refine lv_iadd hx hb d_L_law_549 ?_
      refine va_sld hx hb hX.1 hX.2.1 hX.2.2 hG.2.2 hf.1 d_L_law_550 ?_
      have hf := hf.2
      refine lv_aload_n hx hb d_L_law_551 rfl (lv_at hl 0 rfl) ?_
      refine lv_iload_n hx hb d_L_law_552 rfl (lv_at hl 3 rfl) ?_
      refine lv_iconst (v := (2 : Int32)) hx hb d_L_law_553 (by decide) ?_
      refine lv_iadd hx hb d_L_law_554 ?_
      refine va_sld hx hb hX.1 hX.2.1 hX.2.2 hG.2.2 hf.1 d_L_law_555 ?_
      have hf := hf.2
      refine iv_L_66 S hl.1 hG hk_r2 (c_10_addLeg l hk_r2 hf) ⟨Nat.le_of_ble_eq_true rfl, Nat.le_of_ble_eq_true rfl⟩ (Nat.le_of_ble_eq_true rfl) d_L_law_556 (fun v_56 σ_55 hf H locs hG => ?_)
      refine lv_icmp_eq (tgt := 883) hx hb d_L_law_559 (by decide) (fun hc => ?_) (fun hc => ?_)
      · have hf := hf.1 hc
        obtain ⟨x3_57, ex3_57⟩ : ∃ y : Int32, y = x3 + 5 := ⟨_, rfl⟩
        have hf := hf x3_57 ex3_57
        refine lv_iinc (v := x3_57) (lv' := [(3, .int x3_57), (0, .ref b), (1, .ref (ad r1)), (2, .ref (ad r2))]) hx hb d_L_law_883 hl (k := 3) rfl (by rw [ex3_57]; rfl) (by decide) rfl (fun ls hl => ?_)
        refine lv_goto (tgt := 18) hx hb d_L_law_886 (by decide) ?_
        exact hB18 _ _ _ _ _  hG (lv_sub hl [1, 2, 3, 0] rfl) hf
      · have hf := hf.2 hc
        refine lv_iconst (v := (0 : Int32)) hx hb d_L_law_562 (by decide) ?_
        exact hR _ _ _ _ _ _ hG hf d_L_law_563
    · subst hq_1
      refine lv_tableIn (off := 532) (tgt := 564) hx hb d_L_law_32 (by decide) (by decide) (by decide) (by decide) ?_
      have hf := hf.2.2.2.2.2.2.2.2.2.2.2.2.2.1 eq_1.symm
      refine lv_aload_n hx hb d_L_law_564 rfl (lv_at hl 1 rfl) ?_
      refine lv_aload_n hx hb d_L_law_565 rfl (lv_at hl 0 rfl) ?_
      refine lv_iload_n hx hb d_L_law_566 rfl (lv_at hl 3 rfl) ?_
      refine lv_iconst (v := (1 : Int32)) hx hb d_L_law_567 (by decide) ?_
      refine lv_iadd hx hb d_L_law_568 ?_
      refine va_sld hx hb hX.1 hX.2.1 hX.2.2 hG.2.2 hf.1 d_L_law_569 ?_
      have hf := hf.2
      refine iv_L_67 S hl.1 hG hk_r1 (c_9_dropLeg l hk_r1 hf) ⟨Nat.le_of_ble_eq_true rfl, Nat.le_of_ble_eq_true rfl⟩ (Nat.le_of_ble_eq_true rfl) d_L_law_570 (fun v_59 σ_58 hf H locs hG => ?_)
      refine lv_aload_n hx hb d_L_law_573 rfl (lv_at hl 2 rfl) ?_
      refine lv_aload_n hx hb d_L_law_574 rfl (lv_at hl 0 rfl) ?_
      refine lv_iload_n hx hb d_L_law_575 rfl (lv_at hl 3 rfl) ?_
      refine lv_iconst (v := (1 : Int32)) hx hb d_L_law_576 (by decide) ?_
      refine lv_iadd hx hb d_L_law_577 ?_
      refine va_sld hx hb hX.1 hX.2.1 hX.2.2 hG.2.2 hf.1 d_L_law_578 ?_
      have hf := hf.2
      refine iv_L_70 S hl.1 hG hk_r2 (c_10_dropLeg l hk_r2 hf) ⟨Nat.le_of_ble_eq_true rfl, Nat.le_of_ble_eq_true rfl⟩ (Nat.le_of_ble_eq_true rfl) d_L_law_579 (fun v_61 σ_60 hf H locs hG => ?_)
      refine lv_icmp_eq (tgt := 883) hx hb d_L_law_582 (by decide) (fun hc => ?_) (fun hc => ?_)
      · have hf := hf.1 hc
        obtain ⟨x3_62, ex3_62⟩ : ∃ y : Int32, y = x3 + 5 := ⟨_, rfl⟩
        have hf := hf x3_62 ex3_62
        refine lv_iinc (v := x3_62) (lv' := [(3, .int x3_62), (0, .ref b), (1, .ref (ad r1)), (2, .ref (ad r2))]) hx hb d_L_law_883 hl (k := 3) rfl (by rw [ex3_62]; rfl) (by decide) rfl (fun ls hl => ?_)
        refine lv_goto (tgt := 18) hx hb d_L_law_886 (by decide) ?_
        exact hB18 _ _ _ _ _  hG (lv_sub hl [1, 2, 3, 0] rfl) hf
      · have hf := hf.2 hc
        refine lv_iconst (v := (0 : Int32)) hx hb d_L_law_585 (by decide) ?_
        exact hR _ _ _ _ _ _ hG hf d_L_law_586
    · subst hq_1
      refine lv_tableIn (off := 555) (tgt := 587) hx hb d_L_law_32 (by decide) (by decide) (by decide) (by decide) ?_
      have hf := hf.2.2.2.2.2.2.2.2.2.2.2.2.2.2.1 eq_1.symm
      refine lv_aload_n hx hb d_L_law_587 rfl (lv_at hl 1 rfl) ?_
      refine lv_aload_n hx hb d_L_law_588 rfl (lv_at hl 0 rfl) ?_
      refine lv_iload_n hx hb d_L_law_589 rfl (lv_at hl 3 rfl) ?_
      refine lv_iconst (v := (1 : Int32)) hx hb d_L_law_590 (by decide) ?_
      refine lv_iadd hx hb d_L_law_591 ?_
      refine va_sld hx hb hX.1 hX.2.1 hX.2.2 hG.2.2 hf.1 d_L_law_592 ?_
      have hf := hf.2
      refine lv_aload_n hx hb d_L_law_593 rfl (lv_at hl 0 rfl) ?_
      refine lv_iload_n hx hb d_L_law_594 rfl (lv_at hl 3 rfl) ?_
      refine lv_iconst (v := (2 : Int32)) hx hb d_L_law_595 (by decide) ?_
      refine lv_iadd hx hb d_L_law_596 ?_
      refine va_sld hx hb hX.1 hX.2.1 hX.2.2 hG.2.2 hf.1 d_L_law_597 ?_
      have hf := hf.2
      refine iv_L_71 S hl.1 hG hk_r1 (c_9_leg l hk_r1 hf) ⟨Nat.le_of_ble_eq_true rfl, Nat.le_of_ble_eq_true rfl⟩ (Nat.le_of_ble_eq_true rfl) d_L_law_598 (fun v_64 σ_63 hf H locs hG => ?_)
      refine lv_aload_n hx hb d_L_law_601 rfl (lv_at hl 2 rfl) ?_
      refine lv_aload_n hx hb d_L_law_602 rfl (lv_at hl 0 rfl) ?_
      refine lv_iload_n hx hb d_L_law_603 rfl (lv_at hl 3 rfl) ?_
      refine lv_iconst (v := (1 : Int32)) hx hb d_L_law_604 (by decide) ?_
      refine lv_iadd hx hb d_L_law_605 ?_
      refine va_sld hx hb hX.1 hX.2.1 hX.2.2 hG.2.2 hf.1 d_L_law_606 ?_
      have hf := hf.2
      refine lv_aload_n hx hb d_L_law_607 rfl (lv_at hl 0 rfl) ?_
      refine lv_iload_n hx hb d_L_law_608 rfl (lv_at hl 3 rfl) ?_
      refine lv_iconst (v := (2 : Int32)) hx hb d_L_law_609 (by decide) ?_
      refine lv_iadd hx hb d_L_law_610 ?_
      refine va_sld hx hb hX.1 hX.2.1 hX.2.2 hG.2.2 hf.1 d_L_law_611 ?_
      have hf := hf.2
      refine iv_L_74 S hl.1 hG hk_r2 (c_10_leg l hk_r2 hf) ⟨Nat.le_of_ble_eq_true rfl, Nat.le_of_ble_eq_true rfl⟩ (Nat.le_of_ble_eq_true rfl) d_L_law_612 (fun v_66 σ_65 hf H locs hG => ?_)
      refine lv_icmp_eq (tgt := 883) hx hb d_L_law_615 (by decide) (fun hc => ?_) (fun hc => ?_)
      · have hf := hf.1 hc
        obtain ⟨x3_67, ex3_67⟩ : ∃ y : Int32, y = x3 + 5 := ⟨_, rfl⟩
        have hf := hf x3_67 ex3_67
        refine lv_iinc (v := x3_67) (lv' := [(3, .int x3_67), (0, .ref b), (1, .ref (ad r1)), (2, .ref (ad r2))]) hx hb d_L_law_883 hl (k := 3) rfl (by rw [ex3_67]; rfl) (by decide) rfl (fun ls hl => ?_)
        refine lv_goto (tgt := 18) hx hb d_L_law_886 (by decide) ?_
        exact hB18 _ _ _ _ _  hG (lv_sub hl [1, 2, 3, 0] rfl) hf
      · have hf := hf.2 hc
        refine lv_iconst (v := (0 : Int32)) hx hb d_L_law_618 (by decide) ?_
        exact hR _ _ _ _ _ _ hG hf d_L_law_619
    · subst hq_1
      refine lv_tableIn (off := 588) (tgt := 620) hx hb d_L_law_32 (by decide) (by decide) (by decide) (by decide) ?_
      have hf := hf.2.2.2.2.2.2.2.2.2.2.2.2.2.2.2.1 eq_1.symm
      refine lv_aload_n hx hb d_L_law_620 rfl (lv_at hl 1 rfl) ?_
      refine iv_L_75 S hl.1 hG hk_r1 (c_9_shift l hk_r1 hf) ⟨Nat.le_of_ble_eq_true rfl, Nat.le_of_ble_eq_true rfl⟩ (Nat.le_of_ble_eq_true rfl) d_L_law_621 (fun v_69 σ_68 hf H locs hG => ?_)
      refine lv_aload_n hx hb d_L_law_624 rfl (lv_at hl 2 rfl) ?_
      refine iv_L_78 S hl.1 hG hk_r2 (c_10_shift l hk_r2 hf) ⟨Nat.le_of_ble_eq_true rfl, Nat.le_of_ble_eq_true rfl⟩ (Nat.le_of_ble_eq_true rfl) d_L_law_625 (fun v_71 σ_70 hf H locs hG => ?_)
      refine lv_icmp_eq (tgt := 883) hx hb d_L_law_628 (by decide) (fun hc => ?_) (fun hc => ?_)
      · have hf := hf.1 hc
        obtain ⟨x3_72, ex3_72⟩ : ∃ y : Int32, y = x3 + 5 := ⟨_, rfl⟩
        have hf := hf x3_72 ex3_72
        refine lv_iinc (v := x3_72) (lv' := [(3, .int x3_72), (0, .ref b), (1, .ref (ad r1)), (2, .ref (ad r2))]) hx hb d_L_law_883 hl (k := 3) rfl (by rw [ex3_72]; rfl) (by decide) rfl (fun ls hl => ?_)
        refine lv_goto (tgt := 18) hx hb d_L_law_886 (by decide) ?_
        exact hB18 _ _ _ _ _  hG (lv_sub hl [1, 2, 3, 0] rfl) hf
      · have hf := hf.2 hc
        refine lv_iconst (v := (0 : Int32)) hx hb d_L_law_631 (by decide) ?_
        exact hR _ _ _ _ _ _ hG hf d_L_law_632
    · subst hq_1
      refine lv_tableIn (off := 601) (tgt := 633) hx hb d_L_law_32 (by decide) (by decide) (by decide) (by decide) ?_
      have hf := hf.2.2.2.2.2.2.2.2.2.2.2.2.2.2.2.2.1 eq_1.symm
      refine lv_aload_n hx hb d_L_law_633 rfl (lv_at hl 1 rfl) ?_
      refine lv_aload_n hx hb d_L_law_634 rfl (lv_at hl 0 rfl) ?_
      refine lv_iload_n hx hb d_L_law_635 rfl (lv_at hl 3 rfl) ?_
      refine lv_iconst (v := (1 : Int32)) hx hb d_L_law_636 (by decide) ?_
      refine lv_iadd hx hb d_L_law_637 ?_
      refine va_sld hx hb hX.1 hX.2.1 hX.2.2 hG.2.2 hf.1 d_L_law_638 ?_
      have hf := hf.2
      refine iv_L_79 S hl.1 hG hk_r1 (c_9_night l hk_r1 hf) ⟨Nat.le_of_ble_eq_true rfl, Nat.le_of_ble_eq_true rfl⟩ (Nat.le_of_ble_eq_true rfl) d_L_law_639 (fun v_74 σ_73 hf H locs hG => ?_)
      refine lv_aload_n hx hb d_L_law_642 rfl (lv_at hl 2 rfl) ?_
      refine lv_aload_n hx hb d_L_law_643 rfl (lv_at hl 0 rfl) ?_
      refine lv_iload_n hx hb d_L_law_644 rfl (lv_at hl 3 rfl) ?_
      refine lv_iconst (v := (1 : Int32)) hx hb d_L_law_645 (by decide) ?_
      refine lv_iadd hx hb d_L_law_646 ?_
      refine va_sld hx hb hX.1 hX.2.1 hX.2.2 hG.2.2 hf.1 d_L_law_647 ?_
      have hf := hf.2
      refine iv_L_82 S hl.1 hG hk_r2 (c_10_night l hk_r2 hf) ⟨Nat.le_of_ble_eq_true rfl, Nat.le_of_ble_eq_true rfl⟩ (Nat.le_of_ble_eq_true rfl) d_L_law_648 (fun v_76 σ_75 hf H locs hG => ?_)
      refine lv_icmp_eq (tgt := 883) hx hb d_L_law_651 (by decide) (fun hc => ?_) (fun hc => ?_)
      · have hf := hf.1 hc
        obtain ⟨x3_77, ex3_77⟩ : ∃ y : Int32, y = x3 + 5 := ⟨_, rfl⟩
        have hf := hf x3_77 ex3_77
        refine lv_iinc (v := x3_77) (lv' := [(3, .int x3_77), (0, .ref b), (1, .ref (ad r1)), (2, .ref (ad r2))]) hx hb d_L_law_883 hl (k := 3) rfl (by rw [ex3_77]; rfl) (by decide) rfl (fun ls hl => ?_)
        refine lv_goto (tgt := 18) hx hb d_L_law_886 (by decide) ?_
        exact hB18 _ _ _ _ _  hG (lv_sub hl [1, 2, 3, 0] rfl) hf
      · have hf := hf.2 hc
        refine lv_iconst (v := (0 : Int32)) hx hb d_L_law_654 (by decide) ?_
        exact hR _ _ _ _ _ _ hG hf d_L_law_655
    · subst hq_1
      refine lv_tableIn (off := 624) (tgt := 656) hx hb d_L_law_32 (by decide) (by decide) (by decide) (by decide) ?_
      have hf := hf.2.2.2.2.2.2.2.2.2.2.2.2.2.2.2.2.2.1 eq_1.symm
      refine lv_aload_n hx hb d_L_law_656 rfl (lv_at hl 1 rfl) ?_
      refine lv_aload_n hx hb d_L_law_657 rfl (lv_at hl 0 rfl) ?_
      refine lv_iload_n hx hb d_L_law_658 rfl (lv_at hl 3 rfl) ?_
      refine lv_iconst (v := (1 : Int32)) hx hb d_L_law_659 (by decide) ?_
      refine lv_iadd hx hb d_L_law_660 ?_
      refine va_sld hx hb hX.1 hX.2.1 hX.2.2 hG.2.2 hf.1 d_L_law_661 ?_
      have hf := hf.2
      refine iv_L_83 S hl.1 hG hk_r1 (c_9_rain l hk_r1 hf) ⟨Nat.le_of_ble_eq_true rfl, Nat.le_of_ble_eq_true rfl⟩ (Nat.le_of_ble_eq_true rfl) d_L_law_662 (fun v_79 σ_78 hf H locs hG => ?_)
      refine lv_aload_n hx hb d_L_law_665 rfl (lv_at hl 2 rfl) ?_
      refine lv_aload_n hx hb d_L_law_666 rfl (lv_at hl 0 rfl) ?_
      refine lv_iload_n hx hb d_L_law_667 rfl (lv_at hl 3 rfl) ?_
      refine lv_iconst (v := (1 : Int32)) hx hb d_L_law_668 (by decide) ?_
      refine lv_iadd hx hb d_L_law_669 ?_
      refine va_sld hx hb hX.1 hX.2.1 hX.2.2 hG.2.2 hf.1 d_L_law_670 ?_
      have hf := hf.2
      refine iv_L_86 S hl.1 hG hk_r2 (c_10_rain l hk_r2 hf) ⟨Nat.le_of_ble_eq_true rfl, Nat.le_of_ble_eq_true rfl⟩ (Nat.le_of_ble_eq_true rfl) d_L_law_671 (fun v_81 σ_80 hf H locs hG => ?_)
      refine lv_icmp_eq (tgt := 883) hx hb d_L_law_674 (by decide) (fun hc => ?_) (fun hc => ?_)
      · have hf := hf.1 hc
        obtain ⟨x3_82, ex3_82⟩ : ∃ y : Int32, y = x3 + 5 := ⟨_, rfl⟩
        have hf := hf x3_82 ex3_82
        refine lv_iinc (v := x3_82) (lv' := [(3, .int x3_82), (0, .ref b), (1, .ref (ad r1)), (2, .ref (ad r2))]) hx hb d_L_law_883 hl (k := 3) rfl (by rw [ex3_82]; rfl) (by decide) rfl (fun ls hl => ?_)
        refine lv_goto (tgt := 18) hx hb d_L_law_886 (by decide) ?_
        exact hB18 _ _ _ _ _  hG (lv_sub hl [1, 2, 3, 0] rfl) hf
      · have hf := hf.2 hc
        refine lv_iconst (v := (0 : Int32)) hx hb d_L_law_677 (by decide) ?_
        exact hR _ _ _ _ _ _ hG hf d_L_law_678
    · subst hq_1
      refine lv_tableIn (off := 647) (tgt := 679) hx hb d_L_law_32 (by decide) (by decide) (by decide) (by decide) ?_
      have hf := hf.2.2.2.2.2.2.2.2.2.2.2.2.2.2.2.2.2.2.1 eq_1.symm
      refine lv_aload_n hx hb d_L_law_679 rfl (lv_at hl 1 rfl) ?_
      refine lv_aload_n hx hb d_L_law_680 rfl (lv_at hl 0 rfl) ?_
      refine lv_iload_n hx hb d_L_law_681 rfl (lv_at hl 3 rfl) ?_
      refine lv_iconst (v := (1 : Int32)) hx hb d_L_law_682 (by decide) ?_
      refine lv_iadd hx hb d_L_law_683 ?_
      refine va_sld hx hb hX.1 hX.2.1 hX.2.2 hG.2.2 hf.1 d_L_law_684 ?_
      have hf := hf.2
      refine iv_L_87 S hl.1 hG hk_r1 (c_9_latest l hk_r1 hf) ⟨Nat.le_of_ble_eq_true rfl, Nat.le_of_ble_eq_true rfl⟩ (Nat.le_of_ble_eq_true rfl) d_L_law_685 (fun v_84 σ_83 hf H locs hG => ?_)
      refine lv_aload_n hx hb d_L_law_688 rfl (lv_at hl 2 rfl) ?_
      refine lv_aload_n hx hb d_L_law_689 rfl (lv_at hl 0 rfl) ?_
      refine lv_iload_n hx hb d_L_law_690 rfl (lv_at hl 3 rfl) ?_
      refine lv_iconst (v := (1 : Int32)) hx hb d_L_law_691 (by decide) ?_
      refine lv_iadd hx hb d_L_law_692 ?_
      refine va_sld hx hb hX.1 hX.2.1 hX.2.2 hG.2.2 hf.1 d_L_law_693 ?_
      have hf := hf.2
      refine iv_L_90 S hl.1 hG hk_r2 (c_10_latest l hk_r2 hf) ⟨Nat.le_of_ble_eq_true rfl, Nat.le_of_ble_eq_true rfl⟩ (Nat.le_of_ble_eq_true rfl) d_L_law_694 (fun v_86 σ_85 hf H locs hG => ?_)
      refine lv_icmp_eq (tgt := 883) hx hb d_L_law_697 (by decide) (fun hc => ?_) (fun hc => ?_)
      · have hf := hf.1 hc
        obtain ⟨x3_87, ex3_87⟩ : ∃ y : Int32, y = x3 + 5 := ⟨_, rfl⟩
        have hf := hf x3_87 ex3_87
        refine lv_iinc (v := x3_87) (lv' := [(3, .int x3_87), (0, .ref b), (1, .ref (ad r1)), (2, .ref (ad r2))]) hx hb d_L_law_883 hl (k := 3) rfl (by rw [ex3_87]; rfl) (by decide) rfl (fun ls hl => ?_)
        refine lv_goto (tgt := 18) hx hb d_L_law_886 (by decide) ?_
        exact hB18 _ _ _ _ _  hG (lv_sub hl [1, 2, 3, 0] rfl) hf
      · have hf := hf.2 hc
        refine lv_iconst (v := (0 : Int32)) hx hb d_L_law_700 (by decide) ?_
        exact hR _ _ _ _ _ _ hG hf d_L_law_701
    · subst hq_1
      refine lv_tableIn (off := 670) (tgt := 702) hx hb d_L_law_32 (by decide) (by decide) (by decide) (by decide) ?_
      have hf := hf.2.2.2.2.2.2.2.2.2.2.2.2.2.2.2.2.2.2.2.1 eq_1.symm
      refine lv_aload_n hx hb d_L_law_702 rfl (lv_at hl 1 rfl) ?_
      refine lv_aload_n hx hb d_L_law_703 rfl (lv_at hl 0 rfl) ?_
      refine lv_iload_n hx hb d_L_law_704 rfl (lv_at hl 3 rfl) ?_
      refine lv_iconst (v := (1 : Int32)) hx hb d_L_law_705 (by decide) ?_
      refine lv_iadd hx hb d_L_law_706 ?_
      refine va_sld hx hb hX.1 hX.2.1 hX.2.2 hG.2.2 hf.1 d_L_law_707 ?_
      have hf := hf.2
      refine iv_L_91 S hl.1 hG hk_r1 (c_9_ifSpeed l hk_r1 hf) ⟨Nat.le_of_ble_eq_true rfl, Nat.le_of_ble_eq_true rfl⟩ (Nat.le_of_ble_eq_true rfl) d_L_law_708 (fun v_89 σ_88 hf H locs hG => ?_)
      refine lv_aload_n hx hb d_L_law_711 rfl (lv_at hl 2 rfl) ?_
      refine lv_aload_n hx hb d_L_law_712 rfl (lv_at hl 0 rfl) ?_
      refine lv_iload_n hx hb d_L_law_713 rfl (lv_at hl 3 rfl) ?_
      refine lv_iconst (v := (1 : Int32)) hx hb d_L_law_714 (by decide) ?_
      refine lv_iadd hx hb d_L_law_715 ?_
      refine va_sld hx hb hX.1 hX.2.1 hX.2.2 hG.2.2 hf.1 d_L_law_716 ?_
      have hf := hf.2
      refine iv_L_94 S hl.1 hG hk_r2 (c_10_ifSpeed l hk_r2 hf) ⟨Nat.le_of_ble_eq_true rfl, Nat.le_of_ble_eq_true rfl⟩ (Nat.le_of_ble_eq_true rfl) d_L_law_717 (fun v_91 σ_90 hf H locs hG => ?_)
      refine lv_icmp_eq (tgt := 883) hx hb d_L_law_720 (by decide) (fun hc => ?_) (fun hc => ?_)
      · have hf := hf.1 hc
        obtain ⟨x3_92, ex3_92⟩ : ∃ y : Int32, y = x3 + 5 := ⟨_, rfl⟩
        have hf := hf x3_92 ex3_92
        refine lv_iinc (v := x3_92) (lv' := [(3, .int x3_92), (0, .ref b), (1, .ref (ad r1)), (2, .ref (ad r2))]) hx hb d_L_law_883 hl (k := 3) rfl (by rw [ex3_92]; rfl) (by decide) rfl (fun ls hl => ?_)
        refine lv_goto (tgt := 18) hx hb d_L_law_886 (by decide) ?_
        exact hB18 _ _ _ _ _  hG (lv_sub hl [1, 2, 3, 0] rfl) hf
      · have hf := hf.2 hc
        refine lv_iconst (v := (0 : Int32)) hx hb d_L_law_723 (by decide) ?_
        exact hR _ _ _ _ _ _ hG hf d_L_law_724
    · subst hq_1
      refine lv_tableIn (off := 693) (tgt := 725) hx hb d_L_law_32 (by decide) (by decide) (by decide) (by decide) ?_
      have hf := hf.2.2.2.2.2.2.2.2.2.2.2.2.2.2.2.2.2.2.2.2.1 eq_1.symm
      refine lv_aload_n hx hb d_L_law_725 rfl (lv_at hl 1 rfl) ?_
      refine iv_L_95 S hl.1 hG hk_r1 (c_9_bestSpeed l hk_r1 hf) ⟨Nat.le_of_ble_eq_true rfl, Nat.le_of_ble_eq_true rfl⟩ (Nat.le_of_ble_eq_true rfl) d_L_law_726 (fun v_94 σ_93 hf H locs hG => ?_)
      refine lv_aload_n hx hb d_L_law_729 rfl (lv_at hl 2 rfl) ?_
      refine iv_L_98 S hl.1 hG hk_r2 (c_10_bestSpeed l hk_r2 hf) ⟨Nat.le_of_ble_eq_true rfl, Nat.le_of_ble_eq_true rfl⟩ (Nat.le_of_ble_eq_true rfl) d_L_law_730 (fun v_96 σ_95 hf H locs hG => ?_)
      refine lv_icmp_eq (tgt := 883) hx hb d_L_law_733 (by decide) (fun hc => ?_) (fun hc => ?_)
      · have hf := hf.1 hc
        obtain ⟨x3_97, ex3_97⟩ : ∃ y : Int32, y = x3 + 5 := ⟨_, rfl⟩
        have hf := hf x3_97 ex3_97
        refine lv_iinc (v := x3_97) (lv' := [(3, .int x3_97), (0, .ref b), (1, .ref (ad r1)), (2, .ref (ad r2))]) hx hb d_L_law_883 hl (k := 3) rfl (by rw [ex3_97]; rfl) (by decide) rfl (fun ls hl => ?_)
        refine lv_goto (tgt := 18) hx hb d_L_law_886 (by decide) ?_
        exact hB18 _ _ _ _ _  hG (lv_sub hl [1, 2, 3, 0] rfl) hf
      · have hf := hf.2 hc
        refine lv_iconst (v := (0 : Int32)) hx hb d_L_law_736 (by decide) ?_
        exact hR _ _ _ _ _ _ hG hf d_L_law_737
    · subst hq_1
      refine lv_tableIn (off := 706) (tgt := 738) hx hb d_L_law_32 (by decide) (by decide) (by decide) (by decide) ?_
      have hf := hf.2.2.2.2.2.2.2.2.2.2.2.2.2.2.2.2.2.2.2.2.2.1 eq_1.symm
      refine lv_aload_n hx hb d_L_law_738 rfl (lv_at hl 1 rfl) ?_
      refine lv_aload_n hx hb d_L_law_739 rfl (lv_at hl 0 rfl) ?_
      refine lv_iload_n hx hb d_L_law_740 rfl (lv_at hl 3 rfl) ?_
      refine lv_iconst (v := (1 : Int32)) hx hb d_L_law_741 (by decide) ?_
      refine lv_iadd hx hb d_L_law_742 ?_
      refine va_sld hx hb hX.1 hX.2.1 hX.2.2 hG.2.2 hf.1 d_L_law_743 ?_
      have hf := hf.2
      refine lv_aload_n hx hb d_L_law_744 rfl (lv_at hl 0 rfl) ?_
      refine lv_iload_n hx hb d_L_law_745 rfl (lv_at hl 3 rfl) ?_
      refine lv_iconst (v := (2 : Int32)) hx hb d_L_law_746 (by decide) ?_
      refine lv_iadd hx hb d_L_law_747 ?_
      refine va_sld hx hb hX.1 hX.2.1 hX.2.2 hG.2.2 hf.1 d_L_law_748 ?_
      have hf := hf.2
      refine lv_if_eq (tgt := 756) hx hb d_L_law_749 (by decide) (fun hc => ?_) (fun hc => ?_)
      · have hf := hf.1 hc
        refine lv_iconst (v := (0 : Int32)) hx hb d_L_law_756 (by decide) ?_
        exact w_L_law_757 S hR hX hk_r1 hk_r2  hk_r1 hB18 hG (lv_sub hl [0, 1, 2, 3] rfl) hf
      · have hf := hf.2 hc
        refine lv_iconst (v := (1 : Int32)) hx hb d_L_law_752 (by decide) ?_
        refine lv_goto (tgt := 757) hx hb d_L_law_753 (by decide) ?_
        exact w_L_law_757 S hR hX hk_r1 hk_r2  hk_r1 hB18 hG (lv_sub hl [0, 1, 2, 3] rfl) hf
    · subst hq_1
      refine lv_tableIn (off := 755) (tgt := 787) hx hb d_L_law_32 (by decide) (by decide) (by decide) (by decide) ?_
      have hf := hf.2.2.2.2.2.2.2.2.2.2.2.2.2.2.2.2.2.2.2.2.2.2.1 eq_1.symm
      refine lv_aload_n hx hb d_L_law_787 rfl (lv_at hl 1 rfl) ?_
      refine lv_aload_n hx hb d_L_law_788 rfl (lv_at hl 0 rfl) ?_
      refine lv_iload_n hx hb d_L_law_789 rfl (lv_at hl 3 rfl) ?_
      refine lv_iconst (v := (1 : Int32)) hx hb d_L_law_790 (by decide) ?_
      refine lv_iadd hx hb d_L_law_791 ?_
      refine va_sld hx hb hX.1 hX.2.1 hX.2.2 hG.2.2 hf.1 d_L_law_792 ?_
      have hf := hf.2
      refine iv_L_104 S hl.1 hG hk_r1 (c_9_nightsTo l hk_r1 hf) ⟨Nat.le_of_ble_eq_true rfl, Nat.le_of_ble_eq_true rfl⟩ (Nat.le_of_ble_eq_true rfl) d_L_law_793 (fun v_99 σ_98 hf H locs hG => ?_)
      refine lv_aload_n hx hb d_L_law_796 rfl (lv_at hl 2 rfl) ?_
      refine lv_aload_n hx hb d_L_law_797 rfl (lv_at hl 0 rfl) ?_
      refine lv_iload_n hx hb d_L_law_798 rfl (lv_at hl 3 rfl) ?_
      refine lv_iconst (v := (1 : Int32)) hx hb d_L_law_799 (by decide) ?_
      refine lv_iadd hx hb d_L_law_800 ?_
      refine va_sld hx hb hX.1 hX.2.1 hX.2.2 hG.2.2 hf.1 d_L_law_801 ?_
      have hf := hf.2
      refine iv_L_107 S hl.1 hG hk_r2 (c_10_nightsTo l hk_r2 hf) ⟨Nat.le_of_ble_eq_true rfl, Nat.le_of_ble_eq_true rfl⟩ (Nat.le_of_ble_eq_true rfl) d_L_law_802 (fun v_101 σ_100 hf H locs hG => ?_)
      refine lv_icmp_eq (tgt := 883) hx hb d_L_law_805 (by decide) (fun hc => ?_) (fun hc => ?_)
      · have hf := hf.1 hc
        obtain ⟨x3_102, ex3_102⟩ : ∃ y : Int32, y = x3 + 5 := ⟨_, rfl⟩
        have hf := hf x3_102 ex3_102
        refine lv_iinc (v := x3_102) (lv' := [(3, .int x3_102), (0, .ref b), (1, .ref (ad r1)), (2, .ref (ad r2))]) hx hb d_L_law_883 hl (k := 3) rfl (by rw [ex3_102]; rfl) (by decide) rfl (fun ls hl => ?_)
        refine lv_goto (tgt := 18) hx hb d_L_law_886 (by decide) ?_
        exact hB18 _ _ _ _ _  hG (lv_sub hl [1, 2, 3, 0] rfl) hf
      · have hf := hf.2 hc
        refine lv_iconst (v := (0 : Int32)) hx hb d_L_law_808 (by decide) ?_
        exact hR _ _ _ _ _ _ hG hf d_L_law_809
    · subst hq_1
      refine lv_tableIn (off := 778) (tgt := 810) hx hb d_L_law_32 (by decide) (by decide) (by decide) (by decide) ?_
      have hf := hf.2.2.2.2.2.2.2.2.2.2.2.2.2.2.2.2.2.2.2.2.2.2.2.1 eq_1.symm
      refine lv_aload_n hx hb d_L_law_810 rfl (lv_at hl 1 rfl) ?_
      refine lv_aload_n hx hb d_L_law_811 rfl (lv_at hl 0 rfl) ?_
      refine lv_iload_n hx hb d_L_law_812 rfl (lv_at hl 3 rfl) ?_
      refine lv_iconst (v := (1 : Int32)) hx hb d_L_law_813 (by decide) ?_
      refine lv_iadd hx hb d_L_law_814 ?_
      refine va_sld hx hb hX.1 hX.2.1 hX.2.2 hG.2.2 hf.1 d_L_law_815 ?_
      have hf := hf.2
      refine iv_L_108 S hl.1 hG hk_r1 (c_9_account l hk_r1 hf) ⟨Nat.le_of_ble_eq_true rfl, Nat.le_of_ble_eq_true rfl⟩ (Nat.le_of_ble_eq_true rfl) d_L_law_816 (fun v_104 σ_103 hf H locs hG => ?_)
      refine lv_aload_n hx hb d_L_law_819 rfl (lv_at hl 2 rfl) ?_
      refine lv_aload_n hx hb d_L_law_820 rfl (lv_at hl 0 rfl) ?_
      refine lv_iload_n hx hb d_L_law_821 rfl (lv_at hl 3 rfl) ?_
      refine lv_iconst (v := (1 : Int32)) hx hb d_L_law_822 (by decide) ?_
      refine lv_iadd hx hb d_L_law_823 ?_
      refine va_sld hx hb hX.1 hX.2.1 hX.2.2 hG.2.2 hf.1 d_L_law_824 ?_
      have hf := hf.2
      refine iv_L_111 S hl.1 hG hk_r2 (c_10_account l hk_r2 hf) ⟨Nat.le_of_ble_eq_true rfl, Nat.le_of_ble_eq_true rfl⟩ (Nat.le_of_ble_eq_true rfl) d_L_law_825 (fun v_106 σ_105 hf H locs hG => ?_)
      refine lv_icmp_eq (tgt := 883) hx hb d_L_law_828 (by decide) (fun hc => ?_) (fun hc => ?_)
      · have hf := hf.1 hc
        obtain ⟨x3_107, ex3_107⟩ : ∃ y : Int32, y = x3 + 5 := ⟨_, rfl⟩
        have hf := hf x3_107 ex3_107
        refine lv_iinc (v := x3_107) (lv' := [(3, .int x3_107), (0, .ref b), (1, .ref (ad r1)), (2, .ref (ad r2))]) hx hb d_L_law_883 hl (k := 3) rfl (by rw [ex3_107]; rfl) (by decide) rfl (fun ls hl => ?_)
        refine lv_goto (tgt := 18) hx hb d_L_law_886 (by decide) ?_
        exact hB18 _ _ _ _ _  hG (lv_sub hl [1, 2, 3, 0] rfl) hf
      · have hf := hf.2 hc
        refine lv_iconst (v := (0 : Int32)) hx hb d_L_law_831 (by decide) ?_
        exact hR _ _ _ _ _ _ hG hf d_L_law_832
    · subst hq_1
      refine lv_tableIn (off := 801) (tgt := 833) hx hb d_L_law_32 (by decide) (by decide) (by decide) (by decide) ?_
      have hf := hf.2.2.2.2.2.2.2.2.2.2.2.2.2.2.2.2.2.2.2.2.2.2.2.2.1 eq_1.symm
      refine lv_aload_n hx hb d_L_law_833 rfl (lv_at hl 1 rfl) ?_
      refine iv_L_112 S hl.1 hG hk_r1 (c_9_undo l hk_r1 hf) ⟨Nat.le_of_ble_eq_true rfl, Nat.le_of_ble_eq_true rfl⟩ (Nat.le_of_ble_eq_true rfl) d_L_law_834 (fun v_109 σ_108 hf H locs hG => ?_)
      refine lv_aload_n hx hb d_L_law_837 rfl (lv_at hl 2 rfl) ?_
      refine iv_L_115 S hl.1 hG hk_r2 (c_10_undo l hk_r2 hf) ⟨Nat.le_of_ble_eq_true rfl, Nat.le_of_ble_eq_true rfl⟩ (Nat.le_of_ble_eq_true rfl) d_L_law_838 (fun v_111 σ_110 hf H locs hG => ?_)
      refine lv_icmp_eq (tgt := 883) hx hb d_L_law_841 (by decide) (fun hc => ?_) (fun hc => ?_)
      · have hf := hf.1 hc
        obtain ⟨x3_112, ex3_112⟩ : ∃ y : Int32, y = x3 + 5 := ⟨_, rfl⟩
        have hf := hf x3_112 ex3_112
        refine lv_iinc (v := x3_112) (lv' := [(3, .int x3_112), (0, .ref b), (1, .ref (ad r1)), (2, .ref (ad r2))]) hx hb d_L_law_883 hl (k := 3) rfl (by rw [ex3_112]; rfl) (by decide) rfl (fun ls hl => ?_)
        refine lv_goto (tgt := 18) hx hb d_L_law_886 (by decide) ?_
        exact hB18 _ _ _ _ _  hG (lv_sub hl [1, 2, 3, 0] rfl) hf
      · have hf := hf.2 hc
        refine lv_iconst (v := (0 : Int32)) hx hb d_L_law_844 (by decide) ?_
        exact hR _ _ _ _ _ _ hG hf d_L_law_845
    · subst hq_1
      refine lv_tableIn (off := 814) (tgt := 846) hx hb d_L_law_32 (by decide) (by decide) (by decide) (by decide) ?_
      have hf := hf.2.2.2.2.2.2.2.2.2.2.2.2.2.2.2.2.2.2.2.2.2.2.2.2.2.1 eq_1.symm
      refine lv_aload_n hx hb d_L_law_846 rfl (lv_at hl 1 rfl) ?_
      refine lv_aload_n hx hb d_L_law_847 rfl (lv_at hl 0 rfl) ?_
      refine lv_iload_n hx hb d_L_law_848 rfl (lv_at hl 3 rfl) ?_
      refine lv_iconst (v := (1 : Int32)) hx hb d_L_law_849 (by decide) ?_
      refine lv_iadd hx hb d_L_law_850 ?_
      refine va_sld hx hb hX.1 hX.2.1 hX.2.2 hG.2.2 hf.1 d_L_law_851 ?_
      have hf := hf.2
      refine iv_L_116 S hl.1 hG hk_r1 (c_9_count l hk_r1 hf) ⟨Nat.le_of_ble_eq_true rfl, Nat.le_of_ble_eq_true rfl⟩ (Nat.le_of_ble_eq_true rfl) d_L_law_852 (fun v_114 σ_113 hf H locs hG => ?_)
      refine lv_aload_n hx hb d_L_law_855 rfl (lv_at hl 2 rfl) ?_
      refine lv_aload_n hx hb d_L_law_856 rfl (lv_at hl 0 rfl) ?_
      refine lv_iload_n hx hb d_L_law_857 rfl (lv_at hl 3 rfl) ?_
      refine lv_iconst (v := (1 : Int32)) hx hb d_L_law_858 (by decide) ?_
      refine lv_iadd hx hb d_L_law_859 ?_
      refine va_sld hx hb hX.1 hX.2.1 hX.2.2 hG.2.2 hf.1 d_L_law_860 ?_
      have hf := hf.2
      refine iv_L_119 S hl.1 hG hk_r2 (c_10_count l hk_r2 hf) ⟨Nat.le_of_ble_eq_true rfl, Nat.le_of_ble_eq_true rfl⟩ (Nat.le_of_ble_eq_true rfl) d_L_law_861 (fun v_116 σ_115 hf H locs hG => ?_)
      refine lv_icmp_eq (tgt := 883) hx hb d_L_law_864 (by decide) (fun hc => ?_) (fun hc => ?_)
      · have hf := hf.1 hc
        obtain ⟨x3_117, ex3_117⟩ : ∃ y : Int32, y = x3 + 5 := ⟨_, rfl⟩
        have hf := hf x3_117 ex3_117
        refine lv_iinc (v := x3_117) (lv' := [(3, .int x3_117), (0, .ref b), (1, .ref (ad r1)), (2, .ref (ad r2))]) hx hb d_L_law_883 hl (k := 3) rfl (by rw [ex3_117]; rfl) (by decide) rfl (fun ls hl => ?_)
        refine lv_goto (tgt := 18) hx hb d_L_law_886 (by decide) ?_
        exact hB18 _ _ _ _ _  hG (lv_sub hl [1, 2, 3, 0] rfl) hf
      · have hf := hf.2 hc
        refine lv_iconst (v := (0 : Int32)) hx hb d_L_law_867 (by decide) ?_
        exact hR _ _ _ _ _ _ hG hf d_L_law_868
    · subst hq_1
      refine lv_tableIn (off := 837) (tgt := 869) hx hb d_L_law_32 (by decide) (by decide) (by decide) (by decide) ?_
      have hf := hf.2.2.2.2.2.2.2.2.2.2.2.2.2.2.2.2.2.2.2.2.2.2.2.2.2.2 eq_1.symm
      refine lv_aload_n hx hb d_L_law_869 rfl (lv_at hl 1 rfl) ?_
      refine iv_L_120 S hl.1 hG hk_r1 (c_9_digest l hk_r1 hf) ⟨Nat.le_of_ble_eq_true rfl, Nat.le_of_ble_eq_true rfl⟩ (Nat.le_of_ble_eq_true rfl) d_L_law_870 (fun v_119 σ_118 hf H locs hG => ?_)
      refine lv_aload_n hx hb d_L_law_873 rfl (lv_at hl 2 rfl) ?_
      refine iv_L_124 S hl.1 hG hk_r2 (c_10_digest l hk_r2 hf) ⟨Nat.le_of_ble_eq_true rfl, Nat.le_of_ble_eq_true rfl⟩ (Nat.le_of_ble_eq_true rfl) d_L_law_874 (fun v_121 σ_120 hf H locs hG => ?_)
      refine W.lcmp hx hb d_L_law_877 ?_
      refine lv_if_eq (tgt := 883) hx hb d_L_law_878 (by decide) (fun hc => ?_) (fun hc => ?_)
      · have hf := hf.1 hc
        obtain ⟨x3_122, ex3_122⟩ : ∃ y : Int32, y = x3 + 5 := ⟨_, rfl⟩
        have hf := hf x3_122 ex3_122
        refine lv_iinc (v := x3_122) (lv' := [(3, .int x3_122), (0, .ref b), (1, .ref (ad r1)), (2, .ref (ad r2))]) hx hb d_L_law_883 hl (k := 3) rfl (by rw [ex3_122]; rfl) (by decide) rfl (fun ls hl => ?_)
        refine lv_goto (tgt := 18) hx hb d_L_law_886 (by decide) ?_
        exact hB18 _ _ _ _ _  hG (lv_sub hl [1, 2, 3, 0] rfl) hf
      · have hf := hf.2 hc
        refine lv_iconst (v := (0 : Int32)) hx hb d_L_law_881 (by decide) ?_
        exact hR _ _ _ _ _ _ hG hf d_L_law_882
set_option maxHeartbeats 4000000 in
set_option maxRecDepth 100000 in
theorem lp_L_law_18 {r1 : Nat} {r2 : Nat} {b L : Nat} {xs : Nat → Int32} {Q : Int32 → St → Prop} (S : SC A D ac st p m c code 4 s args "SweeperRoundsLaw" R cells slots 8 189) (hR : RtI A D ac ad p l e R s m args below meth c code cells slots QW Q) (hX : va_X b L xs s s.heap ∧ b < s.heap.size ∧ ¬ A b) (hk_r1 : kd r1 = 9) (hk_r2 : kd r2 = 10) : ∀ (n : Nat) (x3 : Int32) (σ : St) (H : Heap) (locs : List Loc) (ls : Array Slot), DG A D ac ad s σ H locs → lv_has ls 4 [(0, .ref b), (1, .ref (ad r1)), (2, .ref (ad r2)), (3, .int x3)] → itN (m_L_law_18 r1 r2 L xs Q) (fun _ _ => False) n x3 σ → W p l e R s m args below meth c H locs cells slots QW (F0 m 18 ls []) := by
  intro n
  induction n with
  | zero =>
    intro x3 σ H locs ls  hG hl hf
    exact hf.elim
  | succ n ih =>
    intro x3 σ H locs ls  hG hl hf
    exact w_L_law_18 S hR hX hk_r1 hk_r2  ih hG hl hf
set_option maxHeartbeats 4000000 in
set_option maxRecDepth 100000 in
theorem w_L_law_16 {r1 : Nat} {r2 : Nat} {b L : Nat} {xs : Nat → Int32} {Q : Int32 → St → Prop} {σ : St} {H : Heap} {locs : List Loc} {ls : Array Slot} (S : SC A D ac st p m c code 4 s args "SweeperRoundsLaw" R cells slots 8 189) (hR : RtI A D ac ad p l e R s m args below meth c code cells slots QW Q) (hX : va_X b L xs s s.heap ∧ b < s.heap.size ∧ ¬ A b) (hk_r1 : kd r1 = 9) (hk_r2 : kd r2 = 10) (hG : DG A D ac ad s σ H locs) (hl : lv_has ls 4 [(0, .ref b), (1, .ref (ad r1)), (2, .ref (ad r2))]) (hf : m_L_law r1 r2 L xs Q σ) : W p l e R s m args below meth c H locs cells slots QW (F0 m 16 ls []) := by
  have hx := S.1.1
  have hb := S.1.2.1
  unfold m_L_law at hf
  refine lv_iconst (v := (0 : Int32)) hx hb d_L_law_16 (by decide) ?_
  refine lv_istore_n (lv' := [(3, .int (0 : Int32)), (0, .ref b), (1, .ref (ad r1)), (2, .ref (ad r2))]) hx hb d_L_law_17 rfl hl (by decide) rfl (fun ls hl => ?_)
  exact lp_L_law_18 S hR hX hk_r1 hk_r2  FU _ _ _ _ _  hG (lv_sub hl [1, 2, 3, 0] rfl) hf
end LB
