theorem d_L_town_221 : decode method_4_code 221 = .ok (.istore 6, 2) := by decide +kernel
theorem d_L_town_223 : decode method_4_code 223 = .ok (.iload 6, 2) := by decide +kernel
theorem d_L_town_225 : decode method_4_code 225 = .ok (.iload 4, 2) := by decide +kernel
theorem d_L_town_227 : decode method_4_code 227 = .ok (.if_icmp .ge 43, 3) := by decide +kernel
theorem d_L_town_230 : decode method_4_code 230 = .ok (.aload_n 0, 1) := by decide +kernel
theorem d_L_town_231 : decode method_4_code 231 = .ok (.iload 5, 2) := by decide +kernel
theorem d_L_town_233 : decode method_4_code 233 = .ok (.iconst 3, 1) := by decide +kernel
theorem d_L_town_234 : decode method_4_code 234 = .ok (.iload 6, 2) := by decide +kernel
theorem d_L_town_236 : decode method_4_code 236 = .ok (.imul, 1) := by decide +kernel
theorem d_L_town_237 : decode method_4_code 237 = .ok (.ishr, 1) := by decide +kernel
theorem d_L_town_238 : decode method_4_code 238 = .ok (.iload_n 3, 1) := by decide +kernel
theorem d_L_town_239 : decode method_4_code 239 = .ok (.invokestatic 16, 3) := by decide +kernel
theorem d_L_town_242 : decode method_4_code 242 = .ok (.iload 5, 2) := by decide +kernel
theorem d_L_town_244 : decode method_4_code 244 = .ok (.bipush 16, 2) := by decide +kernel
theorem d_L_town_246 : decode method_4_code 246 = .ok (.iload 6, 2) := by decide +kernel
theorem d_L_town_248 : decode method_4_code 248 = .ok (.iadd, 1) := by decide +kernel
theorem d_L_town_249 : decode method_4_code 249 = .ok (.ishr, 1) := by decide +kernel
theorem d_L_town_250 : decode method_4_code 250 = .ok (.iconst 2, 1) := by decide +kernel
theorem d_L_town_251 : decode method_4_code 251 = .ok (.invokestatic 16, 3) := by decide +kernel
theorem d_L_town_254 : decode method_4_code 254 = .ok (.invokevirtual 34, 3) := by decide +kernel
theorem d_L_town_257 : decode method_4_code 257 = .ok (.iload 6, 2) := by decide +kernel
theorem d_L_town_259 : decode method_4_code 259 = .ok (.if_icmp .eq 5, 3) := by decide +kernel
theorem d_L_town_262 : decode method_4_code 262 = .ok (.iconst 0, 1) := by decide +kernel
theorem d_L_town_263 : decode method_4_code 263 = .ok (.ireturn, 1) := by decide +kernel
theorem d_L_town_264 : decode method_4_code 264 = .ok (.iinc 6 1, 3) := by decide +kernel
theorem d_L_town_267 : decode method_4_code 267 = .ok (.goto (-44), 3) := by decide +kernel
theorem d_L_town_270 : decode method_4_code 270 = .ok (.aload_n 1, 1) := by decide +kernel
theorem d_L_town_271 : decode method_4_code 271 = .ok (.iload_n 2, 1) := by decide +kernel
theorem d_L_town_272 : decode method_4_code 272 = .ok (.bipush 10, 2) := by decide +kernel
theorem d_L_town_274 : decode method_4_code 274 = .ok (.iadd, 1) := by decide +kernel
theorem d_L_town_275 : decode method_4_code 275 = .ok (.invokestatic 10, 3) := by decide +kernel
theorem d_L_town_278 : decode method_4_code 278 = .ok (.istore 6, 2) := by decide +kernel
theorem d_L_town_280 : decode method_4_code 280 = .ok (.aload_n 0, 1) := by decide +kernel
theorem d_L_town_281 : decode method_4_code 281 = .ok (.iconst 0, 1) := by decide +kernel
theorem d_L_town_282 : decode method_4_code 282 = .ok (.iconst 1, 1) := by decide +kernel
theorem d_L_town_283 : decode method_4_code 283 = .ok (.iload 6, 2) := by decide +kernel
theorem d_L_town_285 : decode method_4_code 285 = .ok (.iconst 4, 1) := by decide +kernel
theorem d_L_town_286 : decode method_4_code 286 = .ok (.invokestatic 16, 3) := by decide +kernel
theorem d_L_town_289 : decode method_4_code 289 = .ok (.iadd, 1) := by decide +kernel
theorem d_L_town_290 : decode method_4_code 290 = .ok (.invokevirtual 37, 3) := by decide +kernel
theorem d_L_town_293 : decode method_4_code 293 = .ok (.iconst 2, 1) := by decide +kernel
theorem d_L_town_294 : decode method_4_code 294 = .ok (.if_icmp .ne 131, 3) := by decide +kernel
theorem d_L_town_297 : decode method_4_code 297 = .ok (.aload_n 0, 1) := by decide +kernel
theorem d_L_town_298 : decode method_4_code 298 = .ok (.iconst 1, 1) := by decide +kernel
theorem d_L_town_299 : decode method_4_code 299 = .ok (.bipush 20, 2) := by decide +kernel
theorem d_L_town_301 : decode method_4_code 301 = .ok (.iload 6, 2) := by decide +kernel
theorem d_L_town_303 : decode method_4_code 303 = .ok (.iconst 2, 1) := by decide +kernel
theorem d_L_town_304 : decode method_4_code 304 = .ok (.ishr, 1) := by decide +kernel
theorem d_L_town_305 : decode method_4_code 305 = .ok (.iload 6, 2) := by decide +kernel
theorem d_L_town_307 : decode method_4_code 307 = .ok (.bipush 20, 2) := by decide +kernel
theorem d_L_town_309 : decode method_4_code 309 = .ok (.ishr, 1) := by decide +kernel
theorem d_L_town_310 : decode method_4_code 310 = .ok (.iconst 2, 1) := by decide +kernel
theorem d_L_town_311 : decode method_4_code 311 = .ok (.invokestatic 16, 3) := by decide +kernel
theorem d_L_town_314 : decode method_4_code 314 = .ok (.ifCond .ne 8, 3) := by decide +kernel
theorem d_L_town_317 : decode method_4_code 317 = .ok (.bipush 60, 2) := by decide +kernel
theorem d_L_town_319 : decode method_4_code 319 = .ok (.goto 6, 3) := by decide +kernel
theorem d_L_town_322 : decode method_4_code 322 = .ok (.sipush 400, 3) := by decide +kernel
theorem d_L_town_325 : decode method_4_code 325 = .ok (.invokestatic 16, 3) := by decide +kernel
theorem d_L_town_328 : decode method_4_code 328 = .ok (.iadd, 1) := by decide +kernel
theorem d_L_town_329 : decode method_4_code 329 = .ok (.invokevirtual 37, 3) := by decide +kernel
