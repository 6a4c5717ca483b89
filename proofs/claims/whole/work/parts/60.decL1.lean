theorem d_L_240 : decode code 240 = .ok (.if_icmp .eq 850, 3) := by decide +kernel
theorem d_L_243 : decode code 243 = .ok (.iconst 0, 1) := by decide +kernel
theorem d_L_244 : decode code 244 = .ok (.ireturn, 1) := by decide +kernel
theorem d_L_245 : decode code 245 = .ok (.aload_n 1, 1) := by decide +kernel
theorem d_L_246 : decode code 246 = .ok (.aload_n 0, 1) := by decide +kernel
theorem d_L_247 : decode code 247 = .ok (.iload 4, 2) := by decide +kernel
theorem d_L_249 : decode code 249 = .ok (.iconst 1, 1) := by decide +kernel
theorem d_L_250 : decode code 250 = .ok (.iadd, 1) := by decide +kernel
theorem d_L_251 : decode code 251 = .ok (.iaload, 1) := by decide +kernel
theorem d_L_252 : decode code 252 = .ok (.aload_n 0, 1) := by decide +kernel
theorem d_L_253 : decode code 253 = .ok (.iload 4, 2) := by decide +kernel
theorem d_L_255 : decode code 255 = .ok (.iconst 2, 1) := by decide +kernel
theorem d_L_256 : decode code 256 = .ok (.iadd, 1) := by decide +kernel
theorem d_L_257 : decode code 257 = .ok (.iaload, 1) := by decide +kernel
theorem d_L_258 : decode code 258 = .ok (.aload_n 3, 1) := by decide +kernel
theorem d_L_259 : decode code 259 = .ok (.invokestatic 81, 3) := by decide +kernel
theorem d_L_262 : decode code 262 = .ok (.istore 5, 2) := by decide +kernel
theorem d_L_264 : decode code 264 = .ok (.aload_n 2, 1) := by decide +kernel
theorem d_L_265 : decode code 265 = .ok (.aload_n 0, 1) := by decide +kernel
theorem d_L_266 : decode code 266 = .ok (.iload 4, 2) := by decide +kernel
theorem d_L_268 : decode code 268 = .ok (.iconst 1, 1) := by decide +kernel
theorem d_L_269 : decode code 269 = .ok (.iadd, 1) := by decide +kernel
theorem d_L_270 : decode code 270 = .ok (.iaload, 1) := by decide +kernel
theorem d_L_271 : decode code 271 = .ok (.aload_n 0, 1) := by decide +kernel
theorem d_L_272 : decode code 272 = .ok (.iload 4, 2) := by decide +kernel
theorem d_L_274 : decode code 274 = .ok (.iconst 2, 1) := by decide +kernel
theorem d_L_275 : decode code 275 = .ok (.iadd, 1) := by decide +kernel
theorem d_L_276 : decode code 276 = .ok (.iaload, 1) := by decide +kernel
theorem d_L_277 : decode code 277 = .ok (.invokevirtual 84, 3) := by decide +kernel
theorem d_L_280 : decode code 280 = .ok (.istore 6, 2) := by decide +kernel
theorem d_L_282 : decode code 282 = .ok (.aload_n 2, 1) := by decide +kernel
theorem d_L_283 : decode code 283 = .ok (.invokevirtual 73, 3) := by decide +kernel
theorem d_L_286 : decode code 286 = .ok (.iload 5, 2) := by decide +kernel
theorem d_L_288 : decode code 288 = .ok (.if_icmp .eq 5, 3) := by decide +kernel
theorem d_L_291 : decode code 291 = .ok (.iconst 0, 1) := by decide +kernel
theorem d_L_292 : decode code 292 = .ok (.ireturn, 1) := by decide +kernel
theorem d_L_293 : decode code 293 = .ok (.iload 5, 2) := by decide +kernel
theorem d_L_295 : decode code 295 = .ok (.ifCond .ne 15, 3) := by decide +kernel
theorem d_L_298 : decode code 298 = .ok (.aload_n 3, 1) := by decide +kernel
theorem d_L_299 : decode code 299 = .ok (.iconst 0, 1) := by decide +kernel
theorem d_L_300 : decode code 300 = .ok (.laload, 1) := by decide +kernel
theorem d_L_301 : decode code 301 = .ok (.iload 6, 2) := by decide +kernel
theorem d_L_303 : decode code 303 = .ok (.i2l, 1) := by decide +kernel
theorem d_L_304 : decode code 304 = .ok (.lcmp, 1) := by decide +kernel
theorem d_L_305 : decode code 305 = .ok (.ifCond .eq 5, 3) := by decide +kernel
theorem d_L_308 : decode code 308 = .ok (.iconst 0, 1) := by decide +kernel
theorem d_L_309 : decode code 309 = .ok (.ireturn, 1) := by decide +kernel
theorem d_L_310 : decode code 310 = .ok (.goto 780, 3) := by decide +kernel
theorem d_L_313 : decode code 313 = .ok (.aload_n 1, 1) := by decide +kernel
theorem d_L_314 : decode code 314 = .ok (.invokevirtual 85, 3) := by decide +kernel
theorem d_L_317 : decode code 317 = .ok (.aload_n 2, 1) := by decide +kernel
theorem d_L_318 : decode code 318 = .ok (.invokevirtual 89, 3) := by decide +kernel
theorem d_L_321 : decode code 321 = .ok (.if_icmp .eq 769, 3) := by decide +kernel
theorem d_L_324 : decode code 324 = .ok (.iconst 0, 1) := by decide +kernel
theorem d_L_325 : decode code 325 = .ok (.ireturn, 1) := by decide +kernel
theorem d_L_326 : decode code 326 = .ok (.aload_n 1, 1) := by decide +kernel
theorem d_L_327 : decode code 327 = .ok (.aload_n 0, 1) := by decide +kernel
theorem d_L_328 : decode code 328 = .ok (.iload 4, 2) := by decide +kernel
theorem d_L_330 : decode code 330 = .ok (.iconst 1, 1) := by decide +kernel
theorem d_L_331 : decode code 331 = .ok (.iadd, 1) := by decide +kernel
theorem d_L_332 : decode code 332 = .ok (.iaload, 1) := by decide +kernel
theorem d_L_333 : decode code 333 = .ok (.aload_n 0, 1) := by decide +kernel
theorem d_L_334 : decode code 334 = .ok (.iload 4, 2) := by decide +kernel
theorem d_L_336 : decode code 336 = .ok (.iconst 2, 1) := by decide +kernel
theorem d_L_337 : decode code 337 = .ok (.iadd, 1) := by decide +kernel
theorem d_L_338 : decode code 338 = .ok (.iaload, 1) := by decide +kernel
theorem d_L_339 : decode code 339 = .ok (.aload_n 0, 1) := by decide +kernel
theorem d_L_340 : decode code 340 = .ok (.iload 4, 2) := by decide +kernel
theorem d_L_342 : decode code 342 = .ok (.iconst 3, 1) := by decide +kernel
theorem d_L_343 : decode code 343 = .ok (.iadd, 1) := by decide +kernel
theorem d_L_344 : decode code 344 = .ok (.iaload, 1) := by decide +kernel
theorem d_L_345 : decode code 345 = .ok (.aload_n 0, 1) := by decide +kernel
theorem d_L_346 : decode code 346 = .ok (.iload 4, 2) := by decide +kernel
theorem d_L_348 : decode code 348 = .ok (.iconst 4, 1) := by decide +kernel
theorem d_L_349 : decode code 349 = .ok (.iadd, 1) := by decide +kernel
theorem d_L_350 : decode code 350 = .ok (.iaload, 1) := by decide +kernel
theorem d_L_351 : decode code 351 = .ok (.aload_n 3, 1) := by decide +kernel
theorem d_L_352 : decode code 352 = .ok (.invokestatic 90, 3) := by decide +kernel
theorem d_L_355 : decode code 355 = .ok (.istore 5, 2) := by decide +kernel
theorem d_L_357 : decode code 357 = .ok (.aload_n 2, 1) := by decide +kernel
theorem d_L_358 : decode code 358 = .ok (.aload_n 0, 1) := by decide +kernel
theorem d_L_359 : decode code 359 = .ok (.iload 4, 2) := by decide +kernel
theorem d_L_361 : decode code 361 = .ok (.iconst 1, 1) := by decide +kernel
theorem d_L_362 : decode code 362 = .ok (.iadd, 1) := by decide +kernel
theorem d_L_363 : decode code 363 = .ok (.iaload, 1) := by decide +kernel
theorem d_L_364 : decode code 364 = .ok (.aload_n 0, 1) := by decide +kernel
theorem d_L_365 : decode code 365 = .ok (.iload 4, 2) := by decide +kernel
theorem d_L_367 : decode code 367 = .ok (.iconst 2, 1) := by decide +kernel
theorem d_L_368 : decode code 368 = .ok (.iadd, 1) := by decide +kernel
theorem d_L_369 : decode code 369 = .ok (.iaload, 1) := by decide +kernel
theorem d_L_370 : decode code 370 = .ok (.aload_n 0, 1) := by decide +kernel
theorem d_L_371 : decode code 371 = .ok (.iload 4, 2) := by decide +kernel
theorem d_L_373 : decode code 373 = .ok (.iconst 3, 1) := by decide +kernel
theorem d_L_374 : decode code 374 = .ok (.iadd, 1) := by decide +kernel
theorem d_L_375 : decode code 375 = .ok (.iaload, 1) := by decide +kernel
theorem d_L_376 : decode code 376 = .ok (.aload_n 0, 1) := by decide +kernel
theorem d_L_377 : decode code 377 = .ok (.iload 4, 2) := by decide +kernel
theorem d_L_379 : decode code 379 = .ok (.iconst 4, 1) := by decide +kernel
theorem d_L_380 : decode code 380 = .ok (.iadd, 1) := by decide +kernel
theorem d_L_381 : decode code 381 = .ok (.iaload, 1) := by decide +kernel
theorem d_L_382 : decode code 382 = .ok (.invokevirtual 93, 3) := by decide +kernel
theorem d_L_385 : decode code 385 = .ok (.istore 6, 2) := by decide +kernel
theorem d_L_387 : decode code 387 = .ok (.aload_n 2, 1) := by decide +kernel
theorem d_L_388 : decode code 388 = .ok (.invokevirtual 73, 3) := by decide +kernel
theorem d_L_391 : decode code 391 = .ok (.iload 5, 2) := by decide +kernel
theorem d_L_393 : decode code 393 = .ok (.if_icmp .eq 5, 3) := by decide +kernel
theorem d_L_396 : decode code 396 = .ok (.iconst 0, 1) := by decide +kernel
theorem d_L_397 : decode code 397 = .ok (.ireturn, 1) := by decide +kernel
theorem d_L_398 : decode code 398 = .ok (.iload 5, 2) := by decide +kernel
theorem d_L_400 : decode code 400 = .ok (.ifCond .ne 22, 3) := by decide +kernel
