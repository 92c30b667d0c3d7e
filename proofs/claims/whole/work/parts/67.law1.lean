theorem d_L_law_271 : decode c_L_law 271 = .ok (.iconst 0, 1) := by decide +kernel
theorem d_L_law_272 : decode c_L_law 272 = .ok (.ireturn, 1) := by decide +kernel
theorem d_L_law_273 : decode c_L_law 273 = .ok (.aload_n 1, 1) := by decide +kernel
theorem d_L_law_274 : decode c_L_law 274 = .ok (.aload_n 0, 1) := by decide +kernel
theorem d_L_law_275 : decode c_L_law 275 = .ok (.iload 5, 2) := by decide +kernel
theorem d_L_law_277 : decode c_L_law 277 = .ok (.iconst 1, 1) := by decide +kernel
theorem d_L_law_278 : decode c_L_law 278 = .ok (.iadd, 1) := by decide +kernel
theorem d_L_law_279 : decode c_L_law 279 = .ok (.iaload, 1) := by decide +kernel
theorem d_L_law_280 : decode c_L_law 280 = .ok (.aload_n 0, 1) := by decide +kernel
theorem d_L_law_281 : decode c_L_law 281 = .ok (.iload 5, 2) := by decide +kernel
theorem d_L_law_283 : decode c_L_law 283 = .ok (.iconst 2, 1) := by decide +kernel
theorem d_L_law_284 : decode c_L_law 284 = .ok (.iadd, 1) := by decide +kernel
theorem d_L_law_285 : decode c_L_law 285 = .ok (.iaload, 1) := by decide +kernel
theorem d_L_law_286 : decode c_L_law 286 = .ok (.i2l, 1) := by decide +kernel
theorem d_L_law_287 : decode c_L_law 287 = .ok (.bipush 32, 2) := by decide +kernel
theorem d_L_law_289 : decode c_L_law 289 = .ok (.lshl, 1) := by decide +kernel
theorem d_L_law_290 : decode c_L_law 290 = .ok (.aload_n 0, 1) := by decide +kernel
theorem d_L_law_291 : decode c_L_law 291 = .ok (.iload 5, 2) := by decide +kernel
theorem d_L_law_293 : decode c_L_law 293 = .ok (.iconst 3, 1) := by decide +kernel
theorem d_L_law_294 : decode c_L_law 294 = .ok (.iadd, 1) := by decide +kernel
theorem d_L_law_295 : decode c_L_law 295 = .ok (.iaload, 1) := by decide +kernel
theorem d_L_law_296 : decode c_L_law 296 = .ok (.i2l, 1) := by decide +kernel
theorem d_L_law_297 : decode c_L_law 297 = .ok (.ldc2_w 72, 3) := by decide +kernel
theorem d_L_law_300 : decode c_L_law 300 = .ok (.land, 1) := by decide +kernel
theorem d_L_law_301 : decode c_L_law 301 = .ok (.lor, 1) := by decide +kernel
theorem d_L_law_302 : decode c_L_law 302 = .ok (.aload_n 3, 1) := by decide +kernel
theorem d_L_law_303 : decode c_L_law 303 = .ok (.invokestatic 87, 3) := by decide +kernel
theorem d_L_law_306 : decode c_L_law 306 = .ok (.istore 6, 2) := by decide +kernel
theorem d_L_law_308 : decode c_L_law 308 = .ok (.aload_n 2, 1) := by decide +kernel
theorem d_L_law_309 : decode c_L_law 309 = .ok (.aload_n 0, 1) := by decide +kernel
theorem d_L_law_310 : decode c_L_law 310 = .ok (.iload 5, 2) := by decide +kernel
theorem d_L_law_312 : decode c_L_law 312 = .ok (.iconst 1, 1) := by decide +kernel
theorem d_L_law_313 : decode c_L_law 313 = .ok (.iadd, 1) := by decide +kernel
theorem d_L_law_314 : decode c_L_law 314 = .ok (.iaload, 1) := by decide +kernel
theorem d_L_law_315 : decode c_L_law 315 = .ok (.aload_n 0, 1) := by decide +kernel
theorem d_L_law_316 : decode c_L_law 316 = .ok (.iload 5, 2) := by decide +kernel
theorem d_L_law_318 : decode c_L_law 318 = .ok (.iconst 2, 1) := by decide +kernel
theorem d_L_law_319 : decode c_L_law 319 = .ok (.iadd, 1) := by decide +kernel
theorem d_L_law_320 : decode c_L_law 320 = .ok (.iaload, 1) := by decide +kernel
theorem d_L_law_321 : decode c_L_law 321 = .ok (.i2l, 1) := by decide +kernel
theorem d_L_law_322 : decode c_L_law 322 = .ok (.bipush 32, 2) := by decide +kernel
theorem d_L_law_324 : decode c_L_law 324 = .ok (.lshl, 1) := by decide +kernel
theorem d_L_law_325 : decode c_L_law 325 = .ok (.aload_n 0, 1) := by decide +kernel
theorem d_L_law_326 : decode c_L_law 326 = .ok (.iload 5, 2) := by decide +kernel
theorem d_L_law_328 : decode c_L_law 328 = .ok (.iconst 3, 1) := by decide +kernel
theorem d_L_law_329 : decode c_L_law 329 = .ok (.iadd, 1) := by decide +kernel
theorem d_L_law_330 : decode c_L_law 330 = .ok (.iaload, 1) := by decide +kernel
theorem d_L_law_331 : decode c_L_law 331 = .ok (.i2l, 1) := by decide +kernel
theorem d_L_law_332 : decode c_L_law 332 = .ok (.ldc2_w 72, 3) := by decide +kernel
theorem d_L_law_335 : decode c_L_law 335 = .ok (.land, 1) := by decide +kernel
theorem d_L_law_336 : decode c_L_law 336 = .ok (.lor, 1) := by decide +kernel
theorem d_L_law_337 : decode c_L_law 337 = .ok (.invokevirtual 90, 3) := by decide +kernel
theorem d_L_law_340 : decode c_L_law 340 = .ok (.istore 7, 2) := by decide +kernel
theorem d_L_law_342 : decode c_L_law 342 = .ok (.aload_n 2, 1) := by decide +kernel
theorem d_L_law_343 : decode c_L_law 343 = .ok (.invokevirtual 80, 3) := by decide +kernel
theorem d_L_law_346 : decode c_L_law 346 = .ok (.iload 6, 2) := by decide +kernel
theorem d_L_law_348 : decode c_L_law 348 = .ok (.if_icmp .eq 5, 3) := by decide +kernel
theorem d_L_law_351 : decode c_L_law 351 = .ok (.iconst 0, 1) := by decide +kernel
theorem d_L_law_352 : decode c_L_law 352 = .ok (.ireturn, 1) := by decide +kernel
theorem d_L_law_353 : decode c_L_law 353 = .ok (.iload 6, 2) := by decide +kernel
theorem d_L_law_355 : decode c_L_law 355 = .ok (.ifCond .ne 15, 3) := by decide +kernel
theorem d_L_law_358 : decode c_L_law 358 = .ok (.aload_n 3, 1) := by decide +kernel
theorem d_L_law_359 : decode c_L_law 359 = .ok (.iconst 0, 1) := by decide +kernel
theorem d_L_law_360 : decode c_L_law 360 = .ok (.laload, 1) := by decide +kernel
theorem d_L_law_361 : decode c_L_law 361 = .ok (.iload 7, 2) := by decide +kernel
theorem d_L_law_363 : decode c_L_law 363 = .ok (.i2l, 1) := by decide +kernel
theorem d_L_law_364 : decode c_L_law 364 = .ok (.lcmp, 1) := by decide +kernel
theorem d_L_law_365 : decode c_L_law 365 = .ok (.ifCond .eq 5, 3) := by decide +kernel
theorem d_L_law_368 : decode c_L_law 368 = .ok (.iconst 0, 1) := by decide +kernel
theorem d_L_law_369 : decode c_L_law 369 = .ok (.ireturn, 1) := by decide +kernel
theorem d_L_law_370 : decode c_L_law 370 = .ok (.goto 802, 3) := by decide +kernel
theorem d_L_law_373 : decode c_L_law 373 = .ok (.aload_n 1, 1) := by decide +kernel
theorem d_L_law_374 : decode c_L_law 374 = .ok (.aload_n 0, 1) := by decide +kernel
theorem d_L_law_375 : decode c_L_law 375 = .ok (.iload 5, 2) := by decide +kernel
theorem d_L_law_377 : decode c_L_law 377 = .ok (.iconst 1, 1) := by decide +kernel
theorem d_L_law_378 : decode c_L_law 378 = .ok (.iadd, 1) := by decide +kernel
theorem d_L_law_379 : decode c_L_law 379 = .ok (.iaload, 1) := by decide +kernel
theorem d_L_law_380 : decode c_L_law 380 = .ok (.i2f, 1) := by decide +kernel
theorem d_L_law_381 : decode c_L_law 381 = .ok (.ldc 91, 2) := by decide +kernel
theorem d_L_law_383 : decode c_L_law 383 = .ok (.fmul, 1) := by decide +kernel
theorem d_L_law_384 : decode c_L_law 384 = .ok (.aload_n 0, 1) := by decide +kernel
theorem d_L_law_385 : decode c_L_law 385 = .ok (.iload 5, 2) := by decide +kernel
theorem d_L_law_387 : decode c_L_law 387 = .ok (.iconst 2, 1) := by decide +kernel
theorem d_L_law_388 : decode c_L_law 388 = .ok (.iadd, 1) := by decide +kernel
theorem d_L_law_389 : decode c_L_law 389 = .ok (.iaload, 1) := by decide +kernel
theorem d_L_law_390 : decode c_L_law 390 = .ok (.aload_n 3, 1) := by decide +kernel
theorem d_L_law_391 : decode c_L_law 391 = .ok (.invokestatic 92, 3) := by decide +kernel
theorem d_L_law_394 : decode c_L_law 394 = .ok (.istore 6, 2) := by decide +kernel
theorem d_L_law_396 : decode c_L_law 396 = .ok (.aload_n 2, 1) := by decide +kernel
theorem d_L_law_397 : decode c_L_law 397 = .ok (.aload_n 0, 1) := by decide +kernel
theorem d_L_law_398 : decode c_L_law 398 = .ok (.iload 5, 2) := by decide +kernel
theorem d_L_law_400 : decode c_L_law 400 = .ok (.iconst 1, 1) := by decide +kernel
theorem d_L_law_401 : decode c_L_law 401 = .ok (.iadd, 1) := by decide +kernel
theorem d_L_law_402 : decode c_L_law 402 = .ok (.iaload, 1) := by decide +kernel
theorem d_L_law_403 : decode c_L_law 403 = .ok (.i2f, 1) := by decide +kernel
theorem d_L_law_404 : decode c_L_law 404 = .ok (.ldc 91, 2) := by decide +kernel
theorem d_L_law_406 : decode c_L_law 406 = .ok (.fmul, 1) := by decide +kernel
theorem d_L_law_407 : decode c_L_law 407 = .ok (.aload_n 0, 1) := by decide +kernel
theorem d_L_law_408 : decode c_L_law 408 = .ok (.iload 5, 2) := by decide +kernel
theorem d_L_law_410 : decode c_L_law 410 = .ok (.iconst 2, 1) := by decide +kernel
theorem d_L_law_411 : decode c_L_law 411 = .ok (.iadd, 1) := by decide +kernel
theorem d_L_law_412 : decode c_L_law 412 = .ok (.iaload, 1) := by decide +kernel
theorem d_L_law_413 : decode c_L_law 413 = .ok (.invokevirtual 95, 3) := by decide +kernel
theorem d_L_law_416 : decode c_L_law 416 = .ok (.istore 7, 2) := by decide +kernel
theorem d_L_law_418 : decode c_L_law 418 = .ok (.aload_n 2, 1) := by decide +kernel
theorem d_L_law_419 : decode c_L_law 419 = .ok (.invokevirtual 80, 3) := by decide +kernel
theorem d_L_law_422 : decode c_L_law 422 = .ok (.iload 6, 2) := by decide +kernel
theorem d_L_law_424 : decode c_L_law 424 = .ok (.if_icmp .eq 5, 3) := by decide +kernel
theorem d_L_law_427 : decode c_L_law 427 = .ok (.iconst 0, 1) := by decide +kernel
theorem d_L_law_428 : decode c_L_law 428 = .ok (.ireturn, 1) := by decide +kernel
theorem d_L_law_429 : decode c_L_law 429 = .ok (.iload 6, 2) := by decide +kernel
theorem d_L_law_431 : decode c_L_law 431 = .ok (.ifCond .ne 15, 3) := by decide +kernel
theorem d_L_law_434 : decode c_L_law 434 = .ok (.aload_n 3, 1) := by decide +kernel
theorem d_L_law_435 : decode c_L_law 435 = .ok (.iconst 0, 1) := by decide +kernel
theorem d_L_law_436 : decode c_L_law 436 = .ok (.laload, 1) := by decide +kernel
theorem d_L_law_437 : decode c_L_law 437 = .ok (.iload 7, 2) := by decide +kernel
theorem d_L_law_439 : decode c_L_law 439 = .ok (.i2l, 1) := by decide +kernel
theorem d_L_law_440 : decode c_L_law 440 = .ok (.lcmp, 1) := by decide +kernel
theorem d_L_law_441 : decode c_L_law 441 = .ok (.ifCond .eq 5, 3) := by decide +kernel
theorem d_L_law_444 : decode c_L_law 444 = .ok (.iconst 0, 1) := by decide +kernel
