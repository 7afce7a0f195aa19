theorem d_W_law_0 : decode (mC m_W_law) 0 = .ok (.new 8, 3) := by decide +kernel
theorem d_W_law_3 : decode (mC m_W_law) 3 = .ok (.dup, 1) := by decide +kernel
theorem d_W_law_4 : decode (mC m_W_law) 4 = .ok (.invokespecial 163, 3) := by decide +kernel
theorem d_W_law_7 : decode (mC m_W_law) 7 = .ok (.astore_n 1, 1) := by decide +kernel
theorem d_W_law_8 : decode (mC m_W_law) 8 = .ok (.new 164, 3) := by decide +kernel
theorem d_W_law_11 : decode (mC m_W_law) 11 = .ok (.dup, 1) := by decide +kernel
theorem d_W_law_12 : decode (mC m_W_law) 12 = .ok (.invokespecial 166, 3) := by decide +kernel
theorem d_W_law_15 : decode (mC m_W_law) 15 = .ok (.astore_n 2, 1) := by decide +kernel
theorem d_W_law_16 : decode (mC m_W_law) 16 = .ok (.iconst 1, 1) := by decide +kernel
theorem d_W_law_17 : decode (mC m_W_law) 17 = .ok (.newarray .long, 2) := by decide +kernel
theorem d_W_law_19 : decode (mC m_W_law) 19 = .ok (.astore_n 3, 1) := by decide +kernel
theorem d_W_law_20 : decode (mC m_W_law) 20 = .ok (.iconst 0, 1) := by decide +kernel
theorem d_W_law_21 : decode (mC m_W_law) 21 = .ok (.istore 4, 2) := by decide +kernel
theorem d_W_law_23 : decode (mC m_W_law) 23 = .ok (.iload 4, 2) := by decide +kernel
theorem d_W_law_25 : decode (mC m_W_law) 25 = .ok (.aload_n 0, 1) := by decide +kernel
theorem d_W_law_26 : decode (mC m_W_law) 26 = .ok (.arraylength, 1) := by decide +kernel
theorem d_W_law_27 : decode (mC m_W_law) 27 = .ok (.bipush (6), 2) := by decide +kernel
theorem d_W_law_29 : decode (mC m_W_law) 29 = .ok (.isub, 1) := by decide +kernel
theorem d_W_law_30 : decode (mC m_W_law) 30 = .ok (.if_icmp .gt (3296), 3) := by decide +kernel
theorem d_W_law_33 : decode (mC m_W_law) 33 = .ok (.aload_n 0, 1) := by decide +kernel
theorem d_W_law_34 : decode (mC m_W_law) 34 = .ok (.iload 4, 2) := by decide +kernel
theorem d_W_law_36 : decode (mC m_W_law) 36 = .ok (.iaload, 1) := by decide +kernel
theorem d_W_law_37 : decode (mC m_W_law) 37 = .ok (.bipush (63), 2) := by decide +kernel
theorem d_W_law_39 : decode (mC m_W_law) 39 = .ok (.iand, 1) := by decide +kernel
theorem d_W_law_40 : decode (mC m_W_law) 40 = .ok (.tableswitch (3280) (0) (50) #[220, 276, 344, 412, 516, 529, 573, 629, 725, 805, 901, 957, 1013, 1069, 1125, 1181, 1194, 1257, 1320, 1376, 1484, 1540, 1603, 1671, 1751, 1819, 1887, 1979, 2035, 2103, 2166, 2222, 2302, 2358, 2402, 2446, 2459, 2522, 2578, 2658, 2714, 2770, 2838, 2906, 2962, 3030, 3086, 3142, 3155, 3211, 3224], 220) := by decide +kernel
theorem d_W_law_260 : decode (mC m_W_law) 260 = .ok (.aload_n 1, 1) := by decide +kernel
theorem d_W_law_261 : decode (mC m_W_law) 261 = .ok (.aload_n 0, 1) := by decide +kernel
theorem d_W_law_262 : decode (mC m_W_law) 262 = .ok (.iload 4, 2) := by decide +kernel
theorem d_W_law_264 : decode (mC m_W_law) 264 = .ok (.iconst 1, 1) := by decide +kernel
theorem d_W_law_265 : decode (mC m_W_law) 265 = .ok (.iadd, 1) := by decide +kernel
theorem d_W_law_266 : decode (mC m_W_law) 266 = .ok (.iaload, 1) := by decide +kernel
theorem d_W_law_267 : decode (mC m_W_law) 267 = .ok (.aload_n 3, 1) := by decide +kernel
theorem d_W_law_268 : decode (mC m_W_law) 268 = .ok (.invokestatic 167, 3) := by decide +kernel
theorem d_W_law_271 : decode (mC m_W_law) 271 = .ok (.istore 5, 2) := by decide +kernel
theorem d_W_law_273 : decode (mC m_W_law) 273 = .ok (.aload_n 2, 1) := by decide +kernel
theorem d_W_law_274 : decode (mC m_W_law) 274 = .ok (.aload_n 0, 1) := by decide +kernel
theorem d_W_law_275 : decode (mC m_W_law) 275 = .ok (.iload 4, 2) := by decide +kernel
theorem d_W_law_277 : decode (mC m_W_law) 277 = .ok (.iconst 1, 1) := by decide +kernel
theorem d_W_law_278 : decode (mC m_W_law) 278 = .ok (.iadd, 1) := by decide +kernel
theorem d_W_law_279 : decode (mC m_W_law) 279 = .ok (.iaload, 1) := by decide +kernel
theorem d_W_law_280 : decode (mC m_W_law) 280 = .ok (.invokevirtual 172, 3) := by decide +kernel
theorem d_W_law_283 : decode (mC m_W_law) 283 = .ok (.istore 6, 2) := by decide +kernel
theorem d_W_law_285 : decode (mC m_W_law) 285 = .ok (.aload_n 2, 1) := by decide +kernel
theorem d_W_law_286 : decode (mC m_W_law) 286 = .ok (.invokevirtual 173, 3) := by decide +kernel
theorem d_W_law_289 : decode (mC m_W_law) 289 = .ok (.iload 5, 2) := by decide +kernel
theorem d_W_law_291 : decode (mC m_W_law) 291 = .ok (.if_icmp .eq (5), 3) := by decide +kernel
theorem d_W_law_294 : decode (mC m_W_law) 294 = .ok (.iconst 0, 1) := by decide +kernel
theorem d_W_law_295 : decode (mC m_W_law) 295 = .ok (.ireturn, 1) := by decide +kernel
theorem d_W_law_296 : decode (mC m_W_law) 296 = .ok (.iload 5, 2) := by decide +kernel
theorem d_W_law_298 : decode (mC m_W_law) 298 = .ok (.ifCond .ne (15), 3) := by decide +kernel
theorem d_W_law_301 : decode (mC m_W_law) 301 = .ok (.aload_n 3, 1) := by decide +kernel
theorem d_W_law_302 : decode (mC m_W_law) 302 = .ok (.iconst 0, 1) := by decide +kernel
theorem d_W_law_303 : decode (mC m_W_law) 303 = .ok (.laload, 1) := by decide +kernel
theorem d_W_law_304 : decode (mC m_W_law) 304 = .ok (.iload 6, 2) := by decide +kernel
theorem d_W_law_306 : decode (mC m_W_law) 306 = .ok (.i2l, 1) := by decide +kernel
theorem d_W_law_307 : decode (mC m_W_law) 307 = .ok (.lcmp, 1) := by decide +kernel
theorem d_W_law_308 : decode (mC m_W_law) 308 = .ok (.ifCond .eq (5), 3) := by decide +kernel
theorem d_W_law_311 : decode (mC m_W_law) 311 = .ok (.iconst 0, 1) := by decide +kernel
theorem d_W_law_312 : decode (mC m_W_law) 312 = .ok (.ireturn, 1) := by decide +kernel
theorem d_W_law_313 : decode (mC m_W_law) 313 = .ok (.goto (3007), 3) := by decide +kernel
theorem d_W_law_316 : decode (mC m_W_law) 316 = .ok (.aload_n 1, 1) := by decide +kernel
theorem d_W_law_317 : decode (mC m_W_law) 317 = .ok (.aload_n 0, 1) := by decide +kernel
theorem d_W_law_318 : decode (mC m_W_law) 318 = .ok (.iload 4, 2) := by decide +kernel
theorem d_W_law_320 : decode (mC m_W_law) 320 = .ok (.iconst 1, 1) := by decide +kernel
theorem d_W_law_321 : decode (mC m_W_law) 321 = .ok (.iadd, 1) := by decide +kernel
theorem d_W_law_322 : decode (mC m_W_law) 322 = .ok (.iaload, 1) := by decide +kernel
theorem d_W_law_323 : decode (mC m_W_law) 323 = .ok (.aload_n 0, 1) := by decide +kernel
theorem d_W_law_324 : decode (mC m_W_law) 324 = .ok (.iload 4, 2) := by decide +kernel
theorem d_W_law_326 : decode (mC m_W_law) 326 = .ok (.iconst 2, 1) := by decide +kernel
theorem d_W_law_327 : decode (mC m_W_law) 327 = .ok (.iadd, 1) := by decide +kernel
theorem d_W_law_328 : decode (mC m_W_law) 328 = .ok (.iaload, 1) := by decide +kernel
theorem d_W_law_329 : decode (mC m_W_law) 329 = .ok (.aload_n 3, 1) := by decide +kernel
theorem d_W_law_330 : decode (mC m_W_law) 330 = .ok (.invokestatic 176, 3) := by decide +kernel
theorem d_W_law_333 : decode (mC m_W_law) 333 = .ok (.istore 5, 2) := by decide +kernel
theorem d_W_law_335 : decode (mC m_W_law) 335 = .ok (.aload_n 2, 1) := by decide +kernel
theorem d_W_law_336 : decode (mC m_W_law) 336 = .ok (.aload_n 0, 1) := by decide +kernel
theorem d_W_law_337 : decode (mC m_W_law) 337 = .ok (.iload 4, 2) := by decide +kernel
theorem d_W_law_339 : decode (mC m_W_law) 339 = .ok (.iconst 1, 1) := by decide +kernel
theorem d_W_law_340 : decode (mC m_W_law) 340 = .ok (.iadd, 1) := by decide +kernel
theorem d_W_law_341 : decode (mC m_W_law) 341 = .ok (.iaload, 1) := by decide +kernel
theorem d_W_law_342 : decode (mC m_W_law) 342 = .ok (.aload_n 0, 1) := by decide +kernel
theorem d_W_law_343 : decode (mC m_W_law) 343 = .ok (.iload 4, 2) := by decide +kernel
theorem d_W_law_345 : decode (mC m_W_law) 345 = .ok (.iconst 2, 1) := by decide +kernel
theorem d_W_law_346 : decode (mC m_W_law) 346 = .ok (.iadd, 1) := by decide +kernel
theorem d_W_law_347 : decode (mC m_W_law) 347 = .ok (.iaload, 1) := by decide +kernel
theorem d_W_law_348 : decode (mC m_W_law) 348 = .ok (.invokevirtual 179, 3) := by decide +kernel
theorem d_W_law_351 : decode (mC m_W_law) 351 = .ok (.istore 6, 2) := by decide +kernel
theorem d_W_law_353 : decode (mC m_W_law) 353 = .ok (.aload_n 2, 1) := by decide +kernel
theorem d_W_law_354 : decode (mC m_W_law) 354 = .ok (.invokevirtual 173, 3) := by decide +kernel
theorem d_W_law_357 : decode (mC m_W_law) 357 = .ok (.iload 5, 2) := by decide +kernel
theorem d_W_law_359 : decode (mC m_W_law) 359 = .ok (.if_icmp .eq (5), 3) := by decide +kernel
theorem d_W_law_362 : decode (mC m_W_law) 362 = .ok (.iconst 0, 1) := by decide +kernel
theorem d_W_law_363 : decode (mC m_W_law) 363 = .ok (.ireturn, 1) := by decide +kernel
theorem d_W_law_364 : decode (mC m_W_law) 364 = .ok (.iload 5, 2) := by decide +kernel
theorem d_W_law_366 : decode (mC m_W_law) 366 = .ok (.ifCond .ne (15), 3) := by decide +kernel
theorem d_W_law_369 : decode (mC m_W_law) 369 = .ok (.aload_n 3, 1) := by decide +kernel
theorem d_W_law_370 : decode (mC m_W_law) 370 = .ok (.iconst 0, 1) := by decide +kernel
theorem d_W_law_371 : decode (mC m_W_law) 371 = .ok (.laload, 1) := by decide +kernel
theorem d_W_law_372 : decode (mC m_W_law) 372 = .ok (.iload 6, 2) := by decide +kernel
theorem d_W_law_374 : decode (mC m_W_law) 374 = .ok (.i2l, 1) := by decide +kernel
theorem d_W_law_375 : decode (mC m_W_law) 375 = .ok (.lcmp, 1) := by decide +kernel
theorem d_W_law_376 : decode (mC m_W_law) 376 = .ok (.ifCond .eq (5), 3) := by decide +kernel
theorem d_W_law_379 : decode (mC m_W_law) 379 = .ok (.iconst 0, 1) := by decide +kernel
theorem d_W_law_380 : decode (mC m_W_law) 380 = .ok (.ireturn, 1) := by decide +kernel
theorem d_W_law_381 : decode (mC m_W_law) 381 = .ok (.goto (2939), 3) := by decide +kernel
theorem d_W_law_384 : decode (mC m_W_law) 384 = .ok (.aload_n 1, 1) := by decide +kernel
theorem d_W_law_385 : decode (mC m_W_law) 385 = .ok (.aload_n 0, 1) := by decide +kernel
theorem d_W_law_386 : decode (mC m_W_law) 386 = .ok (.iload 4, 2) := by decide +kernel
theorem d_W_law_388 : decode (mC m_W_law) 388 = .ok (.iconst 1, 1) := by decide +kernel
theorem d_W_law_389 : decode (mC m_W_law) 389 = .ok (.iadd, 1) := by decide +kernel
theorem d_W_law_390 : decode (mC m_W_law) 390 = .ok (.iaload, 1) := by decide +kernel
theorem d_W_law_391 : decode (mC m_W_law) 391 = .ok (.aload_n 0, 1) := by decide +kernel
theorem d_W_law_392 : decode (mC m_W_law) 392 = .ok (.iload 4, 2) := by decide +kernel
theorem d_W_law_394 : decode (mC m_W_law) 394 = .ok (.iconst 2, 1) := by decide +kernel
theorem d_W_law_395 : decode (mC m_W_law) 395 = .ok (.iadd, 1) := by decide +kernel
theorem d_W_law_396 : decode (mC m_W_law) 396 = .ok (.iaload, 1) := by decide +kernel
theorem d_W_law_397 : decode (mC m_W_law) 397 = .ok (.aload_n 3, 1) := by decide +kernel
theorem d_W_law_398 : decode (mC m_W_law) 398 = .ok (.invokestatic 180, 3) := by decide +kernel
theorem d_W_law_401 : decode (mC m_W_law) 401 = .ok (.istore 5, 2) := by decide +kernel
theorem d_W_law_403 : decode (mC m_W_law) 403 = .ok (.aload_n 2, 1) := by decide +kernel
theorem d_W_law_404 : decode (mC m_W_law) 404 = .ok (.aload_n 0, 1) := by decide +kernel
theorem d_W_law_405 : decode (mC m_W_law) 405 = .ok (.iload 4, 2) := by decide +kernel
theorem d_W_law_407 : decode (mC m_W_law) 407 = .ok (.iconst 1, 1) := by decide +kernel
theorem d_W_law_408 : decode (mC m_W_law) 408 = .ok (.iadd, 1) := by decide +kernel
theorem d_W_law_409 : decode (mC m_W_law) 409 = .ok (.iaload, 1) := by decide +kernel
theorem d_W_law_410 : decode (mC m_W_law) 410 = .ok (.aload_n 0, 1) := by decide +kernel
theorem d_W_law_411 : decode (mC m_W_law) 411 = .ok (.iload 4, 2) := by decide +kernel
theorem d_W_law_413 : decode (mC m_W_law) 413 = .ok (.iconst 2, 1) := by decide +kernel
theorem d_W_law_414 : decode (mC m_W_law) 414 = .ok (.iadd, 1) := by decide +kernel
theorem d_W_law_415 : decode (mC m_W_law) 415 = .ok (.iaload, 1) := by decide +kernel
theorem d_W_law_416 : decode (mC m_W_law) 416 = .ok (.invokevirtual 182, 3) := by decide +kernel
theorem d_W_law_419 : decode (mC m_W_law) 419 = .ok (.istore 6, 2) := by decide +kernel
theorem d_W_law_421 : decode (mC m_W_law) 421 = .ok (.aload_n 2, 1) := by decide +kernel
theorem d_W_law_422 : decode (mC m_W_law) 422 = .ok (.invokevirtual 173, 3) := by decide +kernel
theorem d_W_law_425 : decode (mC m_W_law) 425 = .ok (.iload 5, 2) := by decide +kernel
theorem d_W_law_427 : decode (mC m_W_law) 427 = .ok (.if_icmp .eq (5), 3) := by decide +kernel
theorem d_W_law_430 : decode (mC m_W_law) 430 = .ok (.iconst 0, 1) := by decide +kernel
theorem d_W_law_431 : decode (mC m_W_law) 431 = .ok (.ireturn, 1) := by decide +kernel
theorem d_W_law_432 : decode (mC m_W_law) 432 = .ok (.iload 5, 2) := by decide +kernel
theorem d_W_law_434 : decode (mC m_W_law) 434 = .ok (.ifCond .ne (15), 3) := by decide +kernel
theorem d_W_law_437 : decode (mC m_W_law) 437 = .ok (.aload_n 3, 1) := by decide +kernel
theorem d_W_law_438 : decode (mC m_W_law) 438 = .ok (.iconst 0, 1) := by decide +kernel
theorem d_W_law_439 : decode (mC m_W_law) 439 = .ok (.laload, 1) := by decide +kernel
theorem d_W_law_440 : decode (mC m_W_law) 440 = .ok (.iload 6, 2) := by decide +kernel
theorem d_W_law_442 : decode (mC m_W_law) 442 = .ok (.i2l, 1) := by decide +kernel
theorem d_W_law_443 : decode (mC m_W_law) 443 = .ok (.lcmp, 1) := by decide +kernel
theorem d_W_law_444 : decode (mC m_W_law) 444 = .ok (.ifCond .eq (5), 3) := by decide +kernel
theorem d_W_law_447 : decode (mC m_W_law) 447 = .ok (.iconst 0, 1) := by decide +kernel
theorem d_W_law_448 : decode (mC m_W_law) 448 = .ok (.ireturn, 1) := by decide +kernel
theorem d_W_law_449 : decode (mC m_W_law) 449 = .ok (.goto (2871), 3) := by decide +kernel
theorem d_W_law_452 : decode (mC m_W_law) 452 = .ok (.aload_n 1, 1) := by decide +kernel
theorem d_W_law_453 : decode (mC m_W_law) 453 = .ok (.aload_n 0, 1) := by decide +kernel
theorem d_W_law_454 : decode (mC m_W_law) 454 = .ok (.iload 4, 2) := by decide +kernel
theorem d_W_law_456 : decode (mC m_W_law) 456 = .ok (.iconst 1, 1) := by decide +kernel
theorem d_W_law_457 : decode (mC m_W_law) 457 = .ok (.iadd, 1) := by decide +kernel
theorem d_W_law_458 : decode (mC m_W_law) 458 = .ok (.iaload, 1) := by decide +kernel
theorem d_W_law_459 : decode (mC m_W_law) 459 = .ok (.aload_n 0, 1) := by decide +kernel
theorem d_W_law_460 : decode (mC m_W_law) 460 = .ok (.iload 4, 2) := by decide +kernel
theorem d_W_law_462 : decode (mC m_W_law) 462 = .ok (.iconst 2, 1) := by decide +kernel
theorem d_W_law_463 : decode (mC m_W_law) 463 = .ok (.iadd, 1) := by decide +kernel
theorem d_W_law_464 : decode (mC m_W_law) 464 = .ok (.iaload, 1) := by decide +kernel
theorem d_W_law_465 : decode (mC m_W_law) 465 = .ok (.aload_n 0, 1) := by decide +kernel
theorem d_W_law_466 : decode (mC m_W_law) 466 = .ok (.iload 4, 2) := by decide +kernel
theorem d_W_law_468 : decode (mC m_W_law) 468 = .ok (.iconst 3, 1) := by decide +kernel
theorem d_W_law_469 : decode (mC m_W_law) 469 = .ok (.iadd, 1) := by decide +kernel
theorem d_W_law_470 : decode (mC m_W_law) 470 = .ok (.iaload, 1) := by decide +kernel
theorem d_W_law_471 : decode (mC m_W_law) 471 = .ok (.aload_n 0, 1) := by decide +kernel
theorem d_W_law_472 : decode (mC m_W_law) 472 = .ok (.iload 4, 2) := by decide +kernel
theorem d_W_law_474 : decode (mC m_W_law) 474 = .ok (.iconst 4, 1) := by decide +kernel
theorem d_W_law_475 : decode (mC m_W_law) 475 = .ok (.iadd, 1) := by decide +kernel
theorem d_W_law_476 : decode (mC m_W_law) 476 = .ok (.iaload, 1) := by decide +kernel
theorem d_W_law_477 : decode (mC m_W_law) 477 = .ok (.aload_n 0, 1) := by decide +kernel
theorem d_W_law_478 : decode (mC m_W_law) 478 = .ok (.iload 4, 2) := by decide +kernel
theorem d_W_law_480 : decode (mC m_W_law) 480 = .ok (.iconst 5, 1) := by decide +kernel
theorem d_W_law_481 : decode (mC m_W_law) 481 = .ok (.iadd, 1) := by decide +kernel
theorem d_W_law_482 : decode (mC m_W_law) 482 = .ok (.iaload, 1) := by decide +kernel
theorem d_W_law_483 : decode (mC m_W_law) 483 = .ok (.aload_n 3, 1) := by decide +kernel
theorem d_W_law_484 : decode (mC m_W_law) 484 = .ok (.invokestatic 183, 3) := by decide +kernel
theorem d_W_law_487 : decode (mC m_W_law) 487 = .ok (.istore 5, 2) := by decide +kernel
theorem d_W_law_489 : decode (mC m_W_law) 489 = .ok (.aload_n 2, 1) := by decide +kernel
theorem d_W_law_490 : decode (mC m_W_law) 490 = .ok (.aload_n 0, 1) := by decide +kernel
theorem d_W_law_491 : decode (mC m_W_law) 491 = .ok (.iload 4, 2) := by decide +kernel
theorem d_W_law_493 : decode (mC m_W_law) 493 = .ok (.iconst 1, 1) := by decide +kernel
theorem d_W_law_494 : decode (mC m_W_law) 494 = .ok (.iadd, 1) := by decide +kernel
theorem d_W_law_495 : decode (mC m_W_law) 495 = .ok (.iaload, 1) := by decide +kernel
theorem d_W_law_496 : decode (mC m_W_law) 496 = .ok (.aload_n 0, 1) := by decide +kernel
theorem d_W_law_497 : decode (mC m_W_law) 497 = .ok (.iload 4, 2) := by decide +kernel
theorem d_W_law_499 : decode (mC m_W_law) 499 = .ok (.iconst 2, 1) := by decide +kernel
theorem d_W_law_500 : decode (mC m_W_law) 500 = .ok (.iadd, 1) := by decide +kernel
theorem d_W_law_501 : decode (mC m_W_law) 501 = .ok (.iaload, 1) := by decide +kernel
theorem d_W_law_502 : decode (mC m_W_law) 502 = .ok (.aload_n 0, 1) := by decide +kernel
theorem d_W_law_503 : decode (mC m_W_law) 503 = .ok (.iload 4, 2) := by decide +kernel
theorem d_W_law_505 : decode (mC m_W_law) 505 = .ok (.iconst 3, 1) := by decide +kernel
theorem d_W_law_506 : decode (mC m_W_law) 506 = .ok (.iadd, 1) := by decide +kernel
theorem d_W_law_507 : decode (mC m_W_law) 507 = .ok (.iaload, 1) := by decide +kernel
theorem d_W_law_508 : decode (mC m_W_law) 508 = .ok (.aload_n 0, 1) := by decide +kernel
theorem d_W_law_509 : decode (mC m_W_law) 509 = .ok (.iload 4, 2) := by decide +kernel
theorem d_W_law_511 : decode (mC m_W_law) 511 = .ok (.iconst 4, 1) := by decide +kernel
theorem d_W_law_512 : decode (mC m_W_law) 512 = .ok (.iadd, 1) := by decide +kernel
theorem d_W_law_513 : decode (mC m_W_law) 513 = .ok (.iaload, 1) := by decide +kernel
theorem d_W_law_514 : decode (mC m_W_law) 514 = .ok (.aload_n 0, 1) := by decide +kernel
theorem d_W_law_515 : decode (mC m_W_law) 515 = .ok (.iload 4, 2) := by decide +kernel
theorem d_W_law_517 : decode (mC m_W_law) 517 = .ok (.iconst 5, 1) := by decide +kernel
theorem d_W_law_518 : decode (mC m_W_law) 518 = .ok (.iadd, 1) := by decide +kernel
theorem d_W_law_519 : decode (mC m_W_law) 519 = .ok (.iaload, 1) := by decide +kernel
theorem d_W_law_520 : decode (mC m_W_law) 520 = .ok (.invokevirtual 186, 3) := by decide +kernel
theorem d_W_law_523 : decode (mC m_W_law) 523 = .ok (.istore 6, 2) := by decide +kernel
theorem d_W_law_525 : decode (mC m_W_law) 525 = .ok (.aload_n 2, 1) := by decide +kernel
theorem d_W_law_526 : decode (mC m_W_law) 526 = .ok (.invokevirtual 173, 3) := by decide +kernel
theorem d_W_law_529 : decode (mC m_W_law) 529 = .ok (.iload 5, 2) := by decide +kernel
theorem d_W_law_531 : decode (mC m_W_law) 531 = .ok (.if_icmp .eq (5), 3) := by decide +kernel
theorem d_W_law_534 : decode (mC m_W_law) 534 = .ok (.iconst 0, 1) := by decide +kernel
theorem d_W_law_535 : decode (mC m_W_law) 535 = .ok (.ireturn, 1) := by decide +kernel
theorem d_W_law_536 : decode (mC m_W_law) 536 = .ok (.iload 5, 2) := by decide +kernel
theorem d_W_law_538 : decode (mC m_W_law) 538 = .ok (.ifCond .ne (15), 3) := by decide +kernel
theorem d_W_law_541 : decode (mC m_W_law) 541 = .ok (.aload_n 3, 1) := by decide +kernel
theorem d_W_law_542 : decode (mC m_W_law) 542 = .ok (.iconst 0, 1) := by decide +kernel
theorem d_W_law_543 : decode (mC m_W_law) 543 = .ok (.laload, 1) := by decide +kernel
theorem d_W_law_544 : decode (mC m_W_law) 544 = .ok (.iload 6, 2) := by decide +kernel
theorem d_W_law_546 : decode (mC m_W_law) 546 = .ok (.i2l, 1) := by decide +kernel
theorem d_W_law_547 : decode (mC m_W_law) 547 = .ok (.lcmp, 1) := by decide +kernel
theorem d_W_law_548 : decode (mC m_W_law) 548 = .ok (.ifCond .eq (5), 3) := by decide +kernel
theorem d_W_law_551 : decode (mC m_W_law) 551 = .ok (.iconst 0, 1) := by decide +kernel
theorem d_W_law_552 : decode (mC m_W_law) 552 = .ok (.ireturn, 1) := by decide +kernel
theorem d_W_law_553 : decode (mC m_W_law) 553 = .ok (.goto (2767), 3) := by decide +kernel
theorem d_W_law_556 : decode (mC m_W_law) 556 = .ok (.aload_n 1, 1) := by decide +kernel
theorem d_W_law_557 : decode (mC m_W_law) 557 = .ok (.invokevirtual 187, 3) := by decide +kernel
theorem d_W_law_560 : decode (mC m_W_law) 560 = .ok (.aload_n 2, 1) := by decide +kernel
theorem d_W_law_561 : decode (mC m_W_law) 561 = .ok (.invokevirtual 190, 3) := by decide +kernel
theorem d_W_law_564 : decode (mC m_W_law) 564 = .ok (.if_icmp .eq (2756), 3) := by decide +kernel
theorem d_W_law_567 : decode (mC m_W_law) 567 = .ok (.iconst 0, 1) := by decide +kernel
theorem d_W_law_568 : decode (mC m_W_law) 568 = .ok (.ireturn, 1) := by decide +kernel
theorem d_W_law_569 : decode (mC m_W_law) 569 = .ok (.aload_n 1, 1) := by decide +kernel
theorem d_W_law_570 : decode (mC m_W_law) 570 = .ok (.aload_n 3, 1) := by decide +kernel
theorem d_W_law_571 : decode (mC m_W_law) 571 = .ok (.invokestatic 191, 3) := by decide +kernel
theorem d_W_law_574 : decode (mC m_W_law) 574 = .ok (.istore 5, 2) := by decide +kernel
theorem d_W_law_576 : decode (mC m_W_law) 576 = .ok (.aload_n 2, 1) := by decide +kernel
theorem d_W_law_577 : decode (mC m_W_law) 577 = .ok (.invokevirtual 194, 3) := by decide +kernel
theorem d_W_law_580 : decode (mC m_W_law) 580 = .ok (.istore 6, 2) := by decide +kernel
theorem d_W_law_582 : decode (mC m_W_law) 582 = .ok (.aload_n 2, 1) := by decide +kernel
theorem d_W_law_583 : decode (mC m_W_law) 583 = .ok (.invokevirtual 173, 3) := by decide +kernel
theorem d_W_law_586 : decode (mC m_W_law) 586 = .ok (.iload 5, 2) := by decide +kernel
theorem d_W_law_588 : decode (mC m_W_law) 588 = .ok (.if_icmp .eq (5), 3) := by decide +kernel
theorem d_W_law_591 : decode (mC m_W_law) 591 = .ok (.iconst 0, 1) := by decide +kernel
theorem d_W_law_592 : decode (mC m_W_law) 592 = .ok (.ireturn, 1) := by decide +kernel
theorem d_W_law_593 : decode (mC m_W_law) 593 = .ok (.iload 5, 2) := by decide +kernel
theorem d_W_law_595 : decode (mC m_W_law) 595 = .ok (.ifCond .ne (15), 3) := by decide +kernel
theorem d_W_law_598 : decode (mC m_W_law) 598 = .ok (.aload_n 3, 1) := by decide +kernel
theorem d_W_law_599 : decode (mC m_W_law) 599 = .ok (.iconst 0, 1) := by decide +kernel
theorem d_W_law_600 : decode (mC m_W_law) 600 = .ok (.laload, 1) := by decide +kernel
theorem d_W_law_601 : decode (mC m_W_law) 601 = .ok (.iload 6, 2) := by decide +kernel
theorem d_W_law_603 : decode (mC m_W_law) 603 = .ok (.i2l, 1) := by decide +kernel
theorem d_W_law_604 : decode (mC m_W_law) 604 = .ok (.lcmp, 1) := by decide +kernel
theorem d_W_law_605 : decode (mC m_W_law) 605 = .ok (.ifCond .eq (5), 3) := by decide +kernel
theorem d_W_law_608 : decode (mC m_W_law) 608 = .ok (.iconst 0, 1) := by decide +kernel
theorem d_W_law_609 : decode (mC m_W_law) 609 = .ok (.ireturn, 1) := by decide +kernel
theorem d_W_law_610 : decode (mC m_W_law) 610 = .ok (.goto (2710), 3) := by decide +kernel
theorem d_W_law_613 : decode (mC m_W_law) 613 = .ok (.aload_n 1, 1) := by decide +kernel
theorem d_W_law_614 : decode (mC m_W_law) 614 = .ok (.aload_n 0, 1) := by decide +kernel
theorem d_W_law_615 : decode (mC m_W_law) 615 = .ok (.iload 4, 2) := by decide +kernel
theorem d_W_law_617 : decode (mC m_W_law) 617 = .ok (.iconst 1, 1) := by decide +kernel
theorem d_W_law_618 : decode (mC m_W_law) 618 = .ok (.iadd, 1) := by decide +kernel
theorem d_W_law_619 : decode (mC m_W_law) 619 = .ok (.iaload, 1) := by decide +kernel
theorem d_W_law_620 : decode (mC m_W_law) 620 = .ok (.aload_n 3, 1) := by decide +kernel
theorem d_W_law_621 : decode (mC m_W_law) 621 = .ok (.invokestatic 195, 3) := by decide +kernel
theorem d_W_law_624 : decode (mC m_W_law) 624 = .ok (.istore 5, 2) := by decide +kernel
theorem d_W_law_626 : decode (mC m_W_law) 626 = .ok (.aload_n 2, 1) := by decide +kernel
theorem d_W_law_627 : decode (mC m_W_law) 627 = .ok (.aload_n 0, 1) := by decide +kernel
theorem d_W_law_628 : decode (mC m_W_law) 628 = .ok (.iload 4, 2) := by decide +kernel
theorem d_W_law_630 : decode (mC m_W_law) 630 = .ok (.iconst 1, 1) := by decide +kernel
theorem d_W_law_631 : decode (mC m_W_law) 631 = .ok (.iadd, 1) := by decide +kernel
theorem d_W_law_632 : decode (mC m_W_law) 632 = .ok (.iaload, 1) := by decide +kernel
theorem d_W_law_633 : decode (mC m_W_law) 633 = .ok (.invokevirtual 197, 3) := by decide +kernel
theorem d_W_law_636 : decode (mC m_W_law) 636 = .ok (.istore 6, 2) := by decide +kernel
theorem d_W_law_638 : decode (mC m_W_law) 638 = .ok (.aload_n 2, 1) := by decide +kernel
theorem d_W_law_639 : decode (mC m_W_law) 639 = .ok (.invokevirtual 173, 3) := by decide +kernel
theorem d_W_law_642 : decode (mC m_W_law) 642 = .ok (.iload 5, 2) := by decide +kernel
theorem d_W_law_644 : decode (mC m_W_law) 644 = .ok (.if_icmp .eq (5), 3) := by decide +kernel
theorem d_W_law_647 : decode (mC m_W_law) 647 = .ok (.iconst 0, 1) := by decide +kernel
theorem d_W_law_648 : decode (mC m_W_law) 648 = .ok (.ireturn, 1) := by decide +kernel
theorem d_W_law_649 : decode (mC m_W_law) 649 = .ok (.iload 5, 2) := by decide +kernel
theorem d_W_law_651 : decode (mC m_W_law) 651 = .ok (.ifCond .ne (15), 3) := by decide +kernel
theorem d_W_law_654 : decode (mC m_W_law) 654 = .ok (.aload_n 3, 1) := by decide +kernel
theorem d_W_law_655 : decode (mC m_W_law) 655 = .ok (.iconst 0, 1) := by decide +kernel
theorem d_W_law_656 : decode (mC m_W_law) 656 = .ok (.laload, 1) := by decide +kernel
theorem d_W_law_657 : decode (mC m_W_law) 657 = .ok (.iload 6, 2) := by decide +kernel
theorem d_W_law_659 : decode (mC m_W_law) 659 = .ok (.i2l, 1) := by decide +kernel
theorem d_W_law_660 : decode (mC m_W_law) 660 = .ok (.lcmp, 1) := by decide +kernel
theorem d_W_law_661 : decode (mC m_W_law) 661 = .ok (.ifCond .eq (5), 3) := by decide +kernel
theorem d_W_law_664 : decode (mC m_W_law) 664 = .ok (.iconst 0, 1) := by decide +kernel
theorem d_W_law_665 : decode (mC m_W_law) 665 = .ok (.ireturn, 1) := by decide +kernel
theorem d_W_law_666 : decode (mC m_W_law) 666 = .ok (.goto (2654), 3) := by decide +kernel
theorem d_W_law_669 : decode (mC m_W_law) 669 = .ok (.aload_n 1, 1) := by decide +kernel
theorem d_W_law_670 : decode (mC m_W_law) 670 = .ok (.aload_n 0, 1) := by decide +kernel
theorem d_W_law_671 : decode (mC m_W_law) 671 = .ok (.iload 4, 2) := by decide +kernel
theorem d_W_law_673 : decode (mC m_W_law) 673 = .ok (.iconst 1, 1) := by decide +kernel
theorem d_W_law_674 : decode (mC m_W_law) 674 = .ok (.iadd, 1) := by decide +kernel
theorem d_W_law_675 : decode (mC m_W_law) 675 = .ok (.iaload, 1) := by decide +kernel
theorem d_W_law_676 : decode (mC m_W_law) 676 = .ok (.aload_n 0, 1) := by decide +kernel
theorem d_W_law_677 : decode (mC m_W_law) 677 = .ok (.iload 4, 2) := by decide +kernel
theorem d_W_law_679 : decode (mC m_W_law) 679 = .ok (.iconst 2, 1) := by decide +kernel
theorem d_W_law_680 : decode (mC m_W_law) 680 = .ok (.iadd, 1) := by decide +kernel
theorem d_W_law_681 : decode (mC m_W_law) 681 = .ok (.iaload, 1) := by decide +kernel
theorem d_W_law_682 : decode (mC m_W_law) 682 = .ok (.aload_n 0, 1) := by decide +kernel
theorem d_W_law_683 : decode (mC m_W_law) 683 = .ok (.iload 4, 2) := by decide +kernel
theorem d_W_law_685 : decode (mC m_W_law) 685 = .ok (.iconst 3, 1) := by decide +kernel
theorem d_W_law_686 : decode (mC m_W_law) 686 = .ok (.iadd, 1) := by decide +kernel
theorem d_W_law_687 : decode (mC m_W_law) 687 = .ok (.iaload, 1) := by decide +kernel
theorem d_W_law_688 : decode (mC m_W_law) 688 = .ok (.ifCond .eq (7), 3) := by decide +kernel
theorem d_W_law_691 : decode (mC m_W_law) 691 = .ok (.iconst 1, 1) := by decide +kernel
theorem d_W_law_692 : decode (mC m_W_law) 692 = .ok (.goto (4), 3) := by decide +kernel
theorem d_W_law_695 : decode (mC m_W_law) 695 = .ok (.iconst 0, 1) := by decide +kernel
theorem d_W_law_696 : decode (mC m_W_law) 696 = .ok (.aload_n 3, 1) := by decide +kernel
theorem d_W_law_697 : decode (mC m_W_law) 697 = .ok (.invokestatic 198, 3) := by decide +kernel
theorem d_W_law_700 : decode (mC m_W_law) 700 = .ok (.istore 5, 2) := by decide +kernel
theorem d_W_law_702 : decode (mC m_W_law) 702 = .ok (.aload_n 2, 1) := by decide +kernel
theorem d_W_law_703 : decode (mC m_W_law) 703 = .ok (.aload_n 0, 1) := by decide +kernel
theorem d_W_law_704 : decode (mC m_W_law) 704 = .ok (.iload 4, 2) := by decide +kernel
theorem d_W_law_706 : decode (mC m_W_law) 706 = .ok (.iconst 1, 1) := by decide +kernel
theorem d_W_law_707 : decode (mC m_W_law) 707 = .ok (.iadd, 1) := by decide +kernel
theorem d_W_law_708 : decode (mC m_W_law) 708 = .ok (.iaload, 1) := by decide +kernel
theorem d_W_law_709 : decode (mC m_W_law) 709 = .ok (.aload_n 0, 1) := by decide +kernel
theorem d_W_law_710 : decode (mC m_W_law) 710 = .ok (.iload 4, 2) := by decide +kernel
theorem d_W_law_712 : decode (mC m_W_law) 712 = .ok (.iconst 2, 1) := by decide +kernel
theorem d_W_law_713 : decode (mC m_W_law) 713 = .ok (.iadd, 1) := by decide +kernel
theorem d_W_law_714 : decode (mC m_W_law) 714 = .ok (.iaload, 1) := by decide +kernel
theorem d_W_law_715 : decode (mC m_W_law) 715 = .ok (.aload_n 0, 1) := by decide +kernel
theorem d_W_law_716 : decode (mC m_W_law) 716 = .ok (.iload 4, 2) := by decide +kernel
theorem d_W_law_718 : decode (mC m_W_law) 718 = .ok (.iconst 3, 1) := by decide +kernel
theorem d_W_law_719 : decode (mC m_W_law) 719 = .ok (.iadd, 1) := by decide +kernel
theorem d_W_law_720 : decode (mC m_W_law) 720 = .ok (.iaload, 1) := by decide +kernel
theorem d_W_law_721 : decode (mC m_W_law) 721 = .ok (.ifCond .eq (7), 3) := by decide +kernel
theorem d_W_law_724 : decode (mC m_W_law) 724 = .ok (.iconst 1, 1) := by decide +kernel
theorem d_W_law_725 : decode (mC m_W_law) 725 = .ok (.goto (4), 3) := by decide +kernel
theorem d_W_law_728 : decode (mC m_W_law) 728 = .ok (.iconst 0, 1) := by decide +kernel
theorem d_W_law_729 : decode (mC m_W_law) 729 = .ok (.invokevirtual 201, 3) := by decide +kernel
theorem d_W_law_732 : decode (mC m_W_law) 732 = .ok (.istore 6, 2) := by decide +kernel
theorem d_W_law_734 : decode (mC m_W_law) 734 = .ok (.aload_n 2, 1) := by decide +kernel
theorem d_W_law_735 : decode (mC m_W_law) 735 = .ok (.invokevirtual 173, 3) := by decide +kernel
theorem d_W_law_738 : decode (mC m_W_law) 738 = .ok (.iload 5, 2) := by decide +kernel
theorem d_W_law_740 : decode (mC m_W_law) 740 = .ok (.if_icmp .eq (5), 3) := by decide +kernel
theorem d_W_law_743 : decode (mC m_W_law) 743 = .ok (.iconst 0, 1) := by decide +kernel
theorem d_W_law_744 : decode (mC m_W_law) 744 = .ok (.ireturn, 1) := by decide +kernel
theorem d_W_law_745 : decode (mC m_W_law) 745 = .ok (.iload 5, 2) := by decide +kernel
theorem d_W_law_747 : decode (mC m_W_law) 747 = .ok (.ifCond .ne (15), 3) := by decide +kernel
theorem d_W_law_750 : decode (mC m_W_law) 750 = .ok (.aload_n 3, 1) := by decide +kernel
theorem d_W_law_751 : decode (mC m_W_law) 751 = .ok (.iconst 0, 1) := by decide +kernel
theorem d_W_law_752 : decode (mC m_W_law) 752 = .ok (.laload, 1) := by decide +kernel
theorem d_W_law_753 : decode (mC m_W_law) 753 = .ok (.iload 6, 2) := by decide +kernel
theorem d_W_law_755 : decode (mC m_W_law) 755 = .ok (.i2l, 1) := by decide +kernel
theorem d_W_law_756 : decode (mC m_W_law) 756 = .ok (.lcmp, 1) := by decide +kernel
theorem d_W_law_757 : decode (mC m_W_law) 757 = .ok (.ifCond .eq (5), 3) := by decide +kernel
theorem d_W_law_760 : decode (mC m_W_law) 760 = .ok (.iconst 0, 1) := by decide +kernel
theorem d_W_law_761 : decode (mC m_W_law) 761 = .ok (.ireturn, 1) := by decide +kernel
theorem d_W_law_762 : decode (mC m_W_law) 762 = .ok (.goto (2558), 3) := by decide +kernel
theorem d_W_law_765 : decode (mC m_W_law) 765 = .ok (.aload_n 1, 1) := by decide +kernel
theorem d_W_law_766 : decode (mC m_W_law) 766 = .ok (.aload_n 0, 1) := by decide +kernel
theorem d_W_law_767 : decode (mC m_W_law) 767 = .ok (.iload 4, 2) := by decide +kernel
theorem d_W_law_769 : decode (mC m_W_law) 769 = .ok (.iconst 1, 1) := by decide +kernel
theorem d_W_law_770 : decode (mC m_W_law) 770 = .ok (.iadd, 1) := by decide +kernel
theorem d_W_law_771 : decode (mC m_W_law) 771 = .ok (.iaload, 1) := by decide +kernel
theorem d_W_law_772 : decode (mC m_W_law) 772 = .ok (.aload_n 0, 1) := by decide +kernel
theorem d_W_law_773 : decode (mC m_W_law) 773 = .ok (.iload 4, 2) := by decide +kernel
theorem d_W_law_775 : decode (mC m_W_law) 775 = .ok (.iconst 2, 1) := by decide +kernel
theorem d_W_law_776 : decode (mC m_W_law) 776 = .ok (.iadd, 1) := by decide +kernel
theorem d_W_law_777 : decode (mC m_W_law) 777 = .ok (.iaload, 1) := by decide +kernel
theorem d_W_law_778 : decode (mC m_W_law) 778 = .ok (.aload_n 0, 1) := by decide +kernel
theorem d_W_law_779 : decode (mC m_W_law) 779 = .ok (.iload 4, 2) := by decide +kernel
theorem d_W_law_781 : decode (mC m_W_law) 781 = .ok (.iconst 3, 1) := by decide +kernel
theorem d_W_law_782 : decode (mC m_W_law) 782 = .ok (.iadd, 1) := by decide +kernel
theorem d_W_law_783 : decode (mC m_W_law) 783 = .ok (.iaload, 1) := by decide +kernel
theorem d_W_law_784 : decode (mC m_W_law) 784 = .ok (.aload_n 3, 1) := by decide +kernel
theorem d_W_law_785 : decode (mC m_W_law) 785 = .ok (.invokestatic 202, 3) := by decide +kernel
theorem d_W_law_788 : decode (mC m_W_law) 788 = .ok (.istore 5, 2) := by decide +kernel
theorem d_W_law_790 : decode (mC m_W_law) 790 = .ok (.aload_n 2, 1) := by decide +kernel
theorem d_W_law_791 : decode (mC m_W_law) 791 = .ok (.aload_n 0, 1) := by decide +kernel
theorem d_W_law_792 : decode (mC m_W_law) 792 = .ok (.iload 4, 2) := by decide +kernel
theorem d_W_law_794 : decode (mC m_W_law) 794 = .ok (.iconst 1, 1) := by decide +kernel
theorem d_W_law_795 : decode (mC m_W_law) 795 = .ok (.iadd, 1) := by decide +kernel
theorem d_W_law_796 : decode (mC m_W_law) 796 = .ok (.iaload, 1) := by decide +kernel
theorem d_W_law_797 : decode (mC m_W_law) 797 = .ok (.aload_n 0, 1) := by decide +kernel
theorem d_W_law_798 : decode (mC m_W_law) 798 = .ok (.iload 4, 2) := by decide +kernel
theorem d_W_law_800 : decode (mC m_W_law) 800 = .ok (.iconst 2, 1) := by decide +kernel
theorem d_W_law_801 : decode (mC m_W_law) 801 = .ok (.iadd, 1) := by decide +kernel
theorem d_W_law_802 : decode (mC m_W_law) 802 = .ok (.iaload, 1) := by decide +kernel
theorem d_W_law_803 : decode (mC m_W_law) 803 = .ok (.aload_n 0, 1) := by decide +kernel
theorem d_W_law_804 : decode (mC m_W_law) 804 = .ok (.iload 4, 2) := by decide +kernel
theorem d_W_law_806 : decode (mC m_W_law) 806 = .ok (.iconst 3, 1) := by decide +kernel
theorem d_W_law_807 : decode (mC m_W_law) 807 = .ok (.iadd, 1) := by decide +kernel
theorem d_W_law_808 : decode (mC m_W_law) 808 = .ok (.iaload, 1) := by decide +kernel
theorem d_W_law_809 : decode (mC m_W_law) 809 = .ok (.invokevirtual 205, 3) := by decide +kernel
theorem d_W_law_812 : decode (mC m_W_law) 812 = .ok (.istore 6, 2) := by decide +kernel
theorem d_W_law_814 : decode (mC m_W_law) 814 = .ok (.aload_n 2, 1) := by decide +kernel
theorem d_W_law_815 : decode (mC m_W_law) 815 = .ok (.invokevirtual 173, 3) := by decide +kernel
theorem d_W_law_818 : decode (mC m_W_law) 818 = .ok (.iload 5, 2) := by decide +kernel
theorem d_W_law_820 : decode (mC m_W_law) 820 = .ok (.if_icmp .eq (5), 3) := by decide +kernel
theorem d_W_law_823 : decode (mC m_W_law) 823 = .ok (.iconst 0, 1) := by decide +kernel
theorem d_W_law_824 : decode (mC m_W_law) 824 = .ok (.ireturn, 1) := by decide +kernel
theorem d_W_law_825 : decode (mC m_W_law) 825 = .ok (.iload 5, 2) := by decide +kernel
theorem d_W_law_827 : decode (mC m_W_law) 827 = .ok (.ifCond .ne (15), 3) := by decide +kernel
theorem d_W_law_830 : decode (mC m_W_law) 830 = .ok (.aload_n 3, 1) := by decide +kernel
theorem d_W_law_831 : decode (mC m_W_law) 831 = .ok (.iconst 0, 1) := by decide +kernel
theorem d_W_law_832 : decode (mC m_W_law) 832 = .ok (.laload, 1) := by decide +kernel
theorem d_W_law_833 : decode (mC m_W_law) 833 = .ok (.iload 6, 2) := by decide +kernel
theorem d_W_law_835 : decode (mC m_W_law) 835 = .ok (.i2l, 1) := by decide +kernel
theorem d_W_law_836 : decode (mC m_W_law) 836 = .ok (.lcmp, 1) := by decide +kernel
theorem d_W_law_837 : decode (mC m_W_law) 837 = .ok (.ifCond .eq (5), 3) := by decide +kernel
theorem d_W_law_840 : decode (mC m_W_law) 840 = .ok (.iconst 0, 1) := by decide +kernel
theorem d_W_law_841 : decode (mC m_W_law) 841 = .ok (.ireturn, 1) := by decide +kernel
theorem d_W_law_842 : decode (mC m_W_law) 842 = .ok (.goto (2478), 3) := by decide +kernel
theorem d_W_law_845 : decode (mC m_W_law) 845 = .ok (.aload_n 1, 1) := by decide +kernel
theorem d_W_law_846 : decode (mC m_W_law) 846 = .ok (.aload_n 0, 1) := by decide +kernel
theorem d_W_law_847 : decode (mC m_W_law) 847 = .ok (.iload 4, 2) := by decide +kernel
theorem d_W_law_849 : decode (mC m_W_law) 849 = .ok (.iconst 1, 1) := by decide +kernel
theorem d_W_law_850 : decode (mC m_W_law) 850 = .ok (.iadd, 1) := by decide +kernel
theorem d_W_law_851 : decode (mC m_W_law) 851 = .ok (.iaload, 1) := by decide +kernel
theorem d_W_law_852 : decode (mC m_W_law) 852 = .ok (.aload_n 0, 1) := by decide +kernel
theorem d_W_law_853 : decode (mC m_W_law) 853 = .ok (.iload 4, 2) := by decide +kernel
theorem d_W_law_855 : decode (mC m_W_law) 855 = .ok (.iconst 2, 1) := by decide +kernel
theorem d_W_law_856 : decode (mC m_W_law) 856 = .ok (.iadd, 1) := by decide +kernel
theorem d_W_law_857 : decode (mC m_W_law) 857 = .ok (.iaload, 1) := by decide +kernel
theorem d_W_law_858 : decode (mC m_W_law) 858 = .ok (.ifCond .eq (7), 3) := by decide +kernel
theorem d_W_law_861 : decode (mC m_W_law) 861 = .ok (.iconst 1, 1) := by decide +kernel
theorem d_W_law_862 : decode (mC m_W_law) 862 = .ok (.goto (4), 3) := by decide +kernel
theorem d_W_law_865 : decode (mC m_W_law) 865 = .ok (.iconst 0, 1) := by decide +kernel
theorem d_W_law_866 : decode (mC m_W_law) 866 = .ok (.aload_n 0, 1) := by decide +kernel
theorem d_W_law_867 : decode (mC m_W_law) 867 = .ok (.iload 4, 2) := by decide +kernel
theorem d_W_law_869 : decode (mC m_W_law) 869 = .ok (.iconst 3, 1) := by decide +kernel
theorem d_W_law_870 : decode (mC m_W_law) 870 = .ok (.iadd, 1) := by decide +kernel
theorem d_W_law_871 : decode (mC m_W_law) 871 = .ok (.iaload, 1) := by decide +kernel
theorem d_W_law_872 : decode (mC m_W_law) 872 = .ok (.aload_n 3, 1) := by decide +kernel
theorem d_W_law_873 : decode (mC m_W_law) 873 = .ok (.invokestatic 206, 3) := by decide +kernel
theorem d_W_law_876 : decode (mC m_W_law) 876 = .ok (.istore 5, 2) := by decide +kernel
theorem d_W_law_878 : decode (mC m_W_law) 878 = .ok (.aload_n 2, 1) := by decide +kernel
theorem d_W_law_879 : decode (mC m_W_law) 879 = .ok (.aload_n 0, 1) := by decide +kernel
theorem d_W_law_880 : decode (mC m_W_law) 880 = .ok (.iload 4, 2) := by decide +kernel
theorem d_W_law_882 : decode (mC m_W_law) 882 = .ok (.iconst 1, 1) := by decide +kernel
theorem d_W_law_883 : decode (mC m_W_law) 883 = .ok (.iadd, 1) := by decide +kernel
theorem d_W_law_884 : decode (mC m_W_law) 884 = .ok (.iaload, 1) := by decide +kernel
theorem d_W_law_885 : decode (mC m_W_law) 885 = .ok (.aload_n 0, 1) := by decide +kernel
theorem d_W_law_886 : decode (mC m_W_law) 886 = .ok (.iload 4, 2) := by decide +kernel
theorem d_W_law_888 : decode (mC m_W_law) 888 = .ok (.iconst 2, 1) := by decide +kernel
theorem d_W_law_889 : decode (mC m_W_law) 889 = .ok (.iadd, 1) := by decide +kernel
theorem d_W_law_890 : decode (mC m_W_law) 890 = .ok (.iaload, 1) := by decide +kernel
theorem d_W_law_891 : decode (mC m_W_law) 891 = .ok (.ifCond .eq (7), 3) := by decide +kernel
theorem d_W_law_894 : decode (mC m_W_law) 894 = .ok (.iconst 1, 1) := by decide +kernel
theorem d_W_law_895 : decode (mC m_W_law) 895 = .ok (.goto (4), 3) := by decide +kernel
theorem d_W_law_898 : decode (mC m_W_law) 898 = .ok (.iconst 0, 1) := by decide +kernel
theorem d_W_law_899 : decode (mC m_W_law) 899 = .ok (.aload_n 0, 1) := by decide +kernel
theorem d_W_law_900 : decode (mC m_W_law) 900 = .ok (.iload 4, 2) := by decide +kernel
theorem d_W_law_902 : decode (mC m_W_law) 902 = .ok (.iconst 3, 1) := by decide +kernel
theorem d_W_law_903 : decode (mC m_W_law) 903 = .ok (.iadd, 1) := by decide +kernel
theorem d_W_law_904 : decode (mC m_W_law) 904 = .ok (.iaload, 1) := by decide +kernel
theorem d_W_law_905 : decode (mC m_W_law) 905 = .ok (.invokevirtual 209, 3) := by decide +kernel
theorem d_W_law_908 : decode (mC m_W_law) 908 = .ok (.istore 6, 2) := by decide +kernel
theorem d_W_law_910 : decode (mC m_W_law) 910 = .ok (.aload_n 2, 1) := by decide +kernel
theorem d_W_law_911 : decode (mC m_W_law) 911 = .ok (.invokevirtual 173, 3) := by decide +kernel
theorem d_W_law_914 : decode (mC m_W_law) 914 = .ok (.iload 5, 2) := by decide +kernel
theorem d_W_law_916 : decode (mC m_W_law) 916 = .ok (.if_icmp .eq (5), 3) := by decide +kernel
theorem d_W_law_919 : decode (mC m_W_law) 919 = .ok (.iconst 0, 1) := by decide +kernel
theorem d_W_law_920 : decode (mC m_W_law) 920 = .ok (.ireturn, 1) := by decide +kernel
theorem d_W_law_921 : decode (mC m_W_law) 921 = .ok (.iload 5, 2) := by decide +kernel
theorem d_W_law_923 : decode (mC m_W_law) 923 = .ok (.ifCond .ne (15), 3) := by decide +kernel
theorem d_W_law_926 : decode (mC m_W_law) 926 = .ok (.aload_n 3, 1) := by decide +kernel
theorem d_W_law_927 : decode (mC m_W_law) 927 = .ok (.iconst 0, 1) := by decide +kernel
theorem d_W_law_928 : decode (mC m_W_law) 928 = .ok (.laload, 1) := by decide +kernel
theorem d_W_law_929 : decode (mC m_W_law) 929 = .ok (.iload 6, 2) := by decide +kernel
theorem d_W_law_931 : decode (mC m_W_law) 931 = .ok (.i2l, 1) := by decide +kernel
theorem d_W_law_932 : decode (mC m_W_law) 932 = .ok (.lcmp, 1) := by decide +kernel
theorem d_W_law_933 : decode (mC m_W_law) 933 = .ok (.ifCond .eq (5), 3) := by decide +kernel
theorem d_W_law_936 : decode (mC m_W_law) 936 = .ok (.iconst 0, 1) := by decide +kernel
theorem d_W_law_937 : decode (mC m_W_law) 937 = .ok (.ireturn, 1) := by decide +kernel
theorem d_W_law_938 : decode (mC m_W_law) 938 = .ok (.goto (2382), 3) := by decide +kernel
theorem d_W_law_941 : decode (mC m_W_law) 941 = .ok (.aload_n 1, 1) := by decide +kernel
theorem d_W_law_942 : decode (mC m_W_law) 942 = .ok (.aload_n 0, 1) := by decide +kernel
theorem d_W_law_943 : decode (mC m_W_law) 943 = .ok (.iload 4, 2) := by decide +kernel
theorem d_W_law_945 : decode (mC m_W_law) 945 = .ok (.iconst 1, 1) := by decide +kernel
theorem d_W_law_946 : decode (mC m_W_law) 946 = .ok (.iadd, 1) := by decide +kernel
theorem d_W_law_947 : decode (mC m_W_law) 947 = .ok (.iaload, 1) := by decide +kernel
theorem d_W_law_948 : decode (mC m_W_law) 948 = .ok (.aload_n 3, 1) := by decide +kernel
theorem d_W_law_949 : decode (mC m_W_law) 949 = .ok (.invokestatic 210, 3) := by decide +kernel
theorem d_W_law_952 : decode (mC m_W_law) 952 = .ok (.istore 5, 2) := by decide +kernel
theorem d_W_law_954 : decode (mC m_W_law) 954 = .ok (.aload_n 2, 1) := by decide +kernel
theorem d_W_law_955 : decode (mC m_W_law) 955 = .ok (.aload_n 0, 1) := by decide +kernel
theorem d_W_law_956 : decode (mC m_W_law) 956 = .ok (.iload 4, 2) := by decide +kernel
theorem d_W_law_958 : decode (mC m_W_law) 958 = .ok (.iconst 1, 1) := by decide +kernel
theorem d_W_law_959 : decode (mC m_W_law) 959 = .ok (.iadd, 1) := by decide +kernel
theorem d_W_law_960 : decode (mC m_W_law) 960 = .ok (.iaload, 1) := by decide +kernel
theorem d_W_law_961 : decode (mC m_W_law) 961 = .ok (.invokevirtual 212, 3) := by decide +kernel
theorem d_W_law_964 : decode (mC m_W_law) 964 = .ok (.istore 6, 2) := by decide +kernel
theorem d_W_law_966 : decode (mC m_W_law) 966 = .ok (.aload_n 2, 1) := by decide +kernel
theorem d_W_law_967 : decode (mC m_W_law) 967 = .ok (.invokevirtual 173, 3) := by decide +kernel
theorem d_W_law_970 : decode (mC m_W_law) 970 = .ok (.iload 5, 2) := by decide +kernel
theorem d_W_law_972 : decode (mC m_W_law) 972 = .ok (.if_icmp .eq (5), 3) := by decide +kernel
theorem d_W_law_975 : decode (mC m_W_law) 975 = .ok (.iconst 0, 1) := by decide +kernel
theorem d_W_law_976 : decode (mC m_W_law) 976 = .ok (.ireturn, 1) := by decide +kernel
theorem d_W_law_977 : decode (mC m_W_law) 977 = .ok (.iload 5, 2) := by decide +kernel
theorem d_W_law_979 : decode (mC m_W_law) 979 = .ok (.ifCond .ne (15), 3) := by decide +kernel
theorem d_W_law_982 : decode (mC m_W_law) 982 = .ok (.aload_n 3, 1) := by decide +kernel
theorem d_W_law_983 : decode (mC m_W_law) 983 = .ok (.iconst 0, 1) := by decide +kernel
theorem d_W_law_984 : decode (mC m_W_law) 984 = .ok (.laload, 1) := by decide +kernel
theorem d_W_law_985 : decode (mC m_W_law) 985 = .ok (.iload 6, 2) := by decide +kernel
theorem d_W_law_987 : decode (mC m_W_law) 987 = .ok (.i2l, 1) := by decide +kernel
theorem d_W_law_988 : decode (mC m_W_law) 988 = .ok (.lcmp, 1) := by decide +kernel
theorem d_W_law_989 : decode (mC m_W_law) 989 = .ok (.ifCond .eq (5), 3) := by decide +kernel
theorem d_W_law_992 : decode (mC m_W_law) 992 = .ok (.iconst 0, 1) := by decide +kernel
theorem d_W_law_993 : decode (mC m_W_law) 993 = .ok (.ireturn, 1) := by decide +kernel
theorem d_W_law_994 : decode (mC m_W_law) 994 = .ok (.goto (2326), 3) := by decide +kernel
theorem d_W_law_997 : decode (mC m_W_law) 997 = .ok (.aload_n 1, 1) := by decide +kernel
theorem d_W_law_998 : decode (mC m_W_law) 998 = .ok (.aload_n 0, 1) := by decide +kernel
theorem d_W_law_999 : decode (mC m_W_law) 999 = .ok (.iload 4, 2) := by decide +kernel
theorem d_W_law_1001 : decode (mC m_W_law) 1001 = .ok (.iconst 1, 1) := by decide +kernel
theorem d_W_law_1002 : decode (mC m_W_law) 1002 = .ok (.iadd, 1) := by decide +kernel
theorem d_W_law_1003 : decode (mC m_W_law) 1003 = .ok (.iaload, 1) := by decide +kernel
theorem d_W_law_1004 : decode (mC m_W_law) 1004 = .ok (.aload_n 3, 1) := by decide +kernel
theorem d_W_law_1005 : decode (mC m_W_law) 1005 = .ok (.invokestatic 213, 3) := by decide +kernel
theorem d_W_law_1008 : decode (mC m_W_law) 1008 = .ok (.istore 5, 2) := by decide +kernel
theorem d_W_law_1010 : decode (mC m_W_law) 1010 = .ok (.aload_n 2, 1) := by decide +kernel
theorem d_W_law_1011 : decode (mC m_W_law) 1011 = .ok (.aload_n 0, 1) := by decide +kernel
theorem d_W_law_1012 : decode (mC m_W_law) 1012 = .ok (.iload 4, 2) := by decide +kernel
theorem d_W_law_1014 : decode (mC m_W_law) 1014 = .ok (.iconst 1, 1) := by decide +kernel
theorem d_W_law_1015 : decode (mC m_W_law) 1015 = .ok (.iadd, 1) := by decide +kernel
theorem d_W_law_1016 : decode (mC m_W_law) 1016 = .ok (.iaload, 1) := by decide +kernel
theorem d_W_law_1017 : decode (mC m_W_law) 1017 = .ok (.invokevirtual 215, 3) := by decide +kernel
theorem d_W_law_1020 : decode (mC m_W_law) 1020 = .ok (.istore 6, 2) := by decide +kernel
theorem d_W_law_1022 : decode (mC m_W_law) 1022 = .ok (.aload_n 2, 1) := by decide +kernel
theorem d_W_law_1023 : decode (mC m_W_law) 1023 = .ok (.invokevirtual 173, 3) := by decide +kernel
theorem d_W_law_1026 : decode (mC m_W_law) 1026 = .ok (.iload 5, 2) := by decide +kernel
theorem d_W_law_1028 : decode (mC m_W_law) 1028 = .ok (.if_icmp .eq (5), 3) := by decide +kernel
theorem d_W_law_1031 : decode (mC m_W_law) 1031 = .ok (.iconst 0, 1) := by decide +kernel
theorem d_W_law_1032 : decode (mC m_W_law) 1032 = .ok (.ireturn, 1) := by decide +kernel
theorem d_W_law_1033 : decode (mC m_W_law) 1033 = .ok (.iload 5, 2) := by decide +kernel
theorem d_W_law_1035 : decode (mC m_W_law) 1035 = .ok (.ifCond .ne (15), 3) := by decide +kernel
theorem d_W_law_1038 : decode (mC m_W_law) 1038 = .ok (.aload_n 3, 1) := by decide +kernel
theorem d_W_law_1039 : decode (mC m_W_law) 1039 = .ok (.iconst 0, 1) := by decide +kernel
theorem d_W_law_1040 : decode (mC m_W_law) 1040 = .ok (.laload, 1) := by decide +kernel
theorem d_W_law_1041 : decode (mC m_W_law) 1041 = .ok (.iload 6, 2) := by decide +kernel
theorem d_W_law_1043 : decode (mC m_W_law) 1043 = .ok (.i2l, 1) := by decide +kernel
theorem d_W_law_1044 : decode (mC m_W_law) 1044 = .ok (.lcmp, 1) := by decide +kernel
theorem d_W_law_1045 : decode (mC m_W_law) 1045 = .ok (.ifCond .eq (5), 3) := by decide +kernel
theorem d_W_law_1048 : decode (mC m_W_law) 1048 = .ok (.iconst 0, 1) := by decide +kernel
theorem d_W_law_1049 : decode (mC m_W_law) 1049 = .ok (.ireturn, 1) := by decide +kernel
theorem d_W_law_1050 : decode (mC m_W_law) 1050 = .ok (.goto (2270), 3) := by decide +kernel
theorem d_W_law_1053 : decode (mC m_W_law) 1053 = .ok (.aload_n 1, 1) := by decide +kernel
theorem d_W_law_1054 : decode (mC m_W_law) 1054 = .ok (.aload_n 0, 1) := by decide +kernel
theorem d_W_law_1055 : decode (mC m_W_law) 1055 = .ok (.iload 4, 2) := by decide +kernel
theorem d_W_law_1057 : decode (mC m_W_law) 1057 = .ok (.iconst 1, 1) := by decide +kernel
theorem d_W_law_1058 : decode (mC m_W_law) 1058 = .ok (.iadd, 1) := by decide +kernel
theorem d_W_law_1059 : decode (mC m_W_law) 1059 = .ok (.iaload, 1) := by decide +kernel
theorem d_W_law_1060 : decode (mC m_W_law) 1060 = .ok (.aload_n 3, 1) := by decide +kernel
theorem d_W_law_1061 : decode (mC m_W_law) 1061 = .ok (.invokestatic 216, 3) := by decide +kernel
theorem d_W_law_1064 : decode (mC m_W_law) 1064 = .ok (.istore 5, 2) := by decide +kernel
theorem d_W_law_1066 : decode (mC m_W_law) 1066 = .ok (.aload_n 2, 1) := by decide +kernel
theorem d_W_law_1067 : decode (mC m_W_law) 1067 = .ok (.aload_n 0, 1) := by decide +kernel
theorem d_W_law_1068 : decode (mC m_W_law) 1068 = .ok (.iload 4, 2) := by decide +kernel
theorem d_W_law_1070 : decode (mC m_W_law) 1070 = .ok (.iconst 1, 1) := by decide +kernel
theorem d_W_law_1071 : decode (mC m_W_law) 1071 = .ok (.iadd, 1) := by decide +kernel
theorem d_W_law_1072 : decode (mC m_W_law) 1072 = .ok (.iaload, 1) := by decide +kernel
theorem d_W_law_1073 : decode (mC m_W_law) 1073 = .ok (.invokevirtual 218, 3) := by decide +kernel
theorem d_W_law_1076 : decode (mC m_W_law) 1076 = .ok (.istore 6, 2) := by decide +kernel
theorem d_W_law_1078 : decode (mC m_W_law) 1078 = .ok (.aload_n 2, 1) := by decide +kernel
theorem d_W_law_1079 : decode (mC m_W_law) 1079 = .ok (.invokevirtual 173, 3) := by decide +kernel
theorem d_W_law_1082 : decode (mC m_W_law) 1082 = .ok (.iload 5, 2) := by decide +kernel
theorem d_W_law_1084 : decode (mC m_W_law) 1084 = .ok (.if_icmp .eq (5), 3) := by decide +kernel
theorem d_W_law_1087 : decode (mC m_W_law) 1087 = .ok (.iconst 0, 1) := by decide +kernel
theorem d_W_law_1088 : decode (mC m_W_law) 1088 = .ok (.ireturn, 1) := by decide +kernel
theorem d_W_law_1089 : decode (mC m_W_law) 1089 = .ok (.iload 5, 2) := by decide +kernel
theorem d_W_law_1091 : decode (mC m_W_law) 1091 = .ok (.ifCond .ne (15), 3) := by decide +kernel
theorem d_W_law_1094 : decode (mC m_W_law) 1094 = .ok (.aload_n 3, 1) := by decide +kernel
theorem d_W_law_1095 : decode (mC m_W_law) 1095 = .ok (.iconst 0, 1) := by decide +kernel
theorem d_W_law_1096 : decode (mC m_W_law) 1096 = .ok (.laload, 1) := by decide +kernel
theorem d_W_law_1097 : decode (mC m_W_law) 1097 = .ok (.iload 6, 2) := by decide +kernel
theorem d_W_law_1099 : decode (mC m_W_law) 1099 = .ok (.i2l, 1) := by decide +kernel
theorem d_W_law_1100 : decode (mC m_W_law) 1100 = .ok (.lcmp, 1) := by decide +kernel
theorem d_W_law_1101 : decode (mC m_W_law) 1101 = .ok (.ifCond .eq (5), 3) := by decide +kernel
theorem d_W_law_1104 : decode (mC m_W_law) 1104 = .ok (.iconst 0, 1) := by decide +kernel
theorem d_W_law_1105 : decode (mC m_W_law) 1105 = .ok (.ireturn, 1) := by decide +kernel
theorem d_W_law_1106 : decode (mC m_W_law) 1106 = .ok (.goto (2214), 3) := by decide +kernel
theorem d_W_law_1109 : decode (mC m_W_law) 1109 = .ok (.aload_n 1, 1) := by decide +kernel
theorem d_W_law_1110 : decode (mC m_W_law) 1110 = .ok (.aload_n 0, 1) := by decide +kernel
theorem d_W_law_1111 : decode (mC m_W_law) 1111 = .ok (.iload 4, 2) := by decide +kernel
theorem d_W_law_1113 : decode (mC m_W_law) 1113 = .ok (.iconst 1, 1) := by decide +kernel
theorem d_W_law_1114 : decode (mC m_W_law) 1114 = .ok (.iadd, 1) := by decide +kernel
theorem d_W_law_1115 : decode (mC m_W_law) 1115 = .ok (.iaload, 1) := by decide +kernel
theorem d_W_law_1116 : decode (mC m_W_law) 1116 = .ok (.aload_n 3, 1) := by decide +kernel
theorem d_W_law_1117 : decode (mC m_W_law) 1117 = .ok (.invokestatic 219, 3) := by decide +kernel
theorem d_W_law_1120 : decode (mC m_W_law) 1120 = .ok (.istore 5, 2) := by decide +kernel
theorem d_W_law_1122 : decode (mC m_W_law) 1122 = .ok (.aload_n 2, 1) := by decide +kernel
theorem d_W_law_1123 : decode (mC m_W_law) 1123 = .ok (.aload_n 0, 1) := by decide +kernel
theorem d_W_law_1124 : decode (mC m_W_law) 1124 = .ok (.iload 4, 2) := by decide +kernel
theorem d_W_law_1126 : decode (mC m_W_law) 1126 = .ok (.iconst 1, 1) := by decide +kernel
theorem d_W_law_1127 : decode (mC m_W_law) 1127 = .ok (.iadd, 1) := by decide +kernel
theorem d_W_law_1128 : decode (mC m_W_law) 1128 = .ok (.iaload, 1) := by decide +kernel
theorem d_W_law_1129 : decode (mC m_W_law) 1129 = .ok (.invokevirtual 221, 3) := by decide +kernel
theorem d_W_law_1132 : decode (mC m_W_law) 1132 = .ok (.istore 6, 2) := by decide +kernel
theorem d_W_law_1134 : decode (mC m_W_law) 1134 = .ok (.aload_n 2, 1) := by decide +kernel
theorem d_W_law_1135 : decode (mC m_W_law) 1135 = .ok (.invokevirtual 173, 3) := by decide +kernel
theorem d_W_law_1138 : decode (mC m_W_law) 1138 = .ok (.iload 5, 2) := by decide +kernel
theorem d_W_law_1140 : decode (mC m_W_law) 1140 = .ok (.if_icmp .eq (5), 3) := by decide +kernel
theorem d_W_law_1143 : decode (mC m_W_law) 1143 = .ok (.iconst 0, 1) := by decide +kernel
theorem d_W_law_1144 : decode (mC m_W_law) 1144 = .ok (.ireturn, 1) := by decide +kernel
theorem d_W_law_1145 : decode (mC m_W_law) 1145 = .ok (.iload 5, 2) := by decide +kernel
theorem d_W_law_1147 : decode (mC m_W_law) 1147 = .ok (.ifCond .ne (15), 3) := by decide +kernel
theorem d_W_law_1150 : decode (mC m_W_law) 1150 = .ok (.aload_n 3, 1) := by decide +kernel
theorem d_W_law_1151 : decode (mC m_W_law) 1151 = .ok (.iconst 0, 1) := by decide +kernel
theorem d_W_law_1152 : decode (mC m_W_law) 1152 = .ok (.laload, 1) := by decide +kernel
theorem d_W_law_1153 : decode (mC m_W_law) 1153 = .ok (.iload 6, 2) := by decide +kernel
theorem d_W_law_1155 : decode (mC m_W_law) 1155 = .ok (.i2l, 1) := by decide +kernel
theorem d_W_law_1156 : decode (mC m_W_law) 1156 = .ok (.lcmp, 1) := by decide +kernel
theorem d_W_law_1157 : decode (mC m_W_law) 1157 = .ok (.ifCond .eq (5), 3) := by decide +kernel
theorem d_W_law_1160 : decode (mC m_W_law) 1160 = .ok (.iconst 0, 1) := by decide +kernel
theorem d_W_law_1161 : decode (mC m_W_law) 1161 = .ok (.ireturn, 1) := by decide +kernel
theorem d_W_law_1162 : decode (mC m_W_law) 1162 = .ok (.goto (2158), 3) := by decide +kernel
theorem d_W_law_1165 : decode (mC m_W_law) 1165 = .ok (.aload_n 1, 1) := by decide +kernel
theorem d_W_law_1166 : decode (mC m_W_law) 1166 = .ok (.aload_n 0, 1) := by decide +kernel
theorem d_W_law_1167 : decode (mC m_W_law) 1167 = .ok (.iload 4, 2) := by decide +kernel
theorem d_W_law_1169 : decode (mC m_W_law) 1169 = .ok (.iconst 1, 1) := by decide +kernel
theorem d_W_law_1170 : decode (mC m_W_law) 1170 = .ok (.iadd, 1) := by decide +kernel
theorem d_W_law_1171 : decode (mC m_W_law) 1171 = .ok (.iaload, 1) := by decide +kernel
theorem d_W_law_1172 : decode (mC m_W_law) 1172 = .ok (.aload_n 3, 1) := by decide +kernel
theorem d_W_law_1173 : decode (mC m_W_law) 1173 = .ok (.invokestatic 222, 3) := by decide +kernel
theorem d_W_law_1176 : decode (mC m_W_law) 1176 = .ok (.istore 5, 2) := by decide +kernel
theorem d_W_law_1178 : decode (mC m_W_law) 1178 = .ok (.aload_n 2, 1) := by decide +kernel
theorem d_W_law_1179 : decode (mC m_W_law) 1179 = .ok (.aload_n 0, 1) := by decide +kernel
theorem d_W_law_1180 : decode (mC m_W_law) 1180 = .ok (.iload 4, 2) := by decide +kernel
theorem d_W_law_1182 : decode (mC m_W_law) 1182 = .ok (.iconst 1, 1) := by decide +kernel
theorem d_W_law_1183 : decode (mC m_W_law) 1183 = .ok (.iadd, 1) := by decide +kernel
theorem d_W_law_1184 : decode (mC m_W_law) 1184 = .ok (.iaload, 1) := by decide +kernel
theorem d_W_law_1185 : decode (mC m_W_law) 1185 = .ok (.invokevirtual 224, 3) := by decide +kernel
theorem d_W_law_1188 : decode (mC m_W_law) 1188 = .ok (.istore 6, 2) := by decide +kernel
theorem d_W_law_1190 : decode (mC m_W_law) 1190 = .ok (.aload_n 2, 1) := by decide +kernel
theorem d_W_law_1191 : decode (mC m_W_law) 1191 = .ok (.invokevirtual 173, 3) := by decide +kernel
theorem d_W_law_1194 : decode (mC m_W_law) 1194 = .ok (.iload 5, 2) := by decide +kernel
theorem d_W_law_1196 : decode (mC m_W_law) 1196 = .ok (.if_icmp .eq (5), 3) := by decide +kernel
theorem d_W_law_1199 : decode (mC m_W_law) 1199 = .ok (.iconst 0, 1) := by decide +kernel
theorem d_W_law_1200 : decode (mC m_W_law) 1200 = .ok (.ireturn, 1) := by decide +kernel
theorem d_W_law_1201 : decode (mC m_W_law) 1201 = .ok (.iload 5, 2) := by decide +kernel
theorem d_W_law_1203 : decode (mC m_W_law) 1203 = .ok (.ifCond .ne (15), 3) := by decide +kernel
theorem d_W_law_1206 : decode (mC m_W_law) 1206 = .ok (.aload_n 3, 1) := by decide +kernel
theorem d_W_law_1207 : decode (mC m_W_law) 1207 = .ok (.iconst 0, 1) := by decide +kernel
theorem d_W_law_1208 : decode (mC m_W_law) 1208 = .ok (.laload, 1) := by decide +kernel
theorem d_W_law_1209 : decode (mC m_W_law) 1209 = .ok (.iload 6, 2) := by decide +kernel
theorem d_W_law_1211 : decode (mC m_W_law) 1211 = .ok (.i2l, 1) := by decide +kernel
theorem d_W_law_1212 : decode (mC m_W_law) 1212 = .ok (.lcmp, 1) := by decide +kernel
theorem d_W_law_1213 : decode (mC m_W_law) 1213 = .ok (.ifCond .eq (5), 3) := by decide +kernel
theorem d_W_law_1216 : decode (mC m_W_law) 1216 = .ok (.iconst 0, 1) := by decide +kernel
theorem d_W_law_1217 : decode (mC m_W_law) 1217 = .ok (.ireturn, 1) := by decide +kernel
theorem d_W_law_1218 : decode (mC m_W_law) 1218 = .ok (.goto (2102), 3) := by decide +kernel
theorem d_W_law_1221 : decode (mC m_W_law) 1221 = .ok (.aload_n 1, 1) := by decide +kernel
theorem d_W_law_1222 : decode (mC m_W_law) 1222 = .ok (.invokevirtual 225, 3) := by decide +kernel
theorem d_W_law_1225 : decode (mC m_W_law) 1225 = .ok (.aload_n 2, 1) := by decide +kernel
theorem d_W_law_1226 : decode (mC m_W_law) 1226 = .ok (.invokevirtual 228, 3) := by decide +kernel
theorem d_W_law_1229 : decode (mC m_W_law) 1229 = .ok (.if_icmp .eq (2091), 3) := by decide +kernel
theorem d_W_law_1232 : decode (mC m_W_law) 1232 = .ok (.iconst 0, 1) := by decide +kernel
theorem d_W_law_1233 : decode (mC m_W_law) 1233 = .ok (.ireturn, 1) := by decide +kernel
theorem d_W_law_1234 : decode (mC m_W_law) 1234 = .ok (.aload_n 1, 1) := by decide +kernel
theorem d_W_law_1235 : decode (mC m_W_law) 1235 = .ok (.aload_n 0, 1) := by decide +kernel
theorem d_W_law_1236 : decode (mC m_W_law) 1236 = .ok (.iload 4, 2) := by decide +kernel
theorem d_W_law_1238 : decode (mC m_W_law) 1238 = .ok (.iconst 1, 1) := by decide +kernel
theorem d_W_law_1239 : decode (mC m_W_law) 1239 = .ok (.iadd, 1) := by decide +kernel
theorem d_W_law_1240 : decode (mC m_W_law) 1240 = .ok (.iaload, 1) := by decide +kernel
theorem d_W_law_1241 : decode (mC m_W_law) 1241 = .ok (.aload_n 3, 1) := by decide +kernel
theorem d_W_law_1242 : decode (mC m_W_law) 1242 = .ok (.invokestatic 229, 3) := by decide +kernel
theorem d_W_law_1245 : decode (mC m_W_law) 1245 = .ok (.istore 5, 2) := by decide +kernel
theorem d_W_law_1247 : decode (mC m_W_law) 1247 = .ok (.aload_n 2, 1) := by decide +kernel
theorem d_W_law_1248 : decode (mC m_W_law) 1248 = .ok (.aload_n 0, 1) := by decide +kernel
theorem d_W_law_1249 : decode (mC m_W_law) 1249 = .ok (.iload 4, 2) := by decide +kernel
theorem d_W_law_1251 : decode (mC m_W_law) 1251 = .ok (.iconst 1, 1) := by decide +kernel
theorem d_W_law_1252 : decode (mC m_W_law) 1252 = .ok (.iadd, 1) := by decide +kernel
theorem d_W_law_1253 : decode (mC m_W_law) 1253 = .ok (.iaload, 1) := by decide +kernel
theorem d_W_law_1254 : decode (mC m_W_law) 1254 = .ok (.invokevirtual 231, 3) := by decide +kernel
theorem d_W_law_1257 : decode (mC m_W_law) 1257 = .ok (.istore 6, 2) := by decide +kernel
theorem d_W_law_1259 : decode (mC m_W_law) 1259 = .ok (.aload_n 2, 1) := by decide +kernel
theorem d_W_law_1260 : decode (mC m_W_law) 1260 = .ok (.invokevirtual 173, 3) := by decide +kernel
theorem d_W_law_1263 : decode (mC m_W_law) 1263 = .ok (.iload 5, 2) := by decide +kernel
theorem d_W_law_1265 : decode (mC m_W_law) 1265 = .ok (.if_icmp .eq (5), 3) := by decide +kernel
theorem d_W_law_1268 : decode (mC m_W_law) 1268 = .ok (.iconst 0, 1) := by decide +kernel
theorem d_W_law_1269 : decode (mC m_W_law) 1269 = .ok (.ireturn, 1) := by decide +kernel
theorem d_W_law_1270 : decode (mC m_W_law) 1270 = .ok (.iload 5, 2) := by decide +kernel
theorem d_W_law_1272 : decode (mC m_W_law) 1272 = .ok (.ifCond .ne (22), 3) := by decide +kernel
theorem d_W_law_1275 : decode (mC m_W_law) 1275 = .ok (.aload_n 3, 1) := by decide +kernel
theorem d_W_law_1276 : decode (mC m_W_law) 1276 = .ok (.iconst 0, 1) := by decide +kernel
theorem d_W_law_1277 : decode (mC m_W_law) 1277 = .ok (.laload, 1) := by decide +kernel
theorem d_W_law_1278 : decode (mC m_W_law) 1278 = .ok (.iload 6, 2) := by decide +kernel
theorem d_W_law_1280 : decode (mC m_W_law) 1280 = .ok (.ifCond .eq (7), 3) := by decide +kernel
theorem d_W_law_1283 : decode (mC m_W_law) 1283 = .ok (.lconst 1, 1) := by decide +kernel
theorem d_W_law_1284 : decode (mC m_W_law) 1284 = .ok (.goto (4), 3) := by decide +kernel
theorem d_W_law_1287 : decode (mC m_W_law) 1287 = .ok (.lconst 0, 1) := by decide +kernel
theorem d_W_law_1288 : decode (mC m_W_law) 1288 = .ok (.lcmp, 1) := by decide +kernel
theorem d_W_law_1289 : decode (mC m_W_law) 1289 = .ok (.ifCond .eq (5), 3) := by decide +kernel
theorem d_W_law_1292 : decode (mC m_W_law) 1292 = .ok (.iconst 0, 1) := by decide +kernel
theorem d_W_law_1293 : decode (mC m_W_law) 1293 = .ok (.ireturn, 1) := by decide +kernel
theorem d_W_law_1294 : decode (mC m_W_law) 1294 = .ok (.goto (2026), 3) := by decide +kernel
theorem d_W_law_1297 : decode (mC m_W_law) 1297 = .ok (.aload_n 1, 1) := by decide +kernel
theorem d_W_law_1298 : decode (mC m_W_law) 1298 = .ok (.aload_n 0, 1) := by decide +kernel
theorem d_W_law_1299 : decode (mC m_W_law) 1299 = .ok (.iload 4, 2) := by decide +kernel
theorem d_W_law_1301 : decode (mC m_W_law) 1301 = .ok (.iconst 1, 1) := by decide +kernel
theorem d_W_law_1302 : decode (mC m_W_law) 1302 = .ok (.iadd, 1) := by decide +kernel
theorem d_W_law_1303 : decode (mC m_W_law) 1303 = .ok (.iaload, 1) := by decide +kernel
theorem d_W_law_1304 : decode (mC m_W_law) 1304 = .ok (.aload_n 3, 1) := by decide +kernel
theorem d_W_law_1305 : decode (mC m_W_law) 1305 = .ok (.invokestatic 232, 3) := by decide +kernel
theorem d_W_law_1308 : decode (mC m_W_law) 1308 = .ok (.istore 5, 2) := by decide +kernel
theorem d_W_law_1310 : decode (mC m_W_law) 1310 = .ok (.aload_n 2, 1) := by decide +kernel
theorem d_W_law_1311 : decode (mC m_W_law) 1311 = .ok (.aload_n 0, 1) := by decide +kernel
theorem d_W_law_1312 : decode (mC m_W_law) 1312 = .ok (.iload 4, 2) := by decide +kernel
theorem d_W_law_1314 : decode (mC m_W_law) 1314 = .ok (.iconst 1, 1) := by decide +kernel
theorem d_W_law_1315 : decode (mC m_W_law) 1315 = .ok (.iadd, 1) := by decide +kernel
theorem d_W_law_1316 : decode (mC m_W_law) 1316 = .ok (.iaload, 1) := by decide +kernel
theorem d_W_law_1317 : decode (mC m_W_law) 1317 = .ok (.invokevirtual 234, 3) := by decide +kernel
theorem d_W_law_1320 : decode (mC m_W_law) 1320 = .ok (.istore 6, 2) := by decide +kernel
theorem d_W_law_1322 : decode (mC m_W_law) 1322 = .ok (.aload_n 2, 1) := by decide +kernel
theorem d_W_law_1323 : decode (mC m_W_law) 1323 = .ok (.invokevirtual 173, 3) := by decide +kernel
theorem d_W_law_1326 : decode (mC m_W_law) 1326 = .ok (.iload 5, 2) := by decide +kernel
theorem d_W_law_1328 : decode (mC m_W_law) 1328 = .ok (.if_icmp .eq (5), 3) := by decide +kernel
theorem d_W_law_1331 : decode (mC m_W_law) 1331 = .ok (.iconst 0, 1) := by decide +kernel
theorem d_W_law_1332 : decode (mC m_W_law) 1332 = .ok (.ireturn, 1) := by decide +kernel
theorem d_W_law_1333 : decode (mC m_W_law) 1333 = .ok (.iload 5, 2) := by decide +kernel
theorem d_W_law_1335 : decode (mC m_W_law) 1335 = .ok (.ifCond .ne (22), 3) := by decide +kernel
theorem d_W_law_1338 : decode (mC m_W_law) 1338 = .ok (.aload_n 3, 1) := by decide +kernel
theorem d_W_law_1339 : decode (mC m_W_law) 1339 = .ok (.iconst 0, 1) := by decide +kernel
theorem d_W_law_1340 : decode (mC m_W_law) 1340 = .ok (.laload, 1) := by decide +kernel
theorem d_W_law_1341 : decode (mC m_W_law) 1341 = .ok (.iload 6, 2) := by decide +kernel
theorem d_W_law_1343 : decode (mC m_W_law) 1343 = .ok (.ifCond .eq (7), 3) := by decide +kernel
theorem d_W_law_1346 : decode (mC m_W_law) 1346 = .ok (.lconst 1, 1) := by decide +kernel
theorem d_W_law_1347 : decode (mC m_W_law) 1347 = .ok (.goto (4), 3) := by decide +kernel
theorem d_W_law_1350 : decode (mC m_W_law) 1350 = .ok (.lconst 0, 1) := by decide +kernel
theorem d_W_law_1351 : decode (mC m_W_law) 1351 = .ok (.lcmp, 1) := by decide +kernel
theorem d_W_law_1352 : decode (mC m_W_law) 1352 = .ok (.ifCond .eq (5), 3) := by decide +kernel
theorem d_W_law_1355 : decode (mC m_W_law) 1355 = .ok (.iconst 0, 1) := by decide +kernel
theorem d_W_law_1356 : decode (mC m_W_law) 1356 = .ok (.ireturn, 1) := by decide +kernel
theorem d_W_law_1357 : decode (mC m_W_law) 1357 = .ok (.goto (1963), 3) := by decide +kernel
theorem d_W_law_1360 : decode (mC m_W_law) 1360 = .ok (.aload_n 1, 1) := by decide +kernel
theorem d_W_law_1361 : decode (mC m_W_law) 1361 = .ok (.aload_n 0, 1) := by decide +kernel
theorem d_W_law_1362 : decode (mC m_W_law) 1362 = .ok (.iload 4, 2) := by decide +kernel
theorem d_W_law_1364 : decode (mC m_W_law) 1364 = .ok (.iconst 1, 1) := by decide +kernel
theorem d_W_law_1365 : decode (mC m_W_law) 1365 = .ok (.iadd, 1) := by decide +kernel
theorem d_W_law_1366 : decode (mC m_W_law) 1366 = .ok (.iaload, 1) := by decide +kernel
theorem d_W_law_1367 : decode (mC m_W_law) 1367 = .ok (.aload_n 3, 1) := by decide +kernel
theorem d_W_law_1368 : decode (mC m_W_law) 1368 = .ok (.invokestatic 235, 3) := by decide +kernel
theorem d_W_law_1371 : decode (mC m_W_law) 1371 = .ok (.istore 5, 2) := by decide +kernel
theorem d_W_law_1373 : decode (mC m_W_law) 1373 = .ok (.aload_n 2, 1) := by decide +kernel
theorem d_W_law_1374 : decode (mC m_W_law) 1374 = .ok (.aload_n 0, 1) := by decide +kernel
theorem d_W_law_1375 : decode (mC m_W_law) 1375 = .ok (.iload 4, 2) := by decide +kernel
theorem d_W_law_1377 : decode (mC m_W_law) 1377 = .ok (.iconst 1, 1) := by decide +kernel
theorem d_W_law_1378 : decode (mC m_W_law) 1378 = .ok (.iadd, 1) := by decide +kernel
theorem d_W_law_1379 : decode (mC m_W_law) 1379 = .ok (.iaload, 1) := by decide +kernel
theorem d_W_law_1380 : decode (mC m_W_law) 1380 = .ok (.invokevirtual 237, 3) := by decide +kernel
theorem d_W_law_1383 : decode (mC m_W_law) 1383 = .ok (.istore 6, 2) := by decide +kernel
theorem d_W_law_1385 : decode (mC m_W_law) 1385 = .ok (.aload_n 2, 1) := by decide +kernel
theorem d_W_law_1386 : decode (mC m_W_law) 1386 = .ok (.invokevirtual 173, 3) := by decide +kernel
theorem d_W_law_1389 : decode (mC m_W_law) 1389 = .ok (.iload 5, 2) := by decide +kernel
theorem d_W_law_1391 : decode (mC m_W_law) 1391 = .ok (.if_icmp .eq (5), 3) := by decide +kernel
theorem d_W_law_1394 : decode (mC m_W_law) 1394 = .ok (.iconst 0, 1) := by decide +kernel
theorem d_W_law_1395 : decode (mC m_W_law) 1395 = .ok (.ireturn, 1) := by decide +kernel
theorem d_W_law_1396 : decode (mC m_W_law) 1396 = .ok (.iload 5, 2) := by decide +kernel
theorem d_W_law_1398 : decode (mC m_W_law) 1398 = .ok (.ifCond .ne (15), 3) := by decide +kernel
theorem d_W_law_1401 : decode (mC m_W_law) 1401 = .ok (.aload_n 3, 1) := by decide +kernel
theorem d_W_law_1402 : decode (mC m_W_law) 1402 = .ok (.iconst 0, 1) := by decide +kernel
theorem d_W_law_1403 : decode (mC m_W_law) 1403 = .ok (.laload, 1) := by decide +kernel
theorem d_W_law_1404 : decode (mC m_W_law) 1404 = .ok (.iload 6, 2) := by decide +kernel
theorem d_W_law_1406 : decode (mC m_W_law) 1406 = .ok (.i2l, 1) := by decide +kernel
theorem d_W_law_1407 : decode (mC m_W_law) 1407 = .ok (.lcmp, 1) := by decide +kernel
theorem d_W_law_1408 : decode (mC m_W_law) 1408 = .ok (.ifCond .eq (5), 3) := by decide +kernel
theorem d_W_law_1411 : decode (mC m_W_law) 1411 = .ok (.iconst 0, 1) := by decide +kernel
theorem d_W_law_1412 : decode (mC m_W_law) 1412 = .ok (.ireturn, 1) := by decide +kernel
theorem d_W_law_1413 : decode (mC m_W_law) 1413 = .ok (.goto (1907), 3) := by decide +kernel
theorem d_W_law_1416 : decode (mC m_W_law) 1416 = .ok (.aload_n 1, 1) := by decide +kernel
theorem d_W_law_1417 : decode (mC m_W_law) 1417 = .ok (.aload_n 0, 1) := by decide +kernel
theorem d_W_law_1418 : decode (mC m_W_law) 1418 = .ok (.iload 4, 2) := by decide +kernel
theorem d_W_law_1420 : decode (mC m_W_law) 1420 = .ok (.iconst 1, 1) := by decide +kernel
theorem d_W_law_1421 : decode (mC m_W_law) 1421 = .ok (.iadd, 1) := by decide +kernel
theorem d_W_law_1422 : decode (mC m_W_law) 1422 = .ok (.iaload, 1) := by decide +kernel
theorem d_W_law_1423 : decode (mC m_W_law) 1423 = .ok (.aload_n 0, 1) := by decide +kernel
theorem d_W_law_1424 : decode (mC m_W_law) 1424 = .ok (.iload 4, 2) := by decide +kernel
theorem d_W_law_1426 : decode (mC m_W_law) 1426 = .ok (.iconst 2, 1) := by decide +kernel
theorem d_W_law_1427 : decode (mC m_W_law) 1427 = .ok (.iadd, 1) := by decide +kernel
theorem d_W_law_1428 : decode (mC m_W_law) 1428 = .ok (.iaload, 1) := by decide +kernel
theorem d_W_law_1429 : decode (mC m_W_law) 1429 = .ok (.aload_n 0, 1) := by decide +kernel
theorem d_W_law_1430 : decode (mC m_W_law) 1430 = .ok (.iload 4, 2) := by decide +kernel
theorem d_W_law_1432 : decode (mC m_W_law) 1432 = .ok (.iconst 3, 1) := by decide +kernel
theorem d_W_law_1433 : decode (mC m_W_law) 1433 = .ok (.iadd, 1) := by decide +kernel
theorem d_W_law_1434 : decode (mC m_W_law) 1434 = .ok (.iaload, 1) := by decide +kernel
theorem d_W_law_1435 : decode (mC m_W_law) 1435 = .ok (.ifCond .eq (7), 3) := by decide +kernel
theorem d_W_law_1438 : decode (mC m_W_law) 1438 = .ok (.iconst 1, 1) := by decide +kernel
theorem d_W_law_1439 : decode (mC m_W_law) 1439 = .ok (.goto (4), 3) := by decide +kernel
theorem d_W_law_1442 : decode (mC m_W_law) 1442 = .ok (.iconst 0, 1) := by decide +kernel
theorem d_W_law_1443 : decode (mC m_W_law) 1443 = .ok (.aload_n 0, 1) := by decide +kernel
theorem d_W_law_1444 : decode (mC m_W_law) 1444 = .ok (.iload 4, 2) := by decide +kernel
theorem d_W_law_1446 : decode (mC m_W_law) 1446 = .ok (.iconst 4, 1) := by decide +kernel
theorem d_W_law_1447 : decode (mC m_W_law) 1447 = .ok (.iadd, 1) := by decide +kernel
theorem d_W_law_1448 : decode (mC m_W_law) 1448 = .ok (.iaload, 1) := by decide +kernel
theorem d_W_law_1449 : decode (mC m_W_law) 1449 = .ok (.aload_n 3, 1) := by decide +kernel
theorem d_W_law_1450 : decode (mC m_W_law) 1450 = .ok (.invokestatic 238, 3) := by decide +kernel
theorem d_W_law_1453 : decode (mC m_W_law) 1453 = .ok (.istore 5, 2) := by decide +kernel
theorem d_W_law_1455 : decode (mC m_W_law) 1455 = .ok (.aload_n 2, 1) := by decide +kernel
theorem d_W_law_1456 : decode (mC m_W_law) 1456 = .ok (.aload_n 0, 1) := by decide +kernel
theorem d_W_law_1457 : decode (mC m_W_law) 1457 = .ok (.iload 4, 2) := by decide +kernel
theorem d_W_law_1459 : decode (mC m_W_law) 1459 = .ok (.iconst 1, 1) := by decide +kernel
theorem d_W_law_1460 : decode (mC m_W_law) 1460 = .ok (.iadd, 1) := by decide +kernel
theorem d_W_law_1461 : decode (mC m_W_law) 1461 = .ok (.iaload, 1) := by decide +kernel
theorem d_W_law_1462 : decode (mC m_W_law) 1462 = .ok (.aload_n 0, 1) := by decide +kernel
theorem d_W_law_1463 : decode (mC m_W_law) 1463 = .ok (.iload 4, 2) := by decide +kernel
theorem d_W_law_1465 : decode (mC m_W_law) 1465 = .ok (.iconst 2, 1) := by decide +kernel
theorem d_W_law_1466 : decode (mC m_W_law) 1466 = .ok (.iadd, 1) := by decide +kernel
theorem d_W_law_1467 : decode (mC m_W_law) 1467 = .ok (.iaload, 1) := by decide +kernel
theorem d_W_law_1468 : decode (mC m_W_law) 1468 = .ok (.aload_n 0, 1) := by decide +kernel
theorem d_W_law_1469 : decode (mC m_W_law) 1469 = .ok (.iload 4, 2) := by decide +kernel
theorem d_W_law_1471 : decode (mC m_W_law) 1471 = .ok (.iconst 3, 1) := by decide +kernel
theorem d_W_law_1472 : decode (mC m_W_law) 1472 = .ok (.iadd, 1) := by decide +kernel
theorem d_W_law_1473 : decode (mC m_W_law) 1473 = .ok (.iaload, 1) := by decide +kernel
theorem d_W_law_1474 : decode (mC m_W_law) 1474 = .ok (.ifCond .eq (7), 3) := by decide +kernel
theorem d_W_law_1477 : decode (mC m_W_law) 1477 = .ok (.iconst 1, 1) := by decide +kernel
theorem d_W_law_1478 : decode (mC m_W_law) 1478 = .ok (.goto (4), 3) := by decide +kernel
theorem d_W_law_1481 : decode (mC m_W_law) 1481 = .ok (.iconst 0, 1) := by decide +kernel
theorem d_W_law_1482 : decode (mC m_W_law) 1482 = .ok (.aload_n 0, 1) := by decide +kernel
theorem d_W_law_1483 : decode (mC m_W_law) 1483 = .ok (.iload 4, 2) := by decide +kernel
theorem d_W_law_1485 : decode (mC m_W_law) 1485 = .ok (.iconst 4, 1) := by decide +kernel
theorem d_W_law_1486 : decode (mC m_W_law) 1486 = .ok (.iadd, 1) := by decide +kernel
theorem d_W_law_1487 : decode (mC m_W_law) 1487 = .ok (.iaload, 1) := by decide +kernel
theorem d_W_law_1488 : decode (mC m_W_law) 1488 = .ok (.invokevirtual 241, 3) := by decide +kernel
theorem d_W_law_1491 : decode (mC m_W_law) 1491 = .ok (.istore 6, 2) := by decide +kernel
theorem d_W_law_1493 : decode (mC m_W_law) 1493 = .ok (.aload_n 2, 1) := by decide +kernel
theorem d_W_law_1494 : decode (mC m_W_law) 1494 = .ok (.invokevirtual 173, 3) := by decide +kernel
theorem d_W_law_1497 : decode (mC m_W_law) 1497 = .ok (.iload 5, 2) := by decide +kernel
theorem d_W_law_1499 : decode (mC m_W_law) 1499 = .ok (.if_icmp .eq (5), 3) := by decide +kernel
theorem d_W_law_1502 : decode (mC m_W_law) 1502 = .ok (.iconst 0, 1) := by decide +kernel
theorem d_W_law_1503 : decode (mC m_W_law) 1503 = .ok (.ireturn, 1) := by decide +kernel
theorem d_W_law_1504 : decode (mC m_W_law) 1504 = .ok (.iload 5, 2) := by decide +kernel
theorem d_W_law_1506 : decode (mC m_W_law) 1506 = .ok (.ifCond .ne (15), 3) := by decide +kernel
theorem d_W_law_1509 : decode (mC m_W_law) 1509 = .ok (.aload_n 3, 1) := by decide +kernel
theorem d_W_law_1510 : decode (mC m_W_law) 1510 = .ok (.iconst 0, 1) := by decide +kernel
theorem d_W_law_1511 : decode (mC m_W_law) 1511 = .ok (.laload, 1) := by decide +kernel
theorem d_W_law_1512 : decode (mC m_W_law) 1512 = .ok (.iload 6, 2) := by decide +kernel
theorem d_W_law_1514 : decode (mC m_W_law) 1514 = .ok (.i2l, 1) := by decide +kernel
theorem d_W_law_1515 : decode (mC m_W_law) 1515 = .ok (.lcmp, 1) := by decide +kernel
theorem d_W_law_1516 : decode (mC m_W_law) 1516 = .ok (.ifCond .eq (5), 3) := by decide +kernel
theorem d_W_law_1519 : decode (mC m_W_law) 1519 = .ok (.iconst 0, 1) := by decide +kernel
theorem d_W_law_1520 : decode (mC m_W_law) 1520 = .ok (.ireturn, 1) := by decide +kernel
theorem d_W_law_1521 : decode (mC m_W_law) 1521 = .ok (.goto (1799), 3) := by decide +kernel
theorem d_W_law_1524 : decode (mC m_W_law) 1524 = .ok (.aload_n 1, 1) := by decide +kernel
theorem d_W_law_1525 : decode (mC m_W_law) 1525 = .ok (.aload_n 0, 1) := by decide +kernel
theorem d_W_law_1526 : decode (mC m_W_law) 1526 = .ok (.iload 4, 2) := by decide +kernel
theorem d_W_law_1528 : decode (mC m_W_law) 1528 = .ok (.iconst 1, 1) := by decide +kernel
theorem d_W_law_1529 : decode (mC m_W_law) 1529 = .ok (.iadd, 1) := by decide +kernel
theorem d_W_law_1530 : decode (mC m_W_law) 1530 = .ok (.iaload, 1) := by decide +kernel
theorem d_W_law_1531 : decode (mC m_W_law) 1531 = .ok (.aload_n 3, 1) := by decide +kernel
theorem d_W_law_1532 : decode (mC m_W_law) 1532 = .ok (.invokestatic 242, 3) := by decide +kernel
theorem d_W_law_1535 : decode (mC m_W_law) 1535 = .ok (.istore 5, 2) := by decide +kernel
theorem d_W_law_1537 : decode (mC m_W_law) 1537 = .ok (.aload_n 2, 1) := by decide +kernel
theorem d_W_law_1538 : decode (mC m_W_law) 1538 = .ok (.aload_n 0, 1) := by decide +kernel
theorem d_W_law_1539 : decode (mC m_W_law) 1539 = .ok (.iload 4, 2) := by decide +kernel
theorem d_W_law_1541 : decode (mC m_W_law) 1541 = .ok (.iconst 1, 1) := by decide +kernel
theorem d_W_law_1542 : decode (mC m_W_law) 1542 = .ok (.iadd, 1) := by decide +kernel
theorem d_W_law_1543 : decode (mC m_W_law) 1543 = .ok (.iaload, 1) := by decide +kernel
theorem d_W_law_1544 : decode (mC m_W_law) 1544 = .ok (.invokevirtual 244, 3) := by decide +kernel
theorem d_W_law_1547 : decode (mC m_W_law) 1547 = .ok (.istore 6, 2) := by decide +kernel
theorem d_W_law_1549 : decode (mC m_W_law) 1549 = .ok (.aload_n 2, 1) := by decide +kernel
theorem d_W_law_1550 : decode (mC m_W_law) 1550 = .ok (.invokevirtual 173, 3) := by decide +kernel
theorem d_W_law_1553 : decode (mC m_W_law) 1553 = .ok (.iload 5, 2) := by decide +kernel
theorem d_W_law_1555 : decode (mC m_W_law) 1555 = .ok (.if_icmp .eq (5), 3) := by decide +kernel
theorem d_W_law_1558 : decode (mC m_W_law) 1558 = .ok (.iconst 0, 1) := by decide +kernel
theorem d_W_law_1559 : decode (mC m_W_law) 1559 = .ok (.ireturn, 1) := by decide +kernel
theorem d_W_law_1560 : decode (mC m_W_law) 1560 = .ok (.iload 5, 2) := by decide +kernel
theorem d_W_law_1562 : decode (mC m_W_law) 1562 = .ok (.ifCond .ne (15), 3) := by decide +kernel
theorem d_W_law_1565 : decode (mC m_W_law) 1565 = .ok (.aload_n 3, 1) := by decide +kernel
theorem d_W_law_1566 : decode (mC m_W_law) 1566 = .ok (.iconst 0, 1) := by decide +kernel
theorem d_W_law_1567 : decode (mC m_W_law) 1567 = .ok (.laload, 1) := by decide +kernel
theorem d_W_law_1568 : decode (mC m_W_law) 1568 = .ok (.iload 6, 2) := by decide +kernel
theorem d_W_law_1570 : decode (mC m_W_law) 1570 = .ok (.i2l, 1) := by decide +kernel
theorem d_W_law_1571 : decode (mC m_W_law) 1571 = .ok (.lcmp, 1) := by decide +kernel
theorem d_W_law_1572 : decode (mC m_W_law) 1572 = .ok (.ifCond .eq (5), 3) := by decide +kernel
theorem d_W_law_1575 : decode (mC m_W_law) 1575 = .ok (.iconst 0, 1) := by decide +kernel
theorem d_W_law_1576 : decode (mC m_W_law) 1576 = .ok (.ireturn, 1) := by decide +kernel
theorem d_W_law_1577 : decode (mC m_W_law) 1577 = .ok (.goto (1743), 3) := by decide +kernel
theorem d_W_law_1580 : decode (mC m_W_law) 1580 = .ok (.aload_n 1, 1) := by decide +kernel
theorem d_W_law_1581 : decode (mC m_W_law) 1581 = .ok (.aload_n 0, 1) := by decide +kernel
theorem d_W_law_1582 : decode (mC m_W_law) 1582 = .ok (.iload 4, 2) := by decide +kernel
theorem d_W_law_1584 : decode (mC m_W_law) 1584 = .ok (.iconst 1, 1) := by decide +kernel
theorem d_W_law_1585 : decode (mC m_W_law) 1585 = .ok (.iadd, 1) := by decide +kernel
theorem d_W_law_1586 : decode (mC m_W_law) 1586 = .ok (.iaload, 1) := by decide +kernel
theorem d_W_law_1587 : decode (mC m_W_law) 1587 = .ok (.aload_n 3, 1) := by decide +kernel
theorem d_W_law_1588 : decode (mC m_W_law) 1588 = .ok (.invokestatic 245, 3) := by decide +kernel
theorem d_W_law_1591 : decode (mC m_W_law) 1591 = .ok (.istore 5, 2) := by decide +kernel
theorem d_W_law_1593 : decode (mC m_W_law) 1593 = .ok (.aload_n 2, 1) := by decide +kernel
theorem d_W_law_1594 : decode (mC m_W_law) 1594 = .ok (.aload_n 0, 1) := by decide +kernel
theorem d_W_law_1595 : decode (mC m_W_law) 1595 = .ok (.iload 4, 2) := by decide +kernel
theorem d_W_law_1597 : decode (mC m_W_law) 1597 = .ok (.iconst 1, 1) := by decide +kernel
theorem d_W_law_1598 : decode (mC m_W_law) 1598 = .ok (.iadd, 1) := by decide +kernel
theorem d_W_law_1599 : decode (mC m_W_law) 1599 = .ok (.iaload, 1) := by decide +kernel
theorem d_W_law_1600 : decode (mC m_W_law) 1600 = .ok (.invokevirtual 247, 3) := by decide +kernel
theorem d_W_law_1603 : decode (mC m_W_law) 1603 = .ok (.istore 6, 2) := by decide +kernel
theorem d_W_law_1605 : decode (mC m_W_law) 1605 = .ok (.aload_n 2, 1) := by decide +kernel
theorem d_W_law_1606 : decode (mC m_W_law) 1606 = .ok (.invokevirtual 173, 3) := by decide +kernel
theorem d_W_law_1609 : decode (mC m_W_law) 1609 = .ok (.iload 5, 2) := by decide +kernel
theorem d_W_law_1611 : decode (mC m_W_law) 1611 = .ok (.if_icmp .eq (5), 3) := by decide +kernel
theorem d_W_law_1614 : decode (mC m_W_law) 1614 = .ok (.iconst 0, 1) := by decide +kernel
theorem d_W_law_1615 : decode (mC m_W_law) 1615 = .ok (.ireturn, 1) := by decide +kernel
theorem d_W_law_1616 : decode (mC m_W_law) 1616 = .ok (.iload 5, 2) := by decide +kernel
theorem d_W_law_1618 : decode (mC m_W_law) 1618 = .ok (.ifCond .ne (22), 3) := by decide +kernel
theorem d_W_law_1621 : decode (mC m_W_law) 1621 = .ok (.aload_n 3, 1) := by decide +kernel
theorem d_W_law_1622 : decode (mC m_W_law) 1622 = .ok (.iconst 0, 1) := by decide +kernel
theorem d_W_law_1623 : decode (mC m_W_law) 1623 = .ok (.laload, 1) := by decide +kernel
theorem d_W_law_1624 : decode (mC m_W_law) 1624 = .ok (.iload 6, 2) := by decide +kernel
theorem d_W_law_1626 : decode (mC m_W_law) 1626 = .ok (.ifCond .eq (7), 3) := by decide +kernel
theorem d_W_law_1629 : decode (mC m_W_law) 1629 = .ok (.lconst 1, 1) := by decide +kernel
theorem d_W_law_1630 : decode (mC m_W_law) 1630 = .ok (.goto (4), 3) := by decide +kernel
theorem d_W_law_1633 : decode (mC m_W_law) 1633 = .ok (.lconst 0, 1) := by decide +kernel
theorem d_W_law_1634 : decode (mC m_W_law) 1634 = .ok (.lcmp, 1) := by decide +kernel
theorem d_W_law_1635 : decode (mC m_W_law) 1635 = .ok (.ifCond .eq (5), 3) := by decide +kernel
theorem d_W_law_1638 : decode (mC m_W_law) 1638 = .ok (.iconst 0, 1) := by decide +kernel
theorem d_W_law_1639 : decode (mC m_W_law) 1639 = .ok (.ireturn, 1) := by decide +kernel
theorem d_W_law_1640 : decode (mC m_W_law) 1640 = .ok (.goto (1680), 3) := by decide +kernel
theorem d_W_law_1643 : decode (mC m_W_law) 1643 = .ok (.aload_n 1, 1) := by decide +kernel
theorem d_W_law_1644 : decode (mC m_W_law) 1644 = .ok (.aload_n 0, 1) := by decide +kernel
theorem d_W_law_1645 : decode (mC m_W_law) 1645 = .ok (.iload 4, 2) := by decide +kernel
theorem d_W_law_1647 : decode (mC m_W_law) 1647 = .ok (.iconst 1, 1) := by decide +kernel
theorem d_W_law_1648 : decode (mC m_W_law) 1648 = .ok (.iadd, 1) := by decide +kernel
theorem d_W_law_1649 : decode (mC m_W_law) 1649 = .ok (.iaload, 1) := by decide +kernel
theorem d_W_law_1650 : decode (mC m_W_law) 1650 = .ok (.aload_n 0, 1) := by decide +kernel
theorem d_W_law_1651 : decode (mC m_W_law) 1651 = .ok (.iload 4, 2) := by decide +kernel
theorem d_W_law_1653 : decode (mC m_W_law) 1653 = .ok (.iconst 2, 1) := by decide +kernel
theorem d_W_law_1654 : decode (mC m_W_law) 1654 = .ok (.iadd, 1) := by decide +kernel
theorem d_W_law_1655 : decode (mC m_W_law) 1655 = .ok (.iaload, 1) := by decide +kernel
theorem d_W_law_1656 : decode (mC m_W_law) 1656 = .ok (.aload_n 3, 1) := by decide +kernel
theorem d_W_law_1657 : decode (mC m_W_law) 1657 = .ok (.invokestatic 248, 3) := by decide +kernel
theorem d_W_law_1660 : decode (mC m_W_law) 1660 = .ok (.istore 5, 2) := by decide +kernel
theorem d_W_law_1662 : decode (mC m_W_law) 1662 = .ok (.aload_n 2, 1) := by decide +kernel
theorem d_W_law_1663 : decode (mC m_W_law) 1663 = .ok (.aload_n 0, 1) := by decide +kernel
theorem d_W_law_1664 : decode (mC m_W_law) 1664 = .ok (.iload 4, 2) := by decide +kernel
theorem d_W_law_1666 : decode (mC m_W_law) 1666 = .ok (.iconst 1, 1) := by decide +kernel
theorem d_W_law_1667 : decode (mC m_W_law) 1667 = .ok (.iadd, 1) := by decide +kernel
theorem d_W_law_1668 : decode (mC m_W_law) 1668 = .ok (.iaload, 1) := by decide +kernel
theorem d_W_law_1669 : decode (mC m_W_law) 1669 = .ok (.aload_n 0, 1) := by decide +kernel
theorem d_W_law_1670 : decode (mC m_W_law) 1670 = .ok (.iload 4, 2) := by decide +kernel
theorem d_W_law_1672 : decode (mC m_W_law) 1672 = .ok (.iconst 2, 1) := by decide +kernel
theorem d_W_law_1673 : decode (mC m_W_law) 1673 = .ok (.iadd, 1) := by decide +kernel
theorem d_W_law_1674 : decode (mC m_W_law) 1674 = .ok (.iaload, 1) := by decide +kernel
theorem d_W_law_1675 : decode (mC m_W_law) 1675 = .ok (.invokevirtual 250, 3) := by decide +kernel
theorem d_W_law_1678 : decode (mC m_W_law) 1678 = .ok (.istore 6, 2) := by decide +kernel
theorem d_W_law_1680 : decode (mC m_W_law) 1680 = .ok (.aload_n 2, 1) := by decide +kernel
theorem d_W_law_1681 : decode (mC m_W_law) 1681 = .ok (.invokevirtual 173, 3) := by decide +kernel
theorem d_W_law_1684 : decode (mC m_W_law) 1684 = .ok (.iload 5, 2) := by decide +kernel
theorem d_W_law_1686 : decode (mC m_W_law) 1686 = .ok (.if_icmp .eq (5), 3) := by decide +kernel
theorem d_W_law_1689 : decode (mC m_W_law) 1689 = .ok (.iconst 0, 1) := by decide +kernel
theorem d_W_law_1690 : decode (mC m_W_law) 1690 = .ok (.ireturn, 1) := by decide +kernel
theorem d_W_law_1691 : decode (mC m_W_law) 1691 = .ok (.iload 5, 2) := by decide +kernel
theorem d_W_law_1693 : decode (mC m_W_law) 1693 = .ok (.ifCond .ne (15), 3) := by decide +kernel
theorem d_W_law_1696 : decode (mC m_W_law) 1696 = .ok (.aload_n 3, 1) := by decide +kernel
theorem d_W_law_1697 : decode (mC m_W_law) 1697 = .ok (.iconst 0, 1) := by decide +kernel
theorem d_W_law_1698 : decode (mC m_W_law) 1698 = .ok (.laload, 1) := by decide +kernel
theorem d_W_law_1699 : decode (mC m_W_law) 1699 = .ok (.iload 6, 2) := by decide +kernel
theorem d_W_law_1701 : decode (mC m_W_law) 1701 = .ok (.i2l, 1) := by decide +kernel
theorem d_W_law_1702 : decode (mC m_W_law) 1702 = .ok (.lcmp, 1) := by decide +kernel
theorem d_W_law_1703 : decode (mC m_W_law) 1703 = .ok (.ifCond .eq (5), 3) := by decide +kernel
theorem d_W_law_1706 : decode (mC m_W_law) 1706 = .ok (.iconst 0, 1) := by decide +kernel
theorem d_W_law_1707 : decode (mC m_W_law) 1707 = .ok (.ireturn, 1) := by decide +kernel
theorem d_W_law_1708 : decode (mC m_W_law) 1708 = .ok (.goto (1612), 3) := by decide +kernel
theorem d_W_law_1711 : decode (mC m_W_law) 1711 = .ok (.aload_n 1, 1) := by decide +kernel
theorem d_W_law_1712 : decode (mC m_W_law) 1712 = .ok (.aload_n 0, 1) := by decide +kernel
theorem d_W_law_1713 : decode (mC m_W_law) 1713 = .ok (.iload 4, 2) := by decide +kernel
theorem d_W_law_1715 : decode (mC m_W_law) 1715 = .ok (.iconst 1, 1) := by decide +kernel
theorem d_W_law_1716 : decode (mC m_W_law) 1716 = .ok (.iadd, 1) := by decide +kernel
theorem d_W_law_1717 : decode (mC m_W_law) 1717 = .ok (.iaload, 1) := by decide +kernel
theorem d_W_law_1718 : decode (mC m_W_law) 1718 = .ok (.aload_n 0, 1) := by decide +kernel
theorem d_W_law_1719 : decode (mC m_W_law) 1719 = .ok (.iload 4, 2) := by decide +kernel
theorem d_W_law_1721 : decode (mC m_W_law) 1721 = .ok (.iconst 2, 1) := by decide +kernel
theorem d_W_law_1722 : decode (mC m_W_law) 1722 = .ok (.iadd, 1) := by decide +kernel
theorem d_W_law_1723 : decode (mC m_W_law) 1723 = .ok (.iaload, 1) := by decide +kernel
theorem d_W_law_1724 : decode (mC m_W_law) 1724 = .ok (.aload_n 0, 1) := by decide +kernel
theorem d_W_law_1725 : decode (mC m_W_law) 1725 = .ok (.iload 4, 2) := by decide +kernel
theorem d_W_law_1727 : decode (mC m_W_law) 1727 = .ok (.iconst 3, 1) := by decide +kernel
theorem d_W_law_1728 : decode (mC m_W_law) 1728 = .ok (.iadd, 1) := by decide +kernel
theorem d_W_law_1729 : decode (mC m_W_law) 1729 = .ok (.iaload, 1) := by decide +kernel
theorem d_W_law_1730 : decode (mC m_W_law) 1730 = .ok (.aload_n 3, 1) := by decide +kernel
theorem d_W_law_1731 : decode (mC m_W_law) 1731 = .ok (.invokestatic 251, 3) := by decide +kernel
theorem d_W_law_1734 : decode (mC m_W_law) 1734 = .ok (.istore 5, 2) := by decide +kernel
theorem d_W_law_1736 : decode (mC m_W_law) 1736 = .ok (.aload_n 2, 1) := by decide +kernel
theorem d_W_law_1737 : decode (mC m_W_law) 1737 = .ok (.aload_n 0, 1) := by decide +kernel
theorem d_W_law_1738 : decode (mC m_W_law) 1738 = .ok (.iload 4, 2) := by decide +kernel
theorem d_W_law_1740 : decode (mC m_W_law) 1740 = .ok (.iconst 1, 1) := by decide +kernel
theorem d_W_law_1741 : decode (mC m_W_law) 1741 = .ok (.iadd, 1) := by decide +kernel
theorem d_W_law_1742 : decode (mC m_W_law) 1742 = .ok (.iaload, 1) := by decide +kernel
theorem d_W_law_1743 : decode (mC m_W_law) 1743 = .ok (.aload_n 0, 1) := by decide +kernel
theorem d_W_law_1744 : decode (mC m_W_law) 1744 = .ok (.iload 4, 2) := by decide +kernel
theorem d_W_law_1746 : decode (mC m_W_law) 1746 = .ok (.iconst 2, 1) := by decide +kernel
theorem d_W_law_1747 : decode (mC m_W_law) 1747 = .ok (.iadd, 1) := by decide +kernel
theorem d_W_law_1748 : decode (mC m_W_law) 1748 = .ok (.iaload, 1) := by decide +kernel
theorem d_W_law_1749 : decode (mC m_W_law) 1749 = .ok (.aload_n 0, 1) := by decide +kernel
theorem d_W_law_1750 : decode (mC m_W_law) 1750 = .ok (.iload 4, 2) := by decide +kernel
theorem d_W_law_1752 : decode (mC m_W_law) 1752 = .ok (.iconst 3, 1) := by decide +kernel
theorem d_W_law_1753 : decode (mC m_W_law) 1753 = .ok (.iadd, 1) := by decide +kernel
theorem d_W_law_1754 : decode (mC m_W_law) 1754 = .ok (.iaload, 1) := by decide +kernel
theorem d_W_law_1755 : decode (mC m_W_law) 1755 = .ok (.invokevirtual 253, 3) := by decide +kernel
theorem d_W_law_1758 : decode (mC m_W_law) 1758 = .ok (.istore 6, 2) := by decide +kernel
theorem d_W_law_1760 : decode (mC m_W_law) 1760 = .ok (.aload_n 2, 1) := by decide +kernel
theorem d_W_law_1761 : decode (mC m_W_law) 1761 = .ok (.invokevirtual 173, 3) := by decide +kernel
theorem d_W_law_1764 : decode (mC m_W_law) 1764 = .ok (.iload 5, 2) := by decide +kernel
theorem d_W_law_1766 : decode (mC m_W_law) 1766 = .ok (.if_icmp .eq (5), 3) := by decide +kernel
theorem d_W_law_1769 : decode (mC m_W_law) 1769 = .ok (.iconst 0, 1) := by decide +kernel
theorem d_W_law_1770 : decode (mC m_W_law) 1770 = .ok (.ireturn, 1) := by decide +kernel
theorem d_W_law_1771 : decode (mC m_W_law) 1771 = .ok (.iload 5, 2) := by decide +kernel
theorem d_W_law_1773 : decode (mC m_W_law) 1773 = .ok (.ifCond .ne (15), 3) := by decide +kernel
theorem d_W_law_1776 : decode (mC m_W_law) 1776 = .ok (.aload_n 3, 1) := by decide +kernel
theorem d_W_law_1777 : decode (mC m_W_law) 1777 = .ok (.iconst 0, 1) := by decide +kernel
theorem d_W_law_1778 : decode (mC m_W_law) 1778 = .ok (.laload, 1) := by decide +kernel
theorem d_W_law_1779 : decode (mC m_W_law) 1779 = .ok (.iload 6, 2) := by decide +kernel
theorem d_W_law_1781 : decode (mC m_W_law) 1781 = .ok (.i2l, 1) := by decide +kernel
theorem d_W_law_1782 : decode (mC m_W_law) 1782 = .ok (.lcmp, 1) := by decide +kernel
theorem d_W_law_1783 : decode (mC m_W_law) 1783 = .ok (.ifCond .eq (5), 3) := by decide +kernel
theorem d_W_law_1786 : decode (mC m_W_law) 1786 = .ok (.iconst 0, 1) := by decide +kernel
theorem d_W_law_1787 : decode (mC m_W_law) 1787 = .ok (.ireturn, 1) := by decide +kernel
theorem d_W_law_1788 : decode (mC m_W_law) 1788 = .ok (.goto (1532), 3) := by decide +kernel
theorem d_W_law_1791 : decode (mC m_W_law) 1791 = .ok (.aload_n 1, 1) := by decide +kernel
theorem d_W_law_1792 : decode (mC m_W_law) 1792 = .ok (.aload_n 0, 1) := by decide +kernel
theorem d_W_law_1793 : decode (mC m_W_law) 1793 = .ok (.iload 4, 2) := by decide +kernel
theorem d_W_law_1795 : decode (mC m_W_law) 1795 = .ok (.iconst 1, 1) := by decide +kernel
theorem d_W_law_1796 : decode (mC m_W_law) 1796 = .ok (.iadd, 1) := by decide +kernel
theorem d_W_law_1797 : decode (mC m_W_law) 1797 = .ok (.iaload, 1) := by decide +kernel
theorem d_W_law_1798 : decode (mC m_W_law) 1798 = .ok (.aload_n 0, 1) := by decide +kernel
theorem d_W_law_1799 : decode (mC m_W_law) 1799 = .ok (.iload 4, 2) := by decide +kernel
theorem d_W_law_1801 : decode (mC m_W_law) 1801 = .ok (.iconst 2, 1) := by decide +kernel
theorem d_W_law_1802 : decode (mC m_W_law) 1802 = .ok (.iadd, 1) := by decide +kernel
theorem d_W_law_1803 : decode (mC m_W_law) 1803 = .ok (.iaload, 1) := by decide +kernel
theorem d_W_law_1804 : decode (mC m_W_law) 1804 = .ok (.aload_n 3, 1) := by decide +kernel
theorem d_W_law_1805 : decode (mC m_W_law) 1805 = .ok (.invokestatic 254, 3) := by decide +kernel
theorem d_W_law_1808 : decode (mC m_W_law) 1808 = .ok (.istore 5, 2) := by decide +kernel
theorem d_W_law_1810 : decode (mC m_W_law) 1810 = .ok (.aload_n 2, 1) := by decide +kernel
theorem d_W_law_1811 : decode (mC m_W_law) 1811 = .ok (.aload_n 0, 1) := by decide +kernel
theorem d_W_law_1812 : decode (mC m_W_law) 1812 = .ok (.iload 4, 2) := by decide +kernel
theorem d_W_law_1814 : decode (mC m_W_law) 1814 = .ok (.iconst 1, 1) := by decide +kernel
theorem d_W_law_1815 : decode (mC m_W_law) 1815 = .ok (.iadd, 1) := by decide +kernel
theorem d_W_law_1816 : decode (mC m_W_law) 1816 = .ok (.iaload, 1) := by decide +kernel
theorem d_W_law_1817 : decode (mC m_W_law) 1817 = .ok (.aload_n 0, 1) := by decide +kernel
theorem d_W_law_1818 : decode (mC m_W_law) 1818 = .ok (.iload 4, 2) := by decide +kernel
theorem d_W_law_1820 : decode (mC m_W_law) 1820 = .ok (.iconst 2, 1) := by decide +kernel
theorem d_W_law_1821 : decode (mC m_W_law) 1821 = .ok (.iadd, 1) := by decide +kernel
theorem d_W_law_1822 : decode (mC m_W_law) 1822 = .ok (.iaload, 1) := by decide +kernel
theorem d_W_law_1823 : decode (mC m_W_law) 1823 = .ok (.invokevirtual 256, 3) := by decide +kernel
theorem d_W_law_1826 : decode (mC m_W_law) 1826 = .ok (.istore 6, 2) := by decide +kernel
theorem d_W_law_1828 : decode (mC m_W_law) 1828 = .ok (.aload_n 2, 1) := by decide +kernel
theorem d_W_law_1829 : decode (mC m_W_law) 1829 = .ok (.invokevirtual 173, 3) := by decide +kernel
theorem d_W_law_1832 : decode (mC m_W_law) 1832 = .ok (.iload 5, 2) := by decide +kernel
theorem d_W_law_1834 : decode (mC m_W_law) 1834 = .ok (.if_icmp .eq (5), 3) := by decide +kernel
theorem d_W_law_1837 : decode (mC m_W_law) 1837 = .ok (.iconst 0, 1) := by decide +kernel
theorem d_W_law_1838 : decode (mC m_W_law) 1838 = .ok (.ireturn, 1) := by decide +kernel
theorem d_W_law_1839 : decode (mC m_W_law) 1839 = .ok (.iload 5, 2) := by decide +kernel
theorem d_W_law_1841 : decode (mC m_W_law) 1841 = .ok (.ifCond .ne (15), 3) := by decide +kernel
theorem d_W_law_1844 : decode (mC m_W_law) 1844 = .ok (.aload_n 3, 1) := by decide +kernel
theorem d_W_law_1845 : decode (mC m_W_law) 1845 = .ok (.iconst 0, 1) := by decide +kernel
theorem d_W_law_1846 : decode (mC m_W_law) 1846 = .ok (.laload, 1) := by decide +kernel
theorem d_W_law_1847 : decode (mC m_W_law) 1847 = .ok (.iload 6, 2) := by decide +kernel
theorem d_W_law_1849 : decode (mC m_W_law) 1849 = .ok (.i2l, 1) := by decide +kernel
theorem d_W_law_1850 : decode (mC m_W_law) 1850 = .ok (.lcmp, 1) := by decide +kernel
theorem d_W_law_1851 : decode (mC m_W_law) 1851 = .ok (.ifCond .eq (5), 3) := by decide +kernel
theorem d_W_law_1854 : decode (mC m_W_law) 1854 = .ok (.iconst 0, 1) := by decide +kernel
theorem d_W_law_1855 : decode (mC m_W_law) 1855 = .ok (.ireturn, 1) := by decide +kernel
theorem d_W_law_1856 : decode (mC m_W_law) 1856 = .ok (.goto (1464), 3) := by decide +kernel
theorem d_W_law_1859 : decode (mC m_W_law) 1859 = .ok (.aload_n 1, 1) := by decide +kernel
theorem d_W_law_1860 : decode (mC m_W_law) 1860 = .ok (.aload_n 0, 1) := by decide +kernel
theorem d_W_law_1861 : decode (mC m_W_law) 1861 = .ok (.iload 4, 2) := by decide +kernel
theorem d_W_law_1863 : decode (mC m_W_law) 1863 = .ok (.iconst 1, 1) := by decide +kernel
theorem d_W_law_1864 : decode (mC m_W_law) 1864 = .ok (.iadd, 1) := by decide +kernel
theorem d_W_law_1865 : decode (mC m_W_law) 1865 = .ok (.iaload, 1) := by decide +kernel
theorem d_W_law_1866 : decode (mC m_W_law) 1866 = .ok (.aload_n 0, 1) := by decide +kernel
theorem d_W_law_1867 : decode (mC m_W_law) 1867 = .ok (.iload 4, 2) := by decide +kernel
theorem d_W_law_1869 : decode (mC m_W_law) 1869 = .ok (.iconst 2, 1) := by decide +kernel
theorem d_W_law_1870 : decode (mC m_W_law) 1870 = .ok (.iadd, 1) := by decide +kernel
theorem d_W_law_1871 : decode (mC m_W_law) 1871 = .ok (.iaload, 1) := by decide +kernel
theorem d_W_law_1872 : decode (mC m_W_law) 1872 = .ok (.aload_n 3, 1) := by decide +kernel
theorem d_W_law_1873 : decode (mC m_W_law) 1873 = .ok (.invokestatic 257, 3) := by decide +kernel
theorem d_W_law_1876 : decode (mC m_W_law) 1876 = .ok (.istore 5, 2) := by decide +kernel
theorem d_W_law_1878 : decode (mC m_W_law) 1878 = .ok (.aload_n 2, 1) := by decide +kernel
theorem d_W_law_1879 : decode (mC m_W_law) 1879 = .ok (.aload_n 0, 1) := by decide +kernel
theorem d_W_law_1880 : decode (mC m_W_law) 1880 = .ok (.iload 4, 2) := by decide +kernel
theorem d_W_law_1882 : decode (mC m_W_law) 1882 = .ok (.iconst 1, 1) := by decide +kernel
theorem d_W_law_1883 : decode (mC m_W_law) 1883 = .ok (.iadd, 1) := by decide +kernel
theorem d_W_law_1884 : decode (mC m_W_law) 1884 = .ok (.iaload, 1) := by decide +kernel
theorem d_W_law_1885 : decode (mC m_W_law) 1885 = .ok (.aload_n 0, 1) := by decide +kernel
theorem d_W_law_1886 : decode (mC m_W_law) 1886 = .ok (.iload 4, 2) := by decide +kernel
theorem d_W_law_1888 : decode (mC m_W_law) 1888 = .ok (.iconst 2, 1) := by decide +kernel
theorem d_W_law_1889 : decode (mC m_W_law) 1889 = .ok (.iadd, 1) := by decide +kernel
theorem d_W_law_1890 : decode (mC m_W_law) 1890 = .ok (.iaload, 1) := by decide +kernel
theorem d_W_law_1891 : decode (mC m_W_law) 1891 = .ok (.invokevirtual 259, 3) := by decide +kernel
theorem d_W_law_1894 : decode (mC m_W_law) 1894 = .ok (.istore 6, 2) := by decide +kernel
theorem d_W_law_1896 : decode (mC m_W_law) 1896 = .ok (.aload_n 2, 1) := by decide +kernel
theorem d_W_law_1897 : decode (mC m_W_law) 1897 = .ok (.invokevirtual 173, 3) := by decide +kernel
theorem d_W_law_1900 : decode (mC m_W_law) 1900 = .ok (.iload 5, 2) := by decide +kernel
theorem d_W_law_1902 : decode (mC m_W_law) 1902 = .ok (.if_icmp .eq (5), 3) := by decide +kernel
theorem d_W_law_1905 : decode (mC m_W_law) 1905 = .ok (.iconst 0, 1) := by decide +kernel
theorem d_W_law_1906 : decode (mC m_W_law) 1906 = .ok (.ireturn, 1) := by decide +kernel
theorem d_W_law_1907 : decode (mC m_W_law) 1907 = .ok (.iload 5, 2) := by decide +kernel
theorem d_W_law_1909 : decode (mC m_W_law) 1909 = .ok (.ifCond .ne (15), 3) := by decide +kernel
theorem d_W_law_1912 : decode (mC m_W_law) 1912 = .ok (.aload_n 3, 1) := by decide +kernel
theorem d_W_law_1913 : decode (mC m_W_law) 1913 = .ok (.iconst 0, 1) := by decide +kernel
theorem d_W_law_1914 : decode (mC m_W_law) 1914 = .ok (.laload, 1) := by decide +kernel
theorem d_W_law_1915 : decode (mC m_W_law) 1915 = .ok (.iload 6, 2) := by decide +kernel
theorem d_W_law_1917 : decode (mC m_W_law) 1917 = .ok (.i2l, 1) := by decide +kernel
theorem d_W_law_1918 : decode (mC m_W_law) 1918 = .ok (.lcmp, 1) := by decide +kernel
theorem d_W_law_1919 : decode (mC m_W_law) 1919 = .ok (.ifCond .eq (5), 3) := by decide +kernel
theorem d_W_law_1922 : decode (mC m_W_law) 1922 = .ok (.iconst 0, 1) := by decide +kernel
theorem d_W_law_1923 : decode (mC m_W_law) 1923 = .ok (.ireturn, 1) := by decide +kernel
theorem d_W_law_1924 : decode (mC m_W_law) 1924 = .ok (.goto (1396), 3) := by decide +kernel
theorem d_W_law_1927 : decode (mC m_W_law) 1927 = .ok (.aload_n 1, 1) := by decide +kernel
theorem d_W_law_1928 : decode (mC m_W_law) 1928 = .ok (.aload_n 0, 1) := by decide +kernel
theorem d_W_law_1929 : decode (mC m_W_law) 1929 = .ok (.iload 4, 2) := by decide +kernel
theorem d_W_law_1931 : decode (mC m_W_law) 1931 = .ok (.iconst 1, 1) := by decide +kernel
theorem d_W_law_1932 : decode (mC m_W_law) 1932 = .ok (.iadd, 1) := by decide +kernel
theorem d_W_law_1933 : decode (mC m_W_law) 1933 = .ok (.iaload, 1) := by decide +kernel
theorem d_W_law_1934 : decode (mC m_W_law) 1934 = .ok (.aload_n 0, 1) := by decide +kernel
theorem d_W_law_1935 : decode (mC m_W_law) 1935 = .ok (.iload 4, 2) := by decide +kernel
theorem d_W_law_1937 : decode (mC m_W_law) 1937 = .ok (.iconst 2, 1) := by decide +kernel
theorem d_W_law_1938 : decode (mC m_W_law) 1938 = .ok (.iadd, 1) := by decide +kernel
theorem d_W_law_1939 : decode (mC m_W_law) 1939 = .ok (.iaload, 1) := by decide +kernel
theorem d_W_law_1940 : decode (mC m_W_law) 1940 = .ok (.aload_n 0, 1) := by decide +kernel
theorem d_W_law_1941 : decode (mC m_W_law) 1941 = .ok (.iload 4, 2) := by decide +kernel
theorem d_W_law_1943 : decode (mC m_W_law) 1943 = .ok (.iconst 3, 1) := by decide +kernel
theorem d_W_law_1944 : decode (mC m_W_law) 1944 = .ok (.iadd, 1) := by decide +kernel
theorem d_W_law_1945 : decode (mC m_W_law) 1945 = .ok (.iaload, 1) := by decide +kernel
theorem d_W_law_1946 : decode (mC m_W_law) 1946 = .ok (.aload_n 0, 1) := by decide +kernel
theorem d_W_law_1947 : decode (mC m_W_law) 1947 = .ok (.iload 4, 2) := by decide +kernel
theorem d_W_law_1949 : decode (mC m_W_law) 1949 = .ok (.iconst 4, 1) := by decide +kernel
theorem d_W_law_1950 : decode (mC m_W_law) 1950 = .ok (.iadd, 1) := by decide +kernel
theorem d_W_law_1951 : decode (mC m_W_law) 1951 = .ok (.iaload, 1) := by decide +kernel
theorem d_W_law_1952 : decode (mC m_W_law) 1952 = .ok (.aload_n 3, 1) := by decide +kernel
theorem d_W_law_1953 : decode (mC m_W_law) 1953 = .ok (.invokestatic 260, 3) := by decide +kernel
theorem d_W_law_1956 : decode (mC m_W_law) 1956 = .ok (.istore 5, 2) := by decide +kernel
theorem d_W_law_1958 : decode (mC m_W_law) 1958 = .ok (.aload_n 2, 1) := by decide +kernel
theorem d_W_law_1959 : decode (mC m_W_law) 1959 = .ok (.aload_n 0, 1) := by decide +kernel
theorem d_W_law_1960 : decode (mC m_W_law) 1960 = .ok (.iload 4, 2) := by decide +kernel
theorem d_W_law_1962 : decode (mC m_W_law) 1962 = .ok (.iconst 1, 1) := by decide +kernel
theorem d_W_law_1963 : decode (mC m_W_law) 1963 = .ok (.iadd, 1) := by decide +kernel
theorem d_W_law_1964 : decode (mC m_W_law) 1964 = .ok (.iaload, 1) := by decide +kernel
theorem d_W_law_1965 : decode (mC m_W_law) 1965 = .ok (.aload_n 0, 1) := by decide +kernel
theorem d_W_law_1966 : decode (mC m_W_law) 1966 = .ok (.iload 4, 2) := by decide +kernel
theorem d_W_law_1968 : decode (mC m_W_law) 1968 = .ok (.iconst 2, 1) := by decide +kernel
theorem d_W_law_1969 : decode (mC m_W_law) 1969 = .ok (.iadd, 1) := by decide +kernel
theorem d_W_law_1970 : decode (mC m_W_law) 1970 = .ok (.iaload, 1) := by decide +kernel
theorem d_W_law_1971 : decode (mC m_W_law) 1971 = .ok (.aload_n 0, 1) := by decide +kernel
theorem d_W_law_1972 : decode (mC m_W_law) 1972 = .ok (.iload 4, 2) := by decide +kernel
theorem d_W_law_1974 : decode (mC m_W_law) 1974 = .ok (.iconst 3, 1) := by decide +kernel
theorem d_W_law_1975 : decode (mC m_W_law) 1975 = .ok (.iadd, 1) := by decide +kernel
theorem d_W_law_1976 : decode (mC m_W_law) 1976 = .ok (.iaload, 1) := by decide +kernel
theorem d_W_law_1977 : decode (mC m_W_law) 1977 = .ok (.aload_n 0, 1) := by decide +kernel
theorem d_W_law_1978 : decode (mC m_W_law) 1978 = .ok (.iload 4, 2) := by decide +kernel
theorem d_W_law_1980 : decode (mC m_W_law) 1980 = .ok (.iconst 4, 1) := by decide +kernel
theorem d_W_law_1981 : decode (mC m_W_law) 1981 = .ok (.iadd, 1) := by decide +kernel
theorem d_W_law_1982 : decode (mC m_W_law) 1982 = .ok (.iaload, 1) := by decide +kernel
theorem d_W_law_1983 : decode (mC m_W_law) 1983 = .ok (.invokevirtual 263, 3) := by decide +kernel
theorem d_W_law_1986 : decode (mC m_W_law) 1986 = .ok (.istore 6, 2) := by decide +kernel
theorem d_W_law_1988 : decode (mC m_W_law) 1988 = .ok (.aload_n 2, 1) := by decide +kernel
theorem d_W_law_1989 : decode (mC m_W_law) 1989 = .ok (.invokevirtual 173, 3) := by decide +kernel
theorem d_W_law_1992 : decode (mC m_W_law) 1992 = .ok (.iload 5, 2) := by decide +kernel
theorem d_W_law_1994 : decode (mC m_W_law) 1994 = .ok (.if_icmp .eq (5), 3) := by decide +kernel
theorem d_W_law_1997 : decode (mC m_W_law) 1997 = .ok (.iconst 0, 1) := by decide +kernel
theorem d_W_law_1998 : decode (mC m_W_law) 1998 = .ok (.ireturn, 1) := by decide +kernel
theorem d_W_law_1999 : decode (mC m_W_law) 1999 = .ok (.iload 5, 2) := by decide +kernel
theorem d_W_law_2001 : decode (mC m_W_law) 2001 = .ok (.ifCond .ne (15), 3) := by decide +kernel
theorem d_W_law_2004 : decode (mC m_W_law) 2004 = .ok (.aload_n 3, 1) := by decide +kernel
theorem d_W_law_2005 : decode (mC m_W_law) 2005 = .ok (.iconst 0, 1) := by decide +kernel
theorem d_W_law_2006 : decode (mC m_W_law) 2006 = .ok (.laload, 1) := by decide +kernel
theorem d_W_law_2007 : decode (mC m_W_law) 2007 = .ok (.iload 6, 2) := by decide +kernel
theorem d_W_law_2009 : decode (mC m_W_law) 2009 = .ok (.i2l, 1) := by decide +kernel
theorem d_W_law_2010 : decode (mC m_W_law) 2010 = .ok (.lcmp, 1) := by decide +kernel
theorem d_W_law_2011 : decode (mC m_W_law) 2011 = .ok (.ifCond .eq (5), 3) := by decide +kernel
theorem d_W_law_2014 : decode (mC m_W_law) 2014 = .ok (.iconst 0, 1) := by decide +kernel
theorem d_W_law_2015 : decode (mC m_W_law) 2015 = .ok (.ireturn, 1) := by decide +kernel
theorem d_W_law_2016 : decode (mC m_W_law) 2016 = .ok (.goto (1304), 3) := by decide +kernel
theorem d_W_law_2019 : decode (mC m_W_law) 2019 = .ok (.aload_n 1, 1) := by decide +kernel
theorem d_W_law_2020 : decode (mC m_W_law) 2020 = .ok (.aload_n 0, 1) := by decide +kernel
theorem d_W_law_2021 : decode (mC m_W_law) 2021 = .ok (.iload 4, 2) := by decide +kernel
theorem d_W_law_2023 : decode (mC m_W_law) 2023 = .ok (.iconst 1, 1) := by decide +kernel
theorem d_W_law_2024 : decode (mC m_W_law) 2024 = .ok (.iadd, 1) := by decide +kernel
theorem d_W_law_2025 : decode (mC m_W_law) 2025 = .ok (.iaload, 1) := by decide +kernel
theorem d_W_law_2026 : decode (mC m_W_law) 2026 = .ok (.aload_n 3, 1) := by decide +kernel
theorem d_W_law_2027 : decode (mC m_W_law) 2027 = .ok (.invokestatic 264, 3) := by decide +kernel
theorem d_W_law_2030 : decode (mC m_W_law) 2030 = .ok (.istore 5, 2) := by decide +kernel
theorem d_W_law_2032 : decode (mC m_W_law) 2032 = .ok (.aload_n 2, 1) := by decide +kernel
theorem d_W_law_2033 : decode (mC m_W_law) 2033 = .ok (.aload_n 0, 1) := by decide +kernel
theorem d_W_law_2034 : decode (mC m_W_law) 2034 = .ok (.iload 4, 2) := by decide +kernel
theorem d_W_law_2036 : decode (mC m_W_law) 2036 = .ok (.iconst 1, 1) := by decide +kernel
theorem d_W_law_2037 : decode (mC m_W_law) 2037 = .ok (.iadd, 1) := by decide +kernel
theorem d_W_law_2038 : decode (mC m_W_law) 2038 = .ok (.iaload, 1) := by decide +kernel
theorem d_W_law_2039 : decode (mC m_W_law) 2039 = .ok (.invokevirtual 266, 3) := by decide +kernel
theorem d_W_law_2042 : decode (mC m_W_law) 2042 = .ok (.istore 6, 2) := by decide +kernel
theorem d_W_law_2044 : decode (mC m_W_law) 2044 = .ok (.aload_n 2, 1) := by decide +kernel
theorem d_W_law_2045 : decode (mC m_W_law) 2045 = .ok (.invokevirtual 173, 3) := by decide +kernel
theorem d_W_law_2048 : decode (mC m_W_law) 2048 = .ok (.iload 5, 2) := by decide +kernel
theorem d_W_law_2050 : decode (mC m_W_law) 2050 = .ok (.if_icmp .eq (5), 3) := by decide +kernel
theorem d_W_law_2053 : decode (mC m_W_law) 2053 = .ok (.iconst 0, 1) := by decide +kernel
theorem d_W_law_2054 : decode (mC m_W_law) 2054 = .ok (.ireturn, 1) := by decide +kernel
theorem d_W_law_2055 : decode (mC m_W_law) 2055 = .ok (.iload 5, 2) := by decide +kernel
theorem d_W_law_2057 : decode (mC m_W_law) 2057 = .ok (.ifCond .ne (15), 3) := by decide +kernel
theorem d_W_law_2060 : decode (mC m_W_law) 2060 = .ok (.aload_n 3, 1) := by decide +kernel
theorem d_W_law_2061 : decode (mC m_W_law) 2061 = .ok (.iconst 0, 1) := by decide +kernel
theorem d_W_law_2062 : decode (mC m_W_law) 2062 = .ok (.laload, 1) := by decide +kernel
theorem d_W_law_2063 : decode (mC m_W_law) 2063 = .ok (.iload 6, 2) := by decide +kernel
theorem d_W_law_2065 : decode (mC m_W_law) 2065 = .ok (.i2l, 1) := by decide +kernel
theorem d_W_law_2066 : decode (mC m_W_law) 2066 = .ok (.lcmp, 1) := by decide +kernel
theorem d_W_law_2067 : decode (mC m_W_law) 2067 = .ok (.ifCond .eq (5), 3) := by decide +kernel
theorem d_W_law_2070 : decode (mC m_W_law) 2070 = .ok (.iconst 0, 1) := by decide +kernel
theorem d_W_law_2071 : decode (mC m_W_law) 2071 = .ok (.ireturn, 1) := by decide +kernel
theorem d_W_law_2072 : decode (mC m_W_law) 2072 = .ok (.goto (1248), 3) := by decide +kernel
theorem d_W_law_2075 : decode (mC m_W_law) 2075 = .ok (.aload_n 1, 1) := by decide +kernel
theorem d_W_law_2076 : decode (mC m_W_law) 2076 = .ok (.aload_n 0, 1) := by decide +kernel
theorem d_W_law_2077 : decode (mC m_W_law) 2077 = .ok (.iload 4, 2) := by decide +kernel
theorem d_W_law_2079 : decode (mC m_W_law) 2079 = .ok (.iconst 1, 1) := by decide +kernel
theorem d_W_law_2080 : decode (mC m_W_law) 2080 = .ok (.iadd, 1) := by decide +kernel
theorem d_W_law_2081 : decode (mC m_W_law) 2081 = .ok (.iaload, 1) := by decide +kernel
theorem d_W_law_2082 : decode (mC m_W_law) 2082 = .ok (.aload_n 0, 1) := by decide +kernel
theorem d_W_law_2083 : decode (mC m_W_law) 2083 = .ok (.iload 4, 2) := by decide +kernel
theorem d_W_law_2085 : decode (mC m_W_law) 2085 = .ok (.iconst 2, 1) := by decide +kernel
theorem d_W_law_2086 : decode (mC m_W_law) 2086 = .ok (.iadd, 1) := by decide +kernel
theorem d_W_law_2087 : decode (mC m_W_law) 2087 = .ok (.iaload, 1) := by decide +kernel
theorem d_W_law_2088 : decode (mC m_W_law) 2088 = .ok (.aload_n 3, 1) := by decide +kernel
theorem d_W_law_2089 : decode (mC m_W_law) 2089 = .ok (.invokestatic 267, 3) := by decide +kernel
theorem d_W_law_2092 : decode (mC m_W_law) 2092 = .ok (.istore 5, 2) := by decide +kernel
theorem d_W_law_2094 : decode (mC m_W_law) 2094 = .ok (.aload_n 2, 1) := by decide +kernel
theorem d_W_law_2095 : decode (mC m_W_law) 2095 = .ok (.aload_n 0, 1) := by decide +kernel
theorem d_W_law_2096 : decode (mC m_W_law) 2096 = .ok (.iload 4, 2) := by decide +kernel
theorem d_W_law_2098 : decode (mC m_W_law) 2098 = .ok (.iconst 1, 1) := by decide +kernel
theorem d_W_law_2099 : decode (mC m_W_law) 2099 = .ok (.iadd, 1) := by decide +kernel
theorem d_W_law_2100 : decode (mC m_W_law) 2100 = .ok (.iaload, 1) := by decide +kernel
theorem d_W_law_2101 : decode (mC m_W_law) 2101 = .ok (.aload_n 0, 1) := by decide +kernel
theorem d_W_law_2102 : decode (mC m_W_law) 2102 = .ok (.iload 4, 2) := by decide +kernel
theorem d_W_law_2104 : decode (mC m_W_law) 2104 = .ok (.iconst 2, 1) := by decide +kernel
theorem d_W_law_2105 : decode (mC m_W_law) 2105 = .ok (.iadd, 1) := by decide +kernel
theorem d_W_law_2106 : decode (mC m_W_law) 2106 = .ok (.iaload, 1) := by decide +kernel
theorem d_W_law_2107 : decode (mC m_W_law) 2107 = .ok (.invokevirtual 269, 3) := by decide +kernel
theorem d_W_law_2110 : decode (mC m_W_law) 2110 = .ok (.istore 6, 2) := by decide +kernel
theorem d_W_law_2112 : decode (mC m_W_law) 2112 = .ok (.aload_n 2, 1) := by decide +kernel
theorem d_W_law_2113 : decode (mC m_W_law) 2113 = .ok (.invokevirtual 173, 3) := by decide +kernel
theorem d_W_law_2116 : decode (mC m_W_law) 2116 = .ok (.iload 5, 2) := by decide +kernel
theorem d_W_law_2118 : decode (mC m_W_law) 2118 = .ok (.if_icmp .eq (5), 3) := by decide +kernel
theorem d_W_law_2121 : decode (mC m_W_law) 2121 = .ok (.iconst 0, 1) := by decide +kernel
theorem d_W_law_2122 : decode (mC m_W_law) 2122 = .ok (.ireturn, 1) := by decide +kernel
theorem d_W_law_2123 : decode (mC m_W_law) 2123 = .ok (.iload 5, 2) := by decide +kernel
theorem d_W_law_2125 : decode (mC m_W_law) 2125 = .ok (.ifCond .ne (15), 3) := by decide +kernel
theorem d_W_law_2128 : decode (mC m_W_law) 2128 = .ok (.aload_n 3, 1) := by decide +kernel
theorem d_W_law_2129 : decode (mC m_W_law) 2129 = .ok (.iconst 0, 1) := by decide +kernel
theorem d_W_law_2130 : decode (mC m_W_law) 2130 = .ok (.laload, 1) := by decide +kernel
theorem d_W_law_2131 : decode (mC m_W_law) 2131 = .ok (.iload 6, 2) := by decide +kernel
theorem d_W_law_2133 : decode (mC m_W_law) 2133 = .ok (.i2l, 1) := by decide +kernel
theorem d_W_law_2134 : decode (mC m_W_law) 2134 = .ok (.lcmp, 1) := by decide +kernel
theorem d_W_law_2135 : decode (mC m_W_law) 2135 = .ok (.ifCond .eq (5), 3) := by decide +kernel
theorem d_W_law_2138 : decode (mC m_W_law) 2138 = .ok (.iconst 0, 1) := by decide +kernel
theorem d_W_law_2139 : decode (mC m_W_law) 2139 = .ok (.ireturn, 1) := by decide +kernel
theorem d_W_law_2140 : decode (mC m_W_law) 2140 = .ok (.goto (1180), 3) := by decide +kernel
theorem d_W_law_2143 : decode (mC m_W_law) 2143 = .ok (.aload_n 1, 1) := by decide +kernel
theorem d_W_law_2144 : decode (mC m_W_law) 2144 = .ok (.aload_n 0, 1) := by decide +kernel
theorem d_W_law_2145 : decode (mC m_W_law) 2145 = .ok (.iload 4, 2) := by decide +kernel
theorem d_W_law_2147 : decode (mC m_W_law) 2147 = .ok (.iconst 1, 1) := by decide +kernel
theorem d_W_law_2148 : decode (mC m_W_law) 2148 = .ok (.iadd, 1) := by decide +kernel
theorem d_W_law_2149 : decode (mC m_W_law) 2149 = .ok (.iaload, 1) := by decide +kernel
theorem d_W_law_2150 : decode (mC m_W_law) 2150 = .ok (.aload_n 3, 1) := by decide +kernel
theorem d_W_law_2151 : decode (mC m_W_law) 2151 = .ok (.invokestatic 270, 3) := by decide +kernel
theorem d_W_law_2154 : decode (mC m_W_law) 2154 = .ok (.istore 5, 2) := by decide +kernel
theorem d_W_law_2156 : decode (mC m_W_law) 2156 = .ok (.aload_n 2, 1) := by decide +kernel
theorem d_W_law_2157 : decode (mC m_W_law) 2157 = .ok (.aload_n 0, 1) := by decide +kernel
theorem d_W_law_2158 : decode (mC m_W_law) 2158 = .ok (.iload 4, 2) := by decide +kernel
theorem d_W_law_2160 : decode (mC m_W_law) 2160 = .ok (.iconst 1, 1) := by decide +kernel
theorem d_W_law_2161 : decode (mC m_W_law) 2161 = .ok (.iadd, 1) := by decide +kernel
theorem d_W_law_2162 : decode (mC m_W_law) 2162 = .ok (.iaload, 1) := by decide +kernel
theorem d_W_law_2163 : decode (mC m_W_law) 2163 = .ok (.invokevirtual 272, 3) := by decide +kernel
theorem d_W_law_2166 : decode (mC m_W_law) 2166 = .ok (.istore 6, 2) := by decide +kernel
theorem d_W_law_2168 : decode (mC m_W_law) 2168 = .ok (.aload_n 2, 1) := by decide +kernel
theorem d_W_law_2169 : decode (mC m_W_law) 2169 = .ok (.invokevirtual 173, 3) := by decide +kernel
theorem d_W_law_2172 : decode (mC m_W_law) 2172 = .ok (.iload 5, 2) := by decide +kernel
theorem d_W_law_2174 : decode (mC m_W_law) 2174 = .ok (.if_icmp .eq (5), 3) := by decide +kernel
theorem d_W_law_2177 : decode (mC m_W_law) 2177 = .ok (.iconst 0, 1) := by decide +kernel
theorem d_W_law_2178 : decode (mC m_W_law) 2178 = .ok (.ireturn, 1) := by decide +kernel
theorem d_W_law_2179 : decode (mC m_W_law) 2179 = .ok (.iload 5, 2) := by decide +kernel
theorem d_W_law_2181 : decode (mC m_W_law) 2181 = .ok (.ifCond .ne (22), 3) := by decide +kernel
theorem d_W_law_2184 : decode (mC m_W_law) 2184 = .ok (.aload_n 3, 1) := by decide +kernel
theorem d_W_law_2185 : decode (mC m_W_law) 2185 = .ok (.iconst 0, 1) := by decide +kernel
theorem d_W_law_2186 : decode (mC m_W_law) 2186 = .ok (.laload, 1) := by decide +kernel
theorem d_W_law_2187 : decode (mC m_W_law) 2187 = .ok (.iload 6, 2) := by decide +kernel
theorem d_W_law_2189 : decode (mC m_W_law) 2189 = .ok (.ifCond .eq (7), 3) := by decide +kernel
theorem d_W_law_2192 : decode (mC m_W_law) 2192 = .ok (.lconst 1, 1) := by decide +kernel
theorem d_W_law_2193 : decode (mC m_W_law) 2193 = .ok (.goto (4), 3) := by decide +kernel
theorem d_W_law_2196 : decode (mC m_W_law) 2196 = .ok (.lconst 0, 1) := by decide +kernel
theorem d_W_law_2197 : decode (mC m_W_law) 2197 = .ok (.lcmp, 1) := by decide +kernel
theorem d_W_law_2198 : decode (mC m_W_law) 2198 = .ok (.ifCond .eq (5), 3) := by decide +kernel
theorem d_W_law_2201 : decode (mC m_W_law) 2201 = .ok (.iconst 0, 1) := by decide +kernel
theorem d_W_law_2202 : decode (mC m_W_law) 2202 = .ok (.ireturn, 1) := by decide +kernel
theorem d_W_law_2203 : decode (mC m_W_law) 2203 = .ok (.goto (1117), 3) := by decide +kernel
theorem d_W_law_2206 : decode (mC m_W_law) 2206 = .ok (.aload_n 1, 1) := by decide +kernel
theorem d_W_law_2207 : decode (mC m_W_law) 2207 = .ok (.aload_n 0, 1) := by decide +kernel
theorem d_W_law_2208 : decode (mC m_W_law) 2208 = .ok (.iload 4, 2) := by decide +kernel
theorem d_W_law_2210 : decode (mC m_W_law) 2210 = .ok (.iconst 1, 1) := by decide +kernel
theorem d_W_law_2211 : decode (mC m_W_law) 2211 = .ok (.iadd, 1) := by decide +kernel
theorem d_W_law_2212 : decode (mC m_W_law) 2212 = .ok (.iaload, 1) := by decide +kernel
theorem d_W_law_2213 : decode (mC m_W_law) 2213 = .ok (.aload_n 3, 1) := by decide +kernel
theorem d_W_law_2214 : decode (mC m_W_law) 2214 = .ok (.invokestatic 273, 3) := by decide +kernel
theorem d_W_law_2217 : decode (mC m_W_law) 2217 = .ok (.istore 5, 2) := by decide +kernel
theorem d_W_law_2219 : decode (mC m_W_law) 2219 = .ok (.aload_n 2, 1) := by decide +kernel
theorem d_W_law_2220 : decode (mC m_W_law) 2220 = .ok (.aload_n 0, 1) := by decide +kernel
theorem d_W_law_2221 : decode (mC m_W_law) 2221 = .ok (.iload 4, 2) := by decide +kernel
theorem d_W_law_2223 : decode (mC m_W_law) 2223 = .ok (.iconst 1, 1) := by decide +kernel
theorem d_W_law_2224 : decode (mC m_W_law) 2224 = .ok (.iadd, 1) := by decide +kernel
theorem d_W_law_2225 : decode (mC m_W_law) 2225 = .ok (.iaload, 1) := by decide +kernel
theorem d_W_law_2226 : decode (mC m_W_law) 2226 = .ok (.invokevirtual 275, 3) := by decide +kernel
theorem d_W_law_2229 : decode (mC m_W_law) 2229 = .ok (.istore 6, 2) := by decide +kernel
theorem d_W_law_2231 : decode (mC m_W_law) 2231 = .ok (.aload_n 2, 1) := by decide +kernel
theorem d_W_law_2232 : decode (mC m_W_law) 2232 = .ok (.invokevirtual 173, 3) := by decide +kernel
theorem d_W_law_2235 : decode (mC m_W_law) 2235 = .ok (.iload 5, 2) := by decide +kernel
theorem d_W_law_2237 : decode (mC m_W_law) 2237 = .ok (.if_icmp .eq (5), 3) := by decide +kernel
theorem d_W_law_2240 : decode (mC m_W_law) 2240 = .ok (.iconst 0, 1) := by decide +kernel
theorem d_W_law_2241 : decode (mC m_W_law) 2241 = .ok (.ireturn, 1) := by decide +kernel
theorem d_W_law_2242 : decode (mC m_W_law) 2242 = .ok (.iload 5, 2) := by decide +kernel
theorem d_W_law_2244 : decode (mC m_W_law) 2244 = .ok (.ifCond .ne (15), 3) := by decide +kernel
theorem d_W_law_2247 : decode (mC m_W_law) 2247 = .ok (.aload_n 3, 1) := by decide +kernel
theorem d_W_law_2248 : decode (mC m_W_law) 2248 = .ok (.iconst 0, 1) := by decide +kernel
theorem d_W_law_2249 : decode (mC m_W_law) 2249 = .ok (.laload, 1) := by decide +kernel
theorem d_W_law_2250 : decode (mC m_W_law) 2250 = .ok (.iload 6, 2) := by decide +kernel
theorem d_W_law_2252 : decode (mC m_W_law) 2252 = .ok (.i2l, 1) := by decide +kernel
theorem d_W_law_2253 : decode (mC m_W_law) 2253 = .ok (.lcmp, 1) := by decide +kernel
theorem d_W_law_2254 : decode (mC m_W_law) 2254 = .ok (.ifCond .eq (5), 3) := by decide +kernel
theorem d_W_law_2257 : decode (mC m_W_law) 2257 = .ok (.iconst 0, 1) := by decide +kernel
theorem d_W_law_2258 : decode (mC m_W_law) 2258 = .ok (.ireturn, 1) := by decide +kernel
theorem d_W_law_2259 : decode (mC m_W_law) 2259 = .ok (.goto (1061), 3) := by decide +kernel
theorem d_W_law_2262 : decode (mC m_W_law) 2262 = .ok (.aload_n 1, 1) := by decide +kernel
theorem d_W_law_2263 : decode (mC m_W_law) 2263 = .ok (.aload_n 0, 1) := by decide +kernel
theorem d_W_law_2264 : decode (mC m_W_law) 2264 = .ok (.iload 4, 2) := by decide +kernel
theorem d_W_law_2266 : decode (mC m_W_law) 2266 = .ok (.iconst 1, 1) := by decide +kernel
theorem d_W_law_2267 : decode (mC m_W_law) 2267 = .ok (.iadd, 1) := by decide +kernel
theorem d_W_law_2268 : decode (mC m_W_law) 2268 = .ok (.iaload, 1) := by decide +kernel
theorem d_W_law_2269 : decode (mC m_W_law) 2269 = .ok (.aload_n 0, 1) := by decide +kernel
theorem d_W_law_2270 : decode (mC m_W_law) 2270 = .ok (.iload 4, 2) := by decide +kernel
theorem d_W_law_2272 : decode (mC m_W_law) 2272 = .ok (.iconst 2, 1) := by decide +kernel
theorem d_W_law_2273 : decode (mC m_W_law) 2273 = .ok (.iadd, 1) := by decide +kernel
theorem d_W_law_2274 : decode (mC m_W_law) 2274 = .ok (.iaload, 1) := by decide +kernel
theorem d_W_law_2275 : decode (mC m_W_law) 2275 = .ok (.aload_n 0, 1) := by decide +kernel
theorem d_W_law_2276 : decode (mC m_W_law) 2276 = .ok (.iload 4, 2) := by decide +kernel
theorem d_W_law_2278 : decode (mC m_W_law) 2278 = .ok (.iconst 3, 1) := by decide +kernel
theorem d_W_law_2279 : decode (mC m_W_law) 2279 = .ok (.iadd, 1) := by decide +kernel
theorem d_W_law_2280 : decode (mC m_W_law) 2280 = .ok (.iaload, 1) := by decide +kernel
theorem d_W_law_2281 : decode (mC m_W_law) 2281 = .ok (.aload_n 3, 1) := by decide +kernel
theorem d_W_law_2282 : decode (mC m_W_law) 2282 = .ok (.invokestatic 276, 3) := by decide +kernel
theorem d_W_law_2285 : decode (mC m_W_law) 2285 = .ok (.istore 5, 2) := by decide +kernel
theorem d_W_law_2287 : decode (mC m_W_law) 2287 = .ok (.aload_n 2, 1) := by decide +kernel
theorem d_W_law_2288 : decode (mC m_W_law) 2288 = .ok (.aload_n 0, 1) := by decide +kernel
theorem d_W_law_2289 : decode (mC m_W_law) 2289 = .ok (.iload 4, 2) := by decide +kernel
theorem d_W_law_2291 : decode (mC m_W_law) 2291 = .ok (.iconst 1, 1) := by decide +kernel
theorem d_W_law_2292 : decode (mC m_W_law) 2292 = .ok (.iadd, 1) := by decide +kernel
theorem d_W_law_2293 : decode (mC m_W_law) 2293 = .ok (.iaload, 1) := by decide +kernel
theorem d_W_law_2294 : decode (mC m_W_law) 2294 = .ok (.aload_n 0, 1) := by decide +kernel
theorem d_W_law_2295 : decode (mC m_W_law) 2295 = .ok (.iload 4, 2) := by decide +kernel
theorem d_W_law_2297 : decode (mC m_W_law) 2297 = .ok (.iconst 2, 1) := by decide +kernel
theorem d_W_law_2298 : decode (mC m_W_law) 2298 = .ok (.iadd, 1) := by decide +kernel
theorem d_W_law_2299 : decode (mC m_W_law) 2299 = .ok (.iaload, 1) := by decide +kernel
theorem d_W_law_2300 : decode (mC m_W_law) 2300 = .ok (.aload_n 0, 1) := by decide +kernel
theorem d_W_law_2301 : decode (mC m_W_law) 2301 = .ok (.iload 4, 2) := by decide +kernel
theorem d_W_law_2303 : decode (mC m_W_law) 2303 = .ok (.iconst 3, 1) := by decide +kernel
theorem d_W_law_2304 : decode (mC m_W_law) 2304 = .ok (.iadd, 1) := by decide +kernel
theorem d_W_law_2305 : decode (mC m_W_law) 2305 = .ok (.iaload, 1) := by decide +kernel
theorem d_W_law_2306 : decode (mC m_W_law) 2306 = .ok (.invokevirtual 278, 3) := by decide +kernel
theorem d_W_law_2309 : decode (mC m_W_law) 2309 = .ok (.istore 6, 2) := by decide +kernel
theorem d_W_law_2311 : decode (mC m_W_law) 2311 = .ok (.aload_n 2, 1) := by decide +kernel
theorem d_W_law_2312 : decode (mC m_W_law) 2312 = .ok (.invokevirtual 173, 3) := by decide +kernel
theorem d_W_law_2315 : decode (mC m_W_law) 2315 = .ok (.iload 5, 2) := by decide +kernel
theorem d_W_law_2317 : decode (mC m_W_law) 2317 = .ok (.if_icmp .eq (5), 3) := by decide +kernel
theorem d_W_law_2320 : decode (mC m_W_law) 2320 = .ok (.iconst 0, 1) := by decide +kernel
theorem d_W_law_2321 : decode (mC m_W_law) 2321 = .ok (.ireturn, 1) := by decide +kernel
theorem d_W_law_2322 : decode (mC m_W_law) 2322 = .ok (.iload 5, 2) := by decide +kernel
theorem d_W_law_2324 : decode (mC m_W_law) 2324 = .ok (.ifCond .ne (15), 3) := by decide +kernel
theorem d_W_law_2327 : decode (mC m_W_law) 2327 = .ok (.aload_n 3, 1) := by decide +kernel
theorem d_W_law_2328 : decode (mC m_W_law) 2328 = .ok (.iconst 0, 1) := by decide +kernel
theorem d_W_law_2329 : decode (mC m_W_law) 2329 = .ok (.laload, 1) := by decide +kernel
theorem d_W_law_2330 : decode (mC m_W_law) 2330 = .ok (.iload 6, 2) := by decide +kernel
theorem d_W_law_2332 : decode (mC m_W_law) 2332 = .ok (.i2l, 1) := by decide +kernel
theorem d_W_law_2333 : decode (mC m_W_law) 2333 = .ok (.lcmp, 1) := by decide +kernel
theorem d_W_law_2334 : decode (mC m_W_law) 2334 = .ok (.ifCond .eq (5), 3) := by decide +kernel
theorem d_W_law_2337 : decode (mC m_W_law) 2337 = .ok (.iconst 0, 1) := by decide +kernel
theorem d_W_law_2338 : decode (mC m_W_law) 2338 = .ok (.ireturn, 1) := by decide +kernel
theorem d_W_law_2339 : decode (mC m_W_law) 2339 = .ok (.goto (981), 3) := by decide +kernel
theorem d_W_law_2342 : decode (mC m_W_law) 2342 = .ok (.aload_n 1, 1) := by decide +kernel
theorem d_W_law_2343 : decode (mC m_W_law) 2343 = .ok (.aload_n 0, 1) := by decide +kernel
theorem d_W_law_2344 : decode (mC m_W_law) 2344 = .ok (.iload 4, 2) := by decide +kernel
theorem d_W_law_2346 : decode (mC m_W_law) 2346 = .ok (.iconst 1, 1) := by decide +kernel
theorem d_W_law_2347 : decode (mC m_W_law) 2347 = .ok (.iadd, 1) := by decide +kernel
theorem d_W_law_2348 : decode (mC m_W_law) 2348 = .ok (.iaload, 1) := by decide +kernel
theorem d_W_law_2349 : decode (mC m_W_law) 2349 = .ok (.aload_n 3, 1) := by decide +kernel
theorem d_W_law_2350 : decode (mC m_W_law) 2350 = .ok (.invokestatic 279, 3) := by decide +kernel
theorem d_W_law_2353 : decode (mC m_W_law) 2353 = .ok (.istore 5, 2) := by decide +kernel
theorem d_W_law_2355 : decode (mC m_W_law) 2355 = .ok (.aload_n 2, 1) := by decide +kernel
theorem d_W_law_2356 : decode (mC m_W_law) 2356 = .ok (.aload_n 0, 1) := by decide +kernel
theorem d_W_law_2357 : decode (mC m_W_law) 2357 = .ok (.iload 4, 2) := by decide +kernel
theorem d_W_law_2359 : decode (mC m_W_law) 2359 = .ok (.iconst 1, 1) := by decide +kernel
theorem d_W_law_2360 : decode (mC m_W_law) 2360 = .ok (.iadd, 1) := by decide +kernel
theorem d_W_law_2361 : decode (mC m_W_law) 2361 = .ok (.iaload, 1) := by decide +kernel
theorem d_W_law_2362 : decode (mC m_W_law) 2362 = .ok (.invokevirtual 281, 3) := by decide +kernel
theorem d_W_law_2365 : decode (mC m_W_law) 2365 = .ok (.istore 6, 2) := by decide +kernel
theorem d_W_law_2367 : decode (mC m_W_law) 2367 = .ok (.aload_n 2, 1) := by decide +kernel
theorem d_W_law_2368 : decode (mC m_W_law) 2368 = .ok (.invokevirtual 173, 3) := by decide +kernel
theorem d_W_law_2371 : decode (mC m_W_law) 2371 = .ok (.iload 5, 2) := by decide +kernel
theorem d_W_law_2373 : decode (mC m_W_law) 2373 = .ok (.if_icmp .eq (5), 3) := by decide +kernel
theorem d_W_law_2376 : decode (mC m_W_law) 2376 = .ok (.iconst 0, 1) := by decide +kernel
theorem d_W_law_2377 : decode (mC m_W_law) 2377 = .ok (.ireturn, 1) := by decide +kernel
theorem d_W_law_2378 : decode (mC m_W_law) 2378 = .ok (.iload 5, 2) := by decide +kernel
theorem d_W_law_2380 : decode (mC m_W_law) 2380 = .ok (.ifCond .ne (15), 3) := by decide +kernel
theorem d_W_law_2383 : decode (mC m_W_law) 2383 = .ok (.aload_n 3, 1) := by decide +kernel
theorem d_W_law_2384 : decode (mC m_W_law) 2384 = .ok (.iconst 0, 1) := by decide +kernel
theorem d_W_law_2385 : decode (mC m_W_law) 2385 = .ok (.laload, 1) := by decide +kernel
theorem d_W_law_2386 : decode (mC m_W_law) 2386 = .ok (.iload 6, 2) := by decide +kernel
theorem d_W_law_2388 : decode (mC m_W_law) 2388 = .ok (.i2l, 1) := by decide +kernel
theorem d_W_law_2389 : decode (mC m_W_law) 2389 = .ok (.lcmp, 1) := by decide +kernel
theorem d_W_law_2390 : decode (mC m_W_law) 2390 = .ok (.ifCond .eq (5), 3) := by decide +kernel
theorem d_W_law_2393 : decode (mC m_W_law) 2393 = .ok (.iconst 0, 1) := by decide +kernel
theorem d_W_law_2394 : decode (mC m_W_law) 2394 = .ok (.ireturn, 1) := by decide +kernel
theorem d_W_law_2395 : decode (mC m_W_law) 2395 = .ok (.goto (925), 3) := by decide +kernel
theorem d_W_law_2398 : decode (mC m_W_law) 2398 = .ok (.aload_n 1, 1) := by decide +kernel
theorem d_W_law_2399 : decode (mC m_W_law) 2399 = .ok (.aload_n 3, 1) := by decide +kernel
theorem d_W_law_2400 : decode (mC m_W_law) 2400 = .ok (.invokestatic 282, 3) := by decide +kernel
theorem d_W_law_2403 : decode (mC m_W_law) 2403 = .ok (.istore 5, 2) := by decide +kernel
theorem d_W_law_2405 : decode (mC m_W_law) 2405 = .ok (.aload_n 2, 1) := by decide +kernel
theorem d_W_law_2406 : decode (mC m_W_law) 2406 = .ok (.invokevirtual 284, 3) := by decide +kernel
theorem d_W_law_2409 : decode (mC m_W_law) 2409 = .ok (.istore 6, 2) := by decide +kernel
theorem d_W_law_2411 : decode (mC m_W_law) 2411 = .ok (.aload_n 2, 1) := by decide +kernel
theorem d_W_law_2412 : decode (mC m_W_law) 2412 = .ok (.invokevirtual 173, 3) := by decide +kernel
theorem d_W_law_2415 : decode (mC m_W_law) 2415 = .ok (.iload 5, 2) := by decide +kernel
theorem d_W_law_2417 : decode (mC m_W_law) 2417 = .ok (.if_icmp .eq (5), 3) := by decide +kernel
theorem d_W_law_2420 : decode (mC m_W_law) 2420 = .ok (.iconst 0, 1) := by decide +kernel
theorem d_W_law_2421 : decode (mC m_W_law) 2421 = .ok (.ireturn, 1) := by decide +kernel
theorem d_W_law_2422 : decode (mC m_W_law) 2422 = .ok (.iload 5, 2) := by decide +kernel
theorem d_W_law_2424 : decode (mC m_W_law) 2424 = .ok (.ifCond .ne (15), 3) := by decide +kernel
theorem d_W_law_2427 : decode (mC m_W_law) 2427 = .ok (.aload_n 3, 1) := by decide +kernel
theorem d_W_law_2428 : decode (mC m_W_law) 2428 = .ok (.iconst 0, 1) := by decide +kernel
theorem d_W_law_2429 : decode (mC m_W_law) 2429 = .ok (.laload, 1) := by decide +kernel
theorem d_W_law_2430 : decode (mC m_W_law) 2430 = .ok (.iload 6, 2) := by decide +kernel
theorem d_W_law_2432 : decode (mC m_W_law) 2432 = .ok (.i2l, 1) := by decide +kernel
theorem d_W_law_2433 : decode (mC m_W_law) 2433 = .ok (.lcmp, 1) := by decide +kernel
theorem d_W_law_2434 : decode (mC m_W_law) 2434 = .ok (.ifCond .eq (5), 3) := by decide +kernel
theorem d_W_law_2437 : decode (mC m_W_law) 2437 = .ok (.iconst 0, 1) := by decide +kernel
theorem d_W_law_2438 : decode (mC m_W_law) 2438 = .ok (.ireturn, 1) := by decide +kernel
theorem d_W_law_2439 : decode (mC m_W_law) 2439 = .ok (.goto (881), 3) := by decide +kernel
theorem d_W_law_2442 : decode (mC m_W_law) 2442 = .ok (.aload_n 1, 1) := by decide +kernel
theorem d_W_law_2443 : decode (mC m_W_law) 2443 = .ok (.aload_n 3, 1) := by decide +kernel
theorem d_W_law_2444 : decode (mC m_W_law) 2444 = .ok (.invokestatic 285, 3) := by decide +kernel
theorem d_W_law_2447 : decode (mC m_W_law) 2447 = .ok (.istore 5, 2) := by decide +kernel
theorem d_W_law_2449 : decode (mC m_W_law) 2449 = .ok (.aload_n 2, 1) := by decide +kernel
theorem d_W_law_2450 : decode (mC m_W_law) 2450 = .ok (.invokevirtual 287, 3) := by decide +kernel
theorem d_W_law_2453 : decode (mC m_W_law) 2453 = .ok (.istore 6, 2) := by decide +kernel
theorem d_W_law_2455 : decode (mC m_W_law) 2455 = .ok (.aload_n 2, 1) := by decide +kernel
theorem d_W_law_2456 : decode (mC m_W_law) 2456 = .ok (.invokevirtual 173, 3) := by decide +kernel
theorem d_W_law_2459 : decode (mC m_W_law) 2459 = .ok (.iload 5, 2) := by decide +kernel
theorem d_W_law_2461 : decode (mC m_W_law) 2461 = .ok (.if_icmp .eq (5), 3) := by decide +kernel
theorem d_W_law_2464 : decode (mC m_W_law) 2464 = .ok (.iconst 0, 1) := by decide +kernel
theorem d_W_law_2465 : decode (mC m_W_law) 2465 = .ok (.ireturn, 1) := by decide +kernel
theorem d_W_law_2466 : decode (mC m_W_law) 2466 = .ok (.iload 5, 2) := by decide +kernel
theorem d_W_law_2468 : decode (mC m_W_law) 2468 = .ok (.ifCond .ne (15), 3) := by decide +kernel
theorem d_W_law_2471 : decode (mC m_W_law) 2471 = .ok (.aload_n 3, 1) := by decide +kernel
theorem d_W_law_2472 : decode (mC m_W_law) 2472 = .ok (.iconst 0, 1) := by decide +kernel
theorem d_W_law_2473 : decode (mC m_W_law) 2473 = .ok (.laload, 1) := by decide +kernel
theorem d_W_law_2474 : decode (mC m_W_law) 2474 = .ok (.iload 6, 2) := by decide +kernel
theorem d_W_law_2476 : decode (mC m_W_law) 2476 = .ok (.i2l, 1) := by decide +kernel
theorem d_W_law_2477 : decode (mC m_W_law) 2477 = .ok (.lcmp, 1) := by decide +kernel
theorem d_W_law_2478 : decode (mC m_W_law) 2478 = .ok (.ifCond .eq (5), 3) := by decide +kernel
theorem d_W_law_2481 : decode (mC m_W_law) 2481 = .ok (.iconst 0, 1) := by decide +kernel
theorem d_W_law_2482 : decode (mC m_W_law) 2482 = .ok (.ireturn, 1) := by decide +kernel
theorem d_W_law_2483 : decode (mC m_W_law) 2483 = .ok (.goto (837), 3) := by decide +kernel
theorem d_W_law_2486 : decode (mC m_W_law) 2486 = .ok (.aload_n 1, 1) := by decide +kernel
theorem d_W_law_2487 : decode (mC m_W_law) 2487 = .ok (.invokevirtual 288, 3) := by decide +kernel
theorem d_W_law_2490 : decode (mC m_W_law) 2490 = .ok (.aload_n 2, 1) := by decide +kernel
theorem d_W_law_2491 : decode (mC m_W_law) 2491 = .ok (.invokevirtual 291, 3) := by decide +kernel
theorem d_W_law_2494 : decode (mC m_W_law) 2494 = .ok (.if_icmp .eq (826), 3) := by decide +kernel
theorem d_W_law_2497 : decode (mC m_W_law) 2497 = .ok (.iconst 0, 1) := by decide +kernel
theorem d_W_law_2498 : decode (mC m_W_law) 2498 = .ok (.ireturn, 1) := by decide +kernel
theorem d_W_law_2499 : decode (mC m_W_law) 2499 = .ok (.aload_n 1, 1) := by decide +kernel
theorem d_W_law_2500 : decode (mC m_W_law) 2500 = .ok (.aload_n 0, 1) := by decide +kernel
theorem d_W_law_2501 : decode (mC m_W_law) 2501 = .ok (.iload 4, 2) := by decide +kernel
theorem d_W_law_2503 : decode (mC m_W_law) 2503 = .ok (.iconst 1, 1) := by decide +kernel
theorem d_W_law_2504 : decode (mC m_W_law) 2504 = .ok (.iadd, 1) := by decide +kernel
theorem d_W_law_2505 : decode (mC m_W_law) 2505 = .ok (.iaload, 1) := by decide +kernel
theorem d_W_law_2506 : decode (mC m_W_law) 2506 = .ok (.aload_n 3, 1) := by decide +kernel
theorem d_W_law_2507 : decode (mC m_W_law) 2507 = .ok (.invokestatic 292, 3) := by decide +kernel
theorem d_W_law_2510 : decode (mC m_W_law) 2510 = .ok (.istore 5, 2) := by decide +kernel
theorem d_W_law_2512 : decode (mC m_W_law) 2512 = .ok (.aload_n 2, 1) := by decide +kernel
theorem d_W_law_2513 : decode (mC m_W_law) 2513 = .ok (.aload_n 0, 1) := by decide +kernel
theorem d_W_law_2514 : decode (mC m_W_law) 2514 = .ok (.iload 4, 2) := by decide +kernel
theorem d_W_law_2516 : decode (mC m_W_law) 2516 = .ok (.iconst 1, 1) := by decide +kernel
theorem d_W_law_2517 : decode (mC m_W_law) 2517 = .ok (.iadd, 1) := by decide +kernel
theorem d_W_law_2518 : decode (mC m_W_law) 2518 = .ok (.iaload, 1) := by decide +kernel
theorem d_W_law_2519 : decode (mC m_W_law) 2519 = .ok (.invokevirtual 294, 3) := by decide +kernel
theorem d_W_law_2522 : decode (mC m_W_law) 2522 = .ok (.istore 6, 2) := by decide +kernel
theorem d_W_law_2524 : decode (mC m_W_law) 2524 = .ok (.aload_n 2, 1) := by decide +kernel
theorem d_W_law_2525 : decode (mC m_W_law) 2525 = .ok (.invokevirtual 173, 3) := by decide +kernel
theorem d_W_law_2528 : decode (mC m_W_law) 2528 = .ok (.iload 5, 2) := by decide +kernel
theorem d_W_law_2530 : decode (mC m_W_law) 2530 = .ok (.if_icmp .eq (5), 3) := by decide +kernel
theorem d_W_law_2533 : decode (mC m_W_law) 2533 = .ok (.iconst 0, 1) := by decide +kernel
theorem d_W_law_2534 : decode (mC m_W_law) 2534 = .ok (.ireturn, 1) := by decide +kernel
theorem d_W_law_2535 : decode (mC m_W_law) 2535 = .ok (.iload 5, 2) := by decide +kernel
theorem d_W_law_2537 : decode (mC m_W_law) 2537 = .ok (.ifCond .ne (22), 3) := by decide +kernel
theorem d_W_law_2540 : decode (mC m_W_law) 2540 = .ok (.aload_n 3, 1) := by decide +kernel
theorem d_W_law_2541 : decode (mC m_W_law) 2541 = .ok (.iconst 0, 1) := by decide +kernel
theorem d_W_law_2542 : decode (mC m_W_law) 2542 = .ok (.laload, 1) := by decide +kernel
theorem d_W_law_2543 : decode (mC m_W_law) 2543 = .ok (.iload 6, 2) := by decide +kernel
theorem d_W_law_2545 : decode (mC m_W_law) 2545 = .ok (.ifCond .eq (7), 3) := by decide +kernel
theorem d_W_law_2548 : decode (mC m_W_law) 2548 = .ok (.lconst 1, 1) := by decide +kernel
theorem d_W_law_2549 : decode (mC m_W_law) 2549 = .ok (.goto (4), 3) := by decide +kernel
theorem d_W_law_2552 : decode (mC m_W_law) 2552 = .ok (.lconst 0, 1) := by decide +kernel
theorem d_W_law_2553 : decode (mC m_W_law) 2553 = .ok (.lcmp, 1) := by decide +kernel
theorem d_W_law_2554 : decode (mC m_W_law) 2554 = .ok (.ifCond .eq (5), 3) := by decide +kernel
theorem d_W_law_2557 : decode (mC m_W_law) 2557 = .ok (.iconst 0, 1) := by decide +kernel
theorem d_W_law_2558 : decode (mC m_W_law) 2558 = .ok (.ireturn, 1) := by decide +kernel
theorem d_W_law_2559 : decode (mC m_W_law) 2559 = .ok (.goto (761), 3) := by decide +kernel
theorem d_W_law_2562 : decode (mC m_W_law) 2562 = .ok (.aload_n 1, 1) := by decide +kernel
theorem d_W_law_2563 : decode (mC m_W_law) 2563 = .ok (.aload_n 0, 1) := by decide +kernel
theorem d_W_law_2564 : decode (mC m_W_law) 2564 = .ok (.iload 4, 2) := by decide +kernel
theorem d_W_law_2566 : decode (mC m_W_law) 2566 = .ok (.iconst 1, 1) := by decide +kernel
theorem d_W_law_2567 : decode (mC m_W_law) 2567 = .ok (.iadd, 1) := by decide +kernel
theorem d_W_law_2568 : decode (mC m_W_law) 2568 = .ok (.iaload, 1) := by decide +kernel
theorem d_W_law_2569 : decode (mC m_W_law) 2569 = .ok (.aload_n 3, 1) := by decide +kernel
theorem d_W_law_2570 : decode (mC m_W_law) 2570 = .ok (.invokestatic 295, 3) := by decide +kernel
theorem d_W_law_2573 : decode (mC m_W_law) 2573 = .ok (.istore 5, 2) := by decide +kernel
theorem d_W_law_2575 : decode (mC m_W_law) 2575 = .ok (.aload_n 2, 1) := by decide +kernel
theorem d_W_law_2576 : decode (mC m_W_law) 2576 = .ok (.aload_n 0, 1) := by decide +kernel
theorem d_W_law_2577 : decode (mC m_W_law) 2577 = .ok (.iload 4, 2) := by decide +kernel
theorem d_W_law_2579 : decode (mC m_W_law) 2579 = .ok (.iconst 1, 1) := by decide +kernel
theorem d_W_law_2580 : decode (mC m_W_law) 2580 = .ok (.iadd, 1) := by decide +kernel
theorem d_W_law_2581 : decode (mC m_W_law) 2581 = .ok (.iaload, 1) := by decide +kernel
theorem d_W_law_2582 : decode (mC m_W_law) 2582 = .ok (.invokevirtual 297, 3) := by decide +kernel
theorem d_W_law_2585 : decode (mC m_W_law) 2585 = .ok (.istore 6, 2) := by decide +kernel
theorem d_W_law_2587 : decode (mC m_W_law) 2587 = .ok (.aload_n 2, 1) := by decide +kernel
theorem d_W_law_2588 : decode (mC m_W_law) 2588 = .ok (.invokevirtual 173, 3) := by decide +kernel
theorem d_W_law_2591 : decode (mC m_W_law) 2591 = .ok (.iload 5, 2) := by decide +kernel
theorem d_W_law_2593 : decode (mC m_W_law) 2593 = .ok (.if_icmp .eq (5), 3) := by decide +kernel
theorem d_W_law_2596 : decode (mC m_W_law) 2596 = .ok (.iconst 0, 1) := by decide +kernel
theorem d_W_law_2597 : decode (mC m_W_law) 2597 = .ok (.ireturn, 1) := by decide +kernel
theorem d_W_law_2598 : decode (mC m_W_law) 2598 = .ok (.iload 5, 2) := by decide +kernel
theorem d_W_law_2600 : decode (mC m_W_law) 2600 = .ok (.ifCond .ne (15), 3) := by decide +kernel
theorem d_W_law_2603 : decode (mC m_W_law) 2603 = .ok (.aload_n 3, 1) := by decide +kernel
theorem d_W_law_2604 : decode (mC m_W_law) 2604 = .ok (.iconst 0, 1) := by decide +kernel
theorem d_W_law_2605 : decode (mC m_W_law) 2605 = .ok (.laload, 1) := by decide +kernel
theorem d_W_law_2606 : decode (mC m_W_law) 2606 = .ok (.iload 6, 2) := by decide +kernel
theorem d_W_law_2608 : decode (mC m_W_law) 2608 = .ok (.i2l, 1) := by decide +kernel
theorem d_W_law_2609 : decode (mC m_W_law) 2609 = .ok (.lcmp, 1) := by decide +kernel
theorem d_W_law_2610 : decode (mC m_W_law) 2610 = .ok (.ifCond .eq (5), 3) := by decide +kernel
theorem d_W_law_2613 : decode (mC m_W_law) 2613 = .ok (.iconst 0, 1) := by decide +kernel
theorem d_W_law_2614 : decode (mC m_W_law) 2614 = .ok (.ireturn, 1) := by decide +kernel
theorem d_W_law_2615 : decode (mC m_W_law) 2615 = .ok (.goto (705), 3) := by decide +kernel
theorem d_W_law_2618 : decode (mC m_W_law) 2618 = .ok (.aload_n 1, 1) := by decide +kernel
theorem d_W_law_2619 : decode (mC m_W_law) 2619 = .ok (.aload_n 0, 1) := by decide +kernel
theorem d_W_law_2620 : decode (mC m_W_law) 2620 = .ok (.iload 4, 2) := by decide +kernel
theorem d_W_law_2622 : decode (mC m_W_law) 2622 = .ok (.iconst 1, 1) := by decide +kernel
theorem d_W_law_2623 : decode (mC m_W_law) 2623 = .ok (.iadd, 1) := by decide +kernel
theorem d_W_law_2624 : decode (mC m_W_law) 2624 = .ok (.iaload, 1) := by decide +kernel
theorem d_W_law_2625 : decode (mC m_W_law) 2625 = .ok (.aload_n 0, 1) := by decide +kernel
theorem d_W_law_2626 : decode (mC m_W_law) 2626 = .ok (.iload 4, 2) := by decide +kernel
theorem d_W_law_2628 : decode (mC m_W_law) 2628 = .ok (.iconst 2, 1) := by decide +kernel
theorem d_W_law_2629 : decode (mC m_W_law) 2629 = .ok (.iadd, 1) := by decide +kernel
theorem d_W_law_2630 : decode (mC m_W_law) 2630 = .ok (.iaload, 1) := by decide +kernel
theorem d_W_law_2631 : decode (mC m_W_law) 2631 = .ok (.aload_n 0, 1) := by decide +kernel
theorem d_W_law_2632 : decode (mC m_W_law) 2632 = .ok (.iload 4, 2) := by decide +kernel
theorem d_W_law_2634 : decode (mC m_W_law) 2634 = .ok (.iconst 3, 1) := by decide +kernel
theorem d_W_law_2635 : decode (mC m_W_law) 2635 = .ok (.iadd, 1) := by decide +kernel
theorem d_W_law_2636 : decode (mC m_W_law) 2636 = .ok (.iaload, 1) := by decide +kernel
theorem d_W_law_2637 : decode (mC m_W_law) 2637 = .ok (.aload_n 3, 1) := by decide +kernel
theorem d_W_law_2638 : decode (mC m_W_law) 2638 = .ok (.invokestatic 298, 3) := by decide +kernel
theorem d_W_law_2641 : decode (mC m_W_law) 2641 = .ok (.istore 5, 2) := by decide +kernel
theorem d_W_law_2643 : decode (mC m_W_law) 2643 = .ok (.aload_n 2, 1) := by decide +kernel
theorem d_W_law_2644 : decode (mC m_W_law) 2644 = .ok (.aload_n 0, 1) := by decide +kernel
theorem d_W_law_2645 : decode (mC m_W_law) 2645 = .ok (.iload 4, 2) := by decide +kernel
theorem d_W_law_2647 : decode (mC m_W_law) 2647 = .ok (.iconst 1, 1) := by decide +kernel
theorem d_W_law_2648 : decode (mC m_W_law) 2648 = .ok (.iadd, 1) := by decide +kernel
theorem d_W_law_2649 : decode (mC m_W_law) 2649 = .ok (.iaload, 1) := by decide +kernel
theorem d_W_law_2650 : decode (mC m_W_law) 2650 = .ok (.aload_n 0, 1) := by decide +kernel
theorem d_W_law_2651 : decode (mC m_W_law) 2651 = .ok (.iload 4, 2) := by decide +kernel
theorem d_W_law_2653 : decode (mC m_W_law) 2653 = .ok (.iconst 2, 1) := by decide +kernel
theorem d_W_law_2654 : decode (mC m_W_law) 2654 = .ok (.iadd, 1) := by decide +kernel
theorem d_W_law_2655 : decode (mC m_W_law) 2655 = .ok (.iaload, 1) := by decide +kernel
theorem d_W_law_2656 : decode (mC m_W_law) 2656 = .ok (.aload_n 0, 1) := by decide +kernel
theorem d_W_law_2657 : decode (mC m_W_law) 2657 = .ok (.iload 4, 2) := by decide +kernel
theorem d_W_law_2659 : decode (mC m_W_law) 2659 = .ok (.iconst 3, 1) := by decide +kernel
theorem d_W_law_2660 : decode (mC m_W_law) 2660 = .ok (.iadd, 1) := by decide +kernel
theorem d_W_law_2661 : decode (mC m_W_law) 2661 = .ok (.iaload, 1) := by decide +kernel
theorem d_W_law_2662 : decode (mC m_W_law) 2662 = .ok (.invokevirtual 300, 3) := by decide +kernel
theorem d_W_law_2665 : decode (mC m_W_law) 2665 = .ok (.istore 6, 2) := by decide +kernel
theorem d_W_law_2667 : decode (mC m_W_law) 2667 = .ok (.aload_n 2, 1) := by decide +kernel
theorem d_W_law_2668 : decode (mC m_W_law) 2668 = .ok (.invokevirtual 173, 3) := by decide +kernel
theorem d_W_law_2671 : decode (mC m_W_law) 2671 = .ok (.iload 5, 2) := by decide +kernel
theorem d_W_law_2673 : decode (mC m_W_law) 2673 = .ok (.if_icmp .eq (5), 3) := by decide +kernel
theorem d_W_law_2676 : decode (mC m_W_law) 2676 = .ok (.iconst 0, 1) := by decide +kernel
theorem d_W_law_2677 : decode (mC m_W_law) 2677 = .ok (.ireturn, 1) := by decide +kernel
theorem d_W_law_2678 : decode (mC m_W_law) 2678 = .ok (.iload 5, 2) := by decide +kernel
theorem d_W_law_2680 : decode (mC m_W_law) 2680 = .ok (.ifCond .ne (15), 3) := by decide +kernel
theorem d_W_law_2683 : decode (mC m_W_law) 2683 = .ok (.aload_n 3, 1) := by decide +kernel
theorem d_W_law_2684 : decode (mC m_W_law) 2684 = .ok (.iconst 0, 1) := by decide +kernel
theorem d_W_law_2685 : decode (mC m_W_law) 2685 = .ok (.laload, 1) := by decide +kernel
theorem d_W_law_2686 : decode (mC m_W_law) 2686 = .ok (.iload 6, 2) := by decide +kernel
theorem d_W_law_2688 : decode (mC m_W_law) 2688 = .ok (.i2l, 1) := by decide +kernel
theorem d_W_law_2689 : decode (mC m_W_law) 2689 = .ok (.lcmp, 1) := by decide +kernel
theorem d_W_law_2690 : decode (mC m_W_law) 2690 = .ok (.ifCond .eq (5), 3) := by decide +kernel
theorem d_W_law_2693 : decode (mC m_W_law) 2693 = .ok (.iconst 0, 1) := by decide +kernel
theorem d_W_law_2694 : decode (mC m_W_law) 2694 = .ok (.ireturn, 1) := by decide +kernel
theorem d_W_law_2695 : decode (mC m_W_law) 2695 = .ok (.goto (625), 3) := by decide +kernel
theorem d_W_law_2698 : decode (mC m_W_law) 2698 = .ok (.aload_n 1, 1) := by decide +kernel
theorem d_W_law_2699 : decode (mC m_W_law) 2699 = .ok (.aload_n 0, 1) := by decide +kernel
theorem d_W_law_2700 : decode (mC m_W_law) 2700 = .ok (.iload 4, 2) := by decide +kernel
theorem d_W_law_2702 : decode (mC m_W_law) 2702 = .ok (.iconst 1, 1) := by decide +kernel
theorem d_W_law_2703 : decode (mC m_W_law) 2703 = .ok (.iadd, 1) := by decide +kernel
theorem d_W_law_2704 : decode (mC m_W_law) 2704 = .ok (.iaload, 1) := by decide +kernel
theorem d_W_law_2705 : decode (mC m_W_law) 2705 = .ok (.aload_n 3, 1) := by decide +kernel
theorem d_W_law_2706 : decode (mC m_W_law) 2706 = .ok (.invokestatic 301, 3) := by decide +kernel
theorem d_W_law_2709 : decode (mC m_W_law) 2709 = .ok (.istore 5, 2) := by decide +kernel
theorem d_W_law_2711 : decode (mC m_W_law) 2711 = .ok (.aload_n 2, 1) := by decide +kernel
theorem d_W_law_2712 : decode (mC m_W_law) 2712 = .ok (.aload_n 0, 1) := by decide +kernel
theorem d_W_law_2713 : decode (mC m_W_law) 2713 = .ok (.iload 4, 2) := by decide +kernel
theorem d_W_law_2715 : decode (mC m_W_law) 2715 = .ok (.iconst 1, 1) := by decide +kernel
theorem d_W_law_2716 : decode (mC m_W_law) 2716 = .ok (.iadd, 1) := by decide +kernel
theorem d_W_law_2717 : decode (mC m_W_law) 2717 = .ok (.iaload, 1) := by decide +kernel
theorem d_W_law_2718 : decode (mC m_W_law) 2718 = .ok (.invokevirtual 303, 3) := by decide +kernel
theorem d_W_law_2721 : decode (mC m_W_law) 2721 = .ok (.istore 6, 2) := by decide +kernel
theorem d_W_law_2723 : decode (mC m_W_law) 2723 = .ok (.aload_n 2, 1) := by decide +kernel
theorem d_W_law_2724 : decode (mC m_W_law) 2724 = .ok (.invokevirtual 173, 3) := by decide +kernel
theorem d_W_law_2727 : decode (mC m_W_law) 2727 = .ok (.iload 5, 2) := by decide +kernel
theorem d_W_law_2729 : decode (mC m_W_law) 2729 = .ok (.if_icmp .eq (5), 3) := by decide +kernel
theorem d_W_law_2732 : decode (mC m_W_law) 2732 = .ok (.iconst 0, 1) := by decide +kernel
theorem d_W_law_2733 : decode (mC m_W_law) 2733 = .ok (.ireturn, 1) := by decide +kernel
theorem d_W_law_2734 : decode (mC m_W_law) 2734 = .ok (.iload 5, 2) := by decide +kernel
theorem d_W_law_2736 : decode (mC m_W_law) 2736 = .ok (.ifCond .ne (15), 3) := by decide +kernel
theorem d_W_law_2739 : decode (mC m_W_law) 2739 = .ok (.aload_n 3, 1) := by decide +kernel
theorem d_W_law_2740 : decode (mC m_W_law) 2740 = .ok (.iconst 0, 1) := by decide +kernel
theorem d_W_law_2741 : decode (mC m_W_law) 2741 = .ok (.laload, 1) := by decide +kernel
theorem d_W_law_2742 : decode (mC m_W_law) 2742 = .ok (.iload 6, 2) := by decide +kernel
theorem d_W_law_2744 : decode (mC m_W_law) 2744 = .ok (.i2l, 1) := by decide +kernel
theorem d_W_law_2745 : decode (mC m_W_law) 2745 = .ok (.lcmp, 1) := by decide +kernel
theorem d_W_law_2746 : decode (mC m_W_law) 2746 = .ok (.ifCond .eq (5), 3) := by decide +kernel
theorem d_W_law_2749 : decode (mC m_W_law) 2749 = .ok (.iconst 0, 1) := by decide +kernel
theorem d_W_law_2750 : decode (mC m_W_law) 2750 = .ok (.ireturn, 1) := by decide +kernel
theorem d_W_law_2751 : decode (mC m_W_law) 2751 = .ok (.goto (569), 3) := by decide +kernel
theorem d_W_law_2754 : decode (mC m_W_law) 2754 = .ok (.aload_n 1, 1) := by decide +kernel
theorem d_W_law_2755 : decode (mC m_W_law) 2755 = .ok (.aload_n 0, 1) := by decide +kernel
theorem d_W_law_2756 : decode (mC m_W_law) 2756 = .ok (.iload 4, 2) := by decide +kernel
theorem d_W_law_2758 : decode (mC m_W_law) 2758 = .ok (.iconst 1, 1) := by decide +kernel
theorem d_W_law_2759 : decode (mC m_W_law) 2759 = .ok (.iadd, 1) := by decide +kernel
theorem d_W_law_2760 : decode (mC m_W_law) 2760 = .ok (.iaload, 1) := by decide +kernel
theorem d_W_law_2761 : decode (mC m_W_law) 2761 = .ok (.aload_n 3, 1) := by decide +kernel
theorem d_W_law_2762 : decode (mC m_W_law) 2762 = .ok (.invokestatic 304, 3) := by decide +kernel
theorem d_W_law_2765 : decode (mC m_W_law) 2765 = .ok (.istore 5, 2) := by decide +kernel
theorem d_W_law_2767 : decode (mC m_W_law) 2767 = .ok (.aload_n 2, 1) := by decide +kernel
theorem d_W_law_2768 : decode (mC m_W_law) 2768 = .ok (.aload_n 0, 1) := by decide +kernel
theorem d_W_law_2769 : decode (mC m_W_law) 2769 = .ok (.iload 4, 2) := by decide +kernel
theorem d_W_law_2771 : decode (mC m_W_law) 2771 = .ok (.iconst 1, 1) := by decide +kernel
theorem d_W_law_2772 : decode (mC m_W_law) 2772 = .ok (.iadd, 1) := by decide +kernel
theorem d_W_law_2773 : decode (mC m_W_law) 2773 = .ok (.iaload, 1) := by decide +kernel
theorem d_W_law_2774 : decode (mC m_W_law) 2774 = .ok (.invokevirtual 306, 3) := by decide +kernel
theorem d_W_law_2777 : decode (mC m_W_law) 2777 = .ok (.istore 6, 2) := by decide +kernel
theorem d_W_law_2779 : decode (mC m_W_law) 2779 = .ok (.aload_n 2, 1) := by decide +kernel
theorem d_W_law_2780 : decode (mC m_W_law) 2780 = .ok (.invokevirtual 173, 3) := by decide +kernel
theorem d_W_law_2783 : decode (mC m_W_law) 2783 = .ok (.iload 5, 2) := by decide +kernel
theorem d_W_law_2785 : decode (mC m_W_law) 2785 = .ok (.if_icmp .eq (5), 3) := by decide +kernel
theorem d_W_law_2788 : decode (mC m_W_law) 2788 = .ok (.iconst 0, 1) := by decide +kernel
theorem d_W_law_2789 : decode (mC m_W_law) 2789 = .ok (.ireturn, 1) := by decide +kernel
theorem d_W_law_2790 : decode (mC m_W_law) 2790 = .ok (.iload 5, 2) := by decide +kernel
theorem d_W_law_2792 : decode (mC m_W_law) 2792 = .ok (.ifCond .ne (15), 3) := by decide +kernel
theorem d_W_law_2795 : decode (mC m_W_law) 2795 = .ok (.aload_n 3, 1) := by decide +kernel
theorem d_W_law_2796 : decode (mC m_W_law) 2796 = .ok (.iconst 0, 1) := by decide +kernel
theorem d_W_law_2797 : decode (mC m_W_law) 2797 = .ok (.laload, 1) := by decide +kernel
theorem d_W_law_2798 : decode (mC m_W_law) 2798 = .ok (.iload 6, 2) := by decide +kernel
theorem d_W_law_2800 : decode (mC m_W_law) 2800 = .ok (.i2l, 1) := by decide +kernel
theorem d_W_law_2801 : decode (mC m_W_law) 2801 = .ok (.lcmp, 1) := by decide +kernel
theorem d_W_law_2802 : decode (mC m_W_law) 2802 = .ok (.ifCond .eq (5), 3) := by decide +kernel
theorem d_W_law_2805 : decode (mC m_W_law) 2805 = .ok (.iconst 0, 1) := by decide +kernel
theorem d_W_law_2806 : decode (mC m_W_law) 2806 = .ok (.ireturn, 1) := by decide +kernel
theorem d_W_law_2807 : decode (mC m_W_law) 2807 = .ok (.goto (513), 3) := by decide +kernel
theorem d_W_law_2810 : decode (mC m_W_law) 2810 = .ok (.aload_n 1, 1) := by decide +kernel
theorem d_W_law_2811 : decode (mC m_W_law) 2811 = .ok (.aload_n 0, 1) := by decide +kernel
theorem d_W_law_2812 : decode (mC m_W_law) 2812 = .ok (.iload 4, 2) := by decide +kernel
theorem d_W_law_2814 : decode (mC m_W_law) 2814 = .ok (.iconst 1, 1) := by decide +kernel
theorem d_W_law_2815 : decode (mC m_W_law) 2815 = .ok (.iadd, 1) := by decide +kernel
theorem d_W_law_2816 : decode (mC m_W_law) 2816 = .ok (.iaload, 1) := by decide +kernel
theorem d_W_law_2817 : decode (mC m_W_law) 2817 = .ok (.aload_n 0, 1) := by decide +kernel
theorem d_W_law_2818 : decode (mC m_W_law) 2818 = .ok (.iload 4, 2) := by decide +kernel
theorem d_W_law_2820 : decode (mC m_W_law) 2820 = .ok (.iconst 2, 1) := by decide +kernel
theorem d_W_law_2821 : decode (mC m_W_law) 2821 = .ok (.iadd, 1) := by decide +kernel
theorem d_W_law_2822 : decode (mC m_W_law) 2822 = .ok (.iaload, 1) := by decide +kernel
theorem d_W_law_2823 : decode (mC m_W_law) 2823 = .ok (.aload_n 3, 1) := by decide +kernel
theorem d_W_law_2824 : decode (mC m_W_law) 2824 = .ok (.invokestatic 307, 3) := by decide +kernel
theorem d_W_law_2827 : decode (mC m_W_law) 2827 = .ok (.istore 5, 2) := by decide +kernel
theorem d_W_law_2829 : decode (mC m_W_law) 2829 = .ok (.aload_n 2, 1) := by decide +kernel
theorem d_W_law_2830 : decode (mC m_W_law) 2830 = .ok (.aload_n 0, 1) := by decide +kernel
theorem d_W_law_2831 : decode (mC m_W_law) 2831 = .ok (.iload 4, 2) := by decide +kernel
theorem d_W_law_2833 : decode (mC m_W_law) 2833 = .ok (.iconst 1, 1) := by decide +kernel
theorem d_W_law_2834 : decode (mC m_W_law) 2834 = .ok (.iadd, 1) := by decide +kernel
theorem d_W_law_2835 : decode (mC m_W_law) 2835 = .ok (.iaload, 1) := by decide +kernel
theorem d_W_law_2836 : decode (mC m_W_law) 2836 = .ok (.aload_n 0, 1) := by decide +kernel
theorem d_W_law_2837 : decode (mC m_W_law) 2837 = .ok (.iload 4, 2) := by decide +kernel
theorem d_W_law_2839 : decode (mC m_W_law) 2839 = .ok (.iconst 2, 1) := by decide +kernel
theorem d_W_law_2840 : decode (mC m_W_law) 2840 = .ok (.iadd, 1) := by decide +kernel
theorem d_W_law_2841 : decode (mC m_W_law) 2841 = .ok (.iaload, 1) := by decide +kernel
theorem d_W_law_2842 : decode (mC m_W_law) 2842 = .ok (.invokevirtual 309, 3) := by decide +kernel
theorem d_W_law_2845 : decode (mC m_W_law) 2845 = .ok (.istore 6, 2) := by decide +kernel
theorem d_W_law_2847 : decode (mC m_W_law) 2847 = .ok (.aload_n 2, 1) := by decide +kernel
theorem d_W_law_2848 : decode (mC m_W_law) 2848 = .ok (.invokevirtual 173, 3) := by decide +kernel
theorem d_W_law_2851 : decode (mC m_W_law) 2851 = .ok (.iload 5, 2) := by decide +kernel
theorem d_W_law_2853 : decode (mC m_W_law) 2853 = .ok (.if_icmp .eq (5), 3) := by decide +kernel
theorem d_W_law_2856 : decode (mC m_W_law) 2856 = .ok (.iconst 0, 1) := by decide +kernel
theorem d_W_law_2857 : decode (mC m_W_law) 2857 = .ok (.ireturn, 1) := by decide +kernel
theorem d_W_law_2858 : decode (mC m_W_law) 2858 = .ok (.iload 5, 2) := by decide +kernel
theorem d_W_law_2860 : decode (mC m_W_law) 2860 = .ok (.ifCond .ne (15), 3) := by decide +kernel
theorem d_W_law_2863 : decode (mC m_W_law) 2863 = .ok (.aload_n 3, 1) := by decide +kernel
theorem d_W_law_2864 : decode (mC m_W_law) 2864 = .ok (.iconst 0, 1) := by decide +kernel
theorem d_W_law_2865 : decode (mC m_W_law) 2865 = .ok (.laload, 1) := by decide +kernel
theorem d_W_law_2866 : decode (mC m_W_law) 2866 = .ok (.iload 6, 2) := by decide +kernel
theorem d_W_law_2868 : decode (mC m_W_law) 2868 = .ok (.i2l, 1) := by decide +kernel
theorem d_W_law_2869 : decode (mC m_W_law) 2869 = .ok (.lcmp, 1) := by decide +kernel
theorem d_W_law_2870 : decode (mC m_W_law) 2870 = .ok (.ifCond .eq (5), 3) := by decide +kernel
theorem d_W_law_2873 : decode (mC m_W_law) 2873 = .ok (.iconst 0, 1) := by decide +kernel
theorem d_W_law_2874 : decode (mC m_W_law) 2874 = .ok (.ireturn, 1) := by decide +kernel
theorem d_W_law_2875 : decode (mC m_W_law) 2875 = .ok (.goto (445), 3) := by decide +kernel
theorem d_W_law_2878 : decode (mC m_W_law) 2878 = .ok (.aload_n 1, 1) := by decide +kernel
theorem d_W_law_2879 : decode (mC m_W_law) 2879 = .ok (.aload_n 0, 1) := by decide +kernel
theorem d_W_law_2880 : decode (mC m_W_law) 2880 = .ok (.iload 4, 2) := by decide +kernel
theorem d_W_law_2882 : decode (mC m_W_law) 2882 = .ok (.iconst 1, 1) := by decide +kernel
theorem d_W_law_2883 : decode (mC m_W_law) 2883 = .ok (.iadd, 1) := by decide +kernel
theorem d_W_law_2884 : decode (mC m_W_law) 2884 = .ok (.iaload, 1) := by decide +kernel
theorem d_W_law_2885 : decode (mC m_W_law) 2885 = .ok (.aload_n 0, 1) := by decide +kernel
theorem d_W_law_2886 : decode (mC m_W_law) 2886 = .ok (.iload 4, 2) := by decide +kernel
theorem d_W_law_2888 : decode (mC m_W_law) 2888 = .ok (.iconst 2, 1) := by decide +kernel
theorem d_W_law_2889 : decode (mC m_W_law) 2889 = .ok (.iadd, 1) := by decide +kernel
theorem d_W_law_2890 : decode (mC m_W_law) 2890 = .ok (.iaload, 1) := by decide +kernel
theorem d_W_law_2891 : decode (mC m_W_law) 2891 = .ok (.aload_n 3, 1) := by decide +kernel
theorem d_W_law_2892 : decode (mC m_W_law) 2892 = .ok (.invokestatic 310, 3) := by decide +kernel
theorem d_W_law_2895 : decode (mC m_W_law) 2895 = .ok (.istore 5, 2) := by decide +kernel
theorem d_W_law_2897 : decode (mC m_W_law) 2897 = .ok (.aload_n 2, 1) := by decide +kernel
theorem d_W_law_2898 : decode (mC m_W_law) 2898 = .ok (.aload_n 0, 1) := by decide +kernel
theorem d_W_law_2899 : decode (mC m_W_law) 2899 = .ok (.iload 4, 2) := by decide +kernel
theorem d_W_law_2901 : decode (mC m_W_law) 2901 = .ok (.iconst 1, 1) := by decide +kernel
theorem d_W_law_2902 : decode (mC m_W_law) 2902 = .ok (.iadd, 1) := by decide +kernel
theorem d_W_law_2903 : decode (mC m_W_law) 2903 = .ok (.iaload, 1) := by decide +kernel
theorem d_W_law_2904 : decode (mC m_W_law) 2904 = .ok (.aload_n 0, 1) := by decide +kernel
theorem d_W_law_2905 : decode (mC m_W_law) 2905 = .ok (.iload 4, 2) := by decide +kernel
theorem d_W_law_2907 : decode (mC m_W_law) 2907 = .ok (.iconst 2, 1) := by decide +kernel
theorem d_W_law_2908 : decode (mC m_W_law) 2908 = .ok (.iadd, 1) := by decide +kernel
theorem d_W_law_2909 : decode (mC m_W_law) 2909 = .ok (.iaload, 1) := by decide +kernel
theorem d_W_law_2910 : decode (mC m_W_law) 2910 = .ok (.invokevirtual 312, 3) := by decide +kernel
theorem d_W_law_2913 : decode (mC m_W_law) 2913 = .ok (.istore 6, 2) := by decide +kernel
theorem d_W_law_2915 : decode (mC m_W_law) 2915 = .ok (.aload_n 2, 1) := by decide +kernel
theorem d_W_law_2916 : decode (mC m_W_law) 2916 = .ok (.invokevirtual 173, 3) := by decide +kernel
theorem d_W_law_2919 : decode (mC m_W_law) 2919 = .ok (.iload 5, 2) := by decide +kernel
theorem d_W_law_2921 : decode (mC m_W_law) 2921 = .ok (.if_icmp .eq (5), 3) := by decide +kernel
theorem d_W_law_2924 : decode (mC m_W_law) 2924 = .ok (.iconst 0, 1) := by decide +kernel
theorem d_W_law_2925 : decode (mC m_W_law) 2925 = .ok (.ireturn, 1) := by decide +kernel
theorem d_W_law_2926 : decode (mC m_W_law) 2926 = .ok (.iload 5, 2) := by decide +kernel
theorem d_W_law_2928 : decode (mC m_W_law) 2928 = .ok (.ifCond .ne (15), 3) := by decide +kernel
theorem d_W_law_2931 : decode (mC m_W_law) 2931 = .ok (.aload_n 3, 1) := by decide +kernel
theorem d_W_law_2932 : decode (mC m_W_law) 2932 = .ok (.iconst 0, 1) := by decide +kernel
theorem d_W_law_2933 : decode (mC m_W_law) 2933 = .ok (.laload, 1) := by decide +kernel
theorem d_W_law_2934 : decode (mC m_W_law) 2934 = .ok (.iload 6, 2) := by decide +kernel
theorem d_W_law_2936 : decode (mC m_W_law) 2936 = .ok (.i2l, 1) := by decide +kernel
theorem d_W_law_2937 : decode (mC m_W_law) 2937 = .ok (.lcmp, 1) := by decide +kernel
theorem d_W_law_2938 : decode (mC m_W_law) 2938 = .ok (.ifCond .eq (5), 3) := by decide +kernel
theorem d_W_law_2941 : decode (mC m_W_law) 2941 = .ok (.iconst 0, 1) := by decide +kernel
theorem d_W_law_2942 : decode (mC m_W_law) 2942 = .ok (.ireturn, 1) := by decide +kernel
theorem d_W_law_2943 : decode (mC m_W_law) 2943 = .ok (.goto (377), 3) := by decide +kernel
theorem d_W_law_2946 : decode (mC m_W_law) 2946 = .ok (.aload_n 1, 1) := by decide +kernel
theorem d_W_law_2947 : decode (mC m_W_law) 2947 = .ok (.aload_n 0, 1) := by decide +kernel
theorem d_W_law_2948 : decode (mC m_W_law) 2948 = .ok (.iload 4, 2) := by decide +kernel
theorem d_W_law_2950 : decode (mC m_W_law) 2950 = .ok (.iconst 1, 1) := by decide +kernel
theorem d_W_law_2951 : decode (mC m_W_law) 2951 = .ok (.iadd, 1) := by decide +kernel
theorem d_W_law_2952 : decode (mC m_W_law) 2952 = .ok (.iaload, 1) := by decide +kernel
theorem d_W_law_2953 : decode (mC m_W_law) 2953 = .ok (.aload_n 3, 1) := by decide +kernel
theorem d_W_law_2954 : decode (mC m_W_law) 2954 = .ok (.invokestatic 313, 3) := by decide +kernel
theorem d_W_law_2957 : decode (mC m_W_law) 2957 = .ok (.istore 5, 2) := by decide +kernel
theorem d_W_law_2959 : decode (mC m_W_law) 2959 = .ok (.aload_n 2, 1) := by decide +kernel
theorem d_W_law_2960 : decode (mC m_W_law) 2960 = .ok (.aload_n 0, 1) := by decide +kernel
theorem d_W_law_2961 : decode (mC m_W_law) 2961 = .ok (.iload 4, 2) := by decide +kernel
theorem d_W_law_2963 : decode (mC m_W_law) 2963 = .ok (.iconst 1, 1) := by decide +kernel
theorem d_W_law_2964 : decode (mC m_W_law) 2964 = .ok (.iadd, 1) := by decide +kernel
theorem d_W_law_2965 : decode (mC m_W_law) 2965 = .ok (.iaload, 1) := by decide +kernel
theorem d_W_law_2966 : decode (mC m_W_law) 2966 = .ok (.invokevirtual 315, 3) := by decide +kernel
theorem d_W_law_2969 : decode (mC m_W_law) 2969 = .ok (.istore 6, 2) := by decide +kernel
theorem d_W_law_2971 : decode (mC m_W_law) 2971 = .ok (.aload_n 2, 1) := by decide +kernel
theorem d_W_law_2972 : decode (mC m_W_law) 2972 = .ok (.invokevirtual 173, 3) := by decide +kernel
theorem d_W_law_2975 : decode (mC m_W_law) 2975 = .ok (.iload 5, 2) := by decide +kernel
theorem d_W_law_2977 : decode (mC m_W_law) 2977 = .ok (.if_icmp .eq (5), 3) := by decide +kernel
theorem d_W_law_2980 : decode (mC m_W_law) 2980 = .ok (.iconst 0, 1) := by decide +kernel
theorem d_W_law_2981 : decode (mC m_W_law) 2981 = .ok (.ireturn, 1) := by decide +kernel
theorem d_W_law_2982 : decode (mC m_W_law) 2982 = .ok (.iload 5, 2) := by decide +kernel
theorem d_W_law_2984 : decode (mC m_W_law) 2984 = .ok (.ifCond .ne (15), 3) := by decide +kernel
theorem d_W_law_2987 : decode (mC m_W_law) 2987 = .ok (.aload_n 3, 1) := by decide +kernel
theorem d_W_law_2988 : decode (mC m_W_law) 2988 = .ok (.iconst 0, 1) := by decide +kernel
theorem d_W_law_2989 : decode (mC m_W_law) 2989 = .ok (.laload, 1) := by decide +kernel
theorem d_W_law_2990 : decode (mC m_W_law) 2990 = .ok (.iload 6, 2) := by decide +kernel
theorem d_W_law_2992 : decode (mC m_W_law) 2992 = .ok (.i2l, 1) := by decide +kernel
theorem d_W_law_2993 : decode (mC m_W_law) 2993 = .ok (.lcmp, 1) := by decide +kernel
theorem d_W_law_2994 : decode (mC m_W_law) 2994 = .ok (.ifCond .eq (5), 3) := by decide +kernel
theorem d_W_law_2997 : decode (mC m_W_law) 2997 = .ok (.iconst 0, 1) := by decide +kernel
theorem d_W_law_2998 : decode (mC m_W_law) 2998 = .ok (.ireturn, 1) := by decide +kernel
theorem d_W_law_2999 : decode (mC m_W_law) 2999 = .ok (.goto (321), 3) := by decide +kernel
theorem d_W_law_3002 : decode (mC m_W_law) 3002 = .ok (.aload_n 1, 1) := by decide +kernel
theorem d_W_law_3003 : decode (mC m_W_law) 3003 = .ok (.aload_n 0, 1) := by decide +kernel
theorem d_W_law_3004 : decode (mC m_W_law) 3004 = .ok (.iload 4, 2) := by decide +kernel
theorem d_W_law_3006 : decode (mC m_W_law) 3006 = .ok (.iconst 1, 1) := by decide +kernel
theorem d_W_law_3007 : decode (mC m_W_law) 3007 = .ok (.iadd, 1) := by decide +kernel
theorem d_W_law_3008 : decode (mC m_W_law) 3008 = .ok (.iaload, 1) := by decide +kernel
theorem d_W_law_3009 : decode (mC m_W_law) 3009 = .ok (.aload_n 0, 1) := by decide +kernel
theorem d_W_law_3010 : decode (mC m_W_law) 3010 = .ok (.iload 4, 2) := by decide +kernel
theorem d_W_law_3012 : decode (mC m_W_law) 3012 = .ok (.iconst 2, 1) := by decide +kernel
theorem d_W_law_3013 : decode (mC m_W_law) 3013 = .ok (.iadd, 1) := by decide +kernel
theorem d_W_law_3014 : decode (mC m_W_law) 3014 = .ok (.iaload, 1) := by decide +kernel
theorem d_W_law_3015 : decode (mC m_W_law) 3015 = .ok (.aload_n 3, 1) := by decide +kernel
theorem d_W_law_3016 : decode (mC m_W_law) 3016 = .ok (.invokestatic 316, 3) := by decide +kernel
theorem d_W_law_3019 : decode (mC m_W_law) 3019 = .ok (.istore 5, 2) := by decide +kernel
theorem d_W_law_3021 : decode (mC m_W_law) 3021 = .ok (.aload_n 2, 1) := by decide +kernel
theorem d_W_law_3022 : decode (mC m_W_law) 3022 = .ok (.aload_n 0, 1) := by decide +kernel
theorem d_W_law_3023 : decode (mC m_W_law) 3023 = .ok (.iload 4, 2) := by decide +kernel
theorem d_W_law_3025 : decode (mC m_W_law) 3025 = .ok (.iconst 1, 1) := by decide +kernel
theorem d_W_law_3026 : decode (mC m_W_law) 3026 = .ok (.iadd, 1) := by decide +kernel
theorem d_W_law_3027 : decode (mC m_W_law) 3027 = .ok (.iaload, 1) := by decide +kernel
theorem d_W_law_3028 : decode (mC m_W_law) 3028 = .ok (.aload_n 0, 1) := by decide +kernel
theorem d_W_law_3029 : decode (mC m_W_law) 3029 = .ok (.iload 4, 2) := by decide +kernel
theorem d_W_law_3031 : decode (mC m_W_law) 3031 = .ok (.iconst 2, 1) := by decide +kernel
theorem d_W_law_3032 : decode (mC m_W_law) 3032 = .ok (.iadd, 1) := by decide +kernel
theorem d_W_law_3033 : decode (mC m_W_law) 3033 = .ok (.iaload, 1) := by decide +kernel
theorem d_W_law_3034 : decode (mC m_W_law) 3034 = .ok (.invokevirtual 318, 3) := by decide +kernel
theorem d_W_law_3037 : decode (mC m_W_law) 3037 = .ok (.istore 6, 2) := by decide +kernel
theorem d_W_law_3039 : decode (mC m_W_law) 3039 = .ok (.aload_n 2, 1) := by decide +kernel
theorem d_W_law_3040 : decode (mC m_W_law) 3040 = .ok (.invokevirtual 173, 3) := by decide +kernel
theorem d_W_law_3043 : decode (mC m_W_law) 3043 = .ok (.iload 5, 2) := by decide +kernel
theorem d_W_law_3045 : decode (mC m_W_law) 3045 = .ok (.if_icmp .eq (5), 3) := by decide +kernel
theorem d_W_law_3048 : decode (mC m_W_law) 3048 = .ok (.iconst 0, 1) := by decide +kernel
theorem d_W_law_3049 : decode (mC m_W_law) 3049 = .ok (.ireturn, 1) := by decide +kernel
theorem d_W_law_3050 : decode (mC m_W_law) 3050 = .ok (.iload 5, 2) := by decide +kernel
theorem d_W_law_3052 : decode (mC m_W_law) 3052 = .ok (.ifCond .ne (15), 3) := by decide +kernel
theorem d_W_law_3055 : decode (mC m_W_law) 3055 = .ok (.aload_n 3, 1) := by decide +kernel
theorem d_W_law_3056 : decode (mC m_W_law) 3056 = .ok (.iconst 0, 1) := by decide +kernel
theorem d_W_law_3057 : decode (mC m_W_law) 3057 = .ok (.laload, 1) := by decide +kernel
theorem d_W_law_3058 : decode (mC m_W_law) 3058 = .ok (.iload 6, 2) := by decide +kernel
theorem d_W_law_3060 : decode (mC m_W_law) 3060 = .ok (.i2l, 1) := by decide +kernel
theorem d_W_law_3061 : decode (mC m_W_law) 3061 = .ok (.lcmp, 1) := by decide +kernel
theorem d_W_law_3062 : decode (mC m_W_law) 3062 = .ok (.ifCond .eq (5), 3) := by decide +kernel
theorem d_W_law_3065 : decode (mC m_W_law) 3065 = .ok (.iconst 0, 1) := by decide +kernel
theorem d_W_law_3066 : decode (mC m_W_law) 3066 = .ok (.ireturn, 1) := by decide +kernel
theorem d_W_law_3067 : decode (mC m_W_law) 3067 = .ok (.goto (253), 3) := by decide +kernel
theorem d_W_law_3070 : decode (mC m_W_law) 3070 = .ok (.aload_n 1, 1) := by decide +kernel
theorem d_W_law_3071 : decode (mC m_W_law) 3071 = .ok (.aload_n 0, 1) := by decide +kernel
theorem d_W_law_3072 : decode (mC m_W_law) 3072 = .ok (.iload 4, 2) := by decide +kernel
theorem d_W_law_3074 : decode (mC m_W_law) 3074 = .ok (.iconst 1, 1) := by decide +kernel
theorem d_W_law_3075 : decode (mC m_W_law) 3075 = .ok (.iadd, 1) := by decide +kernel
theorem d_W_law_3076 : decode (mC m_W_law) 3076 = .ok (.iaload, 1) := by decide +kernel
theorem d_W_law_3077 : decode (mC m_W_law) 3077 = .ok (.aload_n 3, 1) := by decide +kernel
theorem d_W_law_3078 : decode (mC m_W_law) 3078 = .ok (.invokestatic 319, 3) := by decide +kernel
theorem d_W_law_3081 : decode (mC m_W_law) 3081 = .ok (.istore 5, 2) := by decide +kernel
theorem d_W_law_3083 : decode (mC m_W_law) 3083 = .ok (.aload_n 2, 1) := by decide +kernel
theorem d_W_law_3084 : decode (mC m_W_law) 3084 = .ok (.aload_n 0, 1) := by decide +kernel
theorem d_W_law_3085 : decode (mC m_W_law) 3085 = .ok (.iload 4, 2) := by decide +kernel
theorem d_W_law_3087 : decode (mC m_W_law) 3087 = .ok (.iconst 1, 1) := by decide +kernel
theorem d_W_law_3088 : decode (mC m_W_law) 3088 = .ok (.iadd, 1) := by decide +kernel
theorem d_W_law_3089 : decode (mC m_W_law) 3089 = .ok (.iaload, 1) := by decide +kernel
theorem d_W_law_3090 : decode (mC m_W_law) 3090 = .ok (.invokevirtual 321, 3) := by decide +kernel
theorem d_W_law_3093 : decode (mC m_W_law) 3093 = .ok (.istore 6, 2) := by decide +kernel
theorem d_W_law_3095 : decode (mC m_W_law) 3095 = .ok (.aload_n 2, 1) := by decide +kernel
theorem d_W_law_3096 : decode (mC m_W_law) 3096 = .ok (.invokevirtual 173, 3) := by decide +kernel
theorem d_W_law_3099 : decode (mC m_W_law) 3099 = .ok (.iload 5, 2) := by decide +kernel
theorem d_W_law_3101 : decode (mC m_W_law) 3101 = .ok (.if_icmp .eq (5), 3) := by decide +kernel
theorem d_W_law_3104 : decode (mC m_W_law) 3104 = .ok (.iconst 0, 1) := by decide +kernel
theorem d_W_law_3105 : decode (mC m_W_law) 3105 = .ok (.ireturn, 1) := by decide +kernel
theorem d_W_law_3106 : decode (mC m_W_law) 3106 = .ok (.iload 5, 2) := by decide +kernel
theorem d_W_law_3108 : decode (mC m_W_law) 3108 = .ok (.ifCond .ne (15), 3) := by decide +kernel
theorem d_W_law_3111 : decode (mC m_W_law) 3111 = .ok (.aload_n 3, 1) := by decide +kernel
theorem d_W_law_3112 : decode (mC m_W_law) 3112 = .ok (.iconst 0, 1) := by decide +kernel
theorem d_W_law_3113 : decode (mC m_W_law) 3113 = .ok (.laload, 1) := by decide +kernel
theorem d_W_law_3114 : decode (mC m_W_law) 3114 = .ok (.iload 6, 2) := by decide +kernel
theorem d_W_law_3116 : decode (mC m_W_law) 3116 = .ok (.i2l, 1) := by decide +kernel
theorem d_W_law_3117 : decode (mC m_W_law) 3117 = .ok (.lcmp, 1) := by decide +kernel
theorem d_W_law_3118 : decode (mC m_W_law) 3118 = .ok (.ifCond .eq (5), 3) := by decide +kernel
theorem d_W_law_3121 : decode (mC m_W_law) 3121 = .ok (.iconst 0, 1) := by decide +kernel
theorem d_W_law_3122 : decode (mC m_W_law) 3122 = .ok (.ireturn, 1) := by decide +kernel
theorem d_W_law_3123 : decode (mC m_W_law) 3123 = .ok (.goto (197), 3) := by decide +kernel
theorem d_W_law_3126 : decode (mC m_W_law) 3126 = .ok (.aload_n 1, 1) := by decide +kernel
theorem d_W_law_3127 : decode (mC m_W_law) 3127 = .ok (.aload_n 0, 1) := by decide +kernel
theorem d_W_law_3128 : decode (mC m_W_law) 3128 = .ok (.iload 4, 2) := by decide +kernel
theorem d_W_law_3130 : decode (mC m_W_law) 3130 = .ok (.iconst 1, 1) := by decide +kernel
theorem d_W_law_3131 : decode (mC m_W_law) 3131 = .ok (.iadd, 1) := by decide +kernel
theorem d_W_law_3132 : decode (mC m_W_law) 3132 = .ok (.iaload, 1) := by decide +kernel
theorem d_W_law_3133 : decode (mC m_W_law) 3133 = .ok (.aload_n 3, 1) := by decide +kernel
theorem d_W_law_3134 : decode (mC m_W_law) 3134 = .ok (.invokestatic 322, 3) := by decide +kernel
theorem d_W_law_3137 : decode (mC m_W_law) 3137 = .ok (.istore 5, 2) := by decide +kernel
theorem d_W_law_3139 : decode (mC m_W_law) 3139 = .ok (.aload_n 2, 1) := by decide +kernel
theorem d_W_law_3140 : decode (mC m_W_law) 3140 = .ok (.aload_n 0, 1) := by decide +kernel
theorem d_W_law_3141 : decode (mC m_W_law) 3141 = .ok (.iload 4, 2) := by decide +kernel
theorem d_W_law_3143 : decode (mC m_W_law) 3143 = .ok (.iconst 1, 1) := by decide +kernel
theorem d_W_law_3144 : decode (mC m_W_law) 3144 = .ok (.iadd, 1) := by decide +kernel
theorem d_W_law_3145 : decode (mC m_W_law) 3145 = .ok (.iaload, 1) := by decide +kernel
theorem d_W_law_3146 : decode (mC m_W_law) 3146 = .ok (.invokevirtual 324, 3) := by decide +kernel
theorem d_W_law_3149 : decode (mC m_W_law) 3149 = .ok (.istore 6, 2) := by decide +kernel
theorem d_W_law_3151 : decode (mC m_W_law) 3151 = .ok (.aload_n 2, 1) := by decide +kernel
theorem d_W_law_3152 : decode (mC m_W_law) 3152 = .ok (.invokevirtual 173, 3) := by decide +kernel
theorem d_W_law_3155 : decode (mC m_W_law) 3155 = .ok (.iload 5, 2) := by decide +kernel
theorem d_W_law_3157 : decode (mC m_W_law) 3157 = .ok (.if_icmp .eq (5), 3) := by decide +kernel
theorem d_W_law_3160 : decode (mC m_W_law) 3160 = .ok (.iconst 0, 1) := by decide +kernel
theorem d_W_law_3161 : decode (mC m_W_law) 3161 = .ok (.ireturn, 1) := by decide +kernel
theorem d_W_law_3162 : decode (mC m_W_law) 3162 = .ok (.iload 5, 2) := by decide +kernel
theorem d_W_law_3164 : decode (mC m_W_law) 3164 = .ok (.ifCond .ne (15), 3) := by decide +kernel
theorem d_W_law_3167 : decode (mC m_W_law) 3167 = .ok (.aload_n 3, 1) := by decide +kernel
theorem d_W_law_3168 : decode (mC m_W_law) 3168 = .ok (.iconst 0, 1) := by decide +kernel
theorem d_W_law_3169 : decode (mC m_W_law) 3169 = .ok (.laload, 1) := by decide +kernel
theorem d_W_law_3170 : decode (mC m_W_law) 3170 = .ok (.iload 6, 2) := by decide +kernel
theorem d_W_law_3172 : decode (mC m_W_law) 3172 = .ok (.i2l, 1) := by decide +kernel
theorem d_W_law_3173 : decode (mC m_W_law) 3173 = .ok (.lcmp, 1) := by decide +kernel
theorem d_W_law_3174 : decode (mC m_W_law) 3174 = .ok (.ifCond .eq (5), 3) := by decide +kernel
theorem d_W_law_3177 : decode (mC m_W_law) 3177 = .ok (.iconst 0, 1) := by decide +kernel
theorem d_W_law_3178 : decode (mC m_W_law) 3178 = .ok (.ireturn, 1) := by decide +kernel
theorem d_W_law_3179 : decode (mC m_W_law) 3179 = .ok (.goto (141), 3) := by decide +kernel
theorem d_W_law_3182 : decode (mC m_W_law) 3182 = .ok (.aload_n 1, 1) := by decide +kernel
theorem d_W_law_3183 : decode (mC m_W_law) 3183 = .ok (.invokevirtual 325, 3) := by decide +kernel
theorem d_W_law_3186 : decode (mC m_W_law) 3186 = .ok (.aload_n 2, 1) := by decide +kernel
theorem d_W_law_3187 : decode (mC m_W_law) 3187 = .ok (.invokevirtual 328, 3) := by decide +kernel
theorem d_W_law_3190 : decode (mC m_W_law) 3190 = .ok (.if_icmp .eq (130), 3) := by decide +kernel
theorem d_W_law_3193 : decode (mC m_W_law) 3193 = .ok (.iconst 0, 1) := by decide +kernel
theorem d_W_law_3194 : decode (mC m_W_law) 3194 = .ok (.ireturn, 1) := by decide +kernel
theorem d_W_law_3195 : decode (mC m_W_law) 3195 = .ok (.aload_n 1, 1) := by decide +kernel
theorem d_W_law_3196 : decode (mC m_W_law) 3196 = .ok (.aload_n 0, 1) := by decide +kernel
theorem d_W_law_3197 : decode (mC m_W_law) 3197 = .ok (.iload 4, 2) := by decide +kernel
theorem d_W_law_3199 : decode (mC m_W_law) 3199 = .ok (.iconst 1, 1) := by decide +kernel
theorem d_W_law_3200 : decode (mC m_W_law) 3200 = .ok (.iadd, 1) := by decide +kernel
theorem d_W_law_3201 : decode (mC m_W_law) 3201 = .ok (.iaload, 1) := by decide +kernel
theorem d_W_law_3202 : decode (mC m_W_law) 3202 = .ok (.aload_n 3, 1) := by decide +kernel
theorem d_W_law_3203 : decode (mC m_W_law) 3203 = .ok (.invokestatic 329, 3) := by decide +kernel
theorem d_W_law_3206 : decode (mC m_W_law) 3206 = .ok (.istore 5, 2) := by decide +kernel
theorem d_W_law_3208 : decode (mC m_W_law) 3208 = .ok (.aload_n 2, 1) := by decide +kernel
theorem d_W_law_3209 : decode (mC m_W_law) 3209 = .ok (.aload_n 0, 1) := by decide +kernel
theorem d_W_law_3210 : decode (mC m_W_law) 3210 = .ok (.iload 4, 2) := by decide +kernel
theorem d_W_law_3212 : decode (mC m_W_law) 3212 = .ok (.iconst 1, 1) := by decide +kernel
theorem d_W_law_3213 : decode (mC m_W_law) 3213 = .ok (.iadd, 1) := by decide +kernel
theorem d_W_law_3214 : decode (mC m_W_law) 3214 = .ok (.iaload, 1) := by decide +kernel
theorem d_W_law_3215 : decode (mC m_W_law) 3215 = .ok (.invokevirtual 331, 3) := by decide +kernel
theorem d_W_law_3218 : decode (mC m_W_law) 3218 = .ok (.istore 6, 2) := by decide +kernel
theorem d_W_law_3220 : decode (mC m_W_law) 3220 = .ok (.aload_n 2, 1) := by decide +kernel
theorem d_W_law_3221 : decode (mC m_W_law) 3221 = .ok (.invokevirtual 173, 3) := by decide +kernel
theorem d_W_law_3224 : decode (mC m_W_law) 3224 = .ok (.iload 5, 2) := by decide +kernel
theorem d_W_law_3226 : decode (mC m_W_law) 3226 = .ok (.if_icmp .eq (5), 3) := by decide +kernel
theorem d_W_law_3229 : decode (mC m_W_law) 3229 = .ok (.iconst 0, 1) := by decide +kernel
theorem d_W_law_3230 : decode (mC m_W_law) 3230 = .ok (.ireturn, 1) := by decide +kernel
theorem d_W_law_3231 : decode (mC m_W_law) 3231 = .ok (.iload 5, 2) := by decide +kernel
theorem d_W_law_3233 : decode (mC m_W_law) 3233 = .ok (.ifCond .ne (15), 3) := by decide +kernel
theorem d_W_law_3236 : decode (mC m_W_law) 3236 = .ok (.aload_n 3, 1) := by decide +kernel
theorem d_W_law_3237 : decode (mC m_W_law) 3237 = .ok (.iconst 0, 1) := by decide +kernel
theorem d_W_law_3238 : decode (mC m_W_law) 3238 = .ok (.laload, 1) := by decide +kernel
theorem d_W_law_3239 : decode (mC m_W_law) 3239 = .ok (.iload 6, 2) := by decide +kernel
theorem d_W_law_3241 : decode (mC m_W_law) 3241 = .ok (.i2l, 1) := by decide +kernel
theorem d_W_law_3242 : decode (mC m_W_law) 3242 = .ok (.lcmp, 1) := by decide +kernel
theorem d_W_law_3243 : decode (mC m_W_law) 3243 = .ok (.ifCond .eq (5), 3) := by decide +kernel
theorem d_W_law_3246 : decode (mC m_W_law) 3246 = .ok (.iconst 0, 1) := by decide +kernel
theorem d_W_law_3247 : decode (mC m_W_law) 3247 = .ok (.ireturn, 1) := by decide +kernel
theorem d_W_law_3248 : decode (mC m_W_law) 3248 = .ok (.goto (72), 3) := by decide +kernel
theorem d_W_law_3251 : decode (mC m_W_law) 3251 = .ok (.aload_n 1, 1) := by decide +kernel
theorem d_W_law_3252 : decode (mC m_W_law) 3252 = .ok (.invokevirtual 332, 3) := by decide +kernel
theorem d_W_law_3255 : decode (mC m_W_law) 3255 = .ok (.aload_n 2, 1) := by decide +kernel
theorem d_W_law_3256 : decode (mC m_W_law) 3256 = .ok (.invokevirtual 335, 3) := by decide +kernel
theorem d_W_law_3259 : decode (mC m_W_law) 3259 = .ok (.if_icmp .eq (61), 3) := by decide +kernel
theorem d_W_law_3262 : decode (mC m_W_law) 3262 = .ok (.iconst 0, 1) := by decide +kernel
theorem d_W_law_3263 : decode (mC m_W_law) 3263 = .ok (.ireturn, 1) := by decide +kernel
theorem d_W_law_3264 : decode (mC m_W_law) 3264 = .ok (.aload_n 1, 1) := by decide +kernel
theorem d_W_law_3265 : decode (mC m_W_law) 3265 = .ok (.aload_n 0, 1) := by decide +kernel
theorem d_W_law_3266 : decode (mC m_W_law) 3266 = .ok (.iload 4, 2) := by decide +kernel
theorem d_W_law_3268 : decode (mC m_W_law) 3268 = .ok (.iconst 1, 1) := by decide +kernel
theorem d_W_law_3269 : decode (mC m_W_law) 3269 = .ok (.iadd, 1) := by decide +kernel
theorem d_W_law_3270 : decode (mC m_W_law) 3270 = .ok (.iaload, 1) := by decide +kernel
theorem d_W_law_3271 : decode (mC m_W_law) 3271 = .ok (.aload_n 3, 1) := by decide +kernel
theorem d_W_law_3272 : decode (mC m_W_law) 3272 = .ok (.invokestatic 336, 3) := by decide +kernel
theorem d_W_law_3275 : decode (mC m_W_law) 3275 = .ok (.istore 5, 2) := by decide +kernel
theorem d_W_law_3277 : decode (mC m_W_law) 3277 = .ok (.aload_n 2, 1) := by decide +kernel
theorem d_W_law_3278 : decode (mC m_W_law) 3278 = .ok (.aload_n 0, 1) := by decide +kernel
theorem d_W_law_3279 : decode (mC m_W_law) 3279 = .ok (.iload 4, 2) := by decide +kernel
theorem d_W_law_3281 : decode (mC m_W_law) 3281 = .ok (.iconst 1, 1) := by decide +kernel
theorem d_W_law_3282 : decode (mC m_W_law) 3282 = .ok (.iadd, 1) := by decide +kernel
theorem d_W_law_3283 : decode (mC m_W_law) 3283 = .ok (.iaload, 1) := by decide +kernel
theorem d_W_law_3284 : decode (mC m_W_law) 3284 = .ok (.invokevirtual 338, 3) := by decide +kernel
theorem d_W_law_3287 : decode (mC m_W_law) 3287 = .ok (.istore 6, 2) := by decide +kernel
theorem d_W_law_3289 : decode (mC m_W_law) 3289 = .ok (.aload_n 2, 1) := by decide +kernel
theorem d_W_law_3290 : decode (mC m_W_law) 3290 = .ok (.invokevirtual 173, 3) := by decide +kernel
theorem d_W_law_3293 : decode (mC m_W_law) 3293 = .ok (.iload 5, 2) := by decide +kernel
theorem d_W_law_3295 : decode (mC m_W_law) 3295 = .ok (.if_icmp .eq (5), 3) := by decide +kernel
theorem d_W_law_3298 : decode (mC m_W_law) 3298 = .ok (.iconst 0, 1) := by decide +kernel
theorem d_W_law_3299 : decode (mC m_W_law) 3299 = .ok (.ireturn, 1) := by decide +kernel
theorem d_W_law_3300 : decode (mC m_W_law) 3300 = .ok (.iload 5, 2) := by decide +kernel
theorem d_W_law_3302 : decode (mC m_W_law) 3302 = .ok (.ifCond .ne (15), 3) := by decide +kernel
theorem d_W_law_3305 : decode (mC m_W_law) 3305 = .ok (.aload_n 3, 1) := by decide +kernel
theorem d_W_law_3306 : decode (mC m_W_law) 3306 = .ok (.iconst 0, 1) := by decide +kernel
theorem d_W_law_3307 : decode (mC m_W_law) 3307 = .ok (.laload, 1) := by decide +kernel
theorem d_W_law_3308 : decode (mC m_W_law) 3308 = .ok (.iload 6, 2) := by decide +kernel
theorem d_W_law_3310 : decode (mC m_W_law) 3310 = .ok (.i2l, 1) := by decide +kernel
theorem d_W_law_3311 : decode (mC m_W_law) 3311 = .ok (.lcmp, 1) := by decide +kernel
theorem d_W_law_3312 : decode (mC m_W_law) 3312 = .ok (.ifCond .eq (5), 3) := by decide +kernel
theorem d_W_law_3315 : decode (mC m_W_law) 3315 = .ok (.iconst 0, 1) := by decide +kernel
theorem d_W_law_3316 : decode (mC m_W_law) 3316 = .ok (.ireturn, 1) := by decide +kernel
theorem d_W_law_3317 : decode (mC m_W_law) 3317 = .ok (.goto (3), 3) := by decide +kernel
theorem d_W_law_3320 : decode (mC m_W_law) 3320 = .ok (.iinc 4 (6), 3) := by decide +kernel
theorem d_W_law_3323 : decode (mC m_W_law) 3323 = .ok (.goto (-3300), 3) := by decide +kernel
theorem d_W_law_3326 : decode (mC m_W_law) 3326 = .ok (.iconst 1, 1) := by decide +kernel
theorem d_W_law_3327 : decode (mC m_W_law) 3327 = .ok (.ireturn, 1) := by decide +kernel
