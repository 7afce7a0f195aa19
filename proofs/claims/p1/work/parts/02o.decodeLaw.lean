theorem d_W_law_0 : decode code 0 = .ok (.new 8, 3) := by decide +kernel
theorem d_W_law_3 : decode code 3 = .ok (.dup, 1) := by decide +kernel
theorem d_W_law_4 : decode code 4 = .ok (.invokespecial 163, 3) := by decide +kernel
theorem d_W_law_7 : decode code 7 = .ok (.astore_n 1, 1) := by decide +kernel
theorem d_W_law_8 : decode code 8 = .ok (.new 164, 3) := by decide +kernel
theorem d_W_law_11 : decode code 11 = .ok (.dup, 1) := by decide +kernel
theorem d_W_law_12 : decode code 12 = .ok (.invokespecial 166, 3) := by decide +kernel
theorem d_W_law_15 : decode code 15 = .ok (.astore_n 2, 1) := by decide +kernel
theorem d_W_law_16 : decode code 16 = .ok (.iconst 1, 1) := by decide +kernel
theorem d_W_law_17 : decode code 17 = .ok (.newarray .long, 2) := by decide +kernel
theorem d_W_law_19 : decode code 19 = .ok (.astore_n 3, 1) := by decide +kernel
theorem d_W_law_20 : decode code 20 = .ok (.iconst 0, 1) := by decide +kernel
theorem d_W_law_21 : decode code 21 = .ok (.istore 4, 2) := by decide +kernel
theorem d_W_law_23 : decode code 23 = .ok (.iload 4, 2) := by decide +kernel
theorem d_W_law_25 : decode code 25 = .ok (.aload_n 0, 1) := by decide +kernel
theorem d_W_law_26 : decode code 26 = .ok (.arraylength, 1) := by decide +kernel
theorem d_W_law_27 : decode code 27 = .ok (.bipush (6), 2) := by decide +kernel
theorem d_W_law_29 : decode code 29 = .ok (.isub, 1) := by decide +kernel
theorem d_W_law_30 : decode code 30 = .ok (.if_icmp .gt (3296), 3) := by decide +kernel
theorem d_W_law_33 : decode code 33 = .ok (.aload_n 0, 1) := by decide +kernel
theorem d_W_law_34 : decode code 34 = .ok (.iload 4, 2) := by decide +kernel
theorem d_W_law_36 : decode code 36 = .ok (.iaload, 1) := by decide +kernel
theorem d_W_law_37 : decode code 37 = .ok (.bipush (63), 2) := by decide +kernel
theorem d_W_law_39 : decode code 39 = .ok (.iand, 1) := by decide +kernel
theorem d_W_law_40 : decode code 40 = .ok (.tableswitch (3280) (0) (50) #[220, 276, 344, 412, 516, 529, 573, 629, 725, 805, 901, 957, 1013, 1069, 1125, 1181, 1194, 1257, 1320, 1376, 1484, 1540, 1603, 1671, 1751, 1819, 1887, 1979, 2035, 2103, 2166, 2222, 2302, 2358, 2402, 2446, 2459, 2522, 2578, 2658, 2714, 2770, 2838, 2906, 2962, 3030, 3086, 3142, 3155, 3211, 3224], 220) := by decide +kernel
theorem d_W_law_260 : decode code 260 = .ok (.aload_n 1, 1) := by decide +kernel
theorem d_W_law_261 : decode code 261 = .ok (.aload_n 0, 1) := by decide +kernel
theorem d_W_law_262 : decode code 262 = .ok (.iload 4, 2) := by decide +kernel
theorem d_W_law_264 : decode code 264 = .ok (.iconst 1, 1) := by decide +kernel
theorem d_W_law_265 : decode code 265 = .ok (.iadd, 1) := by decide +kernel
theorem d_W_law_266 : decode code 266 = .ok (.iaload, 1) := by decide +kernel
theorem d_W_law_267 : decode code 267 = .ok (.aload_n 3, 1) := by decide +kernel
theorem d_W_law_268 : decode code 268 = .ok (.invokestatic 167, 3) := by decide +kernel
theorem d_W_law_271 : decode code 271 = .ok (.istore 5, 2) := by decide +kernel
theorem d_W_law_273 : decode code 273 = .ok (.aload_n 2, 1) := by decide +kernel
theorem d_W_law_274 : decode code 274 = .ok (.aload_n 0, 1) := by decide +kernel
theorem d_W_law_275 : decode code 275 = .ok (.iload 4, 2) := by decide +kernel
theorem d_W_law_277 : decode code 277 = .ok (.iconst 1, 1) := by decide +kernel
theorem d_W_law_278 : decode code 278 = .ok (.iadd, 1) := by decide +kernel
theorem d_W_law_279 : decode code 279 = .ok (.iaload, 1) := by decide +kernel
theorem d_W_law_280 : decode code 280 = .ok (.invokevirtual 172, 3) := by decide +kernel
theorem d_W_law_283 : decode code 283 = .ok (.istore 6, 2) := by decide +kernel
theorem d_W_law_285 : decode code 285 = .ok (.aload_n 2, 1) := by decide +kernel
theorem d_W_law_286 : decode code 286 = .ok (.invokevirtual 173, 3) := by decide +kernel
theorem d_W_law_289 : decode code 289 = .ok (.iload 5, 2) := by decide +kernel
theorem d_W_law_291 : decode code 291 = .ok (.if_icmp .eq (5), 3) := by decide +kernel
theorem d_W_law_294 : decode code 294 = .ok (.iconst 0, 1) := by decide +kernel
theorem d_W_law_295 : decode code 295 = .ok (.ireturn, 1) := by decide +kernel
theorem d_W_law_296 : decode code 296 = .ok (.iload 5, 2) := by decide +kernel
theorem d_W_law_298 : decode code 298 = .ok (.ifCond .ne (15), 3) := by decide +kernel
theorem d_W_law_301 : decode code 301 = .ok (.aload_n 3, 1) := by decide +kernel
theorem d_W_law_302 : decode code 302 = .ok (.iconst 0, 1) := by decide +kernel
theorem d_W_law_303 : decode code 303 = .ok (.laload, 1) := by decide +kernel
theorem d_W_law_304 : decode code 304 = .ok (.iload 6, 2) := by decide +kernel
theorem d_W_law_306 : decode code 306 = .ok (.i2l, 1) := by decide +kernel
theorem d_W_law_307 : decode code 307 = .ok (.lcmp, 1) := by decide +kernel
theorem d_W_law_308 : decode code 308 = .ok (.ifCond .eq (5), 3) := by decide +kernel
theorem d_W_law_311 : decode code 311 = .ok (.iconst 0, 1) := by decide +kernel
theorem d_W_law_312 : decode code 312 = .ok (.ireturn, 1) := by decide +kernel
theorem d_W_law_313 : decode code 313 = .ok (.goto (3007), 3) := by decide +kernel
theorem d_W_law_316 : decode code 316 = .ok (.aload_n 1, 1) := by decide +kernel
theorem d_W_law_317 : decode code 317 = .ok (.aload_n 0, 1) := by decide +kernel
theorem d_W_law_318 : decode code 318 = .ok (.iload 4, 2) := by decide +kernel
theorem d_W_law_320 : decode code 320 = .ok (.iconst 1, 1) := by decide +kernel
theorem d_W_law_321 : decode code 321 = .ok (.iadd, 1) := by decide +kernel
theorem d_W_law_322 : decode code 322 = .ok (.iaload, 1) := by decide +kernel
theorem d_W_law_323 : decode code 323 = .ok (.aload_n 0, 1) := by decide +kernel
theorem d_W_law_324 : decode code 324 = .ok (.iload 4, 2) := by decide +kernel
theorem d_W_law_326 : decode code 326 = .ok (.iconst 2, 1) := by decide +kernel
theorem d_W_law_327 : decode code 327 = .ok (.iadd, 1) := by decide +kernel
theorem d_W_law_328 : decode code 328 = .ok (.iaload, 1) := by decide +kernel
theorem d_W_law_329 : decode code 329 = .ok (.aload_n 3, 1) := by decide +kernel
theorem d_W_law_330 : decode code 330 = .ok (.invokestatic 176, 3) := by decide +kernel
theorem d_W_law_333 : decode code 333 = .ok (.istore 5, 2) := by decide +kernel
theorem d_W_law_335 : decode code 335 = .ok (.aload_n 2, 1) := by decide +kernel
theorem d_W_law_336 : decode code 336 = .ok (.aload_n 0, 1) := by decide +kernel
theorem d_W_law_337 : decode code 337 = .ok (.iload 4, 2) := by decide +kernel
theorem d_W_law_339 : decode code 339 = .ok (.iconst 1, 1) := by decide +kernel
theorem d_W_law_340 : decode code 340 = .ok (.iadd, 1) := by decide +kernel
theorem d_W_law_341 : decode code 341 = .ok (.iaload, 1) := by decide +kernel
theorem d_W_law_342 : decode code 342 = .ok (.aload_n 0, 1) := by decide +kernel
theorem d_W_law_343 : decode code 343 = .ok (.iload 4, 2) := by decide +kernel
theorem d_W_law_345 : decode code 345 = .ok (.iconst 2, 1) := by decide +kernel
theorem d_W_law_346 : decode code 346 = .ok (.iadd, 1) := by decide +kernel
theorem d_W_law_347 : decode code 347 = .ok (.iaload, 1) := by decide +kernel
theorem d_W_law_348 : decode code 348 = .ok (.invokevirtual 179, 3) := by decide +kernel
theorem d_W_law_351 : decode code 351 = .ok (.istore 6, 2) := by decide +kernel
theorem d_W_law_353 : decode code 353 = .ok (.aload_n 2, 1) := by decide +kernel
theorem d_W_law_354 : decode code 354 = .ok (.invokevirtual 173, 3) := by decide +kernel
theorem d_W_law_357 : decode code 357 = .ok (.iload 5, 2) := by decide +kernel
theorem d_W_law_359 : decode code 359 = .ok (.if_icmp .eq (5), 3) := by decide +kernel
theorem d_W_law_362 : decode code 362 = .ok (.iconst 0, 1) := by decide +kernel
theorem d_W_law_363 : decode code 363 = .ok (.ireturn, 1) := by decide +kernel
theorem d_W_law_364 : decode code 364 = .ok (.iload 5, 2) := by decide +kernel
theorem d_W_law_366 : decode code 366 = .ok (.ifCond .ne (15), 3) := by decide +kernel
theorem d_W_law_369 : decode code 369 = .ok (.aload_n 3, 1) := by decide +kernel
theorem d_W_law_370 : decode code 370 = .ok (.iconst 0, 1) := by decide +kernel
theorem d_W_law_371 : decode code 371 = .ok (.laload, 1) := by decide +kernel
theorem d_W_law_372 : decode code 372 = .ok (.iload 6, 2) := by decide +kernel
theorem d_W_law_374 : decode code 374 = .ok (.i2l, 1) := by decide +kernel
theorem d_W_law_375 : decode code 375 = .ok (.lcmp, 1) := by decide +kernel
theorem d_W_law_376 : decode code 376 = .ok (.ifCond .eq (5), 3) := by decide +kernel
theorem d_W_law_379 : decode code 379 = .ok (.iconst 0, 1) := by decide +kernel
theorem d_W_law_380 : decode code 380 = .ok (.ireturn, 1) := by decide +kernel
theorem d_W_law_381 : decode code 381 = .ok (.goto (2939), 3) := by decide +kernel
theorem d_W_law_384 : decode code 384 = .ok (.aload_n 1, 1) := by decide +kernel
theorem d_W_law_385 : decode code 385 = .ok (.aload_n 0, 1) := by decide +kernel
theorem d_W_law_386 : decode code 386 = .ok (.iload 4, 2) := by decide +kernel
theorem d_W_law_388 : decode code 388 = .ok (.iconst 1, 1) := by decide +kernel
theorem d_W_law_389 : decode code 389 = .ok (.iadd, 1) := by decide +kernel
theorem d_W_law_390 : decode code 390 = .ok (.iaload, 1) := by decide +kernel
theorem d_W_law_391 : decode code 391 = .ok (.aload_n 0, 1) := by decide +kernel
theorem d_W_law_392 : decode code 392 = .ok (.iload 4, 2) := by decide +kernel
theorem d_W_law_394 : decode code 394 = .ok (.iconst 2, 1) := by decide +kernel
theorem d_W_law_395 : decode code 395 = .ok (.iadd, 1) := by decide +kernel
theorem d_W_law_396 : decode code 396 = .ok (.iaload, 1) := by decide +kernel
theorem d_W_law_397 : decode code 397 = .ok (.aload_n 3, 1) := by decide +kernel
theorem d_W_law_398 : decode code 398 = .ok (.invokestatic 180, 3) := by decide +kernel
theorem d_W_law_401 : decode code 401 = .ok (.istore 5, 2) := by decide +kernel
theorem d_W_law_403 : decode code 403 = .ok (.aload_n 2, 1) := by decide +kernel
theorem d_W_law_404 : decode code 404 = .ok (.aload_n 0, 1) := by decide +kernel
theorem d_W_law_405 : decode code 405 = .ok (.iload 4, 2) := by decide +kernel
theorem d_W_law_407 : decode code 407 = .ok (.iconst 1, 1) := by decide +kernel
theorem d_W_law_408 : decode code 408 = .ok (.iadd, 1) := by decide +kernel
theorem d_W_law_409 : decode code 409 = .ok (.iaload, 1) := by decide +kernel
theorem d_W_law_410 : decode code 410 = .ok (.aload_n 0, 1) := by decide +kernel
theorem d_W_law_411 : decode code 411 = .ok (.iload 4, 2) := by decide +kernel
theorem d_W_law_413 : decode code 413 = .ok (.iconst 2, 1) := by decide +kernel
theorem d_W_law_414 : decode code 414 = .ok (.iadd, 1) := by decide +kernel
theorem d_W_law_415 : decode code 415 = .ok (.iaload, 1) := by decide +kernel
theorem d_W_law_416 : decode code 416 = .ok (.invokevirtual 182, 3) := by decide +kernel
theorem d_W_law_419 : decode code 419 = .ok (.istore 6, 2) := by decide +kernel
theorem d_W_law_421 : decode code 421 = .ok (.aload_n 2, 1) := by decide +kernel
theorem d_W_law_422 : decode code 422 = .ok (.invokevirtual 173, 3) := by decide +kernel
theorem d_W_law_425 : decode code 425 = .ok (.iload 5, 2) := by decide +kernel
theorem d_W_law_427 : decode code 427 = .ok (.if_icmp .eq (5), 3) := by decide +kernel
theorem d_W_law_430 : decode code 430 = .ok (.iconst 0, 1) := by decide +kernel
theorem d_W_law_431 : decode code 431 = .ok (.ireturn, 1) := by decide +kernel
theorem d_W_law_432 : decode code 432 = .ok (.iload 5, 2) := by decide +kernel
theorem d_W_law_434 : decode code 434 = .ok (.ifCond .ne (15), 3) := by decide +kernel
theorem d_W_law_437 : decode code 437 = .ok (.aload_n 3, 1) := by decide +kernel
theorem d_W_law_438 : decode code 438 = .ok (.iconst 0, 1) := by decide +kernel
theorem d_W_law_439 : decode code 439 = .ok (.laload, 1) := by decide +kernel
theorem d_W_law_440 : decode code 440 = .ok (.iload 6, 2) := by decide +kernel
theorem d_W_law_442 : decode code 442 = .ok (.i2l, 1) := by decide +kernel
theorem d_W_law_443 : decode code 443 = .ok (.lcmp, 1) := by decide +kernel
theorem d_W_law_444 : decode code 444 = .ok (.ifCond .eq (5), 3) := by decide +kernel
theorem d_W_law_447 : decode code 447 = .ok (.iconst 0, 1) := by decide +kernel
theorem d_W_law_448 : decode code 448 = .ok (.ireturn, 1) := by decide +kernel
theorem d_W_law_449 : decode code 449 = .ok (.goto (2871), 3) := by decide +kernel
theorem d_W_law_452 : decode code 452 = .ok (.aload_n 1, 1) := by decide +kernel
theorem d_W_law_453 : decode code 453 = .ok (.aload_n 0, 1) := by decide +kernel
theorem d_W_law_454 : decode code 454 = .ok (.iload 4, 2) := by decide +kernel
theorem d_W_law_456 : decode code 456 = .ok (.iconst 1, 1) := by decide +kernel
theorem d_W_law_457 : decode code 457 = .ok (.iadd, 1) := by decide +kernel
theorem d_W_law_458 : decode code 458 = .ok (.iaload, 1) := by decide +kernel
theorem d_W_law_459 : decode code 459 = .ok (.aload_n 0, 1) := by decide +kernel
theorem d_W_law_460 : decode code 460 = .ok (.iload 4, 2) := by decide +kernel
theorem d_W_law_462 : decode code 462 = .ok (.iconst 2, 1) := by decide +kernel
theorem d_W_law_463 : decode code 463 = .ok (.iadd, 1) := by decide +kernel
theorem d_W_law_464 : decode code 464 = .ok (.iaload, 1) := by decide +kernel
theorem d_W_law_465 : decode code 465 = .ok (.aload_n 0, 1) := by decide +kernel
theorem d_W_law_466 : decode code 466 = .ok (.iload 4, 2) := by decide +kernel
theorem d_W_law_468 : decode code 468 = .ok (.iconst 3, 1) := by decide +kernel
theorem d_W_law_469 : decode code 469 = .ok (.iadd, 1) := by decide +kernel
theorem d_W_law_470 : decode code 470 = .ok (.iaload, 1) := by decide +kernel
theorem d_W_law_471 : decode code 471 = .ok (.aload_n 0, 1) := by decide +kernel
theorem d_W_law_472 : decode code 472 = .ok (.iload 4, 2) := by decide +kernel
theorem d_W_law_474 : decode code 474 = .ok (.iconst 4, 1) := by decide +kernel
theorem d_W_law_475 : decode code 475 = .ok (.iadd, 1) := by decide +kernel
theorem d_W_law_476 : decode code 476 = .ok (.iaload, 1) := by decide +kernel
theorem d_W_law_477 : decode code 477 = .ok (.aload_n 0, 1) := by decide +kernel
theorem d_W_law_478 : decode code 478 = .ok (.iload 4, 2) := by decide +kernel
theorem d_W_law_480 : decode code 480 = .ok (.iconst 5, 1) := by decide +kernel
theorem d_W_law_481 : decode code 481 = .ok (.iadd, 1) := by decide +kernel
theorem d_W_law_482 : decode code 482 = .ok (.iaload, 1) := by decide +kernel
theorem d_W_law_483 : decode code 483 = .ok (.aload_n 3, 1) := by decide +kernel
theorem d_W_law_484 : decode code 484 = .ok (.invokestatic 183, 3) := by decide +kernel
theorem d_W_law_487 : decode code 487 = .ok (.istore 5, 2) := by decide +kernel
theorem d_W_law_489 : decode code 489 = .ok (.aload_n 2, 1) := by decide +kernel
theorem d_W_law_490 : decode code 490 = .ok (.aload_n 0, 1) := by decide +kernel
theorem d_W_law_491 : decode code 491 = .ok (.iload 4, 2) := by decide +kernel
theorem d_W_law_493 : decode code 493 = .ok (.iconst 1, 1) := by decide +kernel
theorem d_W_law_494 : decode code 494 = .ok (.iadd, 1) := by decide +kernel
theorem d_W_law_495 : decode code 495 = .ok (.iaload, 1) := by decide +kernel
theorem d_W_law_496 : decode code 496 = .ok (.aload_n 0, 1) := by decide +kernel
theorem d_W_law_497 : decode code 497 = .ok (.iload 4, 2) := by decide +kernel
theorem d_W_law_499 : decode code 499 = .ok (.iconst 2, 1) := by decide +kernel
theorem d_W_law_500 : decode code 500 = .ok (.iadd, 1) := by decide +kernel
theorem d_W_law_501 : decode code 501 = .ok (.iaload, 1) := by decide +kernel
theorem d_W_law_502 : decode code 502 = .ok (.aload_n 0, 1) := by decide +kernel
theorem d_W_law_503 : decode code 503 = .ok (.iload 4, 2) := by decide +kernel
theorem d_W_law_505 : decode code 505 = .ok (.iconst 3, 1) := by decide +kernel
theorem d_W_law_506 : decode code 506 = .ok (.iadd, 1) := by decide +kernel
theorem d_W_law_507 : decode code 507 = .ok (.iaload, 1) := by decide +kernel
theorem d_W_law_508 : decode code 508 = .ok (.aload_n 0, 1) := by decide +kernel
theorem d_W_law_509 : decode code 509 = .ok (.iload 4, 2) := by decide +kernel
theorem d_W_law_511 : decode code 511 = .ok (.iconst 4, 1) := by decide +kernel
theorem d_W_law_512 : decode code 512 = .ok (.iadd, 1) := by decide +kernel
theorem d_W_law_513 : decode code 513 = .ok (.iaload, 1) := by decide +kernel
theorem d_W_law_514 : decode code 514 = .ok (.aload_n 0, 1) := by decide +kernel
theorem d_W_law_515 : decode code 515 = .ok (.iload 4, 2) := by decide +kernel
theorem d_W_law_517 : decode code 517 = .ok (.iconst 5, 1) := by decide +kernel
theorem d_W_law_518 : decode code 518 = .ok (.iadd, 1) := by decide +kernel
theorem d_W_law_519 : decode code 519 = .ok (.iaload, 1) := by decide +kernel
theorem d_W_law_520 : decode code 520 = .ok (.invokevirtual 186, 3) := by decide +kernel
theorem d_W_law_523 : decode code 523 = .ok (.istore 6, 2) := by decide +kernel
theorem d_W_law_525 : decode code 525 = .ok (.aload_n 2, 1) := by decide +kernel
theorem d_W_law_526 : decode code 526 = .ok (.invokevirtual 173, 3) := by decide +kernel
theorem d_W_law_529 : decode code 529 = .ok (.iload 5, 2) := by decide +kernel
theorem d_W_law_531 : decode code 531 = .ok (.if_icmp .eq (5), 3) := by decide +kernel
theorem d_W_law_534 : decode code 534 = .ok (.iconst 0, 1) := by decide +kernel
theorem d_W_law_535 : decode code 535 = .ok (.ireturn, 1) := by decide +kernel
theorem d_W_law_536 : decode code 536 = .ok (.iload 5, 2) := by decide +kernel
theorem d_W_law_538 : decode code 538 = .ok (.ifCond .ne (15), 3) := by decide +kernel
theorem d_W_law_541 : decode code 541 = .ok (.aload_n 3, 1) := by decide +kernel
theorem d_W_law_542 : decode code 542 = .ok (.iconst 0, 1) := by decide +kernel
theorem d_W_law_543 : decode code 543 = .ok (.laload, 1) := by decide +kernel
theorem d_W_law_544 : decode code 544 = .ok (.iload 6, 2) := by decide +kernel
theorem d_W_law_546 : decode code 546 = .ok (.i2l, 1) := by decide +kernel
theorem d_W_law_547 : decode code 547 = .ok (.lcmp, 1) := by decide +kernel
theorem d_W_law_548 : decode code 548 = .ok (.ifCond .eq (5), 3) := by decide +kernel
theorem d_W_law_551 : decode code 551 = .ok (.iconst 0, 1) := by decide +kernel
theorem d_W_law_552 : decode code 552 = .ok (.ireturn, 1) := by decide +kernel
theorem d_W_law_553 : decode code 553 = .ok (.goto (2767), 3) := by decide +kernel
theorem d_W_law_556 : decode code 556 = .ok (.aload_n 1, 1) := by decide +kernel
theorem d_W_law_557 : decode code 557 = .ok (.invokevirtual 187, 3) := by decide +kernel
theorem d_W_law_560 : decode code 560 = .ok (.aload_n 2, 1) := by decide +kernel
theorem d_W_law_561 : decode code 561 = .ok (.invokevirtual 190, 3) := by decide +kernel
theorem d_W_law_564 : decode code 564 = .ok (.if_icmp .eq (2756), 3) := by decide +kernel
theorem d_W_law_567 : decode code 567 = .ok (.iconst 0, 1) := by decide +kernel
theorem d_W_law_568 : decode code 568 = .ok (.ireturn, 1) := by decide +kernel
theorem d_W_law_569 : decode code 569 = .ok (.aload_n 1, 1) := by decide +kernel
theorem d_W_law_570 : decode code 570 = .ok (.aload_n 3, 1) := by decide +kernel
theorem d_W_law_571 : decode code 571 = .ok (.invokestatic 191, 3) := by decide +kernel
theorem d_W_law_574 : decode code 574 = .ok (.istore 5, 2) := by decide +kernel
theorem d_W_law_576 : decode code 576 = .ok (.aload_n 2, 1) := by decide +kernel
theorem d_W_law_577 : decode code 577 = .ok (.invokevirtual 194, 3) := by decide +kernel
theorem d_W_law_580 : decode code 580 = .ok (.istore 6, 2) := by decide +kernel
theorem d_W_law_582 : decode code 582 = .ok (.aload_n 2, 1) := by decide +kernel
theorem d_W_law_583 : decode code 583 = .ok (.invokevirtual 173, 3) := by decide +kernel
theorem d_W_law_586 : decode code 586 = .ok (.iload 5, 2) := by decide +kernel
theorem d_W_law_588 : decode code 588 = .ok (.if_icmp .eq (5), 3) := by decide +kernel
theorem d_W_law_591 : decode code 591 = .ok (.iconst 0, 1) := by decide +kernel
theorem d_W_law_592 : decode code 592 = .ok (.ireturn, 1) := by decide +kernel
theorem d_W_law_593 : decode code 593 = .ok (.iload 5, 2) := by decide +kernel
theorem d_W_law_595 : decode code 595 = .ok (.ifCond .ne (15), 3) := by decide +kernel
theorem d_W_law_598 : decode code 598 = .ok (.aload_n 3, 1) := by decide +kernel
theorem d_W_law_599 : decode code 599 = .ok (.iconst 0, 1) := by decide +kernel
theorem d_W_law_600 : decode code 600 = .ok (.laload, 1) := by decide +kernel
theorem d_W_law_601 : decode code 601 = .ok (.iload 6, 2) := by decide +kernel
theorem d_W_law_603 : decode code 603 = .ok (.i2l, 1) := by decide +kernel
theorem d_W_law_604 : decode code 604 = .ok (.lcmp, 1) := by decide +kernel
theorem d_W_law_605 : decode code 605 = .ok (.ifCond .eq (5), 3) := by decide +kernel
theorem d_W_law_608 : decode code 608 = .ok (.iconst 0, 1) := by decide +kernel
theorem d_W_law_609 : decode code 609 = .ok (.ireturn, 1) := by decide +kernel
theorem d_W_law_610 : decode code 610 = .ok (.goto (2710), 3) := by decide +kernel
theorem d_W_law_613 : decode code 613 = .ok (.aload_n 1, 1) := by decide +kernel
theorem d_W_law_614 : decode code 614 = .ok (.aload_n 0, 1) := by decide +kernel
theorem d_W_law_615 : decode code 615 = .ok (.iload 4, 2) := by decide +kernel
theorem d_W_law_617 : decode code 617 = .ok (.iconst 1, 1) := by decide +kernel
theorem d_W_law_618 : decode code 618 = .ok (.iadd, 1) := by decide +kernel
theorem d_W_law_619 : decode code 619 = .ok (.iaload, 1) := by decide +kernel
theorem d_W_law_620 : decode code 620 = .ok (.aload_n 3, 1) := by decide +kernel
theorem d_W_law_621 : decode code 621 = .ok (.invokestatic 195, 3) := by decide +kernel
theorem d_W_law_624 : decode code 624 = .ok (.istore 5, 2) := by decide +kernel
theorem d_W_law_626 : decode code 626 = .ok (.aload_n 2, 1) := by decide +kernel
theorem d_W_law_627 : decode code 627 = .ok (.aload_n 0, 1) := by decide +kernel
theorem d_W_law_628 : decode code 628 = .ok (.iload 4, 2) := by decide +kernel
theorem d_W_law_630 : decode code 630 = .ok (.iconst 1, 1) := by decide +kernel
theorem d_W_law_631 : decode code 631 = .ok (.iadd, 1) := by decide +kernel
theorem d_W_law_632 : decode code 632 = .ok (.iaload, 1) := by decide +kernel
theorem d_W_law_633 : decode code 633 = .ok (.invokevirtual 197, 3) := by decide +kernel
theorem d_W_law_636 : decode code 636 = .ok (.istore 6, 2) := by decide +kernel
theorem d_W_law_638 : decode code 638 = .ok (.aload_n 2, 1) := by decide +kernel
theorem d_W_law_639 : decode code 639 = .ok (.invokevirtual 173, 3) := by decide +kernel
theorem d_W_law_642 : decode code 642 = .ok (.iload 5, 2) := by decide +kernel
theorem d_W_law_644 : decode code 644 = .ok (.if_icmp .eq (5), 3) := by decide +kernel
theorem d_W_law_647 : decode code 647 = .ok (.iconst 0, 1) := by decide +kernel
theorem d_W_law_648 : decode code 648 = .ok (.ireturn, 1) := by decide +kernel
theorem d_W_law_649 : decode code 649 = .ok (.iload 5, 2) := by decide +kernel
theorem d_W_law_651 : decode code 651 = .ok (.ifCond .ne (15), 3) := by decide +kernel
theorem d_W_law_654 : decode code 654 = .ok (.aload_n 3, 1) := by decide +kernel
theorem d_W_law_655 : decode code 655 = .ok (.iconst 0, 1) := by decide +kernel
theorem d_W_law_656 : decode code 656 = .ok (.laload, 1) := by decide +kernel
theorem d_W_law_657 : decode code 657 = .ok (.iload 6, 2) := by decide +kernel
theorem d_W_law_659 : decode code 659 = .ok (.i2l, 1) := by decide +kernel
theorem d_W_law_660 : decode code 660 = .ok (.lcmp, 1) := by decide +kernel
theorem d_W_law_661 : decode code 661 = .ok (.ifCond .eq (5), 3) := by decide +kernel
theorem d_W_law_664 : decode code 664 = .ok (.iconst 0, 1) := by decide +kernel
theorem d_W_law_665 : decode code 665 = .ok (.ireturn, 1) := by decide +kernel
theorem d_W_law_666 : decode code 666 = .ok (.goto (2654), 3) := by decide +kernel
theorem d_W_law_669 : decode code 669 = .ok (.aload_n 1, 1) := by decide +kernel
theorem d_W_law_670 : decode code 670 = .ok (.aload_n 0, 1) := by decide +kernel
theorem d_W_law_671 : decode code 671 = .ok (.iload 4, 2) := by decide +kernel
theorem d_W_law_673 : decode code 673 = .ok (.iconst 1, 1) := by decide +kernel
theorem d_W_law_674 : decode code 674 = .ok (.iadd, 1) := by decide +kernel
theorem d_W_law_675 : decode code 675 = .ok (.iaload, 1) := by decide +kernel
theorem d_W_law_676 : decode code 676 = .ok (.aload_n 0, 1) := by decide +kernel
theorem d_W_law_677 : decode code 677 = .ok (.iload 4, 2) := by decide +kernel
theorem d_W_law_679 : decode code 679 = .ok (.iconst 2, 1) := by decide +kernel
theorem d_W_law_680 : decode code 680 = .ok (.iadd, 1) := by decide +kernel
theorem d_W_law_681 : decode code 681 = .ok (.iaload, 1) := by decide +kernel
theorem d_W_law_682 : decode code 682 = .ok (.aload_n 0, 1) := by decide +kernel
theorem d_W_law_683 : decode code 683 = .ok (.iload 4, 2) := by decide +kernel
theorem d_W_law_685 : decode code 685 = .ok (.iconst 3, 1) := by decide +kernel
theorem d_W_law_686 : decode code 686 = .ok (.iadd, 1) := by decide +kernel
theorem d_W_law_687 : decode code 687 = .ok (.iaload, 1) := by decide +kernel
theorem d_W_law_688 : decode code 688 = .ok (.ifCond .eq (7), 3) := by decide +kernel
theorem d_W_law_691 : decode code 691 = .ok (.iconst 1, 1) := by decide +kernel
theorem d_W_law_692 : decode code 692 = .ok (.goto (4), 3) := by decide +kernel
theorem d_W_law_695 : decode code 695 = .ok (.iconst 0, 1) := by decide +kernel
theorem d_W_law_696 : decode code 696 = .ok (.aload_n 3, 1) := by decide +kernel
theorem d_W_law_697 : decode code 697 = .ok (.invokestatic 198, 3) := by decide +kernel
theorem d_W_law_700 : decode code 700 = .ok (.istore 5, 2) := by decide +kernel
theorem d_W_law_702 : decode code 702 = .ok (.aload_n 2, 1) := by decide +kernel
theorem d_W_law_703 : decode code 703 = .ok (.aload_n 0, 1) := by decide +kernel
theorem d_W_law_704 : decode code 704 = .ok (.iload 4, 2) := by decide +kernel
theorem d_W_law_706 : decode code 706 = .ok (.iconst 1, 1) := by decide +kernel
theorem d_W_law_707 : decode code 707 = .ok (.iadd, 1) := by decide +kernel
theorem d_W_law_708 : decode code 708 = .ok (.iaload, 1) := by decide +kernel
theorem d_W_law_709 : decode code 709 = .ok (.aload_n 0, 1) := by decide +kernel
theorem d_W_law_710 : decode code 710 = .ok (.iload 4, 2) := by decide +kernel
theorem d_W_law_712 : decode code 712 = .ok (.iconst 2, 1) := by decide +kernel
theorem d_W_law_713 : decode code 713 = .ok (.iadd, 1) := by decide +kernel
theorem d_W_law_714 : decode code 714 = .ok (.iaload, 1) := by decide +kernel
theorem d_W_law_715 : decode code 715 = .ok (.aload_n 0, 1) := by decide +kernel
theorem d_W_law_716 : decode code 716 = .ok (.iload 4, 2) := by decide +kernel
theorem d_W_law_718 : decode code 718 = .ok (.iconst 3, 1) := by decide +kernel
theorem d_W_law_719 : decode code 719 = .ok (.iadd, 1) := by decide +kernel
theorem d_W_law_720 : decode code 720 = .ok (.iaload, 1) := by decide +kernel
theorem d_W_law_721 : decode code 721 = .ok (.ifCond .eq (7), 3) := by decide +kernel
theorem d_W_law_724 : decode code 724 = .ok (.iconst 1, 1) := by decide +kernel
theorem d_W_law_725 : decode code 725 = .ok (.goto (4), 3) := by decide +kernel
theorem d_W_law_728 : decode code 728 = .ok (.iconst 0, 1) := by decide +kernel
theorem d_W_law_729 : decode code 729 = .ok (.invokevirtual 201, 3) := by decide +kernel
theorem d_W_law_732 : decode code 732 = .ok (.istore 6, 2) := by decide +kernel
theorem d_W_law_734 : decode code 734 = .ok (.aload_n 2, 1) := by decide +kernel
theorem d_W_law_735 : decode code 735 = .ok (.invokevirtual 173, 3) := by decide +kernel
theorem d_W_law_738 : decode code 738 = .ok (.iload 5, 2) := by decide +kernel
theorem d_W_law_740 : decode code 740 = .ok (.if_icmp .eq (5), 3) := by decide +kernel
theorem d_W_law_743 : decode code 743 = .ok (.iconst 0, 1) := by decide +kernel
theorem d_W_law_744 : decode code 744 = .ok (.ireturn, 1) := by decide +kernel
theorem d_W_law_745 : decode code 745 = .ok (.iload 5, 2) := by decide +kernel
theorem d_W_law_747 : decode code 747 = .ok (.ifCond .ne (15), 3) := by decide +kernel
theorem d_W_law_750 : decode code 750 = .ok (.aload_n 3, 1) := by decide +kernel
theorem d_W_law_751 : decode code 751 = .ok (.iconst 0, 1) := by decide +kernel
theorem d_W_law_752 : decode code 752 = .ok (.laload, 1) := by decide +kernel
theorem d_W_law_753 : decode code 753 = .ok (.iload 6, 2) := by decide +kernel
theorem d_W_law_755 : decode code 755 = .ok (.i2l, 1) := by decide +kernel
theorem d_W_law_756 : decode code 756 = .ok (.lcmp, 1) := by decide +kernel
theorem d_W_law_757 : decode code 757 = .ok (.ifCond .eq (5), 3) := by decide +kernel
theorem d_W_law_760 : decode code 760 = .ok (.iconst 0, 1) := by decide +kernel
theorem d_W_law_761 : decode code 761 = .ok (.ireturn, 1) := by decide +kernel
theorem d_W_law_762 : decode code 762 = .ok (.goto (2558), 3) := by decide +kernel
theorem d_W_law_765 : decode code 765 = .ok (.aload_n 1, 1) := by decide +kernel
theorem d_W_law_766 : decode code 766 = .ok (.aload_n 0, 1) := by decide +kernel
theorem d_W_law_767 : decode code 767 = .ok (.iload 4, 2) := by decide +kernel
theorem d_W_law_769 : decode code 769 = .ok (.iconst 1, 1) := by decide +kernel
theorem d_W_law_770 : decode code 770 = .ok (.iadd, 1) := by decide +kernel
theorem d_W_law_771 : decode code 771 = .ok (.iaload, 1) := by decide +kernel
theorem d_W_law_772 : decode code 772 = .ok (.aload_n 0, 1) := by decide +kernel
theorem d_W_law_773 : decode code 773 = .ok (.iload 4, 2) := by decide +kernel
theorem d_W_law_775 : decode code 775 = .ok (.iconst 2, 1) := by decide +kernel
theorem d_W_law_776 : decode code 776 = .ok (.iadd, 1) := by decide +kernel
theorem d_W_law_777 : decode code 777 = .ok (.iaload, 1) := by decide +kernel
theorem d_W_law_778 : decode code 778 = .ok (.aload_n 0, 1) := by decide +kernel
theorem d_W_law_779 : decode code 779 = .ok (.iload 4, 2) := by decide +kernel
theorem d_W_law_781 : decode code 781 = .ok (.iconst 3, 1) := by decide +kernel
theorem d_W_law_782 : decode code 782 = .ok (.iadd, 1) := by decide +kernel
theorem d_W_law_783 : decode code 783 = .ok (.iaload, 1) := by decide +kernel
theorem d_W_law_784 : decode code 784 = .ok (.aload_n 3, 1) := by decide +kernel
theorem d_W_law_785 : decode code 785 = .ok (.invokestatic 202, 3) := by decide +kernel
theorem d_W_law_788 : decode code 788 = .ok (.istore 5, 2) := by decide +kernel
theorem d_W_law_790 : decode code 790 = .ok (.aload_n 2, 1) := by decide +kernel
theorem d_W_law_791 : decode code 791 = .ok (.aload_n 0, 1) := by decide +kernel
theorem d_W_law_792 : decode code 792 = .ok (.iload 4, 2) := by decide +kernel
theorem d_W_law_794 : decode code 794 = .ok (.iconst 1, 1) := by decide +kernel
theorem d_W_law_795 : decode code 795 = .ok (.iadd, 1) := by decide +kernel
theorem d_W_law_796 : decode code 796 = .ok (.iaload, 1) := by decide +kernel
theorem d_W_law_797 : decode code 797 = .ok (.aload_n 0, 1) := by decide +kernel
theorem d_W_law_798 : decode code 798 = .ok (.iload 4, 2) := by decide +kernel
theorem d_W_law_800 : decode code 800 = .ok (.iconst 2, 1) := by decide +kernel
theorem d_W_law_801 : decode code 801 = .ok (.iadd, 1) := by decide +kernel
theorem d_W_law_802 : decode code 802 = .ok (.iaload, 1) := by decide +kernel
theorem d_W_law_803 : decode code 803 = .ok (.aload_n 0, 1) := by decide +kernel
theorem d_W_law_804 : decode code 804 = .ok (.iload 4, 2) := by decide +kernel
theorem d_W_law_806 : decode code 806 = .ok (.iconst 3, 1) := by decide +kernel
theorem d_W_law_807 : decode code 807 = .ok (.iadd, 1) := by decide +kernel
theorem d_W_law_808 : decode code 808 = .ok (.iaload, 1) := by decide +kernel
theorem d_W_law_809 : decode code 809 = .ok (.invokevirtual 205, 3) := by decide +kernel
theorem d_W_law_812 : decode code 812 = .ok (.istore 6, 2) := by decide +kernel
theorem d_W_law_814 : decode code 814 = .ok (.aload_n 2, 1) := by decide +kernel
theorem d_W_law_815 : decode code 815 = .ok (.invokevirtual 173, 3) := by decide +kernel
theorem d_W_law_818 : decode code 818 = .ok (.iload 5, 2) := by decide +kernel
theorem d_W_law_820 : decode code 820 = .ok (.if_icmp .eq (5), 3) := by decide +kernel
theorem d_W_law_823 : decode code 823 = .ok (.iconst 0, 1) := by decide +kernel
theorem d_W_law_824 : decode code 824 = .ok (.ireturn, 1) := by decide +kernel
theorem d_W_law_825 : decode code 825 = .ok (.iload 5, 2) := by decide +kernel
theorem d_W_law_827 : decode code 827 = .ok (.ifCond .ne (15), 3) := by decide +kernel
theorem d_W_law_830 : decode code 830 = .ok (.aload_n 3, 1) := by decide +kernel
theorem d_W_law_831 : decode code 831 = .ok (.iconst 0, 1) := by decide +kernel
theorem d_W_law_832 : decode code 832 = .ok (.laload, 1) := by decide +kernel
theorem d_W_law_833 : decode code 833 = .ok (.iload 6, 2) := by decide +kernel
theorem d_W_law_835 : decode code 835 = .ok (.i2l, 1) := by decide +kernel
theorem d_W_law_836 : decode code 836 = .ok (.lcmp, 1) := by decide +kernel
theorem d_W_law_837 : decode code 837 = .ok (.ifCond .eq (5), 3) := by decide +kernel
theorem d_W_law_840 : decode code 840 = .ok (.iconst 0, 1) := by decide +kernel
theorem d_W_law_841 : decode code 841 = .ok (.ireturn, 1) := by decide +kernel
theorem d_W_law_842 : decode code 842 = .ok (.goto (2478), 3) := by decide +kernel
theorem d_W_law_845 : decode code 845 = .ok (.aload_n 1, 1) := by decide +kernel
theorem d_W_law_846 : decode code 846 = .ok (.aload_n 0, 1) := by decide +kernel
theorem d_W_law_847 : decode code 847 = .ok (.iload 4, 2) := by decide +kernel
theorem d_W_law_849 : decode code 849 = .ok (.iconst 1, 1) := by decide +kernel
theorem d_W_law_850 : decode code 850 = .ok (.iadd, 1) := by decide +kernel
theorem d_W_law_851 : decode code 851 = .ok (.iaload, 1) := by decide +kernel
theorem d_W_law_852 : decode code 852 = .ok (.aload_n 0, 1) := by decide +kernel
theorem d_W_law_853 : decode code 853 = .ok (.iload 4, 2) := by decide +kernel
theorem d_W_law_855 : decode code 855 = .ok (.iconst 2, 1) := by decide +kernel
theorem d_W_law_856 : decode code 856 = .ok (.iadd, 1) := by decide +kernel
theorem d_W_law_857 : decode code 857 = .ok (.iaload, 1) := by decide +kernel
theorem d_W_law_858 : decode code 858 = .ok (.ifCond .eq (7), 3) := by decide +kernel
theorem d_W_law_861 : decode code 861 = .ok (.iconst 1, 1) := by decide +kernel
theorem d_W_law_862 : decode code 862 = .ok (.goto (4), 3) := by decide +kernel
theorem d_W_law_865 : decode code 865 = .ok (.iconst 0, 1) := by decide +kernel
theorem d_W_law_866 : decode code 866 = .ok (.aload_n 0, 1) := by decide +kernel
theorem d_W_law_867 : decode code 867 = .ok (.iload 4, 2) := by decide +kernel
theorem d_W_law_869 : decode code 869 = .ok (.iconst 3, 1) := by decide +kernel
theorem d_W_law_870 : decode code 870 = .ok (.iadd, 1) := by decide +kernel
theorem d_W_law_871 : decode code 871 = .ok (.iaload, 1) := by decide +kernel
theorem d_W_law_872 : decode code 872 = .ok (.aload_n 3, 1) := by decide +kernel
theorem d_W_law_873 : decode code 873 = .ok (.invokestatic 206, 3) := by decide +kernel
theorem d_W_law_876 : decode code 876 = .ok (.istore 5, 2) := by decide +kernel
theorem d_W_law_878 : decode code 878 = .ok (.aload_n 2, 1) := by decide +kernel
theorem d_W_law_879 : decode code 879 = .ok (.aload_n 0, 1) := by decide +kernel
theorem d_W_law_880 : decode code 880 = .ok (.iload 4, 2) := by decide +kernel
theorem d_W_law_882 : decode code 882 = .ok (.iconst 1, 1) := by decide +kernel
theorem d_W_law_883 : decode code 883 = .ok (.iadd, 1) := by decide +kernel
theorem d_W_law_884 : decode code 884 = .ok (.iaload, 1) := by decide +kernel
theorem d_W_law_885 : decode code 885 = .ok (.aload_n 0, 1) := by decide +kernel
theorem d_W_law_886 : decode code 886 = .ok (.iload 4, 2) := by decide +kernel
theorem d_W_law_888 : decode code 888 = .ok (.iconst 2, 1) := by decide +kernel
theorem d_W_law_889 : decode code 889 = .ok (.iadd, 1) := by decide +kernel
theorem d_W_law_890 : decode code 890 = .ok (.iaload, 1) := by decide +kernel
theorem d_W_law_891 : decode code 891 = .ok (.ifCond .eq (7), 3) := by decide +kernel
theorem d_W_law_894 : decode code 894 = .ok (.iconst 1, 1) := by decide +kernel
theorem d_W_law_895 : decode code 895 = .ok (.goto (4), 3) := by decide +kernel
theorem d_W_law_898 : decode code 898 = .ok (.iconst 0, 1) := by decide +kernel
theorem d_W_law_899 : decode code 899 = .ok (.aload_n 0, 1) := by decide +kernel
theorem d_W_law_900 : decode code 900 = .ok (.iload 4, 2) := by decide +kernel
theorem d_W_law_902 : decode code 902 = .ok (.iconst 3, 1) := by decide +kernel
theorem d_W_law_903 : decode code 903 = .ok (.iadd, 1) := by decide +kernel
theorem d_W_law_904 : decode code 904 = .ok (.iaload, 1) := by decide +kernel
theorem d_W_law_905 : decode code 905 = .ok (.invokevirtual 209, 3) := by decide +kernel
theorem d_W_law_908 : decode code 908 = .ok (.istore 6, 2) := by decide +kernel
theorem d_W_law_910 : decode code 910 = .ok (.aload_n 2, 1) := by decide +kernel
theorem d_W_law_911 : decode code 911 = .ok (.invokevirtual 173, 3) := by decide +kernel
theorem d_W_law_914 : decode code 914 = .ok (.iload 5, 2) := by decide +kernel
theorem d_W_law_916 : decode code 916 = .ok (.if_icmp .eq (5), 3) := by decide +kernel
theorem d_W_law_919 : decode code 919 = .ok (.iconst 0, 1) := by decide +kernel
theorem d_W_law_920 : decode code 920 = .ok (.ireturn, 1) := by decide +kernel
theorem d_W_law_921 : decode code 921 = .ok (.iload 5, 2) := by decide +kernel
theorem d_W_law_923 : decode code 923 = .ok (.ifCond .ne (15), 3) := by decide +kernel
theorem d_W_law_926 : decode code 926 = .ok (.aload_n 3, 1) := by decide +kernel
theorem d_W_law_927 : decode code 927 = .ok (.iconst 0, 1) := by decide +kernel
theorem d_W_law_928 : decode code 928 = .ok (.laload, 1) := by decide +kernel
theorem d_W_law_929 : decode code 929 = .ok (.iload 6, 2) := by decide +kernel
theorem d_W_law_931 : decode code 931 = .ok (.i2l, 1) := by decide +kernel
theorem d_W_law_932 : decode code 932 = .ok (.lcmp, 1) := by decide +kernel
theorem d_W_law_933 : decode code 933 = .ok (.ifCond .eq (5), 3) := by decide +kernel
theorem d_W_law_936 : decode code 936 = .ok (.iconst 0, 1) := by decide +kernel
theorem d_W_law_937 : decode code 937 = .ok (.ireturn, 1) := by decide +kernel
theorem d_W_law_938 : decode code 938 = .ok (.goto (2382), 3) := by decide +kernel
theorem d_W_law_941 : decode code 941 = .ok (.aload_n 1, 1) := by decide +kernel
theorem d_W_law_942 : decode code 942 = .ok (.aload_n 0, 1) := by decide +kernel
theorem d_W_law_943 : decode code 943 = .ok (.iload 4, 2) := by decide +kernel
theorem d_W_law_945 : decode code 945 = .ok (.iconst 1, 1) := by decide +kernel
theorem d_W_law_946 : decode code 946 = .ok (.iadd, 1) := by decide +kernel
theorem d_W_law_947 : decode code 947 = .ok (.iaload, 1) := by decide +kernel
theorem d_W_law_948 : decode code 948 = .ok (.aload_n 3, 1) := by decide +kernel
theorem d_W_law_949 : decode code 949 = .ok (.invokestatic 210, 3) := by decide +kernel
theorem d_W_law_952 : decode code 952 = .ok (.istore 5, 2) := by decide +kernel
theorem d_W_law_954 : decode code 954 = .ok (.aload_n 2, 1) := by decide +kernel
theorem d_W_law_955 : decode code 955 = .ok (.aload_n 0, 1) := by decide +kernel
theorem d_W_law_956 : decode code 956 = .ok (.iload 4, 2) := by decide +kernel
theorem d_W_law_958 : decode code 958 = .ok (.iconst 1, 1) := by decide +kernel
theorem d_W_law_959 : decode code 959 = .ok (.iadd, 1) := by decide +kernel
theorem d_W_law_960 : decode code 960 = .ok (.iaload, 1) := by decide +kernel
theorem d_W_law_961 : decode code 961 = .ok (.invokevirtual 212, 3) := by decide +kernel
theorem d_W_law_964 : decode code 964 = .ok (.istore 6, 2) := by decide +kernel
theorem d_W_law_966 : decode code 966 = .ok (.aload_n 2, 1) := by decide +kernel
theorem d_W_law_967 : decode code 967 = .ok (.invokevirtual 173, 3) := by decide +kernel
theorem d_W_law_970 : decode code 970 = .ok (.iload 5, 2) := by decide +kernel
theorem d_W_law_972 : decode code 972 = .ok (.if_icmp .eq (5), 3) := by decide +kernel
theorem d_W_law_975 : decode code 975 = .ok (.iconst 0, 1) := by decide +kernel
theorem d_W_law_976 : decode code 976 = .ok (.ireturn, 1) := by decide +kernel
theorem d_W_law_977 : decode code 977 = .ok (.iload 5, 2) := by decide +kernel
theorem d_W_law_979 : decode code 979 = .ok (.ifCond .ne (15), 3) := by decide +kernel
theorem d_W_law_982 : decode code 982 = .ok (.aload_n 3, 1) := by decide +kernel
theorem d_W_law_983 : decode code 983 = .ok (.iconst 0, 1) := by decide +kernel
theorem d_W_law_984 : decode code 984 = .ok (.laload, 1) := by decide +kernel
theorem d_W_law_985 : decode code 985 = .ok (.iload 6, 2) := by decide +kernel
theorem d_W_law_987 : decode code 987 = .ok (.i2l, 1) := by decide +kernel
theorem d_W_law_988 : decode code 988 = .ok (.lcmp, 1) := by decide +kernel
theorem d_W_law_989 : decode code 989 = .ok (.ifCond .eq (5), 3) := by decide +kernel
theorem d_W_law_992 : decode code 992 = .ok (.iconst 0, 1) := by decide +kernel
theorem d_W_law_993 : decode code 993 = .ok (.ireturn, 1) := by decide +kernel
theorem d_W_law_994 : decode code 994 = .ok (.goto (2326), 3) := by decide +kernel
theorem d_W_law_997 : decode code 997 = .ok (.aload_n 1, 1) := by decide +kernel
theorem d_W_law_998 : decode code 998 = .ok (.aload_n 0, 1) := by decide +kernel
theorem d_W_law_999 : decode code 999 = .ok (.iload 4, 2) := by decide +kernel
theorem d_W_law_1001 : decode code 1001 = .ok (.iconst 1, 1) := by decide +kernel
theorem d_W_law_1002 : decode code 1002 = .ok (.iadd, 1) := by decide +kernel
theorem d_W_law_1003 : decode code 1003 = .ok (.iaload, 1) := by decide +kernel
theorem d_W_law_1004 : decode code 1004 = .ok (.aload_n 3, 1) := by decide +kernel
theorem d_W_law_1005 : decode code 1005 = .ok (.invokestatic 213, 3) := by decide +kernel
theorem d_W_law_1008 : decode code 1008 = .ok (.istore 5, 2) := by decide +kernel
theorem d_W_law_1010 : decode code 1010 = .ok (.aload_n 2, 1) := by decide +kernel
theorem d_W_law_1011 : decode code 1011 = .ok (.aload_n 0, 1) := by decide +kernel
theorem d_W_law_1012 : decode code 1012 = .ok (.iload 4, 2) := by decide +kernel
theorem d_W_law_1014 : decode code 1014 = .ok (.iconst 1, 1) := by decide +kernel
theorem d_W_law_1015 : decode code 1015 = .ok (.iadd, 1) := by decide +kernel
theorem d_W_law_1016 : decode code 1016 = .ok (.iaload, 1) := by decide +kernel
theorem d_W_law_1017 : decode code 1017 = .ok (.invokevirtual 215, 3) := by decide +kernel
theorem d_W_law_1020 : decode code 1020 = .ok (.istore 6, 2) := by decide +kernel
theorem d_W_law_1022 : decode code 1022 = .ok (.aload_n 2, 1) := by decide +kernel
theorem d_W_law_1023 : decode code 1023 = .ok (.invokevirtual 173, 3) := by decide +kernel
theorem d_W_law_1026 : decode code 1026 = .ok (.iload 5, 2) := by decide +kernel
theorem d_W_law_1028 : decode code 1028 = .ok (.if_icmp .eq (5), 3) := by decide +kernel
theorem d_W_law_1031 : decode code 1031 = .ok (.iconst 0, 1) := by decide +kernel
theorem d_W_law_1032 : decode code 1032 = .ok (.ireturn, 1) := by decide +kernel
theorem d_W_law_1033 : decode code 1033 = .ok (.iload 5, 2) := by decide +kernel
theorem d_W_law_1035 : decode code 1035 = .ok (.ifCond .ne (15), 3) := by decide +kernel
theorem d_W_law_1038 : decode code 1038 = .ok (.aload_n 3, 1) := by decide +kernel
theorem d_W_law_1039 : decode code 1039 = .ok (.iconst 0, 1) := by decide +kernel
theorem d_W_law_1040 : decode code 1040 = .ok (.laload, 1) := by decide +kernel
theorem d_W_law_1041 : decode code 1041 = .ok (.iload 6, 2) := by decide +kernel
theorem d_W_law_1043 : decode code 1043 = .ok (.i2l, 1) := by decide +kernel
theorem d_W_law_1044 : decode code 1044 = .ok (.lcmp, 1) := by decide +kernel
theorem d_W_law_1045 : decode code 1045 = .ok (.ifCond .eq (5), 3) := by decide +kernel
theorem d_W_law_1048 : decode code 1048 = .ok (.iconst 0, 1) := by decide +kernel
theorem d_W_law_1049 : decode code 1049 = .ok (.ireturn, 1) := by decide +kernel
theorem d_W_law_1050 : decode code 1050 = .ok (.goto (2270), 3) := by decide +kernel
theorem d_W_law_1053 : decode code 1053 = .ok (.aload_n 1, 1) := by decide +kernel
theorem d_W_law_1054 : decode code 1054 = .ok (.aload_n 0, 1) := by decide +kernel
theorem d_W_law_1055 : decode code 1055 = .ok (.iload 4, 2) := by decide +kernel
theorem d_W_law_1057 : decode code 1057 = .ok (.iconst 1, 1) := by decide +kernel
theorem d_W_law_1058 : decode code 1058 = .ok (.iadd, 1) := by decide +kernel
theorem d_W_law_1059 : decode code 1059 = .ok (.iaload, 1) := by decide +kernel
theorem d_W_law_1060 : decode code 1060 = .ok (.aload_n 3, 1) := by decide +kernel
theorem d_W_law_1061 : decode code 1061 = .ok (.invokestatic 216, 3) := by decide +kernel
theorem d_W_law_1064 : decode code 1064 = .ok (.istore 5, 2) := by decide +kernel
theorem d_W_law_1066 : decode code 1066 = .ok (.aload_n 2, 1) := by decide +kernel
theorem d_W_law_1067 : decode code 1067 = .ok (.aload_n 0, 1) := by decide +kernel
theorem d_W_law_1068 : decode code 1068 = .ok (.iload 4, 2) := by decide +kernel
theorem d_W_law_1070 : decode code 1070 = .ok (.iconst 1, 1) := by decide +kernel
theorem d_W_law_1071 : decode code 1071 = .ok (.iadd, 1) := by decide +kernel
theorem d_W_law_1072 : decode code 1072 = .ok (.iaload, 1) := by decide +kernel
theorem d_W_law_1073 : decode code 1073 = .ok (.invokevirtual 218, 3) := by decide +kernel
theorem d_W_law_1076 : decode code 1076 = .ok (.istore 6, 2) := by decide +kernel
theorem d_W_law_1078 : decode code 1078 = .ok (.aload_n 2, 1) := by decide +kernel
theorem d_W_law_1079 : decode code 1079 = .ok (.invokevirtual 173, 3) := by decide +kernel
theorem d_W_law_1082 : decode code 1082 = .ok (.iload 5, 2) := by decide +kernel
theorem d_W_law_1084 : decode code 1084 = .ok (.if_icmp .eq (5), 3) := by decide +kernel
theorem d_W_law_1087 : decode code 1087 = .ok (.iconst 0, 1) := by decide +kernel
theorem d_W_law_1088 : decode code 1088 = .ok (.ireturn, 1) := by decide +kernel
theorem d_W_law_1089 : decode code 1089 = .ok (.iload 5, 2) := by decide +kernel
theorem d_W_law_1091 : decode code 1091 = .ok (.ifCond .ne (15), 3) := by decide +kernel
theorem d_W_law_1094 : decode code 1094 = .ok (.aload_n 3, 1) := by decide +kernel
theorem d_W_law_1095 : decode code 1095 = .ok (.iconst 0, 1) := by decide +kernel
theorem d_W_law_1096 : decode code 1096 = .ok (.laload, 1) := by decide +kernel
theorem d_W_law_1097 : decode code 1097 = .ok (.iload 6, 2) := by decide +kernel
theorem d_W_law_1099 : decode code 1099 = .ok (.i2l, 1) := by decide +kernel
theorem d_W_law_1100 : decode code 1100 = .ok (.lcmp, 1) := by decide +kernel
theorem d_W_law_1101 : decode code 1101 = .ok (.ifCond .eq (5), 3) := by decide +kernel
theorem d_W_law_1104 : decode code 1104 = .ok (.iconst 0, 1) := by decide +kernel
theorem d_W_law_1105 : decode code 1105 = .ok (.ireturn, 1) := by decide +kernel
theorem d_W_law_1106 : decode code 1106 = .ok (.goto (2214), 3) := by decide +kernel
theorem d_W_law_1109 : decode code 1109 = .ok (.aload_n 1, 1) := by decide +kernel
theorem d_W_law_1110 : decode code 1110 = .ok (.aload_n 0, 1) := by decide +kernel
theorem d_W_law_1111 : decode code 1111 = .ok (.iload 4, 2) := by decide +kernel
theorem d_W_law_1113 : decode code 1113 = .ok (.iconst 1, 1) := by decide +kernel
theorem d_W_law_1114 : decode code 1114 = .ok (.iadd, 1) := by decide +kernel
theorem d_W_law_1115 : decode code 1115 = .ok (.iaload, 1) := by decide +kernel
theorem d_W_law_1116 : decode code 1116 = .ok (.aload_n 3, 1) := by decide +kernel
theorem d_W_law_1117 : decode code 1117 = .ok (.invokestatic 219, 3) := by decide +kernel
theorem d_W_law_1120 : decode code 1120 = .ok (.istore 5, 2) := by decide +kernel
theorem d_W_law_1122 : decode code 1122 = .ok (.aload_n 2, 1) := by decide +kernel
theorem d_W_law_1123 : decode code 1123 = .ok (.aload_n 0, 1) := by decide +kernel
theorem d_W_law_1124 : decode code 1124 = .ok (.iload 4, 2) := by decide +kernel
theorem d_W_law_1126 : decode code 1126 = .ok (.iconst 1, 1) := by decide +kernel
theorem d_W_law_1127 : decode code 1127 = .ok (.iadd, 1) := by decide +kernel
theorem d_W_law_1128 : decode code 1128 = .ok (.iaload, 1) := by decide +kernel
theorem d_W_law_1129 : decode code 1129 = .ok (.invokevirtual 221, 3) := by decide +kernel
theorem d_W_law_1132 : decode code 1132 = .ok (.istore 6, 2) := by decide +kernel
theorem d_W_law_1134 : decode code 1134 = .ok (.aload_n 2, 1) := by decide +kernel
theorem d_W_law_1135 : decode code 1135 = .ok (.invokevirtual 173, 3) := by decide +kernel
theorem d_W_law_1138 : decode code 1138 = .ok (.iload 5, 2) := by decide +kernel
theorem d_W_law_1140 : decode code 1140 = .ok (.if_icmp .eq (5), 3) := by decide +kernel
theorem d_W_law_1143 : decode code 1143 = .ok (.iconst 0, 1) := by decide +kernel
theorem d_W_law_1144 : decode code 1144 = .ok (.ireturn, 1) := by decide +kernel
theorem d_W_law_1145 : decode code 1145 = .ok (.iload 5, 2) := by decide +kernel
theorem d_W_law_1147 : decode code 1147 = .ok (.ifCond .ne (15), 3) := by decide +kernel
theorem d_W_law_1150 : decode code 1150 = .ok (.aload_n 3, 1) := by decide +kernel
theorem d_W_law_1151 : decode code 1151 = .ok (.iconst 0, 1) := by decide +kernel
theorem d_W_law_1152 : decode code 1152 = .ok (.laload, 1) := by decide +kernel
theorem d_W_law_1153 : decode code 1153 = .ok (.iload 6, 2) := by decide +kernel
theorem d_W_law_1155 : decode code 1155 = .ok (.i2l, 1) := by decide +kernel
theorem d_W_law_1156 : decode code 1156 = .ok (.lcmp, 1) := by decide +kernel
theorem d_W_law_1157 : decode code 1157 = .ok (.ifCond .eq (5), 3) := by decide +kernel
theorem d_W_law_1160 : decode code 1160 = .ok (.iconst 0, 1) := by decide +kernel
theorem d_W_law_1161 : decode code 1161 = .ok (.ireturn, 1) := by decide +kernel
theorem d_W_law_1162 : decode code 1162 = .ok (.goto (2158), 3) := by decide +kernel
theorem d_W_law_1165 : decode code 1165 = .ok (.aload_n 1, 1) := by decide +kernel
theorem d_W_law_1166 : decode code 1166 = .ok (.aload_n 0, 1) := by decide +kernel
theorem d_W_law_1167 : decode code 1167 = .ok (.iload 4, 2) := by decide +kernel
theorem d_W_law_1169 : decode code 1169 = .ok (.iconst 1, 1) := by decide +kernel
theorem d_W_law_1170 : decode code 1170 = .ok (.iadd, 1) := by decide +kernel
theorem d_W_law_1171 : decode code 1171 = .ok (.iaload, 1) := by decide +kernel
theorem d_W_law_1172 : decode code 1172 = .ok (.aload_n 3, 1) := by decide +kernel
theorem d_W_law_1173 : decode code 1173 = .ok (.invokestatic 222, 3) := by decide +kernel
theorem d_W_law_1176 : decode code 1176 = .ok (.istore 5, 2) := by decide +kernel
theorem d_W_law_1178 : decode code 1178 = .ok (.aload_n 2, 1) := by decide +kernel
theorem d_W_law_1179 : decode code 1179 = .ok (.aload_n 0, 1) := by decide +kernel
theorem d_W_law_1180 : decode code 1180 = .ok (.iload 4, 2) := by decide +kernel
theorem d_W_law_1182 : decode code 1182 = .ok (.iconst 1, 1) := by decide +kernel
theorem d_W_law_1183 : decode code 1183 = .ok (.iadd, 1) := by decide +kernel
theorem d_W_law_1184 : decode code 1184 = .ok (.iaload, 1) := by decide +kernel
theorem d_W_law_1185 : decode code 1185 = .ok (.invokevirtual 224, 3) := by decide +kernel
theorem d_W_law_1188 : decode code 1188 = .ok (.istore 6, 2) := by decide +kernel
theorem d_W_law_1190 : decode code 1190 = .ok (.aload_n 2, 1) := by decide +kernel
theorem d_W_law_1191 : decode code 1191 = .ok (.invokevirtual 173, 3) := by decide +kernel
theorem d_W_law_1194 : decode code 1194 = .ok (.iload 5, 2) := by decide +kernel
theorem d_W_law_1196 : decode code 1196 = .ok (.if_icmp .eq (5), 3) := by decide +kernel
theorem d_W_law_1199 : decode code 1199 = .ok (.iconst 0, 1) := by decide +kernel
theorem d_W_law_1200 : decode code 1200 = .ok (.ireturn, 1) := by decide +kernel
theorem d_W_law_1201 : decode code 1201 = .ok (.iload 5, 2) := by decide +kernel
theorem d_W_law_1203 : decode code 1203 = .ok (.ifCond .ne (15), 3) := by decide +kernel
theorem d_W_law_1206 : decode code 1206 = .ok (.aload_n 3, 1) := by decide +kernel
theorem d_W_law_1207 : decode code 1207 = .ok (.iconst 0, 1) := by decide +kernel
theorem d_W_law_1208 : decode code 1208 = .ok (.laload, 1) := by decide +kernel
theorem d_W_law_1209 : decode code 1209 = .ok (.iload 6, 2) := by decide +kernel
theorem d_W_law_1211 : decode code 1211 = .ok (.i2l, 1) := by decide +kernel
theorem d_W_law_1212 : decode code 1212 = .ok (.lcmp, 1) := by decide +kernel
theorem d_W_law_1213 : decode code 1213 = .ok (.ifCond .eq (5), 3) := by decide +kernel
theorem d_W_law_1216 : decode code 1216 = .ok (.iconst 0, 1) := by decide +kernel
theorem d_W_law_1217 : decode code 1217 = .ok (.ireturn, 1) := by decide +kernel
theorem d_W_law_1218 : decode code 1218 = .ok (.goto (2102), 3) := by decide +kernel
theorem d_W_law_1221 : decode code 1221 = .ok (.aload_n 1, 1) := by decide +kernel
theorem d_W_law_1222 : decode code 1222 = .ok (.invokevirtual 225, 3) := by decide +kernel
theorem d_W_law_1225 : decode code 1225 = .ok (.aload_n 2, 1) := by decide +kernel
theorem d_W_law_1226 : decode code 1226 = .ok (.invokevirtual 228, 3) := by decide +kernel
theorem d_W_law_1229 : decode code 1229 = .ok (.if_icmp .eq (2091), 3) := by decide +kernel
theorem d_W_law_1232 : decode code 1232 = .ok (.iconst 0, 1) := by decide +kernel
theorem d_W_law_1233 : decode code 1233 = .ok (.ireturn, 1) := by decide +kernel
theorem d_W_law_1234 : decode code 1234 = .ok (.aload_n 1, 1) := by decide +kernel
theorem d_W_law_1235 : decode code 1235 = .ok (.aload_n 0, 1) := by decide +kernel
theorem d_W_law_1236 : decode code 1236 = .ok (.iload 4, 2) := by decide +kernel
theorem d_W_law_1238 : decode code 1238 = .ok (.iconst 1, 1) := by decide +kernel
theorem d_W_law_1239 : decode code 1239 = .ok (.iadd, 1) := by decide +kernel
theorem d_W_law_1240 : decode code 1240 = .ok (.iaload, 1) := by decide +kernel
theorem d_W_law_1241 : decode code 1241 = .ok (.aload_n 3, 1) := by decide +kernel
theorem d_W_law_1242 : decode code 1242 = .ok (.invokestatic 229, 3) := by decide +kernel
theorem d_W_law_1245 : decode code 1245 = .ok (.istore 5, 2) := by decide +kernel
theorem d_W_law_1247 : decode code 1247 = .ok (.aload_n 2, 1) := by decide +kernel
theorem d_W_law_1248 : decode code 1248 = .ok (.aload_n 0, 1) := by decide +kernel
theorem d_W_law_1249 : decode code 1249 = .ok (.iload 4, 2) := by decide +kernel
theorem d_W_law_1251 : decode code 1251 = .ok (.iconst 1, 1) := by decide +kernel
theorem d_W_law_1252 : decode code 1252 = .ok (.iadd, 1) := by decide +kernel
theorem d_W_law_1253 : decode code 1253 = .ok (.iaload, 1) := by decide +kernel
theorem d_W_law_1254 : decode code 1254 = .ok (.invokevirtual 231, 3) := by decide +kernel
theorem d_W_law_1257 : decode code 1257 = .ok (.istore 6, 2) := by decide +kernel
theorem d_W_law_1259 : decode code 1259 = .ok (.aload_n 2, 1) := by decide +kernel
theorem d_W_law_1260 : decode code 1260 = .ok (.invokevirtual 173, 3) := by decide +kernel
theorem d_W_law_1263 : decode code 1263 = .ok (.iload 5, 2) := by decide +kernel
theorem d_W_law_1265 : decode code 1265 = .ok (.if_icmp .eq (5), 3) := by decide +kernel
theorem d_W_law_1268 : decode code 1268 = .ok (.iconst 0, 1) := by decide +kernel
theorem d_W_law_1269 : decode code 1269 = .ok (.ireturn, 1) := by decide +kernel
theorem d_W_law_1270 : decode code 1270 = .ok (.iload 5, 2) := by decide +kernel
theorem d_W_law_1272 : decode code 1272 = .ok (.ifCond .ne (22), 3) := by decide +kernel
theorem d_W_law_1275 : decode code 1275 = .ok (.aload_n 3, 1) := by decide +kernel
theorem d_W_law_1276 : decode code 1276 = .ok (.iconst 0, 1) := by decide +kernel
theorem d_W_law_1277 : decode code 1277 = .ok (.laload, 1) := by decide +kernel
theorem d_W_law_1278 : decode code 1278 = .ok (.iload 6, 2) := by decide +kernel
theorem d_W_law_1280 : decode code 1280 = .ok (.ifCond .eq (7), 3) := by decide +kernel
theorem d_W_law_1283 : decode code 1283 = .ok (.lconst 1, 1) := by decide +kernel
theorem d_W_law_1284 : decode code 1284 = .ok (.goto (4), 3) := by decide +kernel
theorem d_W_law_1287 : decode code 1287 = .ok (.lconst 0, 1) := by decide +kernel
theorem d_W_law_1288 : decode code 1288 = .ok (.lcmp, 1) := by decide +kernel
theorem d_W_law_1289 : decode code 1289 = .ok (.ifCond .eq (5), 3) := by decide +kernel
theorem d_W_law_1292 : decode code 1292 = .ok (.iconst 0, 1) := by decide +kernel
theorem d_W_law_1293 : decode code 1293 = .ok (.ireturn, 1) := by decide +kernel
theorem d_W_law_1294 : decode code 1294 = .ok (.goto (2026), 3) := by decide +kernel
theorem d_W_law_1297 : decode code 1297 = .ok (.aload_n 1, 1) := by decide +kernel
theorem d_W_law_1298 : decode code 1298 = .ok (.aload_n 0, 1) := by decide +kernel
theorem d_W_law_1299 : decode code 1299 = .ok (.iload 4, 2) := by decide +kernel
theorem d_W_law_1301 : decode code 1301 = .ok (.iconst 1, 1) := by decide +kernel
theorem d_W_law_1302 : decode code 1302 = .ok (.iadd, 1) := by decide +kernel
theorem d_W_law_1303 : decode code 1303 = .ok (.iaload, 1) := by decide +kernel
theorem d_W_law_1304 : decode code 1304 = .ok (.aload_n 3, 1) := by decide +kernel
theorem d_W_law_1305 : decode code 1305 = .ok (.invokestatic 232, 3) := by decide +kernel
theorem d_W_law_1308 : decode code 1308 = .ok (.istore 5, 2) := by decide +kernel
theorem d_W_law_1310 : decode code 1310 = .ok (.aload_n 2, 1) := by decide +kernel
theorem d_W_law_1311 : decode code 1311 = .ok (.aload_n 0, 1) := by decide +kernel
theorem d_W_law_1312 : decode code 1312 = .ok (.iload 4, 2) := by decide +kernel
theorem d_W_law_1314 : decode code 1314 = .ok (.iconst 1, 1) := by decide +kernel
theorem d_W_law_1315 : decode code 1315 = .ok (.iadd, 1) := by decide +kernel
theorem d_W_law_1316 : decode code 1316 = .ok (.iaload, 1) := by decide +kernel
theorem d_W_law_1317 : decode code 1317 = .ok (.invokevirtual 234, 3) := by decide +kernel
theorem d_W_law_1320 : decode code 1320 = .ok (.istore 6, 2) := by decide +kernel
theorem d_W_law_1322 : decode code 1322 = .ok (.aload_n 2, 1) := by decide +kernel
theorem d_W_law_1323 : decode code 1323 = .ok (.invokevirtual 173, 3) := by decide +kernel
theorem d_W_law_1326 : decode code 1326 = .ok (.iload 5, 2) := by decide +kernel
theorem d_W_law_1328 : decode code 1328 = .ok (.if_icmp .eq (5), 3) := by decide +kernel
theorem d_W_law_1331 : decode code 1331 = .ok (.iconst 0, 1) := by decide +kernel
theorem d_W_law_1332 : decode code 1332 = .ok (.ireturn, 1) := by decide +kernel
theorem d_W_law_1333 : decode code 1333 = .ok (.iload 5, 2) := by decide +kernel
theorem d_W_law_1335 : decode code 1335 = .ok (.ifCond .ne (22), 3) := by decide +kernel
theorem d_W_law_1338 : decode code 1338 = .ok (.aload_n 3, 1) := by decide +kernel
theorem d_W_law_1339 : decode code 1339 = .ok (.iconst 0, 1) := by decide +kernel
theorem d_W_law_1340 : decode code 1340 = .ok (.laload, 1) := by decide +kernel
theorem d_W_law_1341 : decode code 1341 = .ok (.iload 6, 2) := by decide +kernel
theorem d_W_law_1343 : decode code 1343 = .ok (.ifCond .eq (7), 3) := by decide +kernel
theorem d_W_law_1346 : decode code 1346 = .ok (.lconst 1, 1) := by decide +kernel
theorem d_W_law_1347 : decode code 1347 = .ok (.goto (4), 3) := by decide +kernel
theorem d_W_law_1350 : decode code 1350 = .ok (.lconst 0, 1) := by decide +kernel
theorem d_W_law_1351 : decode code 1351 = .ok (.lcmp, 1) := by decide +kernel
theorem d_W_law_1352 : decode code 1352 = .ok (.ifCond .eq (5), 3) := by decide +kernel
theorem d_W_law_1355 : decode code 1355 = .ok (.iconst 0, 1) := by decide +kernel
theorem d_W_law_1356 : decode code 1356 = .ok (.ireturn, 1) := by decide +kernel
theorem d_W_law_1357 : decode code 1357 = .ok (.goto (1963), 3) := by decide +kernel
theorem d_W_law_1360 : decode code 1360 = .ok (.aload_n 1, 1) := by decide +kernel
theorem d_W_law_1361 : decode code 1361 = .ok (.aload_n 0, 1) := by decide +kernel
theorem d_W_law_1362 : decode code 1362 = .ok (.iload 4, 2) := by decide +kernel
theorem d_W_law_1364 : decode code 1364 = .ok (.iconst 1, 1) := by decide +kernel
theorem d_W_law_1365 : decode code 1365 = .ok (.iadd, 1) := by decide +kernel
theorem d_W_law_1366 : decode code 1366 = .ok (.iaload, 1) := by decide +kernel
theorem d_W_law_1367 : decode code 1367 = .ok (.aload_n 3, 1) := by decide +kernel
theorem d_W_law_1368 : decode code 1368 = .ok (.invokestatic 235, 3) := by decide +kernel
theorem d_W_law_1371 : decode code 1371 = .ok (.istore 5, 2) := by decide +kernel
theorem d_W_law_1373 : decode code 1373 = .ok (.aload_n 2, 1) := by decide +kernel
theorem d_W_law_1374 : decode code 1374 = .ok (.aload_n 0, 1) := by decide +kernel
theorem d_W_law_1375 : decode code 1375 = .ok (.iload 4, 2) := by decide +kernel
theorem d_W_law_1377 : decode code 1377 = .ok (.iconst 1, 1) := by decide +kernel
theorem d_W_law_1378 : decode code 1378 = .ok (.iadd, 1) := by decide +kernel
theorem d_W_law_1379 : decode code 1379 = .ok (.iaload, 1) := by decide +kernel
theorem d_W_law_1380 : decode code 1380 = .ok (.invokevirtual 237, 3) := by decide +kernel
theorem d_W_law_1383 : decode code 1383 = .ok (.istore 6, 2) := by decide +kernel
theorem d_W_law_1385 : decode code 1385 = .ok (.aload_n 2, 1) := by decide +kernel
theorem d_W_law_1386 : decode code 1386 = .ok (.invokevirtual 173, 3) := by decide +kernel
theorem d_W_law_1389 : decode code 1389 = .ok (.iload 5, 2) := by decide +kernel
theorem d_W_law_1391 : decode code 1391 = .ok (.if_icmp .eq (5), 3) := by decide +kernel
theorem d_W_law_1394 : decode code 1394 = .ok (.iconst 0, 1) := by decide +kernel
theorem d_W_law_1395 : decode code 1395 = .ok (.ireturn, 1) := by decide +kernel
theorem d_W_law_1396 : decode code 1396 = .ok (.iload 5, 2) := by decide +kernel
theorem d_W_law_1398 : decode code 1398 = .ok (.ifCond .ne (15), 3) := by decide +kernel
theorem d_W_law_1401 : decode code 1401 = .ok (.aload_n 3, 1) := by decide +kernel
theorem d_W_law_1402 : decode code 1402 = .ok (.iconst 0, 1) := by decide +kernel
theorem d_W_law_1403 : decode code 1403 = .ok (.laload, 1) := by decide +kernel
theorem d_W_law_1404 : decode code 1404 = .ok (.iload 6, 2) := by decide +kernel
theorem d_W_law_1406 : decode code 1406 = .ok (.i2l, 1) := by decide +kernel
theorem d_W_law_1407 : decode code 1407 = .ok (.lcmp, 1) := by decide +kernel
theorem d_W_law_1408 : decode code 1408 = .ok (.ifCond .eq (5), 3) := by decide +kernel
theorem d_W_law_1411 : decode code 1411 = .ok (.iconst 0, 1) := by decide +kernel
theorem d_W_law_1412 : decode code 1412 = .ok (.ireturn, 1) := by decide +kernel
theorem d_W_law_1413 : decode code 1413 = .ok (.goto (1907), 3) := by decide +kernel
theorem d_W_law_1416 : decode code 1416 = .ok (.aload_n 1, 1) := by decide +kernel
theorem d_W_law_1417 : decode code 1417 = .ok (.aload_n 0, 1) := by decide +kernel
theorem d_W_law_1418 : decode code 1418 = .ok (.iload 4, 2) := by decide +kernel
theorem d_W_law_1420 : decode code 1420 = .ok (.iconst 1, 1) := by decide +kernel
theorem d_W_law_1421 : decode code 1421 = .ok (.iadd, 1) := by decide +kernel
theorem d_W_law_1422 : decode code 1422 = .ok (.iaload, 1) := by decide +kernel
theorem d_W_law_1423 : decode code 1423 = .ok (.aload_n 0, 1) := by decide +kernel
theorem d_W_law_1424 : decode code 1424 = .ok (.iload 4, 2) := by decide +kernel
theorem d_W_law_1426 : decode code 1426 = .ok (.iconst 2, 1) := by decide +kernel
theorem d_W_law_1427 : decode code 1427 = .ok (.iadd, 1) := by decide +kernel
theorem d_W_law_1428 : decode code 1428 = .ok (.iaload, 1) := by decide +kernel
theorem d_W_law_1429 : decode code 1429 = .ok (.aload_n 0, 1) := by decide +kernel
theorem d_W_law_1430 : decode code 1430 = .ok (.iload 4, 2) := by decide +kernel
theorem d_W_law_1432 : decode code 1432 = .ok (.iconst 3, 1) := by decide +kernel
theorem d_W_law_1433 : decode code 1433 = .ok (.iadd, 1) := by decide +kernel
theorem d_W_law_1434 : decode code 1434 = .ok (.iaload, 1) := by decide +kernel
theorem d_W_law_1435 : decode code 1435 = .ok (.ifCond .eq (7), 3) := by decide +kernel
theorem d_W_law_1438 : decode code 1438 = .ok (.iconst 1, 1) := by decide +kernel
theorem d_W_law_1439 : decode code 1439 = .ok (.goto (4), 3) := by decide +kernel
theorem d_W_law_1442 : decode code 1442 = .ok (.iconst 0, 1) := by decide +kernel
theorem d_W_law_1443 : decode code 1443 = .ok (.aload_n 0, 1) := by decide +kernel
theorem d_W_law_1444 : decode code 1444 = .ok (.iload 4, 2) := by decide +kernel
theorem d_W_law_1446 : decode code 1446 = .ok (.iconst 4, 1) := by decide +kernel
theorem d_W_law_1447 : decode code 1447 = .ok (.iadd, 1) := by decide +kernel
theorem d_W_law_1448 : decode code 1448 = .ok (.iaload, 1) := by decide +kernel
theorem d_W_law_1449 : decode code 1449 = .ok (.aload_n 3, 1) := by decide +kernel
theorem d_W_law_1450 : decode code 1450 = .ok (.invokestatic 238, 3) := by decide +kernel
theorem d_W_law_1453 : decode code 1453 = .ok (.istore 5, 2) := by decide +kernel
theorem d_W_law_1455 : decode code 1455 = .ok (.aload_n 2, 1) := by decide +kernel
theorem d_W_law_1456 : decode code 1456 = .ok (.aload_n 0, 1) := by decide +kernel
theorem d_W_law_1457 : decode code 1457 = .ok (.iload 4, 2) := by decide +kernel
theorem d_W_law_1459 : decode code 1459 = .ok (.iconst 1, 1) := by decide +kernel
theorem d_W_law_1460 : decode code 1460 = .ok (.iadd, 1) := by decide +kernel
theorem d_W_law_1461 : decode code 1461 = .ok (.iaload, 1) := by decide +kernel
theorem d_W_law_1462 : decode code 1462 = .ok (.aload_n 0, 1) := by decide +kernel
theorem d_W_law_1463 : decode code 1463 = .ok (.iload 4, 2) := by decide +kernel
theorem d_W_law_1465 : decode code 1465 = .ok (.iconst 2, 1) := by decide +kernel
theorem d_W_law_1466 : decode code 1466 = .ok (.iadd, 1) := by decide +kernel
theorem d_W_law_1467 : decode code 1467 = .ok (.iaload, 1) := by decide +kernel
theorem d_W_law_1468 : decode code 1468 = .ok (.aload_n 0, 1) := by decide +kernel
theorem d_W_law_1469 : decode code 1469 = .ok (.iload 4, 2) := by decide +kernel
theorem d_W_law_1471 : decode code 1471 = .ok (.iconst 3, 1) := by decide +kernel
theorem d_W_law_1472 : decode code 1472 = .ok (.iadd, 1) := by decide +kernel
theorem d_W_law_1473 : decode code 1473 = .ok (.iaload, 1) := by decide +kernel
theorem d_W_law_1474 : decode code 1474 = .ok (.ifCond .eq (7), 3) := by decide +kernel
theorem d_W_law_1477 : decode code 1477 = .ok (.iconst 1, 1) := by decide +kernel
theorem d_W_law_1478 : decode code 1478 = .ok (.goto (4), 3) := by decide +kernel
theorem d_W_law_1481 : decode code 1481 = .ok (.iconst 0, 1) := by decide +kernel
theorem d_W_law_1482 : decode code 1482 = .ok (.aload_n 0, 1) := by decide +kernel
theorem d_W_law_1483 : decode code 1483 = .ok (.iload 4, 2) := by decide +kernel
theorem d_W_law_1485 : decode code 1485 = .ok (.iconst 4, 1) := by decide +kernel
theorem d_W_law_1486 : decode code 1486 = .ok (.iadd, 1) := by decide +kernel
theorem d_W_law_1487 : decode code 1487 = .ok (.iaload, 1) := by decide +kernel
theorem d_W_law_1488 : decode code 1488 = .ok (.invokevirtual 241, 3) := by decide +kernel
theorem d_W_law_1491 : decode code 1491 = .ok (.istore 6, 2) := by decide +kernel
theorem d_W_law_1493 : decode code 1493 = .ok (.aload_n 2, 1) := by decide +kernel
theorem d_W_law_1494 : decode code 1494 = .ok (.invokevirtual 173, 3) := by decide +kernel
theorem d_W_law_1497 : decode code 1497 = .ok (.iload 5, 2) := by decide +kernel
theorem d_W_law_1499 : decode code 1499 = .ok (.if_icmp .eq (5), 3) := by decide +kernel
theorem d_W_law_1502 : decode code 1502 = .ok (.iconst 0, 1) := by decide +kernel
theorem d_W_law_1503 : decode code 1503 = .ok (.ireturn, 1) := by decide +kernel
theorem d_W_law_1504 : decode code 1504 = .ok (.iload 5, 2) := by decide +kernel
theorem d_W_law_1506 : decode code 1506 = .ok (.ifCond .ne (15), 3) := by decide +kernel
theorem d_W_law_1509 : decode code 1509 = .ok (.aload_n 3, 1) := by decide +kernel
theorem d_W_law_1510 : decode code 1510 = .ok (.iconst 0, 1) := by decide +kernel
theorem d_W_law_1511 : decode code 1511 = .ok (.laload, 1) := by decide +kernel
theorem d_W_law_1512 : decode code 1512 = .ok (.iload 6, 2) := by decide +kernel
theorem d_W_law_1514 : decode code 1514 = .ok (.i2l, 1) := by decide +kernel
theorem d_W_law_1515 : decode code 1515 = .ok (.lcmp, 1) := by decide +kernel
theorem d_W_law_1516 : decode code 1516 = .ok (.ifCond .eq (5), 3) := by decide +kernel
theorem d_W_law_1519 : decode code 1519 = .ok (.iconst 0, 1) := by decide +kernel
theorem d_W_law_1520 : decode code 1520 = .ok (.ireturn, 1) := by decide +kernel
theorem d_W_law_1521 : decode code 1521 = .ok (.goto (1799), 3) := by decide +kernel
theorem d_W_law_1524 : decode code 1524 = .ok (.aload_n 1, 1) := by decide +kernel
theorem d_W_law_1525 : decode code 1525 = .ok (.aload_n 0, 1) := by decide +kernel
theorem d_W_law_1526 : decode code 1526 = .ok (.iload 4, 2) := by decide +kernel
theorem d_W_law_1528 : decode code 1528 = .ok (.iconst 1, 1) := by decide +kernel
theorem d_W_law_1529 : decode code 1529 = .ok (.iadd, 1) := by decide +kernel
theorem d_W_law_1530 : decode code 1530 = .ok (.iaload, 1) := by decide +kernel
theorem d_W_law_1531 : decode code 1531 = .ok (.aload_n 3, 1) := by decide +kernel
theorem d_W_law_1532 : decode code 1532 = .ok (.invokestatic 242, 3) := by decide +kernel
theorem d_W_law_1535 : decode code 1535 = .ok (.istore 5, 2) := by decide +kernel
theorem d_W_law_1537 : decode code 1537 = .ok (.aload_n 2, 1) := by decide +kernel
theorem d_W_law_1538 : decode code 1538 = .ok (.aload_n 0, 1) := by decide +kernel
theorem d_W_law_1539 : decode code 1539 = .ok (.iload 4, 2) := by decide +kernel
theorem d_W_law_1541 : decode code 1541 = .ok (.iconst 1, 1) := by decide +kernel
theorem d_W_law_1542 : decode code 1542 = .ok (.iadd, 1) := by decide +kernel
theorem d_W_law_1543 : decode code 1543 = .ok (.iaload, 1) := by decide +kernel
theorem d_W_law_1544 : decode code 1544 = .ok (.invokevirtual 244, 3) := by decide +kernel
theorem d_W_law_1547 : decode code 1547 = .ok (.istore 6, 2) := by decide +kernel
theorem d_W_law_1549 : decode code 1549 = .ok (.aload_n 2, 1) := by decide +kernel
theorem d_W_law_1550 : decode code 1550 = .ok (.invokevirtual 173, 3) := by decide +kernel
theorem d_W_law_1553 : decode code 1553 = .ok (.iload 5, 2) := by decide +kernel
theorem d_W_law_1555 : decode code 1555 = .ok (.if_icmp .eq (5), 3) := by decide +kernel
theorem d_W_law_1558 : decode code 1558 = .ok (.iconst 0, 1) := by decide +kernel
theorem d_W_law_1559 : decode code 1559 = .ok (.ireturn, 1) := by decide +kernel
theorem d_W_law_1560 : decode code 1560 = .ok (.iload 5, 2) := by decide +kernel
theorem d_W_law_1562 : decode code 1562 = .ok (.ifCond .ne (15), 3) := by decide +kernel
theorem d_W_law_1565 : decode code 1565 = .ok (.aload_n 3, 1) := by decide +kernel
theorem d_W_law_1566 : decode code 1566 = .ok (.iconst 0, 1) := by decide +kernel
theorem d_W_law_1567 : decode code 1567 = .ok (.laload, 1) := by decide +kernel
theorem d_W_law_1568 : decode code 1568 = .ok (.iload 6, 2) := by decide +kernel
theorem d_W_law_1570 : decode code 1570 = .ok (.i2l, 1) := by decide +kernel
theorem d_W_law_1571 : decode code 1571 = .ok (.lcmp, 1) := by decide +kernel
theorem d_W_law_1572 : decode code 1572 = .ok (.ifCond .eq (5), 3) := by decide +kernel
theorem d_W_law_1575 : decode code 1575 = .ok (.iconst 0, 1) := by decide +kernel
theorem d_W_law_1576 : decode code 1576 = .ok (.ireturn, 1) := by decide +kernel
theorem d_W_law_1577 : decode code 1577 = .ok (.goto (1743), 3) := by decide +kernel
theorem d_W_law_1580 : decode code 1580 = .ok (.aload_n 1, 1) := by decide +kernel
theorem d_W_law_1581 : decode code 1581 = .ok (.aload_n 0, 1) := by decide +kernel
theorem d_W_law_1582 : decode code 1582 = .ok (.iload 4, 2) := by decide +kernel
theorem d_W_law_1584 : decode code 1584 = .ok (.iconst 1, 1) := by decide +kernel
theorem d_W_law_1585 : decode code 1585 = .ok (.iadd, 1) := by decide +kernel
theorem d_W_law_1586 : decode code 1586 = .ok (.iaload, 1) := by decide +kernel
theorem d_W_law_1587 : decode code 1587 = .ok (.aload_n 3, 1) := by decide +kernel
theorem d_W_law_1588 : decode code 1588 = .ok (.invokestatic 245, 3) := by decide +kernel
theorem d_W_law_1591 : decode code 1591 = .ok (.istore 5, 2) := by decide +kernel
theorem d_W_law_1593 : decode code 1593 = .ok (.aload_n 2, 1) := by decide +kernel
theorem d_W_law_1594 : decode code 1594 = .ok (.aload_n 0, 1) := by decide +kernel
theorem d_W_law_1595 : decode code 1595 = .ok (.iload 4, 2) := by decide +kernel
theorem d_W_law_1597 : decode code 1597 = .ok (.iconst 1, 1) := by decide +kernel
theorem d_W_law_1598 : decode code 1598 = .ok (.iadd, 1) := by decide +kernel
theorem d_W_law_1599 : decode code 1599 = .ok (.iaload, 1) := by decide +kernel
theorem d_W_law_1600 : decode code 1600 = .ok (.invokevirtual 247, 3) := by decide +kernel
theorem d_W_law_1603 : decode code 1603 = .ok (.istore 6, 2) := by decide +kernel
theorem d_W_law_1605 : decode code 1605 = .ok (.aload_n 2, 1) := by decide +kernel
theorem d_W_law_1606 : decode code 1606 = .ok (.invokevirtual 173, 3) := by decide +kernel
theorem d_W_law_1609 : decode code 1609 = .ok (.iload 5, 2) := by decide +kernel
theorem d_W_law_1611 : decode code 1611 = .ok (.if_icmp .eq (5), 3) := by decide +kernel
theorem d_W_law_1614 : decode code 1614 = .ok (.iconst 0, 1) := by decide +kernel
theorem d_W_law_1615 : decode code 1615 = .ok (.ireturn, 1) := by decide +kernel
theorem d_W_law_1616 : decode code 1616 = .ok (.iload 5, 2) := by decide +kernel
theorem d_W_law_1618 : decode code 1618 = .ok (.ifCond .ne (22), 3) := by decide +kernel
theorem d_W_law_1621 : decode code 1621 = .ok (.aload_n 3, 1) := by decide +kernel
theorem d_W_law_1622 : decode code 1622 = .ok (.iconst 0, 1) := by decide +kernel
theorem d_W_law_1623 : decode code 1623 = .ok (.laload, 1) := by decide +kernel
theorem d_W_law_1624 : decode code 1624 = .ok (.iload 6, 2) := by decide +kernel
theorem d_W_law_1626 : decode code 1626 = .ok (.ifCond .eq (7), 3) := by decide +kernel
theorem d_W_law_1629 : decode code 1629 = .ok (.lconst 1, 1) := by decide +kernel
theorem d_W_law_1630 : decode code 1630 = .ok (.goto (4), 3) := by decide +kernel
theorem d_W_law_1633 : decode code 1633 = .ok (.lconst 0, 1) := by decide +kernel
theorem d_W_law_1634 : decode code 1634 = .ok (.lcmp, 1) := by decide +kernel
theorem d_W_law_1635 : decode code 1635 = .ok (.ifCond .eq (5), 3) := by decide +kernel
theorem d_W_law_1638 : decode code 1638 = .ok (.iconst 0, 1) := by decide +kernel
theorem d_W_law_1639 : decode code 1639 = .ok (.ireturn, 1) := by decide +kernel
theorem d_W_law_1640 : decode code 1640 = .ok (.goto (1680), 3) := by decide +kernel
theorem d_W_law_1643 : decode code 1643 = .ok (.aload_n 1, 1) := by decide +kernel
theorem d_W_law_1644 : decode code 1644 = .ok (.aload_n 0, 1) := by decide +kernel
theorem d_W_law_1645 : decode code 1645 = .ok (.iload 4, 2) := by decide +kernel
theorem d_W_law_1647 : decode code 1647 = .ok (.iconst 1, 1) := by decide +kernel
theorem d_W_law_1648 : decode code 1648 = .ok (.iadd, 1) := by decide +kernel
theorem d_W_law_1649 : decode code 1649 = .ok (.iaload, 1) := by decide +kernel
theorem d_W_law_1650 : decode code 1650 = .ok (.aload_n 0, 1) := by decide +kernel
theorem d_W_law_1651 : decode code 1651 = .ok (.iload 4, 2) := by decide +kernel
theorem d_W_law_1653 : decode code 1653 = .ok (.iconst 2, 1) := by decide +kernel
theorem d_W_law_1654 : decode code 1654 = .ok (.iadd, 1) := by decide +kernel
theorem d_W_law_1655 : decode code 1655 = .ok (.iaload, 1) := by decide +kernel
theorem d_W_law_1656 : decode code 1656 = .ok (.aload_n 3, 1) := by decide +kernel
theorem d_W_law_1657 : decode code 1657 = .ok (.invokestatic 248, 3) := by decide +kernel
theorem d_W_law_1660 : decode code 1660 = .ok (.istore 5, 2) := by decide +kernel
theorem d_W_law_1662 : decode code 1662 = .ok (.aload_n 2, 1) := by decide +kernel
theorem d_W_law_1663 : decode code 1663 = .ok (.aload_n 0, 1) := by decide +kernel
theorem d_W_law_1664 : decode code 1664 = .ok (.iload 4, 2) := by decide +kernel
theorem d_W_law_1666 : decode code 1666 = .ok (.iconst 1, 1) := by decide +kernel
theorem d_W_law_1667 : decode code 1667 = .ok (.iadd, 1) := by decide +kernel
theorem d_W_law_1668 : decode code 1668 = .ok (.iaload, 1) := by decide +kernel
theorem d_W_law_1669 : decode code 1669 = .ok (.aload_n 0, 1) := by decide +kernel
theorem d_W_law_1670 : decode code 1670 = .ok (.iload 4, 2) := by decide +kernel
theorem d_W_law_1672 : decode code 1672 = .ok (.iconst 2, 1) := by decide +kernel
theorem d_W_law_1673 : decode code 1673 = .ok (.iadd, 1) := by decide +kernel
theorem d_W_law_1674 : decode code 1674 = .ok (.iaload, 1) := by decide +kernel
theorem d_W_law_1675 : decode code 1675 = .ok (.invokevirtual 250, 3) := by decide +kernel
theorem d_W_law_1678 : decode code 1678 = .ok (.istore 6, 2) := by decide +kernel
theorem d_W_law_1680 : decode code 1680 = .ok (.aload_n 2, 1) := by decide +kernel
theorem d_W_law_1681 : decode code 1681 = .ok (.invokevirtual 173, 3) := by decide +kernel
theorem d_W_law_1684 : decode code 1684 = .ok (.iload 5, 2) := by decide +kernel
theorem d_W_law_1686 : decode code 1686 = .ok (.if_icmp .eq (5), 3) := by decide +kernel
theorem d_W_law_1689 : decode code 1689 = .ok (.iconst 0, 1) := by decide +kernel
theorem d_W_law_1690 : decode code 1690 = .ok (.ireturn, 1) := by decide +kernel
theorem d_W_law_1691 : decode code 1691 = .ok (.iload 5, 2) := by decide +kernel
theorem d_W_law_1693 : decode code 1693 = .ok (.ifCond .ne (15), 3) := by decide +kernel
theorem d_W_law_1696 : decode code 1696 = .ok (.aload_n 3, 1) := by decide +kernel
theorem d_W_law_1697 : decode code 1697 = .ok (.iconst 0, 1) := by decide +kernel
theorem d_W_law_1698 : decode code 1698 = .ok (.laload, 1) := by decide +kernel
theorem d_W_law_1699 : decode code 1699 = .ok (.iload 6, 2) := by decide +kernel
theorem d_W_law_1701 : decode code 1701 = .ok (.i2l, 1) := by decide +kernel
theorem d_W_law_1702 : decode code 1702 = .ok (.lcmp, 1) := by decide +kernel
theorem d_W_law_1703 : decode code 1703 = .ok (.ifCond .eq (5), 3) := by decide +kernel
theorem d_W_law_1706 : decode code 1706 = .ok (.iconst 0, 1) := by decide +kernel
theorem d_W_law_1707 : decode code 1707 = .ok (.ireturn, 1) := by decide +kernel
theorem d_W_law_1708 : decode code 1708 = .ok (.goto (1612), 3) := by decide +kernel
theorem d_W_law_1711 : decode code 1711 = .ok (.aload_n 1, 1) := by decide +kernel
theorem d_W_law_1712 : decode code 1712 = .ok (.aload_n 0, 1) := by decide +kernel
theorem d_W_law_1713 : decode code 1713 = .ok (.iload 4, 2) := by decide +kernel
theorem d_W_law_1715 : decode code 1715 = .ok (.iconst 1, 1) := by decide +kernel
theorem d_W_law_1716 : decode code 1716 = .ok (.iadd, 1) := by decide +kernel
theorem d_W_law_1717 : decode code 1717 = .ok (.iaload, 1) := by decide +kernel
theorem d_W_law_1718 : decode code 1718 = .ok (.aload_n 0, 1) := by decide +kernel
theorem d_W_law_1719 : decode code 1719 = .ok (.iload 4, 2) := by decide +kernel
theorem d_W_law_1721 : decode code 1721 = .ok (.iconst 2, 1) := by decide +kernel
theorem d_W_law_1722 : decode code 1722 = .ok (.iadd, 1) := by decide +kernel
theorem d_W_law_1723 : decode code 1723 = .ok (.iaload, 1) := by decide +kernel
theorem d_W_law_1724 : decode code 1724 = .ok (.aload_n 0, 1) := by decide +kernel
theorem d_W_law_1725 : decode code 1725 = .ok (.iload 4, 2) := by decide +kernel
theorem d_W_law_1727 : decode code 1727 = .ok (.iconst 3, 1) := by decide +kernel
theorem d_W_law_1728 : decode code 1728 = .ok (.iadd, 1) := by decide +kernel
theorem d_W_law_1729 : decode code 1729 = .ok (.iaload, 1) := by decide +kernel
theorem d_W_law_1730 : decode code 1730 = .ok (.aload_n 3, 1) := by decide +kernel
theorem d_W_law_1731 : decode code 1731 = .ok (.invokestatic 251, 3) := by decide +kernel
theorem d_W_law_1734 : decode code 1734 = .ok (.istore 5, 2) := by decide +kernel
theorem d_W_law_1736 : decode code 1736 = .ok (.aload_n 2, 1) := by decide +kernel
theorem d_W_law_1737 : decode code 1737 = .ok (.aload_n 0, 1) := by decide +kernel
theorem d_W_law_1738 : decode code 1738 = .ok (.iload 4, 2) := by decide +kernel
theorem d_W_law_1740 : decode code 1740 = .ok (.iconst 1, 1) := by decide +kernel
theorem d_W_law_1741 : decode code 1741 = .ok (.iadd, 1) := by decide +kernel
theorem d_W_law_1742 : decode code 1742 = .ok (.iaload, 1) := by decide +kernel
theorem d_W_law_1743 : decode code 1743 = .ok (.aload_n 0, 1) := by decide +kernel
theorem d_W_law_1744 : decode code 1744 = .ok (.iload 4, 2) := by decide +kernel
theorem d_W_law_1746 : decode code 1746 = .ok (.iconst 2, 1) := by decide +kernel
theorem d_W_law_1747 : decode code 1747 = .ok (.iadd, 1) := by decide +kernel
theorem d_W_law_1748 : decode code 1748 = .ok (.iaload, 1) := by decide +kernel
theorem d_W_law_1749 : decode code 1749 = .ok (.aload_n 0, 1) := by decide +kernel
theorem d_W_law_1750 : decode code 1750 = .ok (.iload 4, 2) := by decide +kernel
theorem d_W_law_1752 : decode code 1752 = .ok (.iconst 3, 1) := by decide +kernel
theorem d_W_law_1753 : decode code 1753 = .ok (.iadd, 1) := by decide +kernel
theorem d_W_law_1754 : decode code 1754 = .ok (.iaload, 1) := by decide +kernel
theorem d_W_law_1755 : decode code 1755 = .ok (.invokevirtual 253, 3) := by decide +kernel
theorem d_W_law_1758 : decode code 1758 = .ok (.istore 6, 2) := by decide +kernel
theorem d_W_law_1760 : decode code 1760 = .ok (.aload_n 2, 1) := by decide +kernel
theorem d_W_law_1761 : decode code 1761 = .ok (.invokevirtual 173, 3) := by decide +kernel
theorem d_W_law_1764 : decode code 1764 = .ok (.iload 5, 2) := by decide +kernel
theorem d_W_law_1766 : decode code 1766 = .ok (.if_icmp .eq (5), 3) := by decide +kernel
theorem d_W_law_1769 : decode code 1769 = .ok (.iconst 0, 1) := by decide +kernel
theorem d_W_law_1770 : decode code 1770 = .ok (.ireturn, 1) := by decide +kernel
theorem d_W_law_1771 : decode code 1771 = .ok (.iload 5, 2) := by decide +kernel
theorem d_W_law_1773 : decode code 1773 = .ok (.ifCond .ne (15), 3) := by decide +kernel
theorem d_W_law_1776 : decode code 1776 = .ok (.aload_n 3, 1) := by decide +kernel
theorem d_W_law_1777 : decode code 1777 = .ok (.iconst 0, 1) := by decide +kernel
theorem d_W_law_1778 : decode code 1778 = .ok (.laload, 1) := by decide +kernel
theorem d_W_law_1779 : decode code 1779 = .ok (.iload 6, 2) := by decide +kernel
theorem d_W_law_1781 : decode code 1781 = .ok (.i2l, 1) := by decide +kernel
theorem d_W_law_1782 : decode code 1782 = .ok (.lcmp, 1) := by decide +kernel
theorem d_W_law_1783 : decode code 1783 = .ok (.ifCond .eq (5), 3) := by decide +kernel
theorem d_W_law_1786 : decode code 1786 = .ok (.iconst 0, 1) := by decide +kernel
theorem d_W_law_1787 : decode code 1787 = .ok (.ireturn, 1) := by decide +kernel
theorem d_W_law_1788 : decode code 1788 = .ok (.goto (1532), 3) := by decide +kernel
theorem d_W_law_1791 : decode code 1791 = .ok (.aload_n 1, 1) := by decide +kernel
theorem d_W_law_1792 : decode code 1792 = .ok (.aload_n 0, 1) := by decide +kernel
theorem d_W_law_1793 : decode code 1793 = .ok (.iload 4, 2) := by decide +kernel
theorem d_W_law_1795 : decode code 1795 = .ok (.iconst 1, 1) := by decide +kernel
theorem d_W_law_1796 : decode code 1796 = .ok (.iadd, 1) := by decide +kernel
theorem d_W_law_1797 : decode code 1797 = .ok (.iaload, 1) := by decide +kernel
theorem d_W_law_1798 : decode code 1798 = .ok (.aload_n 0, 1) := by decide +kernel
theorem d_W_law_1799 : decode code 1799 = .ok (.iload 4, 2) := by decide +kernel
theorem d_W_law_1801 : decode code 1801 = .ok (.iconst 2, 1) := by decide +kernel
theorem d_W_law_1802 : decode code 1802 = .ok (.iadd, 1) := by decide +kernel
theorem d_W_law_1803 : decode code 1803 = .ok (.iaload, 1) := by decide +kernel
theorem d_W_law_1804 : decode code 1804 = .ok (.aload_n 3, 1) := by decide +kernel
theorem d_W_law_1805 : decode code 1805 = .ok (.invokestatic 254, 3) := by decide +kernel
theorem d_W_law_1808 : decode code 1808 = .ok (.istore 5, 2) := by decide +kernel
theorem d_W_law_1810 : decode code 1810 = .ok (.aload_n 2, 1) := by decide +kernel
theorem d_W_law_1811 : decode code 1811 = .ok (.aload_n 0, 1) := by decide +kernel
theorem d_W_law_1812 : decode code 1812 = .ok (.iload 4, 2) := by decide +kernel
theorem d_W_law_1814 : decode code 1814 = .ok (.iconst 1, 1) := by decide +kernel
theorem d_W_law_1815 : decode code 1815 = .ok (.iadd, 1) := by decide +kernel
theorem d_W_law_1816 : decode code 1816 = .ok (.iaload, 1) := by decide +kernel
theorem d_W_law_1817 : decode code 1817 = .ok (.aload_n 0, 1) := by decide +kernel
theorem d_W_law_1818 : decode code 1818 = .ok (.iload 4, 2) := by decide +kernel
theorem d_W_law_1820 : decode code 1820 = .ok (.iconst 2, 1) := by decide +kernel
theorem d_W_law_1821 : decode code 1821 = .ok (.iadd, 1) := by decide +kernel
theorem d_W_law_1822 : decode code 1822 = .ok (.iaload, 1) := by decide +kernel
theorem d_W_law_1823 : decode code 1823 = .ok (.invokevirtual 256, 3) := by decide +kernel
theorem d_W_law_1826 : decode code 1826 = .ok (.istore 6, 2) := by decide +kernel
theorem d_W_law_1828 : decode code 1828 = .ok (.aload_n 2, 1) := by decide +kernel
theorem d_W_law_1829 : decode code 1829 = .ok (.invokevirtual 173, 3) := by decide +kernel
theorem d_W_law_1832 : decode code 1832 = .ok (.iload 5, 2) := by decide +kernel
theorem d_W_law_1834 : decode code 1834 = .ok (.if_icmp .eq (5), 3) := by decide +kernel
theorem d_W_law_1837 : decode code 1837 = .ok (.iconst 0, 1) := by decide +kernel
theorem d_W_law_1838 : decode code 1838 = .ok (.ireturn, 1) := by decide +kernel
theorem d_W_law_1839 : decode code 1839 = .ok (.iload 5, 2) := by decide +kernel
theorem d_W_law_1841 : decode code 1841 = .ok (.ifCond .ne (15), 3) := by decide +kernel
theorem d_W_law_1844 : decode code 1844 = .ok (.aload_n 3, 1) := by decide +kernel
theorem d_W_law_1845 : decode code 1845 = .ok (.iconst 0, 1) := by decide +kernel
theorem d_W_law_1846 : decode code 1846 = .ok (.laload, 1) := by decide +kernel
theorem d_W_law_1847 : decode code 1847 = .ok (.iload 6, 2) := by decide +kernel
theorem d_W_law_1849 : decode code 1849 = .ok (.i2l, 1) := by decide +kernel
theorem d_W_law_1850 : decode code 1850 = .ok (.lcmp, 1) := by decide +kernel
theorem d_W_law_1851 : decode code 1851 = .ok (.ifCond .eq (5), 3) := by decide +kernel
theorem d_W_law_1854 : decode code 1854 = .ok (.iconst 0, 1) := by decide +kernel
theorem d_W_law_1855 : decode code 1855 = .ok (.ireturn, 1) := by decide +kernel
theorem d_W_law_1856 : decode code 1856 = .ok (.goto (1464), 3) := by decide +kernel
theorem d_W_law_1859 : decode code 1859 = .ok (.aload_n 1, 1) := by decide +kernel
theorem d_W_law_1860 : decode code 1860 = .ok (.aload_n 0, 1) := by decide +kernel
theorem d_W_law_1861 : decode code 1861 = .ok (.iload 4, 2) := by decide +kernel
theorem d_W_law_1863 : decode code 1863 = .ok (.iconst 1, 1) := by decide +kernel
theorem d_W_law_1864 : decode code 1864 = .ok (.iadd, 1) := by decide +kernel
theorem d_W_law_1865 : decode code 1865 = .ok (.iaload, 1) := by decide +kernel
theorem d_W_law_1866 : decode code 1866 = .ok (.aload_n 0, 1) := by decide +kernel
theorem d_W_law_1867 : decode code 1867 = .ok (.iload 4, 2) := by decide +kernel
theorem d_W_law_1869 : decode code 1869 = .ok (.iconst 2, 1) := by decide +kernel
theorem d_W_law_1870 : decode code 1870 = .ok (.iadd, 1) := by decide +kernel
theorem d_W_law_1871 : decode code 1871 = .ok (.iaload, 1) := by decide +kernel
theorem d_W_law_1872 : decode code 1872 = .ok (.aload_n 3, 1) := by decide +kernel
theorem d_W_law_1873 : decode code 1873 = .ok (.invokestatic 257, 3) := by decide +kernel
theorem d_W_law_1876 : decode code 1876 = .ok (.istore 5, 2) := by decide +kernel
theorem d_W_law_1878 : decode code 1878 = .ok (.aload_n 2, 1) := by decide +kernel
theorem d_W_law_1879 : decode code 1879 = .ok (.aload_n 0, 1) := by decide +kernel
theorem d_W_law_1880 : decode code 1880 = .ok (.iload 4, 2) := by decide +kernel
theorem d_W_law_1882 : decode code 1882 = .ok (.iconst 1, 1) := by decide +kernel
theorem d_W_law_1883 : decode code 1883 = .ok (.iadd, 1) := by decide +kernel
theorem d_W_law_1884 : decode code 1884 = .ok (.iaload, 1) := by decide +kernel
theorem d_W_law_1885 : decode code 1885 = .ok (.aload_n 0, 1) := by decide +kernel
theorem d_W_law_1886 : decode code 1886 = .ok (.iload 4, 2) := by decide +kernel
theorem d_W_law_1888 : decode code 1888 = .ok (.iconst 2, 1) := by decide +kernel
theorem d_W_law_1889 : decode code 1889 = .ok (.iadd, 1) := by decide +kernel
theorem d_W_law_1890 : decode code 1890 = .ok (.iaload, 1) := by decide +kernel
theorem d_W_law_1891 : decode code 1891 = .ok (.invokevirtual 259, 3) := by decide +kernel
theorem d_W_law_1894 : decode code 1894 = .ok (.istore 6, 2) := by decide +kernel
theorem d_W_law_1896 : decode code 1896 = .ok (.aload_n 2, 1) := by decide +kernel
theorem d_W_law_1897 : decode code 1897 = .ok (.invokevirtual 173, 3) := by decide +kernel
theorem d_W_law_1900 : decode code 1900 = .ok (.iload 5, 2) := by decide +kernel
theorem d_W_law_1902 : decode code 1902 = .ok (.if_icmp .eq (5), 3) := by decide +kernel
theorem d_W_law_1905 : decode code 1905 = .ok (.iconst 0, 1) := by decide +kernel
theorem d_W_law_1906 : decode code 1906 = .ok (.ireturn, 1) := by decide +kernel
theorem d_W_law_1907 : decode code 1907 = .ok (.iload 5, 2) := by decide +kernel
theorem d_W_law_1909 : decode code 1909 = .ok (.ifCond .ne (15), 3) := by decide +kernel
theorem d_W_law_1912 : decode code 1912 = .ok (.aload_n 3, 1) := by decide +kernel
theorem d_W_law_1913 : decode code 1913 = .ok (.iconst 0, 1) := by decide +kernel
theorem d_W_law_1914 : decode code 1914 = .ok (.laload, 1) := by decide +kernel
theorem d_W_law_1915 : decode code 1915 = .ok (.iload 6, 2) := by decide +kernel
theorem d_W_law_1917 : decode code 1917 = .ok (.i2l, 1) := by decide +kernel
theorem d_W_law_1918 : decode code 1918 = .ok (.lcmp, 1) := by decide +kernel
theorem d_W_law_1919 : decode code 1919 = .ok (.ifCond .eq (5), 3) := by decide +kernel
theorem d_W_law_1922 : decode code 1922 = .ok (.iconst 0, 1) := by decide +kernel
theorem d_W_law_1923 : decode code 1923 = .ok (.ireturn, 1) := by decide +kernel
theorem d_W_law_1924 : decode code 1924 = .ok (.goto (1396), 3) := by decide +kernel
theorem d_W_law_1927 : decode code 1927 = .ok (.aload_n 1, 1) := by decide +kernel
theorem d_W_law_1928 : decode code 1928 = .ok (.aload_n 0, 1) := by decide +kernel
theorem d_W_law_1929 : decode code 1929 = .ok (.iload 4, 2) := by decide +kernel
theorem d_W_law_1931 : decode code 1931 = .ok (.iconst 1, 1) := by decide +kernel
theorem d_W_law_1932 : decode code 1932 = .ok (.iadd, 1) := by decide +kernel
theorem d_W_law_1933 : decode code 1933 = .ok (.iaload, 1) := by decide +kernel
theorem d_W_law_1934 : decode code 1934 = .ok (.aload_n 0, 1) := by decide +kernel
theorem d_W_law_1935 : decode code 1935 = .ok (.iload 4, 2) := by decide +kernel
theorem d_W_law_1937 : decode code 1937 = .ok (.iconst 2, 1) := by decide +kernel
theorem d_W_law_1938 : decode code 1938 = .ok (.iadd, 1) := by decide +kernel
theorem d_W_law_1939 : decode code 1939 = .ok (.iaload, 1) := by decide +kernel
theorem d_W_law_1940 : decode code 1940 = .ok (.aload_n 0, 1) := by decide +kernel
theorem d_W_law_1941 : decode code 1941 = .ok (.iload 4, 2) := by decide +kernel
theorem d_W_law_1943 : decode code 1943 = .ok (.iconst 3, 1) := by decide +kernel
theorem d_W_law_1944 : decode code 1944 = .ok (.iadd, 1) := by decide +kernel
theorem d_W_law_1945 : decode code 1945 = .ok (.iaload, 1) := by decide +kernel
theorem d_W_law_1946 : decode code 1946 = .ok (.aload_n 0, 1) := by decide +kernel
theorem d_W_law_1947 : decode code 1947 = .ok (.iload 4, 2) := by decide +kernel
theorem d_W_law_1949 : decode code 1949 = .ok (.iconst 4, 1) := by decide +kernel
theorem d_W_law_1950 : decode code 1950 = .ok (.iadd, 1) := by decide +kernel
theorem d_W_law_1951 : decode code 1951 = .ok (.iaload, 1) := by decide +kernel
theorem d_W_law_1952 : decode code 1952 = .ok (.aload_n 3, 1) := by decide +kernel
theorem d_W_law_1953 : decode code 1953 = .ok (.invokestatic 260, 3) := by decide +kernel
theorem d_W_law_1956 : decode code 1956 = .ok (.istore 5, 2) := by decide +kernel
theorem d_W_law_1958 : decode code 1958 = .ok (.aload_n 2, 1) := by decide +kernel
theorem d_W_law_1959 : decode code 1959 = .ok (.aload_n 0, 1) := by decide +kernel
theorem d_W_law_1960 : decode code 1960 = .ok (.iload 4, 2) := by decide +kernel
theorem d_W_law_1962 : decode code 1962 = .ok (.iconst 1, 1) := by decide +kernel
theorem d_W_law_1963 : decode code 1963 = .ok (.iadd, 1) := by decide +kernel
theorem d_W_law_1964 : decode code 1964 = .ok (.iaload, 1) := by decide +kernel
theorem d_W_law_1965 : decode code 1965 = .ok (.aload_n 0, 1) := by decide +kernel
theorem d_W_law_1966 : decode code 1966 = .ok (.iload 4, 2) := by decide +kernel
theorem d_W_law_1968 : decode code 1968 = .ok (.iconst 2, 1) := by decide +kernel
theorem d_W_law_1969 : decode code 1969 = .ok (.iadd, 1) := by decide +kernel
theorem d_W_law_1970 : decode code 1970 = .ok (.iaload, 1) := by decide +kernel
theorem d_W_law_1971 : decode code 1971 = .ok (.aload_n 0, 1) := by decide +kernel
theorem d_W_law_1972 : decode code 1972 = .ok (.iload 4, 2) := by decide +kernel
theorem d_W_law_1974 : decode code 1974 = .ok (.iconst 3, 1) := by decide +kernel
theorem d_W_law_1975 : decode code 1975 = .ok (.iadd, 1) := by decide +kernel
theorem d_W_law_1976 : decode code 1976 = .ok (.iaload, 1) := by decide +kernel
theorem d_W_law_1977 : decode code 1977 = .ok (.aload_n 0, 1) := by decide +kernel
theorem d_W_law_1978 : decode code 1978 = .ok (.iload 4, 2) := by decide +kernel
theorem d_W_law_1980 : decode code 1980 = .ok (.iconst 4, 1) := by decide +kernel
theorem d_W_law_1981 : decode code 1981 = .ok (.iadd, 1) := by decide +kernel
theorem d_W_law_1982 : decode code 1982 = .ok (.iaload, 1) := by decide +kernel
theorem d_W_law_1983 : decode code 1983 = .ok (.invokevirtual 263, 3) := by decide +kernel
theorem d_W_law_1986 : decode code 1986 = .ok (.istore 6, 2) := by decide +kernel
theorem d_W_law_1988 : decode code 1988 = .ok (.aload_n 2, 1) := by decide +kernel
theorem d_W_law_1989 : decode code 1989 = .ok (.invokevirtual 173, 3) := by decide +kernel
theorem d_W_law_1992 : decode code 1992 = .ok (.iload 5, 2) := by decide +kernel
theorem d_W_law_1994 : decode code 1994 = .ok (.if_icmp .eq (5), 3) := by decide +kernel
theorem d_W_law_1997 : decode code 1997 = .ok (.iconst 0, 1) := by decide +kernel
theorem d_W_law_1998 : decode code 1998 = .ok (.ireturn, 1) := by decide +kernel
theorem d_W_law_1999 : decode code 1999 = .ok (.iload 5, 2) := by decide +kernel
theorem d_W_law_2001 : decode code 2001 = .ok (.ifCond .ne (15), 3) := by decide +kernel
theorem d_W_law_2004 : decode code 2004 = .ok (.aload_n 3, 1) := by decide +kernel
theorem d_W_law_2005 : decode code 2005 = .ok (.iconst 0, 1) := by decide +kernel
theorem d_W_law_2006 : decode code 2006 = .ok (.laload, 1) := by decide +kernel
theorem d_W_law_2007 : decode code 2007 = .ok (.iload 6, 2) := by decide +kernel
theorem d_W_law_2009 : decode code 2009 = .ok (.i2l, 1) := by decide +kernel
theorem d_W_law_2010 : decode code 2010 = .ok (.lcmp, 1) := by decide +kernel
theorem d_W_law_2011 : decode code 2011 = .ok (.ifCond .eq (5), 3) := by decide +kernel
theorem d_W_law_2014 : decode code 2014 = .ok (.iconst 0, 1) := by decide +kernel
theorem d_W_law_2015 : decode code 2015 = .ok (.ireturn, 1) := by decide +kernel
theorem d_W_law_2016 : decode code 2016 = .ok (.goto (1304), 3) := by decide +kernel
theorem d_W_law_2019 : decode code 2019 = .ok (.aload_n 1, 1) := by decide +kernel
theorem d_W_law_2020 : decode code 2020 = .ok (.aload_n 0, 1) := by decide +kernel
theorem d_W_law_2021 : decode code 2021 = .ok (.iload 4, 2) := by decide +kernel
theorem d_W_law_2023 : decode code 2023 = .ok (.iconst 1, 1) := by decide +kernel
theorem d_W_law_2024 : decode code 2024 = .ok (.iadd, 1) := by decide +kernel
theorem d_W_law_2025 : decode code 2025 = .ok (.iaload, 1) := by decide +kernel
theorem d_W_law_2026 : decode code 2026 = .ok (.aload_n 3, 1) := by decide +kernel
theorem d_W_law_2027 : decode code 2027 = .ok (.invokestatic 264, 3) := by decide +kernel
theorem d_W_law_2030 : decode code 2030 = .ok (.istore 5, 2) := by decide +kernel
theorem d_W_law_2032 : decode code 2032 = .ok (.aload_n 2, 1) := by decide +kernel
theorem d_W_law_2033 : decode code 2033 = .ok (.aload_n 0, 1) := by decide +kernel
theorem d_W_law_2034 : decode code 2034 = .ok (.iload 4, 2) := by decide +kernel
theorem d_W_law_2036 : decode code 2036 = .ok (.iconst 1, 1) := by decide +kernel
theorem d_W_law_2037 : decode code 2037 = .ok (.iadd, 1) := by decide +kernel
theorem d_W_law_2038 : decode code 2038 = .ok (.iaload, 1) := by decide +kernel
theorem d_W_law_2039 : decode code 2039 = .ok (.invokevirtual 266, 3) := by decide +kernel
theorem d_W_law_2042 : decode code 2042 = .ok (.istore 6, 2) := by decide +kernel
theorem d_W_law_2044 : decode code 2044 = .ok (.aload_n 2, 1) := by decide +kernel
theorem d_W_law_2045 : decode code 2045 = .ok (.invokevirtual 173, 3) := by decide +kernel
theorem d_W_law_2048 : decode code 2048 = .ok (.iload 5, 2) := by decide +kernel
theorem d_W_law_2050 : decode code 2050 = .ok (.if_icmp .eq (5), 3) := by decide +kernel
theorem d_W_law_2053 : decode code 2053 = .ok (.iconst 0, 1) := by decide +kernel
theorem d_W_law_2054 : decode code 2054 = .ok (.ireturn, 1) := by decide +kernel
theorem d_W_law_2055 : decode code 2055 = .ok (.iload 5, 2) := by decide +kernel
theorem d_W_law_2057 : decode code 2057 = .ok (.ifCond .ne (15), 3) := by decide +kernel
theorem d_W_law_2060 : decode code 2060 = .ok (.aload_n 3, 1) := by decide +kernel
theorem d_W_law_2061 : decode code 2061 = .ok (.iconst 0, 1) := by decide +kernel
theorem d_W_law_2062 : decode code 2062 = .ok (.laload, 1) := by decide +kernel
theorem d_W_law_2063 : decode code 2063 = .ok (.iload 6, 2) := by decide +kernel
theorem d_W_law_2065 : decode code 2065 = .ok (.i2l, 1) := by decide +kernel
theorem d_W_law_2066 : decode code 2066 = .ok (.lcmp, 1) := by decide +kernel
theorem d_W_law_2067 : decode code 2067 = .ok (.ifCond .eq (5), 3) := by decide +kernel
theorem d_W_law_2070 : decode code 2070 = .ok (.iconst 0, 1) := by decide +kernel
theorem d_W_law_2071 : decode code 2071 = .ok (.ireturn, 1) := by decide +kernel
theorem d_W_law_2072 : decode code 2072 = .ok (.goto (1248), 3) := by decide +kernel
theorem d_W_law_2075 : decode code 2075 = .ok (.aload_n 1, 1) := by decide +kernel
theorem d_W_law_2076 : decode code 2076 = .ok (.aload_n 0, 1) := by decide +kernel
theorem d_W_law_2077 : decode code 2077 = .ok (.iload 4, 2) := by decide +kernel
theorem d_W_law_2079 : decode code 2079 = .ok (.iconst 1, 1) := by decide +kernel
theorem d_W_law_2080 : decode code 2080 = .ok (.iadd, 1) := by decide +kernel
theorem d_W_law_2081 : decode code 2081 = .ok (.iaload, 1) := by decide +kernel
theorem d_W_law_2082 : decode code 2082 = .ok (.aload_n 0, 1) := by decide +kernel
theorem d_W_law_2083 : decode code 2083 = .ok (.iload 4, 2) := by decide +kernel
theorem d_W_law_2085 : decode code 2085 = .ok (.iconst 2, 1) := by decide +kernel
theorem d_W_law_2086 : decode code 2086 = .ok (.iadd, 1) := by decide +kernel
theorem d_W_law_2087 : decode code 2087 = .ok (.iaload, 1) := by decide +kernel
theorem d_W_law_2088 : decode code 2088 = .ok (.aload_n 3, 1) := by decide +kernel
theorem d_W_law_2089 : decode code 2089 = .ok (.invokestatic 267, 3) := by decide +kernel
theorem d_W_law_2092 : decode code 2092 = .ok (.istore 5, 2) := by decide +kernel
theorem d_W_law_2094 : decode code 2094 = .ok (.aload_n 2, 1) := by decide +kernel
theorem d_W_law_2095 : decode code 2095 = .ok (.aload_n 0, 1) := by decide +kernel
theorem d_W_law_2096 : decode code 2096 = .ok (.iload 4, 2) := by decide +kernel
theorem d_W_law_2098 : decode code 2098 = .ok (.iconst 1, 1) := by decide +kernel
theorem d_W_law_2099 : decode code 2099 = .ok (.iadd, 1) := by decide +kernel
theorem d_W_law_2100 : decode code 2100 = .ok (.iaload, 1) := by decide +kernel
theorem d_W_law_2101 : decode code 2101 = .ok (.aload_n 0, 1) := by decide +kernel
theorem d_W_law_2102 : decode code 2102 = .ok (.iload 4, 2) := by decide +kernel
theorem d_W_law_2104 : decode code 2104 = .ok (.iconst 2, 1) := by decide +kernel
theorem d_W_law_2105 : decode code 2105 = .ok (.iadd, 1) := by decide +kernel
theorem d_W_law_2106 : decode code 2106 = .ok (.iaload, 1) := by decide +kernel
theorem d_W_law_2107 : decode code 2107 = .ok (.invokevirtual 269, 3) := by decide +kernel
theorem d_W_law_2110 : decode code 2110 = .ok (.istore 6, 2) := by decide +kernel
theorem d_W_law_2112 : decode code 2112 = .ok (.aload_n 2, 1) := by decide +kernel
theorem d_W_law_2113 : decode code 2113 = .ok (.invokevirtual 173, 3) := by decide +kernel
theorem d_W_law_2116 : decode code 2116 = .ok (.iload 5, 2) := by decide +kernel
theorem d_W_law_2118 : decode code 2118 = .ok (.if_icmp .eq (5), 3) := by decide +kernel
theorem d_W_law_2121 : decode code 2121 = .ok (.iconst 0, 1) := by decide +kernel
theorem d_W_law_2122 : decode code 2122 = .ok (.ireturn, 1) := by decide +kernel
theorem d_W_law_2123 : decode code 2123 = .ok (.iload 5, 2) := by decide +kernel
theorem d_W_law_2125 : decode code 2125 = .ok (.ifCond .ne (15), 3) := by decide +kernel
theorem d_W_law_2128 : decode code 2128 = .ok (.aload_n 3, 1) := by decide +kernel
theorem d_W_law_2129 : decode code 2129 = .ok (.iconst 0, 1) := by decide +kernel
theorem d_W_law_2130 : decode code 2130 = .ok (.laload, 1) := by decide +kernel
theorem d_W_law_2131 : decode code 2131 = .ok (.iload 6, 2) := by decide +kernel
theorem d_W_law_2133 : decode code 2133 = .ok (.i2l, 1) := by decide +kernel
theorem d_W_law_2134 : decode code 2134 = .ok (.lcmp, 1) := by decide +kernel
theorem d_W_law_2135 : decode code 2135 = .ok (.ifCond .eq (5), 3) := by decide +kernel
theorem d_W_law_2138 : decode code 2138 = .ok (.iconst 0, 1) := by decide +kernel
theorem d_W_law_2139 : decode code 2139 = .ok (.ireturn, 1) := by decide +kernel
theorem d_W_law_2140 : decode code 2140 = .ok (.goto (1180), 3) := by decide +kernel
theorem d_W_law_2143 : decode code 2143 = .ok (.aload_n 1, 1) := by decide +kernel
theorem d_W_law_2144 : decode code 2144 = .ok (.aload_n 0, 1) := by decide +kernel
theorem d_W_law_2145 : decode code 2145 = .ok (.iload 4, 2) := by decide +kernel
theorem d_W_law_2147 : decode code 2147 = .ok (.iconst 1, 1) := by decide +kernel
theorem d_W_law_2148 : decode code 2148 = .ok (.iadd, 1) := by decide +kernel
theorem d_W_law_2149 : decode code 2149 = .ok (.iaload, 1) := by decide +kernel
theorem d_W_law_2150 : decode code 2150 = .ok (.aload_n 3, 1) := by decide +kernel
theorem d_W_law_2151 : decode code 2151 = .ok (.invokestatic 270, 3) := by decide +kernel
theorem d_W_law_2154 : decode code 2154 = .ok (.istore 5, 2) := by decide +kernel
theorem d_W_law_2156 : decode code 2156 = .ok (.aload_n 2, 1) := by decide +kernel
theorem d_W_law_2157 : decode code 2157 = .ok (.aload_n 0, 1) := by decide +kernel
theorem d_W_law_2158 : decode code 2158 = .ok (.iload 4, 2) := by decide +kernel
theorem d_W_law_2160 : decode code 2160 = .ok (.iconst 1, 1) := by decide +kernel
theorem d_W_law_2161 : decode code 2161 = .ok (.iadd, 1) := by decide +kernel
theorem d_W_law_2162 : decode code 2162 = .ok (.iaload, 1) := by decide +kernel
theorem d_W_law_2163 : decode code 2163 = .ok (.invokevirtual 272, 3) := by decide +kernel
theorem d_W_law_2166 : decode code 2166 = .ok (.istore 6, 2) := by decide +kernel
theorem d_W_law_2168 : decode code 2168 = .ok (.aload_n 2, 1) := by decide +kernel
theorem d_W_law_2169 : decode code 2169 = .ok (.invokevirtual 173, 3) := by decide +kernel
theorem d_W_law_2172 : decode code 2172 = .ok (.iload 5, 2) := by decide +kernel
theorem d_W_law_2174 : decode code 2174 = .ok (.if_icmp .eq (5), 3) := by decide +kernel
theorem d_W_law_2177 : decode code 2177 = .ok (.iconst 0, 1) := by decide +kernel
theorem d_W_law_2178 : decode code 2178 = .ok (.ireturn, 1) := by decide +kernel
theorem d_W_law_2179 : decode code 2179 = .ok (.iload 5, 2) := by decide +kernel
theorem d_W_law_2181 : decode code 2181 = .ok (.ifCond .ne (22), 3) := by decide +kernel
theorem d_W_law_2184 : decode code 2184 = .ok (.aload_n 3, 1) := by decide +kernel
theorem d_W_law_2185 : decode code 2185 = .ok (.iconst 0, 1) := by decide +kernel
theorem d_W_law_2186 : decode code 2186 = .ok (.laload, 1) := by decide +kernel
theorem d_W_law_2187 : decode code 2187 = .ok (.iload 6, 2) := by decide +kernel
theorem d_W_law_2189 : decode code 2189 = .ok (.ifCond .eq (7), 3) := by decide +kernel
theorem d_W_law_2192 : decode code 2192 = .ok (.lconst 1, 1) := by decide +kernel
theorem d_W_law_2193 : decode code 2193 = .ok (.goto (4), 3) := by decide +kernel
theorem d_W_law_2196 : decode code 2196 = .ok (.lconst 0, 1) := by decide +kernel
theorem d_W_law_2197 : decode code 2197 = .ok (.lcmp, 1) := by decide +kernel
theorem d_W_law_2198 : decode code 2198 = .ok (.ifCond .eq (5), 3) := by decide +kernel
theorem d_W_law_2201 : decode code 2201 = .ok (.iconst 0, 1) := by decide +kernel
theorem d_W_law_2202 : decode code 2202 = .ok (.ireturn, 1) := by decide +kernel
theorem d_W_law_2203 : decode code 2203 = .ok (.goto (1117), 3) := by decide +kernel
theorem d_W_law_2206 : decode code 2206 = .ok (.aload_n 1, 1) := by decide +kernel
theorem d_W_law_2207 : decode code 2207 = .ok (.aload_n 0, 1) := by decide +kernel
theorem d_W_law_2208 : decode code 2208 = .ok (.iload 4, 2) := by decide +kernel
theorem d_W_law_2210 : decode code 2210 = .ok (.iconst 1, 1) := by decide +kernel
theorem d_W_law_2211 : decode code 2211 = .ok (.iadd, 1) := by decide +kernel
theorem d_W_law_2212 : decode code 2212 = .ok (.iaload, 1) := by decide +kernel
theorem d_W_law_2213 : decode code 2213 = .ok (.aload_n 3, 1) := by decide +kernel
theorem d_W_law_2214 : decode code 2214 = .ok (.invokestatic 273, 3) := by decide +kernel
theorem d_W_law_2217 : decode code 2217 = .ok (.istore 5, 2) := by decide +kernel
theorem d_W_law_2219 : decode code 2219 = .ok (.aload_n 2, 1) := by decide +kernel
theorem d_W_law_2220 : decode code 2220 = .ok (.aload_n 0, 1) := by decide +kernel
theorem d_W_law_2221 : decode code 2221 = .ok (.iload 4, 2) := by decide +kernel
theorem d_W_law_2223 : decode code 2223 = .ok (.iconst 1, 1) := by decide +kernel
theorem d_W_law_2224 : decode code 2224 = .ok (.iadd, 1) := by decide +kernel
theorem d_W_law_2225 : decode code 2225 = .ok (.iaload, 1) := by decide +kernel
theorem d_W_law_2226 : decode code 2226 = .ok (.invokevirtual 275, 3) := by decide +kernel
theorem d_W_law_2229 : decode code 2229 = .ok (.istore 6, 2) := by decide +kernel
theorem d_W_law_2231 : decode code 2231 = .ok (.aload_n 2, 1) := by decide +kernel
theorem d_W_law_2232 : decode code 2232 = .ok (.invokevirtual 173, 3) := by decide +kernel
theorem d_W_law_2235 : decode code 2235 = .ok (.iload 5, 2) := by decide +kernel
theorem d_W_law_2237 : decode code 2237 = .ok (.if_icmp .eq (5), 3) := by decide +kernel
theorem d_W_law_2240 : decode code 2240 = .ok (.iconst 0, 1) := by decide +kernel
theorem d_W_law_2241 : decode code 2241 = .ok (.ireturn, 1) := by decide +kernel
theorem d_W_law_2242 : decode code 2242 = .ok (.iload 5, 2) := by decide +kernel
theorem d_W_law_2244 : decode code 2244 = .ok (.ifCond .ne (15), 3) := by decide +kernel
theorem d_W_law_2247 : decode code 2247 = .ok (.aload_n 3, 1) := by decide +kernel
theorem d_W_law_2248 : decode code 2248 = .ok (.iconst 0, 1) := by decide +kernel
theorem d_W_law_2249 : decode code 2249 = .ok (.laload, 1) := by decide +kernel
theorem d_W_law_2250 : decode code 2250 = .ok (.iload 6, 2) := by decide +kernel
theorem d_W_law_2252 : decode code 2252 = .ok (.i2l, 1) := by decide +kernel
theorem d_W_law_2253 : decode code 2253 = .ok (.lcmp, 1) := by decide +kernel
theorem d_W_law_2254 : decode code 2254 = .ok (.ifCond .eq (5), 3) := by decide +kernel
theorem d_W_law_2257 : decode code 2257 = .ok (.iconst 0, 1) := by decide +kernel
theorem d_W_law_2258 : decode code 2258 = .ok (.ireturn, 1) := by decide +kernel
theorem d_W_law_2259 : decode code 2259 = .ok (.goto (1061), 3) := by decide +kernel
theorem d_W_law_2262 : decode code 2262 = .ok (.aload_n 1, 1) := by decide +kernel
theorem d_W_law_2263 : decode code 2263 = .ok (.aload_n 0, 1) := by decide +kernel
theorem d_W_law_2264 : decode code 2264 = .ok (.iload 4, 2) := by decide +kernel
theorem d_W_law_2266 : decode code 2266 = .ok (.iconst 1, 1) := by decide +kernel
theorem d_W_law_2267 : decode code 2267 = .ok (.iadd, 1) := by decide +kernel
theorem d_W_law_2268 : decode code 2268 = .ok (.iaload, 1) := by decide +kernel
theorem d_W_law_2269 : decode code 2269 = .ok (.aload_n 0, 1) := by decide +kernel
theorem d_W_law_2270 : decode code 2270 = .ok (.iload 4, 2) := by decide +kernel
theorem d_W_law_2272 : decode code 2272 = .ok (.iconst 2, 1) := by decide +kernel
theorem d_W_law_2273 : decode code 2273 = .ok (.iadd, 1) := by decide +kernel
theorem d_W_law_2274 : decode code 2274 = .ok (.iaload, 1) := by decide +kernel
theorem d_W_law_2275 : decode code 2275 = .ok (.aload_n 0, 1) := by decide +kernel
theorem d_W_law_2276 : decode code 2276 = .ok (.iload 4, 2) := by decide +kernel
theorem d_W_law_2278 : decode code 2278 = .ok (.iconst 3, 1) := by decide +kernel
theorem d_W_law_2279 : decode code 2279 = .ok (.iadd, 1) := by decide +kernel
theorem d_W_law_2280 : decode code 2280 = .ok (.iaload, 1) := by decide +kernel
theorem d_W_law_2281 : decode code 2281 = .ok (.aload_n 3, 1) := by decide +kernel
theorem d_W_law_2282 : decode code 2282 = .ok (.invokestatic 276, 3) := by decide +kernel
theorem d_W_law_2285 : decode code 2285 = .ok (.istore 5, 2) := by decide +kernel
theorem d_W_law_2287 : decode code 2287 = .ok (.aload_n 2, 1) := by decide +kernel
theorem d_W_law_2288 : decode code 2288 = .ok (.aload_n 0, 1) := by decide +kernel
theorem d_W_law_2289 : decode code 2289 = .ok (.iload 4, 2) := by decide +kernel
theorem d_W_law_2291 : decode code 2291 = .ok (.iconst 1, 1) := by decide +kernel
theorem d_W_law_2292 : decode code 2292 = .ok (.iadd, 1) := by decide +kernel
theorem d_W_law_2293 : decode code 2293 = .ok (.iaload, 1) := by decide +kernel
theorem d_W_law_2294 : decode code 2294 = .ok (.aload_n 0, 1) := by decide +kernel
theorem d_W_law_2295 : decode code 2295 = .ok (.iload 4, 2) := by decide +kernel
theorem d_W_law_2297 : decode code 2297 = .ok (.iconst 2, 1) := by decide +kernel
theorem d_W_law_2298 : decode code 2298 = .ok (.iadd, 1) := by decide +kernel
theorem d_W_law_2299 : decode code 2299 = .ok (.iaload, 1) := by decide +kernel
theorem d_W_law_2300 : decode code 2300 = .ok (.aload_n 0, 1) := by decide +kernel
theorem d_W_law_2301 : decode code 2301 = .ok (.iload 4, 2) := by decide +kernel
theorem d_W_law_2303 : decode code 2303 = .ok (.iconst 3, 1) := by decide +kernel
theorem d_W_law_2304 : decode code 2304 = .ok (.iadd, 1) := by decide +kernel
theorem d_W_law_2305 : decode code 2305 = .ok (.iaload, 1) := by decide +kernel
theorem d_W_law_2306 : decode code 2306 = .ok (.invokevirtual 278, 3) := by decide +kernel
theorem d_W_law_2309 : decode code 2309 = .ok (.istore 6, 2) := by decide +kernel
theorem d_W_law_2311 : decode code 2311 = .ok (.aload_n 2, 1) := by decide +kernel
theorem d_W_law_2312 : decode code 2312 = .ok (.invokevirtual 173, 3) := by decide +kernel
theorem d_W_law_2315 : decode code 2315 = .ok (.iload 5, 2) := by decide +kernel
theorem d_W_law_2317 : decode code 2317 = .ok (.if_icmp .eq (5), 3) := by decide +kernel
theorem d_W_law_2320 : decode code 2320 = .ok (.iconst 0, 1) := by decide +kernel
theorem d_W_law_2321 : decode code 2321 = .ok (.ireturn, 1) := by decide +kernel
theorem d_W_law_2322 : decode code 2322 = .ok (.iload 5, 2) := by decide +kernel
theorem d_W_law_2324 : decode code 2324 = .ok (.ifCond .ne (15), 3) := by decide +kernel
theorem d_W_law_2327 : decode code 2327 = .ok (.aload_n 3, 1) := by decide +kernel
theorem d_W_law_2328 : decode code 2328 = .ok (.iconst 0, 1) := by decide +kernel
theorem d_W_law_2329 : decode code 2329 = .ok (.laload, 1) := by decide +kernel
theorem d_W_law_2330 : decode code 2330 = .ok (.iload 6, 2) := by decide +kernel
theorem d_W_law_2332 : decode code 2332 = .ok (.i2l, 1) := by decide +kernel
theorem d_W_law_2333 : decode code 2333 = .ok (.lcmp, 1) := by decide +kernel
theorem d_W_law_2334 : decode code 2334 = .ok (.ifCond .eq (5), 3) := by decide +kernel
theorem d_W_law_2337 : decode code 2337 = .ok (.iconst 0, 1) := by decide +kernel
theorem d_W_law_2338 : decode code 2338 = .ok (.ireturn, 1) := by decide +kernel
theorem d_W_law_2339 : decode code 2339 = .ok (.goto (981), 3) := by decide +kernel
theorem d_W_law_2342 : decode code 2342 = .ok (.aload_n 1, 1) := by decide +kernel
theorem d_W_law_2343 : decode code 2343 = .ok (.aload_n 0, 1) := by decide +kernel
theorem d_W_law_2344 : decode code 2344 = .ok (.iload 4, 2) := by decide +kernel
theorem d_W_law_2346 : decode code 2346 = .ok (.iconst 1, 1) := by decide +kernel
theorem d_W_law_2347 : decode code 2347 = .ok (.iadd, 1) := by decide +kernel
theorem d_W_law_2348 : decode code 2348 = .ok (.iaload, 1) := by decide +kernel
theorem d_W_law_2349 : decode code 2349 = .ok (.aload_n 3, 1) := by decide +kernel
theorem d_W_law_2350 : decode code 2350 = .ok (.invokestatic 279, 3) := by decide +kernel
theorem d_W_law_2353 : decode code 2353 = .ok (.istore 5, 2) := by decide +kernel
theorem d_W_law_2355 : decode code 2355 = .ok (.aload_n 2, 1) := by decide +kernel
theorem d_W_law_2356 : decode code 2356 = .ok (.aload_n 0, 1) := by decide +kernel
theorem d_W_law_2357 : decode code 2357 = .ok (.iload 4, 2) := by decide +kernel
theorem d_W_law_2359 : decode code 2359 = .ok (.iconst 1, 1) := by decide +kernel
theorem d_W_law_2360 : decode code 2360 = .ok (.iadd, 1) := by decide +kernel
theorem d_W_law_2361 : decode code 2361 = .ok (.iaload, 1) := by decide +kernel
theorem d_W_law_2362 : decode code 2362 = .ok (.invokevirtual 281, 3) := by decide +kernel
theorem d_W_law_2365 : decode code 2365 = .ok (.istore 6, 2) := by decide +kernel
theorem d_W_law_2367 : decode code 2367 = .ok (.aload_n 2, 1) := by decide +kernel
theorem d_W_law_2368 : decode code 2368 = .ok (.invokevirtual 173, 3) := by decide +kernel
theorem d_W_law_2371 : decode code 2371 = .ok (.iload 5, 2) := by decide +kernel
theorem d_W_law_2373 : decode code 2373 = .ok (.if_icmp .eq (5), 3) := by decide +kernel
theorem d_W_law_2376 : decode code 2376 = .ok (.iconst 0, 1) := by decide +kernel
theorem d_W_law_2377 : decode code 2377 = .ok (.ireturn, 1) := by decide +kernel
theorem d_W_law_2378 : decode code 2378 = .ok (.iload 5, 2) := by decide +kernel
theorem d_W_law_2380 : decode code 2380 = .ok (.ifCond .ne (15), 3) := by decide +kernel
theorem d_W_law_2383 : decode code 2383 = .ok (.aload_n 3, 1) := by decide +kernel
theorem d_W_law_2384 : decode code 2384 = .ok (.iconst 0, 1) := by decide +kernel
theorem d_W_law_2385 : decode code 2385 = .ok (.laload, 1) := by decide +kernel
theorem d_W_law_2386 : decode code 2386 = .ok (.iload 6, 2) := by decide +kernel
theorem d_W_law_2388 : decode code 2388 = .ok (.i2l, 1) := by decide +kernel
theorem d_W_law_2389 : decode code 2389 = .ok (.lcmp, 1) := by decide +kernel
theorem d_W_law_2390 : decode code 2390 = .ok (.ifCond .eq (5), 3) := by decide +kernel
theorem d_W_law_2393 : decode code 2393 = .ok (.iconst 0, 1) := by decide +kernel
theorem d_W_law_2394 : decode code 2394 = .ok (.ireturn, 1) := by decide +kernel
theorem d_W_law_2395 : decode code 2395 = .ok (.goto (925), 3) := by decide +kernel
theorem d_W_law_2398 : decode code 2398 = .ok (.aload_n 1, 1) := by decide +kernel
theorem d_W_law_2399 : decode code 2399 = .ok (.aload_n 3, 1) := by decide +kernel
theorem d_W_law_2400 : decode code 2400 = .ok (.invokestatic 282, 3) := by decide +kernel
theorem d_W_law_2403 : decode code 2403 = .ok (.istore 5, 2) := by decide +kernel
theorem d_W_law_2405 : decode code 2405 = .ok (.aload_n 2, 1) := by decide +kernel
theorem d_W_law_2406 : decode code 2406 = .ok (.invokevirtual 284, 3) := by decide +kernel
theorem d_W_law_2409 : decode code 2409 = .ok (.istore 6, 2) := by decide +kernel
theorem d_W_law_2411 : decode code 2411 = .ok (.aload_n 2, 1) := by decide +kernel
theorem d_W_law_2412 : decode code 2412 = .ok (.invokevirtual 173, 3) := by decide +kernel
theorem d_W_law_2415 : decode code 2415 = .ok (.iload 5, 2) := by decide +kernel
theorem d_W_law_2417 : decode code 2417 = .ok (.if_icmp .eq (5), 3) := by decide +kernel
theorem d_W_law_2420 : decode code 2420 = .ok (.iconst 0, 1) := by decide +kernel
theorem d_W_law_2421 : decode code 2421 = .ok (.ireturn, 1) := by decide +kernel
theorem d_W_law_2422 : decode code 2422 = .ok (.iload 5, 2) := by decide +kernel
theorem d_W_law_2424 : decode code 2424 = .ok (.ifCond .ne (15), 3) := by decide +kernel
theorem d_W_law_2427 : decode code 2427 = .ok (.aload_n 3, 1) := by decide +kernel
theorem d_W_law_2428 : decode code 2428 = .ok (.iconst 0, 1) := by decide +kernel
theorem d_W_law_2429 : decode code 2429 = .ok (.laload, 1) := by decide +kernel
theorem d_W_law_2430 : decode code 2430 = .ok (.iload 6, 2) := by decide +kernel
theorem d_W_law_2432 : decode code 2432 = .ok (.i2l, 1) := by decide +kernel
theorem d_W_law_2433 : decode code 2433 = .ok (.lcmp, 1) := by decide +kernel
theorem d_W_law_2434 : decode code 2434 = .ok (.ifCond .eq (5), 3) := by decide +kernel
theorem d_W_law_2437 : decode code 2437 = .ok (.iconst 0, 1) := by decide +kernel
theorem d_W_law_2438 : decode code 2438 = .ok (.ireturn, 1) := by decide +kernel
theorem d_W_law_2439 : decode code 2439 = .ok (.goto (881), 3) := by decide +kernel
theorem d_W_law_2442 : decode code 2442 = .ok (.aload_n 1, 1) := by decide +kernel
theorem d_W_law_2443 : decode code 2443 = .ok (.aload_n 3, 1) := by decide +kernel
theorem d_W_law_2444 : decode code 2444 = .ok (.invokestatic 285, 3) := by decide +kernel
theorem d_W_law_2447 : decode code 2447 = .ok (.istore 5, 2) := by decide +kernel
theorem d_W_law_2449 : decode code 2449 = .ok (.aload_n 2, 1) := by decide +kernel
theorem d_W_law_2450 : decode code 2450 = .ok (.invokevirtual 287, 3) := by decide +kernel
theorem d_W_law_2453 : decode code 2453 = .ok (.istore 6, 2) := by decide +kernel
theorem d_W_law_2455 : decode code 2455 = .ok (.aload_n 2, 1) := by decide +kernel
theorem d_W_law_2456 : decode code 2456 = .ok (.invokevirtual 173, 3) := by decide +kernel
theorem d_W_law_2459 : decode code 2459 = .ok (.iload 5, 2) := by decide +kernel
theorem d_W_law_2461 : decode code 2461 = .ok (.if_icmp .eq (5), 3) := by decide +kernel
theorem d_W_law_2464 : decode code 2464 = .ok (.iconst 0, 1) := by decide +kernel
theorem d_W_law_2465 : decode code 2465 = .ok (.ireturn, 1) := by decide +kernel
theorem d_W_law_2466 : decode code 2466 = .ok (.iload 5, 2) := by decide +kernel
theorem d_W_law_2468 : decode code 2468 = .ok (.ifCond .ne (15), 3) := by decide +kernel
theorem d_W_law_2471 : decode code 2471 = .ok (.aload_n 3, 1) := by decide +kernel
theorem d_W_law_2472 : decode code 2472 = .ok (.iconst 0, 1) := by decide +kernel
theorem d_W_law_2473 : decode code 2473 = .ok (.laload, 1) := by decide +kernel
theorem d_W_law_2474 : decode code 2474 = .ok (.iload 6, 2) := by decide +kernel
theorem d_W_law_2476 : decode code 2476 = .ok (.i2l, 1) := by decide +kernel
theorem d_W_law_2477 : decode code 2477 = .ok (.lcmp, 1) := by decide +kernel
theorem d_W_law_2478 : decode code 2478 = .ok (.ifCond .eq (5), 3) := by decide +kernel
theorem d_W_law_2481 : decode code 2481 = .ok (.iconst 0, 1) := by decide +kernel
theorem d_W_law_2482 : decode code 2482 = .ok (.ireturn, 1) := by decide +kernel
theorem d_W_law_2483 : decode code 2483 = .ok (.goto (837), 3) := by decide +kernel
theorem d_W_law_2486 : decode code 2486 = .ok (.aload_n 1, 1) := by decide +kernel
theorem d_W_law_2487 : decode code 2487 = .ok (.invokevirtual 288, 3) := by decide +kernel
theorem d_W_law_2490 : decode code 2490 = .ok (.aload_n 2, 1) := by decide +kernel
theorem d_W_law_2491 : decode code 2491 = .ok (.invokevirtual 291, 3) := by decide +kernel
theorem d_W_law_2494 : decode code 2494 = .ok (.if_icmp .eq (826), 3) := by decide +kernel
theorem d_W_law_2497 : decode code 2497 = .ok (.iconst 0, 1) := by decide +kernel
theorem d_W_law_2498 : decode code 2498 = .ok (.ireturn, 1) := by decide +kernel
theorem d_W_law_2499 : decode code 2499 = .ok (.aload_n 1, 1) := by decide +kernel
theorem d_W_law_2500 : decode code 2500 = .ok (.aload_n 0, 1) := by decide +kernel
theorem d_W_law_2501 : decode code 2501 = .ok (.iload 4, 2) := by decide +kernel
theorem d_W_law_2503 : decode code 2503 = .ok (.iconst 1, 1) := by decide +kernel
theorem d_W_law_2504 : decode code 2504 = .ok (.iadd, 1) := by decide +kernel
theorem d_W_law_2505 : decode code 2505 = .ok (.iaload, 1) := by decide +kernel
theorem d_W_law_2506 : decode code 2506 = .ok (.aload_n 3, 1) := by decide +kernel
theorem d_W_law_2507 : decode code 2507 = .ok (.invokestatic 292, 3) := by decide +kernel
theorem d_W_law_2510 : decode code 2510 = .ok (.istore 5, 2) := by decide +kernel
theorem d_W_law_2512 : decode code 2512 = .ok (.aload_n 2, 1) := by decide +kernel
theorem d_W_law_2513 : decode code 2513 = .ok (.aload_n 0, 1) := by decide +kernel
theorem d_W_law_2514 : decode code 2514 = .ok (.iload 4, 2) := by decide +kernel
theorem d_W_law_2516 : decode code 2516 = .ok (.iconst 1, 1) := by decide +kernel
theorem d_W_law_2517 : decode code 2517 = .ok (.iadd, 1) := by decide +kernel
theorem d_W_law_2518 : decode code 2518 = .ok (.iaload, 1) := by decide +kernel
theorem d_W_law_2519 : decode code 2519 = .ok (.invokevirtual 294, 3) := by decide +kernel
theorem d_W_law_2522 : decode code 2522 = .ok (.istore 6, 2) := by decide +kernel
theorem d_W_law_2524 : decode code 2524 = .ok (.aload_n 2, 1) := by decide +kernel
theorem d_W_law_2525 : decode code 2525 = .ok (.invokevirtual 173, 3) := by decide +kernel
theorem d_W_law_2528 : decode code 2528 = .ok (.iload 5, 2) := by decide +kernel
theorem d_W_law_2530 : decode code 2530 = .ok (.if_icmp .eq (5), 3) := by decide +kernel
theorem d_W_law_2533 : decode code 2533 = .ok (.iconst 0, 1) := by decide +kernel
theorem d_W_law_2534 : decode code 2534 = .ok (.ireturn, 1) := by decide +kernel
theorem d_W_law_2535 : decode code 2535 = .ok (.iload 5, 2) := by decide +kernel
theorem d_W_law_2537 : decode code 2537 = .ok (.ifCond .ne (22), 3) := by decide +kernel
theorem d_W_law_2540 : decode code 2540 = .ok (.aload_n 3, 1) := by decide +kernel
theorem d_W_law_2541 : decode code 2541 = .ok (.iconst 0, 1) := by decide +kernel
theorem d_W_law_2542 : decode code 2542 = .ok (.laload, 1) := by decide +kernel
theorem d_W_law_2543 : decode code 2543 = .ok (.iload 6, 2) := by decide +kernel
theorem d_W_law_2545 : decode code 2545 = .ok (.ifCond .eq (7), 3) := by decide +kernel
theorem d_W_law_2548 : decode code 2548 = .ok (.lconst 1, 1) := by decide +kernel
theorem d_W_law_2549 : decode code 2549 = .ok (.goto (4), 3) := by decide +kernel
theorem d_W_law_2552 : decode code 2552 = .ok (.lconst 0, 1) := by decide +kernel
theorem d_W_law_2553 : decode code 2553 = .ok (.lcmp, 1) := by decide +kernel
theorem d_W_law_2554 : decode code 2554 = .ok (.ifCond .eq (5), 3) := by decide +kernel
theorem d_W_law_2557 : decode code 2557 = .ok (.iconst 0, 1) := by decide +kernel
theorem d_W_law_2558 : decode code 2558 = .ok (.ireturn, 1) := by decide +kernel
theorem d_W_law_2559 : decode code 2559 = .ok (.goto (761), 3) := by decide +kernel
theorem d_W_law_2562 : decode code 2562 = .ok (.aload_n 1, 1) := by decide +kernel
theorem d_W_law_2563 : decode code 2563 = .ok (.aload_n 0, 1) := by decide +kernel
theorem d_W_law_2564 : decode code 2564 = .ok (.iload 4, 2) := by decide +kernel
theorem d_W_law_2566 : decode code 2566 = .ok (.iconst 1, 1) := by decide +kernel
theorem d_W_law_2567 : decode code 2567 = .ok (.iadd, 1) := by decide +kernel
theorem d_W_law_2568 : decode code 2568 = .ok (.iaload, 1) := by decide +kernel
theorem d_W_law_2569 : decode code 2569 = .ok (.aload_n 3, 1) := by decide +kernel
theorem d_W_law_2570 : decode code 2570 = .ok (.invokestatic 295, 3) := by decide +kernel
theorem d_W_law_2573 : decode code 2573 = .ok (.istore 5, 2) := by decide +kernel
theorem d_W_law_2575 : decode code 2575 = .ok (.aload_n 2, 1) := by decide +kernel
theorem d_W_law_2576 : decode code 2576 = .ok (.aload_n 0, 1) := by decide +kernel
theorem d_W_law_2577 : decode code 2577 = .ok (.iload 4, 2) := by decide +kernel
theorem d_W_law_2579 : decode code 2579 = .ok (.iconst 1, 1) := by decide +kernel
theorem d_W_law_2580 : decode code 2580 = .ok (.iadd, 1) := by decide +kernel
theorem d_W_law_2581 : decode code 2581 = .ok (.iaload, 1) := by decide +kernel
theorem d_W_law_2582 : decode code 2582 = .ok (.invokevirtual 297, 3) := by decide +kernel
theorem d_W_law_2585 : decode code 2585 = .ok (.istore 6, 2) := by decide +kernel
theorem d_W_law_2587 : decode code 2587 = .ok (.aload_n 2, 1) := by decide +kernel
theorem d_W_law_2588 : decode code 2588 = .ok (.invokevirtual 173, 3) := by decide +kernel
theorem d_W_law_2591 : decode code 2591 = .ok (.iload 5, 2) := by decide +kernel
theorem d_W_law_2593 : decode code 2593 = .ok (.if_icmp .eq (5), 3) := by decide +kernel
theorem d_W_law_2596 : decode code 2596 = .ok (.iconst 0, 1) := by decide +kernel
theorem d_W_law_2597 : decode code 2597 = .ok (.ireturn, 1) := by decide +kernel
theorem d_W_law_2598 : decode code 2598 = .ok (.iload 5, 2) := by decide +kernel
theorem d_W_law_2600 : decode code 2600 = .ok (.ifCond .ne (15), 3) := by decide +kernel
theorem d_W_law_2603 : decode code 2603 = .ok (.aload_n 3, 1) := by decide +kernel
theorem d_W_law_2604 : decode code 2604 = .ok (.iconst 0, 1) := by decide +kernel
theorem d_W_law_2605 : decode code 2605 = .ok (.laload, 1) := by decide +kernel
theorem d_W_law_2606 : decode code 2606 = .ok (.iload 6, 2) := by decide +kernel
theorem d_W_law_2608 : decode code 2608 = .ok (.i2l, 1) := by decide +kernel
theorem d_W_law_2609 : decode code 2609 = .ok (.lcmp, 1) := by decide +kernel
theorem d_W_law_2610 : decode code 2610 = .ok (.ifCond .eq (5), 3) := by decide +kernel
theorem d_W_law_2613 : decode code 2613 = .ok (.iconst 0, 1) := by decide +kernel
theorem d_W_law_2614 : decode code 2614 = .ok (.ireturn, 1) := by decide +kernel
theorem d_W_law_2615 : decode code 2615 = .ok (.goto (705), 3) := by decide +kernel
theorem d_W_law_2618 : decode code 2618 = .ok (.aload_n 1, 1) := by decide +kernel
theorem d_W_law_2619 : decode code 2619 = .ok (.aload_n 0, 1) := by decide +kernel
theorem d_W_law_2620 : decode code 2620 = .ok (.iload 4, 2) := by decide +kernel
theorem d_W_law_2622 : decode code 2622 = .ok (.iconst 1, 1) := by decide +kernel
theorem d_W_law_2623 : decode code 2623 = .ok (.iadd, 1) := by decide +kernel
theorem d_W_law_2624 : decode code 2624 = .ok (.iaload, 1) := by decide +kernel
theorem d_W_law_2625 : decode code 2625 = .ok (.aload_n 0, 1) := by decide +kernel
theorem d_W_law_2626 : decode code 2626 = .ok (.iload 4, 2) := by decide +kernel
theorem d_W_law_2628 : decode code 2628 = .ok (.iconst 2, 1) := by decide +kernel
theorem d_W_law_2629 : decode code 2629 = .ok (.iadd, 1) := by decide +kernel
theorem d_W_law_2630 : decode code 2630 = .ok (.iaload, 1) := by decide +kernel
theorem d_W_law_2631 : decode code 2631 = .ok (.aload_n 0, 1) := by decide +kernel
theorem d_W_law_2632 : decode code 2632 = .ok (.iload 4, 2) := by decide +kernel
theorem d_W_law_2634 : decode code 2634 = .ok (.iconst 3, 1) := by decide +kernel
theorem d_W_law_2635 : decode code 2635 = .ok (.iadd, 1) := by decide +kernel
theorem d_W_law_2636 : decode code 2636 = .ok (.iaload, 1) := by decide +kernel
theorem d_W_law_2637 : decode code 2637 = .ok (.aload_n 3, 1) := by decide +kernel
theorem d_W_law_2638 : decode code 2638 = .ok (.invokestatic 298, 3) := by decide +kernel
theorem d_W_law_2641 : decode code 2641 = .ok (.istore 5, 2) := by decide +kernel
theorem d_W_law_2643 : decode code 2643 = .ok (.aload_n 2, 1) := by decide +kernel
theorem d_W_law_2644 : decode code 2644 = .ok (.aload_n 0, 1) := by decide +kernel
theorem d_W_law_2645 : decode code 2645 = .ok (.iload 4, 2) := by decide +kernel
theorem d_W_law_2647 : decode code 2647 = .ok (.iconst 1, 1) := by decide +kernel
theorem d_W_law_2648 : decode code 2648 = .ok (.iadd, 1) := by decide +kernel
theorem d_W_law_2649 : decode code 2649 = .ok (.iaload, 1) := by decide +kernel
theorem d_W_law_2650 : decode code 2650 = .ok (.aload_n 0, 1) := by decide +kernel
theorem d_W_law_2651 : decode code 2651 = .ok (.iload 4, 2) := by decide +kernel
theorem d_W_law_2653 : decode code 2653 = .ok (.iconst 2, 1) := by decide +kernel
theorem d_W_law_2654 : decode code 2654 = .ok (.iadd, 1) := by decide +kernel
theorem d_W_law_2655 : decode code 2655 = .ok (.iaload, 1) := by decide +kernel
theorem d_W_law_2656 : decode code 2656 = .ok (.aload_n 0, 1) := by decide +kernel
theorem d_W_law_2657 : decode code 2657 = .ok (.iload 4, 2) := by decide +kernel
theorem d_W_law_2659 : decode code 2659 = .ok (.iconst 3, 1) := by decide +kernel
theorem d_W_law_2660 : decode code 2660 = .ok (.iadd, 1) := by decide +kernel
theorem d_W_law_2661 : decode code 2661 = .ok (.iaload, 1) := by decide +kernel
theorem d_W_law_2662 : decode code 2662 = .ok (.invokevirtual 300, 3) := by decide +kernel
theorem d_W_law_2665 : decode code 2665 = .ok (.istore 6, 2) := by decide +kernel
theorem d_W_law_2667 : decode code 2667 = .ok (.aload_n 2, 1) := by decide +kernel
theorem d_W_law_2668 : decode code 2668 = .ok (.invokevirtual 173, 3) := by decide +kernel
theorem d_W_law_2671 : decode code 2671 = .ok (.iload 5, 2) := by decide +kernel
theorem d_W_law_2673 : decode code 2673 = .ok (.if_icmp .eq (5), 3) := by decide +kernel
theorem d_W_law_2676 : decode code 2676 = .ok (.iconst 0, 1) := by decide +kernel
theorem d_W_law_2677 : decode code 2677 = .ok (.ireturn, 1) := by decide +kernel
theorem d_W_law_2678 : decode code 2678 = .ok (.iload 5, 2) := by decide +kernel
theorem d_W_law_2680 : decode code 2680 = .ok (.ifCond .ne (15), 3) := by decide +kernel
theorem d_W_law_2683 : decode code 2683 = .ok (.aload_n 3, 1) := by decide +kernel
theorem d_W_law_2684 : decode code 2684 = .ok (.iconst 0, 1) := by decide +kernel
theorem d_W_law_2685 : decode code 2685 = .ok (.laload, 1) := by decide +kernel
theorem d_W_law_2686 : decode code 2686 = .ok (.iload 6, 2) := by decide +kernel
theorem d_W_law_2688 : decode code 2688 = .ok (.i2l, 1) := by decide +kernel
theorem d_W_law_2689 : decode code 2689 = .ok (.lcmp, 1) := by decide +kernel
theorem d_W_law_2690 : decode code 2690 = .ok (.ifCond .eq (5), 3) := by decide +kernel
theorem d_W_law_2693 : decode code 2693 = .ok (.iconst 0, 1) := by decide +kernel
theorem d_W_law_2694 : decode code 2694 = .ok (.ireturn, 1) := by decide +kernel
theorem d_W_law_2695 : decode code 2695 = .ok (.goto (625), 3) := by decide +kernel
theorem d_W_law_2698 : decode code 2698 = .ok (.aload_n 1, 1) := by decide +kernel
theorem d_W_law_2699 : decode code 2699 = .ok (.aload_n 0, 1) := by decide +kernel
theorem d_W_law_2700 : decode code 2700 = .ok (.iload 4, 2) := by decide +kernel
theorem d_W_law_2702 : decode code 2702 = .ok (.iconst 1, 1) := by decide +kernel
theorem d_W_law_2703 : decode code 2703 = .ok (.iadd, 1) := by decide +kernel
theorem d_W_law_2704 : decode code 2704 = .ok (.iaload, 1) := by decide +kernel
theorem d_W_law_2705 : decode code 2705 = .ok (.aload_n 3, 1) := by decide +kernel
theorem d_W_law_2706 : decode code 2706 = .ok (.invokestatic 301, 3) := by decide +kernel
theorem d_W_law_2709 : decode code 2709 = .ok (.istore 5, 2) := by decide +kernel
theorem d_W_law_2711 : decode code 2711 = .ok (.aload_n 2, 1) := by decide +kernel
theorem d_W_law_2712 : decode code 2712 = .ok (.aload_n 0, 1) := by decide +kernel
theorem d_W_law_2713 : decode code 2713 = .ok (.iload 4, 2) := by decide +kernel
theorem d_W_law_2715 : decode code 2715 = .ok (.iconst 1, 1) := by decide +kernel
theorem d_W_law_2716 : decode code 2716 = .ok (.iadd, 1) := by decide +kernel
theorem d_W_law_2717 : decode code 2717 = .ok (.iaload, 1) := by decide +kernel
theorem d_W_law_2718 : decode code 2718 = .ok (.invokevirtual 303, 3) := by decide +kernel
theorem d_W_law_2721 : decode code 2721 = .ok (.istore 6, 2) := by decide +kernel
theorem d_W_law_2723 : decode code 2723 = .ok (.aload_n 2, 1) := by decide +kernel
theorem d_W_law_2724 : decode code 2724 = .ok (.invokevirtual 173, 3) := by decide +kernel
theorem d_W_law_2727 : decode code 2727 = .ok (.iload 5, 2) := by decide +kernel
theorem d_W_law_2729 : decode code 2729 = .ok (.if_icmp .eq (5), 3) := by decide +kernel
theorem d_W_law_2732 : decode code 2732 = .ok (.iconst 0, 1) := by decide +kernel
theorem d_W_law_2733 : decode code 2733 = .ok (.ireturn, 1) := by decide +kernel
theorem d_W_law_2734 : decode code 2734 = .ok (.iload 5, 2) := by decide +kernel
theorem d_W_law_2736 : decode code 2736 = .ok (.ifCond .ne (15), 3) := by decide +kernel
theorem d_W_law_2739 : decode code 2739 = .ok (.aload_n 3, 1) := by decide +kernel
theorem d_W_law_2740 : decode code 2740 = .ok (.iconst 0, 1) := by decide +kernel
theorem d_W_law_2741 : decode code 2741 = .ok (.laload, 1) := by decide +kernel
theorem d_W_law_2742 : decode code 2742 = .ok (.iload 6, 2) := by decide +kernel
theorem d_W_law_2744 : decode code 2744 = .ok (.i2l, 1) := by decide +kernel
theorem d_W_law_2745 : decode code 2745 = .ok (.lcmp, 1) := by decide +kernel
theorem d_W_law_2746 : decode code 2746 = .ok (.ifCond .eq (5), 3) := by decide +kernel
theorem d_W_law_2749 : decode code 2749 = .ok (.iconst 0, 1) := by decide +kernel
theorem d_W_law_2750 : decode code 2750 = .ok (.ireturn, 1) := by decide +kernel
theorem d_W_law_2751 : decode code 2751 = .ok (.goto (569), 3) := by decide +kernel
theorem d_W_law_2754 : decode code 2754 = .ok (.aload_n 1, 1) := by decide +kernel
theorem d_W_law_2755 : decode code 2755 = .ok (.aload_n 0, 1) := by decide +kernel
theorem d_W_law_2756 : decode code 2756 = .ok (.iload 4, 2) := by decide +kernel
theorem d_W_law_2758 : decode code 2758 = .ok (.iconst 1, 1) := by decide +kernel
theorem d_W_law_2759 : decode code 2759 = .ok (.iadd, 1) := by decide +kernel
theorem d_W_law_2760 : decode code 2760 = .ok (.iaload, 1) := by decide +kernel
theorem d_W_law_2761 : decode code 2761 = .ok (.aload_n 3, 1) := by decide +kernel
theorem d_W_law_2762 : decode code 2762 = .ok (.invokestatic 304, 3) := by decide +kernel
theorem d_W_law_2765 : decode code 2765 = .ok (.istore 5, 2) := by decide +kernel
theorem d_W_law_2767 : decode code 2767 = .ok (.aload_n 2, 1) := by decide +kernel
theorem d_W_law_2768 : decode code 2768 = .ok (.aload_n 0, 1) := by decide +kernel
theorem d_W_law_2769 : decode code 2769 = .ok (.iload 4, 2) := by decide +kernel
theorem d_W_law_2771 : decode code 2771 = .ok (.iconst 1, 1) := by decide +kernel
theorem d_W_law_2772 : decode code 2772 = .ok (.iadd, 1) := by decide +kernel
theorem d_W_law_2773 : decode code 2773 = .ok (.iaload, 1) := by decide +kernel
theorem d_W_law_2774 : decode code 2774 = .ok (.invokevirtual 306, 3) := by decide +kernel
theorem d_W_law_2777 : decode code 2777 = .ok (.istore 6, 2) := by decide +kernel
theorem d_W_law_2779 : decode code 2779 = .ok (.aload_n 2, 1) := by decide +kernel
theorem d_W_law_2780 : decode code 2780 = .ok (.invokevirtual 173, 3) := by decide +kernel
theorem d_W_law_2783 : decode code 2783 = .ok (.iload 5, 2) := by decide +kernel
theorem d_W_law_2785 : decode code 2785 = .ok (.if_icmp .eq (5), 3) := by decide +kernel
theorem d_W_law_2788 : decode code 2788 = .ok (.iconst 0, 1) := by decide +kernel
theorem d_W_law_2789 : decode code 2789 = .ok (.ireturn, 1) := by decide +kernel
theorem d_W_law_2790 : decode code 2790 = .ok (.iload 5, 2) := by decide +kernel
theorem d_W_law_2792 : decode code 2792 = .ok (.ifCond .ne (15), 3) := by decide +kernel
theorem d_W_law_2795 : decode code 2795 = .ok (.aload_n 3, 1) := by decide +kernel
theorem d_W_law_2796 : decode code 2796 = .ok (.iconst 0, 1) := by decide +kernel
theorem d_W_law_2797 : decode code 2797 = .ok (.laload, 1) := by decide +kernel
theorem d_W_law_2798 : decode code 2798 = .ok (.iload 6, 2) := by decide +kernel
theorem d_W_law_2800 : decode code 2800 = .ok (.i2l, 1) := by decide +kernel
theorem d_W_law_2801 : decode code 2801 = .ok (.lcmp, 1) := by decide +kernel
theorem d_W_law_2802 : decode code 2802 = .ok (.ifCond .eq (5), 3) := by decide +kernel
theorem d_W_law_2805 : decode code 2805 = .ok (.iconst 0, 1) := by decide +kernel
theorem d_W_law_2806 : decode code 2806 = .ok (.ireturn, 1) := by decide +kernel
theorem d_W_law_2807 : decode code 2807 = .ok (.goto (513), 3) := by decide +kernel
theorem d_W_law_2810 : decode code 2810 = .ok (.aload_n 1, 1) := by decide +kernel
theorem d_W_law_2811 : decode code 2811 = .ok (.aload_n 0, 1) := by decide +kernel
theorem d_W_law_2812 : decode code 2812 = .ok (.iload 4, 2) := by decide +kernel
theorem d_W_law_2814 : decode code 2814 = .ok (.iconst 1, 1) := by decide +kernel
theorem d_W_law_2815 : decode code 2815 = .ok (.iadd, 1) := by decide +kernel
theorem d_W_law_2816 : decode code 2816 = .ok (.iaload, 1) := by decide +kernel
theorem d_W_law_2817 : decode code 2817 = .ok (.aload_n 0, 1) := by decide +kernel
theorem d_W_law_2818 : decode code 2818 = .ok (.iload 4, 2) := by decide +kernel
theorem d_W_law_2820 : decode code 2820 = .ok (.iconst 2, 1) := by decide +kernel
theorem d_W_law_2821 : decode code 2821 = .ok (.iadd, 1) := by decide +kernel
theorem d_W_law_2822 : decode code 2822 = .ok (.iaload, 1) := by decide +kernel
theorem d_W_law_2823 : decode code 2823 = .ok (.aload_n 3, 1) := by decide +kernel
theorem d_W_law_2824 : decode code 2824 = .ok (.invokestatic 307, 3) := by decide +kernel
theorem d_W_law_2827 : decode code 2827 = .ok (.istore 5, 2) := by decide +kernel
theorem d_W_law_2829 : decode code 2829 = .ok (.aload_n 2, 1) := by decide +kernel
theorem d_W_law_2830 : decode code 2830 = .ok (.aload_n 0, 1) := by decide +kernel
theorem d_W_law_2831 : decode code 2831 = .ok (.iload 4, 2) := by decide +kernel
theorem d_W_law_2833 : decode code 2833 = .ok (.iconst 1, 1) := by decide +kernel
theorem d_W_law_2834 : decode code 2834 = .ok (.iadd, 1) := by decide +kernel
theorem d_W_law_2835 : decode code 2835 = .ok (.iaload, 1) := by decide +kernel
theorem d_W_law_2836 : decode code 2836 = .ok (.aload_n 0, 1) := by decide +kernel
theorem d_W_law_2837 : decode code 2837 = .ok (.iload 4, 2) := by decide +kernel
theorem d_W_law_2839 : decode code 2839 = .ok (.iconst 2, 1) := by decide +kernel
theorem d_W_law_2840 : decode code 2840 = .ok (.iadd, 1) := by decide +kernel
theorem d_W_law_2841 : decode code 2841 = .ok (.iaload, 1) := by decide +kernel
theorem d_W_law_2842 : decode code 2842 = .ok (.invokevirtual 309, 3) := by decide +kernel
theorem d_W_law_2845 : decode code 2845 = .ok (.istore 6, 2) := by decide +kernel
theorem d_W_law_2847 : decode code 2847 = .ok (.aload_n 2, 1) := by decide +kernel
theorem d_W_law_2848 : decode code 2848 = .ok (.invokevirtual 173, 3) := by decide +kernel
theorem d_W_law_2851 : decode code 2851 = .ok (.iload 5, 2) := by decide +kernel
theorem d_W_law_2853 : decode code 2853 = .ok (.if_icmp .eq (5), 3) := by decide +kernel
theorem d_W_law_2856 : decode code 2856 = .ok (.iconst 0, 1) := by decide +kernel
theorem d_W_law_2857 : decode code 2857 = .ok (.ireturn, 1) := by decide +kernel
theorem d_W_law_2858 : decode code 2858 = .ok (.iload 5, 2) := by decide +kernel
theorem d_W_law_2860 : decode code 2860 = .ok (.ifCond .ne (15), 3) := by decide +kernel
theorem d_W_law_2863 : decode code 2863 = .ok (.aload_n 3, 1) := by decide +kernel
theorem d_W_law_2864 : decode code 2864 = .ok (.iconst 0, 1) := by decide +kernel
theorem d_W_law_2865 : decode code 2865 = .ok (.laload, 1) := by decide +kernel
theorem d_W_law_2866 : decode code 2866 = .ok (.iload 6, 2) := by decide +kernel
theorem d_W_law_2868 : decode code 2868 = .ok (.i2l, 1) := by decide +kernel
theorem d_W_law_2869 : decode code 2869 = .ok (.lcmp, 1) := by decide +kernel
theorem d_W_law_2870 : decode code 2870 = .ok (.ifCond .eq (5), 3) := by decide +kernel
theorem d_W_law_2873 : decode code 2873 = .ok (.iconst 0, 1) := by decide +kernel
theorem d_W_law_2874 : decode code 2874 = .ok (.ireturn, 1) := by decide +kernel
theorem d_W_law_2875 : decode code 2875 = .ok (.goto (445), 3) := by decide +kernel
theorem d_W_law_2878 : decode code 2878 = .ok (.aload_n 1, 1) := by decide +kernel
theorem d_W_law_2879 : decode code 2879 = .ok (.aload_n 0, 1) := by decide +kernel
theorem d_W_law_2880 : decode code 2880 = .ok (.iload 4, 2) := by decide +kernel
theorem d_W_law_2882 : decode code 2882 = .ok (.iconst 1, 1) := by decide +kernel
theorem d_W_law_2883 : decode code 2883 = .ok (.iadd, 1) := by decide +kernel
theorem d_W_law_2884 : decode code 2884 = .ok (.iaload, 1) := by decide +kernel
theorem d_W_law_2885 : decode code 2885 = .ok (.aload_n 0, 1) := by decide +kernel
theorem d_W_law_2886 : decode code 2886 = .ok (.iload 4, 2) := by decide +kernel
theorem d_W_law_2888 : decode code 2888 = .ok (.iconst 2, 1) := by decide +kernel
theorem d_W_law_2889 : decode code 2889 = .ok (.iadd, 1) := by decide +kernel
theorem d_W_law_2890 : decode code 2890 = .ok (.iaload, 1) := by decide +kernel
theorem d_W_law_2891 : decode code 2891 = .ok (.aload_n 3, 1) := by decide +kernel
theorem d_W_law_2892 : decode code 2892 = .ok (.invokestatic 310, 3) := by decide +kernel
theorem d_W_law_2895 : decode code 2895 = .ok (.istore 5, 2) := by decide +kernel
theorem d_W_law_2897 : decode code 2897 = .ok (.aload_n 2, 1) := by decide +kernel
theorem d_W_law_2898 : decode code 2898 = .ok (.aload_n 0, 1) := by decide +kernel
theorem d_W_law_2899 : decode code 2899 = .ok (.iload 4, 2) := by decide +kernel
theorem d_W_law_2901 : decode code 2901 = .ok (.iconst 1, 1) := by decide +kernel
theorem d_W_law_2902 : decode code 2902 = .ok (.iadd, 1) := by decide +kernel
theorem d_W_law_2903 : decode code 2903 = .ok (.iaload, 1) := by decide +kernel
theorem d_W_law_2904 : decode code 2904 = .ok (.aload_n 0, 1) := by decide +kernel
theorem d_W_law_2905 : decode code 2905 = .ok (.iload 4, 2) := by decide +kernel
theorem d_W_law_2907 : decode code 2907 = .ok (.iconst 2, 1) := by decide +kernel
theorem d_W_law_2908 : decode code 2908 = .ok (.iadd, 1) := by decide +kernel
theorem d_W_law_2909 : decode code 2909 = .ok (.iaload, 1) := by decide +kernel
theorem d_W_law_2910 : decode code 2910 = .ok (.invokevirtual 312, 3) := by decide +kernel
theorem d_W_law_2913 : decode code 2913 = .ok (.istore 6, 2) := by decide +kernel
theorem d_W_law_2915 : decode code 2915 = .ok (.aload_n 2, 1) := by decide +kernel
theorem d_W_law_2916 : decode code 2916 = .ok (.invokevirtual 173, 3) := by decide +kernel
theorem d_W_law_2919 : decode code 2919 = .ok (.iload 5, 2) := by decide +kernel
theorem d_W_law_2921 : decode code 2921 = .ok (.if_icmp .eq (5), 3) := by decide +kernel
theorem d_W_law_2924 : decode code 2924 = .ok (.iconst 0, 1) := by decide +kernel
theorem d_W_law_2925 : decode code 2925 = .ok (.ireturn, 1) := by decide +kernel
theorem d_W_law_2926 : decode code 2926 = .ok (.iload 5, 2) := by decide +kernel
theorem d_W_law_2928 : decode code 2928 = .ok (.ifCond .ne (15), 3) := by decide +kernel
theorem d_W_law_2931 : decode code 2931 = .ok (.aload_n 3, 1) := by decide +kernel
theorem d_W_law_2932 : decode code 2932 = .ok (.iconst 0, 1) := by decide +kernel
theorem d_W_law_2933 : decode code 2933 = .ok (.laload, 1) := by decide +kernel
theorem d_W_law_2934 : decode code 2934 = .ok (.iload 6, 2) := by decide +kernel
theorem d_W_law_2936 : decode code 2936 = .ok (.i2l, 1) := by decide +kernel
theorem d_W_law_2937 : decode code 2937 = .ok (.lcmp, 1) := by decide +kernel
theorem d_W_law_2938 : decode code 2938 = .ok (.ifCond .eq (5), 3) := by decide +kernel
theorem d_W_law_2941 : decode code 2941 = .ok (.iconst 0, 1) := by decide +kernel
theorem d_W_law_2942 : decode code 2942 = .ok (.ireturn, 1) := by decide +kernel
theorem d_W_law_2943 : decode code 2943 = .ok (.goto (377), 3) := by decide +kernel
theorem d_W_law_2946 : decode code 2946 = .ok (.aload_n 1, 1) := by decide +kernel
theorem d_W_law_2947 : decode code 2947 = .ok (.aload_n 0, 1) := by decide +kernel
theorem d_W_law_2948 : decode code 2948 = .ok (.iload 4, 2) := by decide +kernel
theorem d_W_law_2950 : decode code 2950 = .ok (.iconst 1, 1) := by decide +kernel
theorem d_W_law_2951 : decode code 2951 = .ok (.iadd, 1) := by decide +kernel
theorem d_W_law_2952 : decode code 2952 = .ok (.iaload, 1) := by decide +kernel
theorem d_W_law_2953 : decode code 2953 = .ok (.aload_n 3, 1) := by decide +kernel
theorem d_W_law_2954 : decode code 2954 = .ok (.invokestatic 313, 3) := by decide +kernel
theorem d_W_law_2957 : decode code 2957 = .ok (.istore 5, 2) := by decide +kernel
theorem d_W_law_2959 : decode code 2959 = .ok (.aload_n 2, 1) := by decide +kernel
theorem d_W_law_2960 : decode code 2960 = .ok (.aload_n 0, 1) := by decide +kernel
theorem d_W_law_2961 : decode code 2961 = .ok (.iload 4, 2) := by decide +kernel
theorem d_W_law_2963 : decode code 2963 = .ok (.iconst 1, 1) := by decide +kernel
theorem d_W_law_2964 : decode code 2964 = .ok (.iadd, 1) := by decide +kernel
theorem d_W_law_2965 : decode code 2965 = .ok (.iaload, 1) := by decide +kernel
theorem d_W_law_2966 : decode code 2966 = .ok (.invokevirtual 315, 3) := by decide +kernel
theorem d_W_law_2969 : decode code 2969 = .ok (.istore 6, 2) := by decide +kernel
theorem d_W_law_2971 : decode code 2971 = .ok (.aload_n 2, 1) := by decide +kernel
theorem d_W_law_2972 : decode code 2972 = .ok (.invokevirtual 173, 3) := by decide +kernel
theorem d_W_law_2975 : decode code 2975 = .ok (.iload 5, 2) := by decide +kernel
theorem d_W_law_2977 : decode code 2977 = .ok (.if_icmp .eq (5), 3) := by decide +kernel
theorem d_W_law_2980 : decode code 2980 = .ok (.iconst 0, 1) := by decide +kernel
theorem d_W_law_2981 : decode code 2981 = .ok (.ireturn, 1) := by decide +kernel
theorem d_W_law_2982 : decode code 2982 = .ok (.iload 5, 2) := by decide +kernel
theorem d_W_law_2984 : decode code 2984 = .ok (.ifCond .ne (15), 3) := by decide +kernel
theorem d_W_law_2987 : decode code 2987 = .ok (.aload_n 3, 1) := by decide +kernel
theorem d_W_law_2988 : decode code 2988 = .ok (.iconst 0, 1) := by decide +kernel
theorem d_W_law_2989 : decode code 2989 = .ok (.laload, 1) := by decide +kernel
theorem d_W_law_2990 : decode code 2990 = .ok (.iload 6, 2) := by decide +kernel
theorem d_W_law_2992 : decode code 2992 = .ok (.i2l, 1) := by decide +kernel
theorem d_W_law_2993 : decode code 2993 = .ok (.lcmp, 1) := by decide +kernel
theorem d_W_law_2994 : decode code 2994 = .ok (.ifCond .eq (5), 3) := by decide +kernel
theorem d_W_law_2997 : decode code 2997 = .ok (.iconst 0, 1) := by decide +kernel
theorem d_W_law_2998 : decode code 2998 = .ok (.ireturn, 1) := by decide +kernel
theorem d_W_law_2999 : decode code 2999 = .ok (.goto (321), 3) := by decide +kernel
theorem d_W_law_3002 : decode code 3002 = .ok (.aload_n 1, 1) := by decide +kernel
theorem d_W_law_3003 : decode code 3003 = .ok (.aload_n 0, 1) := by decide +kernel
theorem d_W_law_3004 : decode code 3004 = .ok (.iload 4, 2) := by decide +kernel
theorem d_W_law_3006 : decode code 3006 = .ok (.iconst 1, 1) := by decide +kernel
theorem d_W_law_3007 : decode code 3007 = .ok (.iadd, 1) := by decide +kernel
theorem d_W_law_3008 : decode code 3008 = .ok (.iaload, 1) := by decide +kernel
theorem d_W_law_3009 : decode code 3009 = .ok (.aload_n 0, 1) := by decide +kernel
theorem d_W_law_3010 : decode code 3010 = .ok (.iload 4, 2) := by decide +kernel
theorem d_W_law_3012 : decode code 3012 = .ok (.iconst 2, 1) := by decide +kernel
theorem d_W_law_3013 : decode code 3013 = .ok (.iadd, 1) := by decide +kernel
theorem d_W_law_3014 : decode code 3014 = .ok (.iaload, 1) := by decide +kernel
theorem d_W_law_3015 : decode code 3015 = .ok (.aload_n 3, 1) := by decide +kernel
theorem d_W_law_3016 : decode code 3016 = .ok (.invokestatic 316, 3) := by decide +kernel
theorem d_W_law_3019 : decode code 3019 = .ok (.istore 5, 2) := by decide +kernel
theorem d_W_law_3021 : decode code 3021 = .ok (.aload_n 2, 1) := by decide +kernel
theorem d_W_law_3022 : decode code 3022 = .ok (.aload_n 0, 1) := by decide +kernel
theorem d_W_law_3023 : decode code 3023 = .ok (.iload 4, 2) := by decide +kernel
theorem d_W_law_3025 : decode code 3025 = .ok (.iconst 1, 1) := by decide +kernel
theorem d_W_law_3026 : decode code 3026 = .ok (.iadd, 1) := by decide +kernel
theorem d_W_law_3027 : decode code 3027 = .ok (.iaload, 1) := by decide +kernel
theorem d_W_law_3028 : decode code 3028 = .ok (.aload_n 0, 1) := by decide +kernel
theorem d_W_law_3029 : decode code 3029 = .ok (.iload 4, 2) := by decide +kernel
theorem d_W_law_3031 : decode code 3031 = .ok (.iconst 2, 1) := by decide +kernel
theorem d_W_law_3032 : decode code 3032 = .ok (.iadd, 1) := by decide +kernel
theorem d_W_law_3033 : decode code 3033 = .ok (.iaload, 1) := by decide +kernel
theorem d_W_law_3034 : decode code 3034 = .ok (.invokevirtual 318, 3) := by decide +kernel
theorem d_W_law_3037 : decode code 3037 = .ok (.istore 6, 2) := by decide +kernel
theorem d_W_law_3039 : decode code 3039 = .ok (.aload_n 2, 1) := by decide +kernel
theorem d_W_law_3040 : decode code 3040 = .ok (.invokevirtual 173, 3) := by decide +kernel
theorem d_W_law_3043 : decode code 3043 = .ok (.iload 5, 2) := by decide +kernel
theorem d_W_law_3045 : decode code 3045 = .ok (.if_icmp .eq (5), 3) := by decide +kernel
theorem d_W_law_3048 : decode code 3048 = .ok (.iconst 0, 1) := by decide +kernel
theorem d_W_law_3049 : decode code 3049 = .ok (.ireturn, 1) := by decide +kernel
theorem d_W_law_3050 : decode code 3050 = .ok (.iload 5, 2) := by decide +kernel
theorem d_W_law_3052 : decode code 3052 = .ok (.ifCond .ne (15), 3) := by decide +kernel
theorem d_W_law_3055 : decode code 3055 = .ok (.aload_n 3, 1) := by decide +kernel
theorem d_W_law_3056 : decode code 3056 = .ok (.iconst 0, 1) := by decide +kernel
theorem d_W_law_3057 : decode code 3057 = .ok (.laload, 1) := by decide +kernel
theorem d_W_law_3058 : decode code 3058 = .ok (.iload 6, 2) := by decide +kernel
theorem d_W_law_3060 : decode code 3060 = .ok (.i2l, 1) := by decide +kernel
theorem d_W_law_3061 : decode code 3061 = .ok (.lcmp, 1) := by decide +kernel
theorem d_W_law_3062 : decode code 3062 = .ok (.ifCond .eq (5), 3) := by decide +kernel
theorem d_W_law_3065 : decode code 3065 = .ok (.iconst 0, 1) := by decide +kernel
theorem d_W_law_3066 : decode code 3066 = .ok (.ireturn, 1) := by decide +kernel
theorem d_W_law_3067 : decode code 3067 = .ok (.goto (253), 3) := by decide +kernel
theorem d_W_law_3070 : decode code 3070 = .ok (.aload_n 1, 1) := by decide +kernel
theorem d_W_law_3071 : decode code 3071 = .ok (.aload_n 0, 1) := by decide +kernel
theorem d_W_law_3072 : decode code 3072 = .ok (.iload 4, 2) := by decide +kernel
theorem d_W_law_3074 : decode code 3074 = .ok (.iconst 1, 1) := by decide +kernel
theorem d_W_law_3075 : decode code 3075 = .ok (.iadd, 1) := by decide +kernel
theorem d_W_law_3076 : decode code 3076 = .ok (.iaload, 1) := by decide +kernel
theorem d_W_law_3077 : decode code 3077 = .ok (.aload_n 3, 1) := by decide +kernel
theorem d_W_law_3078 : decode code 3078 = .ok (.invokestatic 319, 3) := by decide +kernel
theorem d_W_law_3081 : decode code 3081 = .ok (.istore 5, 2) := by decide +kernel
theorem d_W_law_3083 : decode code 3083 = .ok (.aload_n 2, 1) := by decide +kernel
theorem d_W_law_3084 : decode code 3084 = .ok (.aload_n 0, 1) := by decide +kernel
theorem d_W_law_3085 : decode code 3085 = .ok (.iload 4, 2) := by decide +kernel
theorem d_W_law_3087 : decode code 3087 = .ok (.iconst 1, 1) := by decide +kernel
theorem d_W_law_3088 : decode code 3088 = .ok (.iadd, 1) := by decide +kernel
theorem d_W_law_3089 : decode code 3089 = .ok (.iaload, 1) := by decide +kernel
theorem d_W_law_3090 : decode code 3090 = .ok (.invokevirtual 321, 3) := by decide +kernel
theorem d_W_law_3093 : decode code 3093 = .ok (.istore 6, 2) := by decide +kernel
theorem d_W_law_3095 : decode code 3095 = .ok (.aload_n 2, 1) := by decide +kernel
theorem d_W_law_3096 : decode code 3096 = .ok (.invokevirtual 173, 3) := by decide +kernel
theorem d_W_law_3099 : decode code 3099 = .ok (.iload 5, 2) := by decide +kernel
theorem d_W_law_3101 : decode code 3101 = .ok (.if_icmp .eq (5), 3) := by decide +kernel
theorem d_W_law_3104 : decode code 3104 = .ok (.iconst 0, 1) := by decide +kernel
theorem d_W_law_3105 : decode code 3105 = .ok (.ireturn, 1) := by decide +kernel
theorem d_W_law_3106 : decode code 3106 = .ok (.iload 5, 2) := by decide +kernel
theorem d_W_law_3108 : decode code 3108 = .ok (.ifCond .ne (15), 3) := by decide +kernel
theorem d_W_law_3111 : decode code 3111 = .ok (.aload_n 3, 1) := by decide +kernel
theorem d_W_law_3112 : decode code 3112 = .ok (.iconst 0, 1) := by decide +kernel
theorem d_W_law_3113 : decode code 3113 = .ok (.laload, 1) := by decide +kernel
theorem d_W_law_3114 : decode code 3114 = .ok (.iload 6, 2) := by decide +kernel
theorem d_W_law_3116 : decode code 3116 = .ok (.i2l, 1) := by decide +kernel
theorem d_W_law_3117 : decode code 3117 = .ok (.lcmp, 1) := by decide +kernel
theorem d_W_law_3118 : decode code 3118 = .ok (.ifCond .eq (5), 3) := by decide +kernel
theorem d_W_law_3121 : decode code 3121 = .ok (.iconst 0, 1) := by decide +kernel
theorem d_W_law_3122 : decode code 3122 = .ok (.ireturn, 1) := by decide +kernel
theorem d_W_law_3123 : decode code 3123 = .ok (.goto (197), 3) := by decide +kernel
theorem d_W_law_3126 : decode code 3126 = .ok (.aload_n 1, 1) := by decide +kernel
theorem d_W_law_3127 : decode code 3127 = .ok (.aload_n 0, 1) := by decide +kernel
theorem d_W_law_3128 : decode code 3128 = .ok (.iload 4, 2) := by decide +kernel
theorem d_W_law_3130 : decode code 3130 = .ok (.iconst 1, 1) := by decide +kernel
theorem d_W_law_3131 : decode code 3131 = .ok (.iadd, 1) := by decide +kernel
theorem d_W_law_3132 : decode code 3132 = .ok (.iaload, 1) := by decide +kernel
theorem d_W_law_3133 : decode code 3133 = .ok (.aload_n 3, 1) := by decide +kernel
theorem d_W_law_3134 : decode code 3134 = .ok (.invokestatic 322, 3) := by decide +kernel
theorem d_W_law_3137 : decode code 3137 = .ok (.istore 5, 2) := by decide +kernel
theorem d_W_law_3139 : decode code 3139 = .ok (.aload_n 2, 1) := by decide +kernel
theorem d_W_law_3140 : decode code 3140 = .ok (.aload_n 0, 1) := by decide +kernel
theorem d_W_law_3141 : decode code 3141 = .ok (.iload 4, 2) := by decide +kernel
theorem d_W_law_3143 : decode code 3143 = .ok (.iconst 1, 1) := by decide +kernel
theorem d_W_law_3144 : decode code 3144 = .ok (.iadd, 1) := by decide +kernel
theorem d_W_law_3145 : decode code 3145 = .ok (.iaload, 1) := by decide +kernel
theorem d_W_law_3146 : decode code 3146 = .ok (.invokevirtual 324, 3) := by decide +kernel
theorem d_W_law_3149 : decode code 3149 = .ok (.istore 6, 2) := by decide +kernel
theorem d_W_law_3151 : decode code 3151 = .ok (.aload_n 2, 1) := by decide +kernel
theorem d_W_law_3152 : decode code 3152 = .ok (.invokevirtual 173, 3) := by decide +kernel
theorem d_W_law_3155 : decode code 3155 = .ok (.iload 5, 2) := by decide +kernel
theorem d_W_law_3157 : decode code 3157 = .ok (.if_icmp .eq (5), 3) := by decide +kernel
theorem d_W_law_3160 : decode code 3160 = .ok (.iconst 0, 1) := by decide +kernel
theorem d_W_law_3161 : decode code 3161 = .ok (.ireturn, 1) := by decide +kernel
theorem d_W_law_3162 : decode code 3162 = .ok (.iload 5, 2) := by decide +kernel
theorem d_W_law_3164 : decode code 3164 = .ok (.ifCond .ne (15), 3) := by decide +kernel
theorem d_W_law_3167 : decode code 3167 = .ok (.aload_n 3, 1) := by decide +kernel
theorem d_W_law_3168 : decode code 3168 = .ok (.iconst 0, 1) := by decide +kernel
theorem d_W_law_3169 : decode code 3169 = .ok (.laload, 1) := by decide +kernel
theorem d_W_law_3170 : decode code 3170 = .ok (.iload 6, 2) := by decide +kernel
theorem d_W_law_3172 : decode code 3172 = .ok (.i2l, 1) := by decide +kernel
theorem d_W_law_3173 : decode code 3173 = .ok (.lcmp, 1) := by decide +kernel
theorem d_W_law_3174 : decode code 3174 = .ok (.ifCond .eq (5), 3) := by decide +kernel
theorem d_W_law_3177 : decode code 3177 = .ok (.iconst 0, 1) := by decide +kernel
theorem d_W_law_3178 : decode code 3178 = .ok (.ireturn, 1) := by decide +kernel
theorem d_W_law_3179 : decode code 3179 = .ok (.goto (141), 3) := by decide +kernel
theorem d_W_law_3182 : decode code 3182 = .ok (.aload_n 1, 1) := by decide +kernel
theorem d_W_law_3183 : decode code 3183 = .ok (.invokevirtual 325, 3) := by decide +kernel
theorem d_W_law_3186 : decode code 3186 = .ok (.aload_n 2, 1) := by decide +kernel
theorem d_W_law_3187 : decode code 3187 = .ok (.invokevirtual 328, 3) := by decide +kernel
theorem d_W_law_3190 : decode code 3190 = .ok (.if_icmp .eq (130), 3) := by decide +kernel
theorem d_W_law_3193 : decode code 3193 = .ok (.iconst 0, 1) := by decide +kernel
theorem d_W_law_3194 : decode code 3194 = .ok (.ireturn, 1) := by decide +kernel
theorem d_W_law_3195 : decode code 3195 = .ok (.aload_n 1, 1) := by decide +kernel
theorem d_W_law_3196 : decode code 3196 = .ok (.aload_n 0, 1) := by decide +kernel
theorem d_W_law_3197 : decode code 3197 = .ok (.iload 4, 2) := by decide +kernel
theorem d_W_law_3199 : decode code 3199 = .ok (.iconst 1, 1) := by decide +kernel
theorem d_W_law_3200 : decode code 3200 = .ok (.iadd, 1) := by decide +kernel
theorem d_W_law_3201 : decode code 3201 = .ok (.iaload, 1) := by decide +kernel
theorem d_W_law_3202 : decode code 3202 = .ok (.aload_n 3, 1) := by decide +kernel
theorem d_W_law_3203 : decode code 3203 = .ok (.invokestatic 329, 3) := by decide +kernel
theorem d_W_law_3206 : decode code 3206 = .ok (.istore 5, 2) := by decide +kernel
theorem d_W_law_3208 : decode code 3208 = .ok (.aload_n 2, 1) := by decide +kernel
theorem d_W_law_3209 : decode code 3209 = .ok (.aload_n 0, 1) := by decide +kernel
theorem d_W_law_3210 : decode code 3210 = .ok (.iload 4, 2) := by decide +kernel
theorem d_W_law_3212 : decode code 3212 = .ok (.iconst 1, 1) := by decide +kernel
theorem d_W_law_3213 : decode code 3213 = .ok (.iadd, 1) := by decide +kernel
theorem d_W_law_3214 : decode code 3214 = .ok (.iaload, 1) := by decide +kernel
theorem d_W_law_3215 : decode code 3215 = .ok (.invokevirtual 331, 3) := by decide +kernel
theorem d_W_law_3218 : decode code 3218 = .ok (.istore 6, 2) := by decide +kernel
theorem d_W_law_3220 : decode code 3220 = .ok (.aload_n 2, 1) := by decide +kernel
theorem d_W_law_3221 : decode code 3221 = .ok (.invokevirtual 173, 3) := by decide +kernel
theorem d_W_law_3224 : decode code 3224 = .ok (.iload 5, 2) := by decide +kernel
theorem d_W_law_3226 : decode code 3226 = .ok (.if_icmp .eq (5), 3) := by decide +kernel
theorem d_W_law_3229 : decode code 3229 = .ok (.iconst 0, 1) := by decide +kernel
theorem d_W_law_3230 : decode code 3230 = .ok (.ireturn, 1) := by decide +kernel
theorem d_W_law_3231 : decode code 3231 = .ok (.iload 5, 2) := by decide +kernel
theorem d_W_law_3233 : decode code 3233 = .ok (.ifCond .ne (15), 3) := by decide +kernel
theorem d_W_law_3236 : decode code 3236 = .ok (.aload_n 3, 1) := by decide +kernel
theorem d_W_law_3237 : decode code 3237 = .ok (.iconst 0, 1) := by decide +kernel
theorem d_W_law_3238 : decode code 3238 = .ok (.laload, 1) := by decide +kernel
theorem d_W_law_3239 : decode code 3239 = .ok (.iload 6, 2) := by decide +kernel
theorem d_W_law_3241 : decode code 3241 = .ok (.i2l, 1) := by decide +kernel
theorem d_W_law_3242 : decode code 3242 = .ok (.lcmp, 1) := by decide +kernel
theorem d_W_law_3243 : decode code 3243 = .ok (.ifCond .eq (5), 3) := by decide +kernel
theorem d_W_law_3246 : decode code 3246 = .ok (.iconst 0, 1) := by decide +kernel
theorem d_W_law_3247 : decode code 3247 = .ok (.ireturn, 1) := by decide +kernel
theorem d_W_law_3248 : decode code 3248 = .ok (.goto (72), 3) := by decide +kernel
theorem d_W_law_3251 : decode code 3251 = .ok (.aload_n 1, 1) := by decide +kernel
theorem d_W_law_3252 : decode code 3252 = .ok (.invokevirtual 332, 3) := by decide +kernel
theorem d_W_law_3255 : decode code 3255 = .ok (.aload_n 2, 1) := by decide +kernel
theorem d_W_law_3256 : decode code 3256 = .ok (.invokevirtual 335, 3) := by decide +kernel
theorem d_W_law_3259 : decode code 3259 = .ok (.if_icmp .eq (61), 3) := by decide +kernel
theorem d_W_law_3262 : decode code 3262 = .ok (.iconst 0, 1) := by decide +kernel
theorem d_W_law_3263 : decode code 3263 = .ok (.ireturn, 1) := by decide +kernel
theorem d_W_law_3264 : decode code 3264 = .ok (.aload_n 1, 1) := by decide +kernel
theorem d_W_law_3265 : decode code 3265 = .ok (.aload_n 0, 1) := by decide +kernel
theorem d_W_law_3266 : decode code 3266 = .ok (.iload 4, 2) := by decide +kernel
theorem d_W_law_3268 : decode code 3268 = .ok (.iconst 1, 1) := by decide +kernel
theorem d_W_law_3269 : decode code 3269 = .ok (.iadd, 1) := by decide +kernel
theorem d_W_law_3270 : decode code 3270 = .ok (.iaload, 1) := by decide +kernel
theorem d_W_law_3271 : decode code 3271 = .ok (.aload_n 3, 1) := by decide +kernel
theorem d_W_law_3272 : decode code 3272 = .ok (.invokestatic 336, 3) := by decide +kernel
theorem d_W_law_3275 : decode code 3275 = .ok (.istore 5, 2) := by decide +kernel
theorem d_W_law_3277 : decode code 3277 = .ok (.aload_n 2, 1) := by decide +kernel
theorem d_W_law_3278 : decode code 3278 = .ok (.aload_n 0, 1) := by decide +kernel
theorem d_W_law_3279 : decode code 3279 = .ok (.iload 4, 2) := by decide +kernel
theorem d_W_law_3281 : decode code 3281 = .ok (.iconst 1, 1) := by decide +kernel
theorem d_W_law_3282 : decode code 3282 = .ok (.iadd, 1) := by decide +kernel
theorem d_W_law_3283 : decode code 3283 = .ok (.iaload, 1) := by decide +kernel
theorem d_W_law_3284 : decode code 3284 = .ok (.invokevirtual 338, 3) := by decide +kernel
theorem d_W_law_3287 : decode code 3287 = .ok (.istore 6, 2) := by decide +kernel
theorem d_W_law_3289 : decode code 3289 = .ok (.aload_n 2, 1) := by decide +kernel
theorem d_W_law_3290 : decode code 3290 = .ok (.invokevirtual 173, 3) := by decide +kernel
theorem d_W_law_3293 : decode code 3293 = .ok (.iload 5, 2) := by decide +kernel
theorem d_W_law_3295 : decode code 3295 = .ok (.if_icmp .eq (5), 3) := by decide +kernel
theorem d_W_law_3298 : decode code 3298 = .ok (.iconst 0, 1) := by decide +kernel
theorem d_W_law_3299 : decode code 3299 = .ok (.ireturn, 1) := by decide +kernel
theorem d_W_law_3300 : decode code 3300 = .ok (.iload 5, 2) := by decide +kernel
theorem d_W_law_3302 : decode code 3302 = .ok (.ifCond .ne (15), 3) := by decide +kernel
theorem d_W_law_3305 : decode code 3305 = .ok (.aload_n 3, 1) := by decide +kernel
theorem d_W_law_3306 : decode code 3306 = .ok (.iconst 0, 1) := by decide +kernel
theorem d_W_law_3307 : decode code 3307 = .ok (.laload, 1) := by decide +kernel
theorem d_W_law_3308 : decode code 3308 = .ok (.iload 6, 2) := by decide +kernel
theorem d_W_law_3310 : decode code 3310 = .ok (.i2l, 1) := by decide +kernel
theorem d_W_law_3311 : decode code 3311 = .ok (.lcmp, 1) := by decide +kernel
theorem d_W_law_3312 : decode code 3312 = .ok (.ifCond .eq (5), 3) := by decide +kernel
theorem d_W_law_3315 : decode code 3315 = .ok (.iconst 0, 1) := by decide +kernel
theorem d_W_law_3316 : decode code 3316 = .ok (.ireturn, 1) := by decide +kernel
theorem d_W_law_3317 : decode code 3317 = .ok (.goto (3), 3) := by decide +kernel
theorem d_W_law_3320 : decode code 3320 = .ok (.iinc 4 (6), 3) := by decide +kernel
theorem d_W_law_3323 : decode code 3323 = .ok (.goto (-3300), 3) := by decide +kernel
theorem d_W_law_3326 : decode code 3326 = .ok (.iconst 1, 1) := by decide +kernel
theorem d_W_law_3327 : decode code 3327 = .ok (.ireturn, 1) := by decide +kernel
