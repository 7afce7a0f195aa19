theorem d_W_law_0 : decode code 0 = .ok (.new 8, 3) := by decide +kernel
theorem d_W_law_3 : decode code 3 = .ok (.dup, 1) := by decide +kernel
theorem d_W_law_4 : decode code 4 = .ok (.invokespecial 163, 3) := by decide +kernel
theorem d_W_law_7 : decode code 7 = .ok (.astore_n 1, 1) := by decide +kernel
theorem d_W_law_8 : decode code 8 = .ok (.new 164, 3) := by decide +kernel
theorem d_W_law_11 : decode code 11 = .ok (.dup, 1) := by decide +kernel
theorem d_W_law_12 : decode code 12 = .ok (.invokespecial 166, 3) := by decide +kernel
theorem d_W_law_15 : decode code 15 = .ok (.astore_n 2, 1) := by decide +kernel
theorem d_W_law_16 : decode code 16 = .ok (.iconst 1, 1) := by decide +kernel
theorem d_W_law_17 : decode code 17 = .ok (.newarray .long, 2) := by decide +kernel
theorem d_W_law_19 : decode code 19 = .ok (.astore_n 3, 1) := by decide +kernel
theorem d_W_law_20 : decode code 20 = .ok (.iconst 0, 1) := by decide +kernel
theorem d_W_law_21 : decode code 21 = .ok (.istore 4, 2) := by decide +kernel
theorem d_W_law_23 : decode code 23 = .ok (.iload 4, 2) := by decide +kernel
theorem d_W_law_25 : decode code 25 = .ok (.aload_n 0, 1) := by decide +kernel
theorem d_W_law_26 : decode code 26 = .ok (.arraylength, 1) := by decide +kernel
theorem d_W_law_27 : decode code 27 = .ok (.bipush (6), 2) := by decide +kernel
theorem d_W_law_29 : decode code 29 = .ok (.isub, 1) := by decide +kernel
theorem d_W_law_30 : decode code 30 = .ok (.if_icmp .gt (2001), 3) := by decide +kernel
theorem d_W_law_33 : decode code 33 = .ok (.aload_n 0, 1) := by decide +kernel
theorem d_W_law_34 : decode code 34 = .ok (.iload 4, 2) := by decide +kernel
theorem d_W_law_36 : decode code 36 = .ok (.iaload, 1) := by decide +kernel
theorem d_W_law_37 : decode code 37 = .ok (.bipush (63), 2) := by decide +kernel
theorem d_W_law_39 : decode code 39 = .ok (.iand, 1) := by decide +kernel
theorem d_W_law_40 : decode code 40 = .ok (.tableswitch (1985) (0) (50) #[220, 248, 288, 356, 432, 445, 461, 489, 557, 609, 677, 705, 733, 761, 789, 817, 830, 858, 886, 914, 994, 1022, 1050, 1090, 1142, 1182, 1222, 1286, 1314, 1354, 1382, 1410, 1462, 1490, 1506, 1522, 1535, 1563, 1591, 1643, 1671, 1699, 1739, 1779, 1807, 1847, 1875, 1903, 1916, 1944, 1957], 220) := by decide +kernel
theorem d_W_law_260 : decode code 260 = .ok (.aload_n 1, 1) := by decide +kernel
theorem d_W_law_261 : decode code 261 = .ok (.aload_n 0, 1) := by decide +kernel
theorem d_W_law_262 : decode code 262 = .ok (.iload 4, 2) := by decide +kernel
theorem d_W_law_264 : decode code 264 = .ok (.iconst 1, 1) := by decide +kernel
theorem d_W_law_265 : decode code 265 = .ok (.iadd, 1) := by decide +kernel
theorem d_W_law_266 : decode code 266 = .ok (.iaload, 1) := by decide +kernel
theorem d_W_law_267 : decode code 267 = .ok (.aload_n 3, 1) := by decide +kernel
theorem d_W_law_268 : decode code 268 = .ok (.invokestatic 167, 3) := by decide +kernel
theorem d_W_law_271 : decode code 271 = .ok (.istore 5, 2) := by decide +kernel
theorem d_W_law_273 : decode code 273 = .ok (.aload_n 2, 1) := by decide +kernel
theorem d_W_law_274 : decode code 274 = .ok (.aload_n 0, 1) := by decide +kernel
theorem d_W_law_275 : decode code 275 = .ok (.iload 4, 2) := by decide +kernel
theorem d_W_law_277 : decode code 277 = .ok (.iconst 1, 1) := by decide +kernel
theorem d_W_law_278 : decode code 278 = .ok (.iadd, 1) := by decide +kernel
theorem d_W_law_279 : decode code 279 = .ok (.iaload, 1) := by decide +kernel
theorem d_W_law_280 : decode code 280 = .ok (.invokevirtual 172, 3) := by decide +kernel
theorem d_W_law_283 : decode code 283 = .ok (.istore 6, 2) := by decide +kernel
theorem d_W_law_285 : decode code 285 = .ok (.goto (1740), 3) := by decide +kernel
theorem d_W_law_288 : decode code 288 = .ok (.aload_n 1, 1) := by decide +kernel
theorem d_W_law_289 : decode code 289 = .ok (.aload_n 0, 1) := by decide +kernel
theorem d_W_law_290 : decode code 290 = .ok (.iload 4, 2) := by decide +kernel
theorem d_W_law_292 : decode code 292 = .ok (.iconst 1, 1) := by decide +kernel
theorem d_W_law_293 : decode code 293 = .ok (.iadd, 1) := by decide +kernel
theorem d_W_law_294 : decode code 294 = .ok (.iaload, 1) := by decide +kernel
theorem d_W_law_295 : decode code 295 = .ok (.aload_n 0, 1) := by decide +kernel
theorem d_W_law_296 : decode code 296 = .ok (.iload 4, 2) := by decide +kernel
theorem d_W_law_298 : decode code 298 = .ok (.iconst 2, 1) := by decide +kernel
theorem d_W_law_299 : decode code 299 = .ok (.iadd, 1) := by decide +kernel
theorem d_W_law_300 : decode code 300 = .ok (.iaload, 1) := by decide +kernel
theorem d_W_law_301 : decode code 301 = .ok (.aload_n 3, 1) := by decide +kernel
theorem d_W_law_302 : decode code 302 = .ok (.invokestatic 173, 3) := by decide +kernel
theorem d_W_law_305 : decode code 305 = .ok (.istore 5, 2) := by decide +kernel
theorem d_W_law_307 : decode code 307 = .ok (.aload_n 2, 1) := by decide +kernel
theorem d_W_law_308 : decode code 308 = .ok (.aload_n 0, 1) := by decide +kernel
theorem d_W_law_309 : decode code 309 = .ok (.iload 4, 2) := by decide +kernel
theorem d_W_law_311 : decode code 311 = .ok (.iconst 1, 1) := by decide +kernel
theorem d_W_law_312 : decode code 312 = .ok (.iadd, 1) := by decide +kernel
theorem d_W_law_313 : decode code 313 = .ok (.iaload, 1) := by decide +kernel
theorem d_W_law_314 : decode code 314 = .ok (.aload_n 0, 1) := by decide +kernel
theorem d_W_law_315 : decode code 315 = .ok (.iload 4, 2) := by decide +kernel
theorem d_W_law_317 : decode code 317 = .ok (.iconst 2, 1) := by decide +kernel
theorem d_W_law_318 : decode code 318 = .ok (.iadd, 1) := by decide +kernel
theorem d_W_law_319 : decode code 319 = .ok (.iaload, 1) := by decide +kernel
theorem d_W_law_320 : decode code 320 = .ok (.invokevirtual 176, 3) := by decide +kernel
theorem d_W_law_323 : decode code 323 = .ok (.istore 6, 2) := by decide +kernel
theorem d_W_law_325 : decode code 325 = .ok (.goto (1700), 3) := by decide +kernel
theorem d_W_law_328 : decode code 328 = .ok (.aload_n 1, 1) := by decide +kernel
theorem d_W_law_329 : decode code 329 = .ok (.aload_n 0, 1) := by decide +kernel
theorem d_W_law_330 : decode code 330 = .ok (.iload 4, 2) := by decide +kernel
theorem d_W_law_332 : decode code 332 = .ok (.iconst 1, 1) := by decide +kernel
theorem d_W_law_333 : decode code 333 = .ok (.iadd, 1) := by decide +kernel
theorem d_W_law_334 : decode code 334 = .ok (.iaload, 1) := by decide +kernel
theorem d_W_law_335 : decode code 335 = .ok (.aload_n 0, 1) := by decide +kernel
theorem d_W_law_336 : decode code 336 = .ok (.iload 4, 2) := by decide +kernel
theorem d_W_law_338 : decode code 338 = .ok (.iconst 2, 1) := by decide +kernel
theorem d_W_law_339 : decode code 339 = .ok (.iadd, 1) := by decide +kernel
theorem d_W_law_340 : decode code 340 = .ok (.iaload, 1) := by decide +kernel
theorem d_W_law_341 : decode code 341 = .ok (.aload_n 3, 1) := by decide +kernel
theorem d_W_law_342 : decode code 342 = .ok (.invokestatic 177, 3) := by decide +kernel
theorem d_W_law_345 : decode code 345 = .ok (.istore 5, 2) := by decide +kernel
theorem d_W_law_347 : decode code 347 = .ok (.aload_n 2, 1) := by decide +kernel
theorem d_W_law_348 : decode code 348 = .ok (.aload_n 0, 1) := by decide +kernel
theorem d_W_law_349 : decode code 349 = .ok (.iload 4, 2) := by decide +kernel
theorem d_W_law_351 : decode code 351 = .ok (.iconst 1, 1) := by decide +kernel
theorem d_W_law_352 : decode code 352 = .ok (.iadd, 1) := by decide +kernel
theorem d_W_law_353 : decode code 353 = .ok (.iaload, 1) := by decide +kernel
theorem d_W_law_354 : decode code 354 = .ok (.aload_n 0, 1) := by decide +kernel
theorem d_W_law_355 : decode code 355 = .ok (.iload 4, 2) := by decide +kernel
theorem d_W_law_357 : decode code 357 = .ok (.iconst 2, 1) := by decide +kernel
theorem d_W_law_358 : decode code 358 = .ok (.iadd, 1) := by decide +kernel
theorem d_W_law_359 : decode code 359 = .ok (.iaload, 1) := by decide +kernel
theorem d_W_law_360 : decode code 360 = .ok (.invokevirtual 179, 3) := by decide +kernel
theorem d_W_law_363 : decode code 363 = .ok (.istore 6, 2) := by decide +kernel
theorem d_W_law_365 : decode code 365 = .ok (.aload_n 2, 1) := by decide +kernel
theorem d_W_law_366 : decode code 366 = .ok (.invokevirtual 180, 3) := by decide +kernel
theorem d_W_law_369 : decode code 369 = .ok (.iload 5, 2) := by decide +kernel
theorem d_W_law_371 : decode code 371 = .ok (.if_icmp .eq (5), 3) := by decide +kernel
theorem d_W_law_374 : decode code 374 = .ok (.iconst 0, 1) := by decide +kernel
theorem d_W_law_375 : decode code 375 = .ok (.ireturn, 1) := by decide +kernel
theorem d_W_law_376 : decode code 376 = .ok (.iload 5, 2) := by decide +kernel
theorem d_W_law_378 : decode code 378 = .ok (.ifCond .ne (15), 3) := by decide +kernel
theorem d_W_law_381 : decode code 381 = .ok (.aload_n 3, 1) := by decide +kernel
theorem d_W_law_382 : decode code 382 = .ok (.iconst 0, 1) := by decide +kernel
theorem d_W_law_383 : decode code 383 = .ok (.laload, 1) := by decide +kernel
theorem d_W_law_384 : decode code 384 = .ok (.iload 6, 2) := by decide +kernel
theorem d_W_law_386 : decode code 386 = .ok (.i2l, 1) := by decide +kernel
theorem d_W_law_387 : decode code 387 = .ok (.lcmp, 1) := by decide +kernel
theorem d_W_law_388 : decode code 388 = .ok (.ifCond .eq (5), 3) := by decide +kernel
theorem d_W_law_391 : decode code 391 = .ok (.iconst 0, 1) := by decide +kernel
theorem d_W_law_392 : decode code 392 = .ok (.ireturn, 1) := by decide +kernel
theorem d_W_law_393 : decode code 393 = .ok (.goto (1632), 3) := by decide +kernel
theorem d_W_law_396 : decode code 396 = .ok (.aload_n 1, 1) := by decide +kernel
theorem d_W_law_397 : decode code 397 = .ok (.aload_n 0, 1) := by decide +kernel
theorem d_W_law_398 : decode code 398 = .ok (.iload 4, 2) := by decide +kernel
theorem d_W_law_400 : decode code 400 = .ok (.iconst 1, 1) := by decide +kernel
theorem d_W_law_401 : decode code 401 = .ok (.iadd, 1) := by decide +kernel
theorem d_W_law_402 : decode code 402 = .ok (.iaload, 1) := by decide +kernel
theorem d_W_law_403 : decode code 403 = .ok (.aload_n 0, 1) := by decide +kernel
theorem d_W_law_404 : decode code 404 = .ok (.iload 4, 2) := by decide +kernel
theorem d_W_law_406 : decode code 406 = .ok (.iconst 2, 1) := by decide +kernel
theorem d_W_law_407 : decode code 407 = .ok (.iadd, 1) := by decide +kernel
theorem d_W_law_408 : decode code 408 = .ok (.iaload, 1) := by decide +kernel
theorem d_W_law_409 : decode code 409 = .ok (.aload_n 0, 1) := by decide +kernel
theorem d_W_law_410 : decode code 410 = .ok (.iload 4, 2) := by decide +kernel
theorem d_W_law_412 : decode code 412 = .ok (.iconst 3, 1) := by decide +kernel
theorem d_W_law_413 : decode code 413 = .ok (.iadd, 1) := by decide +kernel
theorem d_W_law_414 : decode code 414 = .ok (.iaload, 1) := by decide +kernel
theorem d_W_law_415 : decode code 415 = .ok (.aload_n 0, 1) := by decide +kernel
theorem d_W_law_416 : decode code 416 = .ok (.iload 4, 2) := by decide +kernel
theorem d_W_law_418 : decode code 418 = .ok (.iconst 4, 1) := by decide +kernel
theorem d_W_law_419 : decode code 419 = .ok (.iadd, 1) := by decide +kernel
theorem d_W_law_420 : decode code 420 = .ok (.iaload, 1) := by decide +kernel
theorem d_W_law_421 : decode code 421 = .ok (.aload_n 0, 1) := by decide +kernel
theorem d_W_law_422 : decode code 422 = .ok (.iload 4, 2) := by decide +kernel
theorem d_W_law_424 : decode code 424 = .ok (.iconst 5, 1) := by decide +kernel
theorem d_W_law_425 : decode code 425 = .ok (.iadd, 1) := by decide +kernel
theorem d_W_law_426 : decode code 426 = .ok (.iaload, 1) := by decide +kernel
theorem d_W_law_427 : decode code 427 = .ok (.aload_n 3, 1) := by decide +kernel
theorem d_W_law_428 : decode code 428 = .ok (.invokestatic 183, 3) := by decide +kernel
theorem d_W_law_431 : decode code 431 = .ok (.istore 5, 2) := by decide +kernel
theorem d_W_law_433 : decode code 433 = .ok (.aload_n 2, 1) := by decide +kernel
theorem d_W_law_434 : decode code 434 = .ok (.aload_n 0, 1) := by decide +kernel
theorem d_W_law_435 : decode code 435 = .ok (.iload 4, 2) := by decide +kernel
theorem d_W_law_437 : decode code 437 = .ok (.iconst 1, 1) := by decide +kernel
theorem d_W_law_438 : decode code 438 = .ok (.iadd, 1) := by decide +kernel
theorem d_W_law_439 : decode code 439 = .ok (.iaload, 1) := by decide +kernel
theorem d_W_law_440 : decode code 440 = .ok (.aload_n 0, 1) := by decide +kernel
theorem d_W_law_441 : decode code 441 = .ok (.iload 4, 2) := by decide +kernel
theorem d_W_law_443 : decode code 443 = .ok (.iconst 2, 1) := by decide +kernel
theorem d_W_law_444 : decode code 444 = .ok (.iadd, 1) := by decide +kernel
theorem d_W_law_445 : decode code 445 = .ok (.iaload, 1) := by decide +kernel
theorem d_W_law_446 : decode code 446 = .ok (.aload_n 0, 1) := by decide +kernel
theorem d_W_law_447 : decode code 447 = .ok (.iload 4, 2) := by decide +kernel
theorem d_W_law_449 : decode code 449 = .ok (.iconst 3, 1) := by decide +kernel
theorem d_W_law_450 : decode code 450 = .ok (.iadd, 1) := by decide +kernel
theorem d_W_law_451 : decode code 451 = .ok (.iaload, 1) := by decide +kernel
theorem d_W_law_452 : decode code 452 = .ok (.aload_n 0, 1) := by decide +kernel
theorem d_W_law_453 : decode code 453 = .ok (.iload 4, 2) := by decide +kernel
theorem d_W_law_455 : decode code 455 = .ok (.iconst 4, 1) := by decide +kernel
theorem d_W_law_456 : decode code 456 = .ok (.iadd, 1) := by decide +kernel
theorem d_W_law_457 : decode code 457 = .ok (.iaload, 1) := by decide +kernel
theorem d_W_law_458 : decode code 458 = .ok (.aload_n 0, 1) := by decide +kernel
theorem d_W_law_459 : decode code 459 = .ok (.iload 4, 2) := by decide +kernel
theorem d_W_law_461 : decode code 461 = .ok (.iconst 5, 1) := by decide +kernel
theorem d_W_law_462 : decode code 462 = .ok (.iadd, 1) := by decide +kernel
theorem d_W_law_463 : decode code 463 = .ok (.iaload, 1) := by decide +kernel
theorem d_W_law_464 : decode code 464 = .ok (.invokevirtual 186, 3) := by decide +kernel
theorem d_W_law_467 : decode code 467 = .ok (.istore 6, 2) := by decide +kernel
theorem d_W_law_469 : decode code 469 = .ok (.goto (1556), 3) := by decide +kernel
theorem d_W_law_472 : decode code 472 = .ok (.aload_n 1, 1) := by decide +kernel
theorem d_W_law_473 : decode code 473 = .ok (.invokevirtual 187, 3) := by decide +kernel
theorem d_W_law_476 : decode code 476 = .ok (.pop, 1) := by decide +kernel
theorem d_W_law_477 : decode code 477 = .ok (.aload_n 2, 1) := by decide +kernel
theorem d_W_law_478 : decode code 478 = .ok (.invokevirtual 190, 3) := by decide +kernel
theorem d_W_law_481 : decode code 481 = .ok (.pop, 1) := by decide +kernel
theorem d_W_law_482 : decode code 482 = .ok (.goto (1543), 3) := by decide +kernel
theorem d_W_law_485 : decode code 485 = .ok (.aload_n 1, 1) := by decide +kernel
theorem d_W_law_486 : decode code 486 = .ok (.aload_n 3, 1) := by decide +kernel
theorem d_W_law_487 : decode code 487 = .ok (.invokestatic 191, 3) := by decide +kernel
theorem d_W_law_490 : decode code 490 = .ok (.istore 5, 2) := by decide +kernel
theorem d_W_law_492 : decode code 492 = .ok (.aload_n 2, 1) := by decide +kernel
theorem d_W_law_493 : decode code 493 = .ok (.invokevirtual 194, 3) := by decide +kernel
theorem d_W_law_496 : decode code 496 = .ok (.istore 6, 2) := by decide +kernel
theorem d_W_law_498 : decode code 498 = .ok (.goto (1527), 3) := by decide +kernel
theorem d_W_law_501 : decode code 501 = .ok (.aload_n 1, 1) := by decide +kernel
theorem d_W_law_502 : decode code 502 = .ok (.aload_n 0, 1) := by decide +kernel
theorem d_W_law_503 : decode code 503 = .ok (.iload 4, 2) := by decide +kernel
theorem d_W_law_505 : decode code 505 = .ok (.iconst 1, 1) := by decide +kernel
theorem d_W_law_506 : decode code 506 = .ok (.iadd, 1) := by decide +kernel
theorem d_W_law_507 : decode code 507 = .ok (.iaload, 1) := by decide +kernel
theorem d_W_law_508 : decode code 508 = .ok (.aload_n 3, 1) := by decide +kernel
theorem d_W_law_509 : decode code 509 = .ok (.invokestatic 195, 3) := by decide +kernel
theorem d_W_law_512 : decode code 512 = .ok (.istore 5, 2) := by decide +kernel
theorem d_W_law_514 : decode code 514 = .ok (.aload_n 2, 1) := by decide +kernel
theorem d_W_law_515 : decode code 515 = .ok (.aload_n 0, 1) := by decide +kernel
theorem d_W_law_516 : decode code 516 = .ok (.iload 4, 2) := by decide +kernel
theorem d_W_law_518 : decode code 518 = .ok (.iconst 1, 1) := by decide +kernel
theorem d_W_law_519 : decode code 519 = .ok (.iadd, 1) := by decide +kernel
theorem d_W_law_520 : decode code 520 = .ok (.iaload, 1) := by decide +kernel
theorem d_W_law_521 : decode code 521 = .ok (.invokevirtual 197, 3) := by decide +kernel
theorem d_W_law_524 : decode code 524 = .ok (.istore 6, 2) := by decide +kernel
theorem d_W_law_526 : decode code 526 = .ok (.goto (1499), 3) := by decide +kernel
theorem d_W_law_529 : decode code 529 = .ok (.aload_n 1, 1) := by decide +kernel
theorem d_W_law_530 : decode code 530 = .ok (.aload_n 0, 1) := by decide +kernel
theorem d_W_law_531 : decode code 531 = .ok (.iload 4, 2) := by decide +kernel
theorem d_W_law_533 : decode code 533 = .ok (.iconst 1, 1) := by decide +kernel
theorem d_W_law_534 : decode code 534 = .ok (.iadd, 1) := by decide +kernel
theorem d_W_law_535 : decode code 535 = .ok (.iaload, 1) := by decide +kernel
theorem d_W_law_536 : decode code 536 = .ok (.aload_n 0, 1) := by decide +kernel
theorem d_W_law_537 : decode code 537 = .ok (.iload 4, 2) := by decide +kernel
theorem d_W_law_539 : decode code 539 = .ok (.iconst 2, 1) := by decide +kernel
theorem d_W_law_540 : decode code 540 = .ok (.iadd, 1) := by decide +kernel
theorem d_W_law_541 : decode code 541 = .ok (.iaload, 1) := by decide +kernel
theorem d_W_law_542 : decode code 542 = .ok (.aload_n 0, 1) := by decide +kernel
theorem d_W_law_543 : decode code 543 = .ok (.iload 4, 2) := by decide +kernel
theorem d_W_law_545 : decode code 545 = .ok (.iconst 3, 1) := by decide +kernel
theorem d_W_law_546 : decode code 546 = .ok (.iadd, 1) := by decide +kernel
theorem d_W_law_547 : decode code 547 = .ok (.iaload, 1) := by decide +kernel
theorem d_W_law_548 : decode code 548 = .ok (.ifCond .eq (7), 3) := by decide +kernel
theorem d_W_law_551 : decode code 551 = .ok (.iconst 1, 1) := by decide +kernel
theorem d_W_law_552 : decode code 552 = .ok (.goto (4), 3) := by decide +kernel
theorem d_W_law_555 : decode code 555 = .ok (.iconst 0, 1) := by decide +kernel
theorem d_W_law_556 : decode code 556 = .ok (.aload_n 3, 1) := by decide +kernel
theorem d_W_law_557 : decode code 557 = .ok (.invokestatic 198, 3) := by decide +kernel
theorem d_W_law_560 : decode code 560 = .ok (.istore 5, 2) := by decide +kernel
theorem d_W_law_562 : decode code 562 = .ok (.aload_n 2, 1) := by decide +kernel
theorem d_W_law_563 : decode code 563 = .ok (.aload_n 0, 1) := by decide +kernel
theorem d_W_law_564 : decode code 564 = .ok (.iload 4, 2) := by decide +kernel
theorem d_W_law_566 : decode code 566 = .ok (.iconst 1, 1) := by decide +kernel
theorem d_W_law_567 : decode code 567 = .ok (.iadd, 1) := by decide +kernel
theorem d_W_law_568 : decode code 568 = .ok (.iaload, 1) := by decide +kernel
theorem d_W_law_569 : decode code 569 = .ok (.aload_n 0, 1) := by decide +kernel
theorem d_W_law_570 : decode code 570 = .ok (.iload 4, 2) := by decide +kernel
theorem d_W_law_572 : decode code 572 = .ok (.iconst 2, 1) := by decide +kernel
theorem d_W_law_573 : decode code 573 = .ok (.iadd, 1) := by decide +kernel
theorem d_W_law_574 : decode code 574 = .ok (.iaload, 1) := by decide +kernel
theorem d_W_law_575 : decode code 575 = .ok (.aload_n 0, 1) := by decide +kernel
theorem d_W_law_576 : decode code 576 = .ok (.iload 4, 2) := by decide +kernel
theorem d_W_law_578 : decode code 578 = .ok (.iconst 3, 1) := by decide +kernel
theorem d_W_law_579 : decode code 579 = .ok (.iadd, 1) := by decide +kernel
theorem d_W_law_580 : decode code 580 = .ok (.iaload, 1) := by decide +kernel
theorem d_W_law_581 : decode code 581 = .ok (.ifCond .eq (7), 3) := by decide +kernel
theorem d_W_law_584 : decode code 584 = .ok (.iconst 1, 1) := by decide +kernel
theorem d_W_law_585 : decode code 585 = .ok (.goto (4), 3) := by decide +kernel
theorem d_W_law_588 : decode code 588 = .ok (.iconst 0, 1) := by decide +kernel
theorem d_W_law_589 : decode code 589 = .ok (.invokevirtual 201, 3) := by decide +kernel
theorem d_W_law_592 : decode code 592 = .ok (.istore 6, 2) := by decide +kernel
theorem d_W_law_594 : decode code 594 = .ok (.goto (1431), 3) := by decide +kernel
theorem d_W_law_597 : decode code 597 = .ok (.aload_n 1, 1) := by decide +kernel
theorem d_W_law_598 : decode code 598 = .ok (.aload_n 0, 1) := by decide +kernel
theorem d_W_law_599 : decode code 599 = .ok (.iload 4, 2) := by decide +kernel
theorem d_W_law_601 : decode code 601 = .ok (.iconst 1, 1) := by decide +kernel
theorem d_W_law_602 : decode code 602 = .ok (.iadd, 1) := by decide +kernel
theorem d_W_law_603 : decode code 603 = .ok (.iaload, 1) := by decide +kernel
theorem d_W_law_604 : decode code 604 = .ok (.aload_n 0, 1) := by decide +kernel
theorem d_W_law_605 : decode code 605 = .ok (.iload 4, 2) := by decide +kernel
theorem d_W_law_607 : decode code 607 = .ok (.iconst 2, 1) := by decide +kernel
theorem d_W_law_608 : decode code 608 = .ok (.iadd, 1) := by decide +kernel
theorem d_W_law_609 : decode code 609 = .ok (.iaload, 1) := by decide +kernel
theorem d_W_law_610 : decode code 610 = .ok (.aload_n 0, 1) := by decide +kernel
theorem d_W_law_611 : decode code 611 = .ok (.iload 4, 2) := by decide +kernel
theorem d_W_law_613 : decode code 613 = .ok (.iconst 3, 1) := by decide +kernel
theorem d_W_law_614 : decode code 614 = .ok (.iadd, 1) := by decide +kernel
theorem d_W_law_615 : decode code 615 = .ok (.iaload, 1) := by decide +kernel
theorem d_W_law_616 : decode code 616 = .ok (.aload_n 3, 1) := by decide +kernel
theorem d_W_law_617 : decode code 617 = .ok (.invokestatic 202, 3) := by decide +kernel
theorem d_W_law_620 : decode code 620 = .ok (.istore 5, 2) := by decide +kernel
theorem d_W_law_622 : decode code 622 = .ok (.aload_n 2, 1) := by decide +kernel
theorem d_W_law_623 : decode code 623 = .ok (.aload_n 0, 1) := by decide +kernel
theorem d_W_law_624 : decode code 624 = .ok (.iload 4, 2) := by decide +kernel
theorem d_W_law_626 : decode code 626 = .ok (.iconst 1, 1) := by decide +kernel
theorem d_W_law_627 : decode code 627 = .ok (.iadd, 1) := by decide +kernel
theorem d_W_law_628 : decode code 628 = .ok (.iaload, 1) := by decide +kernel
theorem d_W_law_629 : decode code 629 = .ok (.aload_n 0, 1) := by decide +kernel
theorem d_W_law_630 : decode code 630 = .ok (.iload 4, 2) := by decide +kernel
theorem d_W_law_632 : decode code 632 = .ok (.iconst 2, 1) := by decide +kernel
theorem d_W_law_633 : decode code 633 = .ok (.iadd, 1) := by decide +kernel
theorem d_W_law_634 : decode code 634 = .ok (.iaload, 1) := by decide +kernel
theorem d_W_law_635 : decode code 635 = .ok (.aload_n 0, 1) := by decide +kernel
theorem d_W_law_636 : decode code 636 = .ok (.iload 4, 2) := by decide +kernel
theorem d_W_law_638 : decode code 638 = .ok (.iconst 3, 1) := by decide +kernel
theorem d_W_law_639 : decode code 639 = .ok (.iadd, 1) := by decide +kernel
theorem d_W_law_640 : decode code 640 = .ok (.iaload, 1) := by decide +kernel
theorem d_W_law_641 : decode code 641 = .ok (.invokevirtual 205, 3) := by decide +kernel
theorem d_W_law_644 : decode code 644 = .ok (.istore 6, 2) := by decide +kernel
theorem d_W_law_646 : decode code 646 = .ok (.goto (1379), 3) := by decide +kernel
theorem d_W_law_649 : decode code 649 = .ok (.aload_n 1, 1) := by decide +kernel
theorem d_W_law_650 : decode code 650 = .ok (.aload_n 0, 1) := by decide +kernel
theorem d_W_law_651 : decode code 651 = .ok (.iload 4, 2) := by decide +kernel
theorem d_W_law_653 : decode code 653 = .ok (.iconst 1, 1) := by decide +kernel
theorem d_W_law_654 : decode code 654 = .ok (.iadd, 1) := by decide +kernel
theorem d_W_law_655 : decode code 655 = .ok (.iaload, 1) := by decide +kernel
theorem d_W_law_656 : decode code 656 = .ok (.aload_n 0, 1) := by decide +kernel
theorem d_W_law_657 : decode code 657 = .ok (.iload 4, 2) := by decide +kernel
theorem d_W_law_659 : decode code 659 = .ok (.iconst 2, 1) := by decide +kernel
theorem d_W_law_660 : decode code 660 = .ok (.iadd, 1) := by decide +kernel
theorem d_W_law_661 : decode code 661 = .ok (.iaload, 1) := by decide +kernel
theorem d_W_law_662 : decode code 662 = .ok (.ifCond .eq (7), 3) := by decide +kernel
theorem d_W_law_665 : decode code 665 = .ok (.iconst 1, 1) := by decide +kernel
theorem d_W_law_666 : decode code 666 = .ok (.goto (4), 3) := by decide +kernel
theorem d_W_law_669 : decode code 669 = .ok (.iconst 0, 1) := by decide +kernel
theorem d_W_law_670 : decode code 670 = .ok (.aload_n 0, 1) := by decide +kernel
theorem d_W_law_671 : decode code 671 = .ok (.iload 4, 2) := by decide +kernel
theorem d_W_law_673 : decode code 673 = .ok (.iconst 3, 1) := by decide +kernel
theorem d_W_law_674 : decode code 674 = .ok (.iadd, 1) := by decide +kernel
theorem d_W_law_675 : decode code 675 = .ok (.iaload, 1) := by decide +kernel
theorem d_W_law_676 : decode code 676 = .ok (.aload_n 3, 1) := by decide +kernel
theorem d_W_law_677 : decode code 677 = .ok (.invokestatic 206, 3) := by decide +kernel
theorem d_W_law_680 : decode code 680 = .ok (.istore 5, 2) := by decide +kernel
theorem d_W_law_682 : decode code 682 = .ok (.aload_n 2, 1) := by decide +kernel
theorem d_W_law_683 : decode code 683 = .ok (.aload_n 0, 1) := by decide +kernel
theorem d_W_law_684 : decode code 684 = .ok (.iload 4, 2) := by decide +kernel
theorem d_W_law_686 : decode code 686 = .ok (.iconst 1, 1) := by decide +kernel
theorem d_W_law_687 : decode code 687 = .ok (.iadd, 1) := by decide +kernel
theorem d_W_law_688 : decode code 688 = .ok (.iaload, 1) := by decide +kernel
theorem d_W_law_689 : decode code 689 = .ok (.aload_n 0, 1) := by decide +kernel
theorem d_W_law_690 : decode code 690 = .ok (.iload 4, 2) := by decide +kernel
theorem d_W_law_692 : decode code 692 = .ok (.iconst 2, 1) := by decide +kernel
theorem d_W_law_693 : decode code 693 = .ok (.iadd, 1) := by decide +kernel
theorem d_W_law_694 : decode code 694 = .ok (.iaload, 1) := by decide +kernel
theorem d_W_law_695 : decode code 695 = .ok (.ifCond .eq (7), 3) := by decide +kernel
theorem d_W_law_698 : decode code 698 = .ok (.iconst 1, 1) := by decide +kernel
theorem d_W_law_699 : decode code 699 = .ok (.goto (4), 3) := by decide +kernel
theorem d_W_law_702 : decode code 702 = .ok (.iconst 0, 1) := by decide +kernel
theorem d_W_law_703 : decode code 703 = .ok (.aload_n 0, 1) := by decide +kernel
theorem d_W_law_704 : decode code 704 = .ok (.iload 4, 2) := by decide +kernel
theorem d_W_law_706 : decode code 706 = .ok (.iconst 3, 1) := by decide +kernel
theorem d_W_law_707 : decode code 707 = .ok (.iadd, 1) := by decide +kernel
theorem d_W_law_708 : decode code 708 = .ok (.iaload, 1) := by decide +kernel
theorem d_W_law_709 : decode code 709 = .ok (.invokevirtual 209, 3) := by decide +kernel
theorem d_W_law_712 : decode code 712 = .ok (.istore 6, 2) := by decide +kernel
theorem d_W_law_714 : decode code 714 = .ok (.goto (1311), 3) := by decide +kernel
theorem d_W_law_717 : decode code 717 = .ok (.aload_n 1, 1) := by decide +kernel
theorem d_W_law_718 : decode code 718 = .ok (.aload_n 0, 1) := by decide +kernel
theorem d_W_law_719 : decode code 719 = .ok (.iload 4, 2) := by decide +kernel
theorem d_W_law_721 : decode code 721 = .ok (.iconst 1, 1) := by decide +kernel
theorem d_W_law_722 : decode code 722 = .ok (.iadd, 1) := by decide +kernel
theorem d_W_law_723 : decode code 723 = .ok (.iaload, 1) := by decide +kernel
theorem d_W_law_724 : decode code 724 = .ok (.aload_n 3, 1) := by decide +kernel
theorem d_W_law_725 : decode code 725 = .ok (.invokestatic 210, 3) := by decide +kernel
theorem d_W_law_728 : decode code 728 = .ok (.istore 5, 2) := by decide +kernel
theorem d_W_law_730 : decode code 730 = .ok (.aload_n 2, 1) := by decide +kernel
theorem d_W_law_731 : decode code 731 = .ok (.aload_n 0, 1) := by decide +kernel
theorem d_W_law_732 : decode code 732 = .ok (.iload 4, 2) := by decide +kernel
theorem d_W_law_734 : decode code 734 = .ok (.iconst 1, 1) := by decide +kernel
theorem d_W_law_735 : decode code 735 = .ok (.iadd, 1) := by decide +kernel
theorem d_W_law_736 : decode code 736 = .ok (.iaload, 1) := by decide +kernel
theorem d_W_law_737 : decode code 737 = .ok (.invokevirtual 212, 3) := by decide +kernel
theorem d_W_law_740 : decode code 740 = .ok (.istore 6, 2) := by decide +kernel
theorem d_W_law_742 : decode code 742 = .ok (.goto (1283), 3) := by decide +kernel
theorem d_W_law_745 : decode code 745 = .ok (.aload_n 1, 1) := by decide +kernel
theorem d_W_law_746 : decode code 746 = .ok (.aload_n 0, 1) := by decide +kernel
theorem d_W_law_747 : decode code 747 = .ok (.iload 4, 2) := by decide +kernel
theorem d_W_law_749 : decode code 749 = .ok (.iconst 1, 1) := by decide +kernel
theorem d_W_law_750 : decode code 750 = .ok (.iadd, 1) := by decide +kernel
theorem d_W_law_751 : decode code 751 = .ok (.iaload, 1) := by decide +kernel
theorem d_W_law_752 : decode code 752 = .ok (.aload_n 3, 1) := by decide +kernel
theorem d_W_law_753 : decode code 753 = .ok (.invokestatic 213, 3) := by decide +kernel
theorem d_W_law_756 : decode code 756 = .ok (.istore 5, 2) := by decide +kernel
theorem d_W_law_758 : decode code 758 = .ok (.aload_n 2, 1) := by decide +kernel
theorem d_W_law_759 : decode code 759 = .ok (.aload_n 0, 1) := by decide +kernel
theorem d_W_law_760 : decode code 760 = .ok (.iload 4, 2) := by decide +kernel
theorem d_W_law_762 : decode code 762 = .ok (.iconst 1, 1) := by decide +kernel
theorem d_W_law_763 : decode code 763 = .ok (.iadd, 1) := by decide +kernel
theorem d_W_law_764 : decode code 764 = .ok (.iaload, 1) := by decide +kernel
theorem d_W_law_765 : decode code 765 = .ok (.invokevirtual 215, 3) := by decide +kernel
theorem d_W_law_768 : decode code 768 = .ok (.istore 6, 2) := by decide +kernel
theorem d_W_law_770 : decode code 770 = .ok (.goto (1255), 3) := by decide +kernel
theorem d_W_law_773 : decode code 773 = .ok (.aload_n 1, 1) := by decide +kernel
theorem d_W_law_774 : decode code 774 = .ok (.aload_n 0, 1) := by decide +kernel
theorem d_W_law_775 : decode code 775 = .ok (.iload 4, 2) := by decide +kernel
theorem d_W_law_777 : decode code 777 = .ok (.iconst 1, 1) := by decide +kernel
theorem d_W_law_778 : decode code 778 = .ok (.iadd, 1) := by decide +kernel
theorem d_W_law_779 : decode code 779 = .ok (.iaload, 1) := by decide +kernel
theorem d_W_law_780 : decode code 780 = .ok (.aload_n 3, 1) := by decide +kernel
theorem d_W_law_781 : decode code 781 = .ok (.invokestatic 216, 3) := by decide +kernel
theorem d_W_law_784 : decode code 784 = .ok (.istore 5, 2) := by decide +kernel
theorem d_W_law_786 : decode code 786 = .ok (.aload_n 2, 1) := by decide +kernel
theorem d_W_law_787 : decode code 787 = .ok (.aload_n 0, 1) := by decide +kernel
theorem d_W_law_788 : decode code 788 = .ok (.iload 4, 2) := by decide +kernel
theorem d_W_law_790 : decode code 790 = .ok (.iconst 1, 1) := by decide +kernel
theorem d_W_law_791 : decode code 791 = .ok (.iadd, 1) := by decide +kernel
theorem d_W_law_792 : decode code 792 = .ok (.iaload, 1) := by decide +kernel
theorem d_W_law_793 : decode code 793 = .ok (.invokevirtual 218, 3) := by decide +kernel
theorem d_W_law_796 : decode code 796 = .ok (.istore 6, 2) := by decide +kernel
theorem d_W_law_798 : decode code 798 = .ok (.goto (1227), 3) := by decide +kernel
theorem d_W_law_801 : decode code 801 = .ok (.aload_n 1, 1) := by decide +kernel
theorem d_W_law_802 : decode code 802 = .ok (.aload_n 0, 1) := by decide +kernel
theorem d_W_law_803 : decode code 803 = .ok (.iload 4, 2) := by decide +kernel
theorem d_W_law_805 : decode code 805 = .ok (.iconst 1, 1) := by decide +kernel
theorem d_W_law_806 : decode code 806 = .ok (.iadd, 1) := by decide +kernel
theorem d_W_law_807 : decode code 807 = .ok (.iaload, 1) := by decide +kernel
theorem d_W_law_808 : decode code 808 = .ok (.aload_n 3, 1) := by decide +kernel
theorem d_W_law_809 : decode code 809 = .ok (.invokestatic 219, 3) := by decide +kernel
theorem d_W_law_812 : decode code 812 = .ok (.istore 5, 2) := by decide +kernel
theorem d_W_law_814 : decode code 814 = .ok (.aload_n 2, 1) := by decide +kernel
theorem d_W_law_815 : decode code 815 = .ok (.aload_n 0, 1) := by decide +kernel
theorem d_W_law_816 : decode code 816 = .ok (.iload 4, 2) := by decide +kernel
theorem d_W_law_818 : decode code 818 = .ok (.iconst 1, 1) := by decide +kernel
theorem d_W_law_819 : decode code 819 = .ok (.iadd, 1) := by decide +kernel
theorem d_W_law_820 : decode code 820 = .ok (.iaload, 1) := by decide +kernel
theorem d_W_law_821 : decode code 821 = .ok (.invokevirtual 221, 3) := by decide +kernel
theorem d_W_law_824 : decode code 824 = .ok (.istore 6, 2) := by decide +kernel
theorem d_W_law_826 : decode code 826 = .ok (.goto (1199), 3) := by decide +kernel
theorem d_W_law_829 : decode code 829 = .ok (.aload_n 1, 1) := by decide +kernel
theorem d_W_law_830 : decode code 830 = .ok (.aload_n 0, 1) := by decide +kernel
theorem d_W_law_831 : decode code 831 = .ok (.iload 4, 2) := by decide +kernel
theorem d_W_law_833 : decode code 833 = .ok (.iconst 1, 1) := by decide +kernel
theorem d_W_law_834 : decode code 834 = .ok (.iadd, 1) := by decide +kernel
theorem d_W_law_835 : decode code 835 = .ok (.iaload, 1) := by decide +kernel
theorem d_W_law_836 : decode code 836 = .ok (.aload_n 3, 1) := by decide +kernel
theorem d_W_law_837 : decode code 837 = .ok (.invokestatic 222, 3) := by decide +kernel
theorem d_W_law_840 : decode code 840 = .ok (.istore 5, 2) := by decide +kernel
theorem d_W_law_842 : decode code 842 = .ok (.aload_n 2, 1) := by decide +kernel
theorem d_W_law_843 : decode code 843 = .ok (.aload_n 0, 1) := by decide +kernel
theorem d_W_law_844 : decode code 844 = .ok (.iload 4, 2) := by decide +kernel
theorem d_W_law_846 : decode code 846 = .ok (.iconst 1, 1) := by decide +kernel
theorem d_W_law_847 : decode code 847 = .ok (.iadd, 1) := by decide +kernel
theorem d_W_law_848 : decode code 848 = .ok (.iaload, 1) := by decide +kernel
theorem d_W_law_849 : decode code 849 = .ok (.invokevirtual 224, 3) := by decide +kernel
theorem d_W_law_852 : decode code 852 = .ok (.istore 6, 2) := by decide +kernel
theorem d_W_law_854 : decode code 854 = .ok (.goto (1171), 3) := by decide +kernel
theorem d_W_law_857 : decode code 857 = .ok (.aload_n 1, 1) := by decide +kernel
theorem d_W_law_858 : decode code 858 = .ok (.invokevirtual 225, 3) := by decide +kernel
theorem d_W_law_861 : decode code 861 = .ok (.pop, 1) := by decide +kernel
theorem d_W_law_862 : decode code 862 = .ok (.aload_n 2, 1) := by decide +kernel
theorem d_W_law_863 : decode code 863 = .ok (.invokevirtual 228, 3) := by decide +kernel
theorem d_W_law_866 : decode code 866 = .ok (.pop, 1) := by decide +kernel
theorem d_W_law_867 : decode code 867 = .ok (.goto (1158), 3) := by decide +kernel
theorem d_W_law_870 : decode code 870 = .ok (.aload_n 1, 1) := by decide +kernel
theorem d_W_law_871 : decode code 871 = .ok (.aload_n 0, 1) := by decide +kernel
theorem d_W_law_872 : decode code 872 = .ok (.iload 4, 2) := by decide +kernel
theorem d_W_law_874 : decode code 874 = .ok (.iconst 1, 1) := by decide +kernel
theorem d_W_law_875 : decode code 875 = .ok (.iadd, 1) := by decide +kernel
theorem d_W_law_876 : decode code 876 = .ok (.iaload, 1) := by decide +kernel
theorem d_W_law_877 : decode code 877 = .ok (.aload_n 3, 1) := by decide +kernel
theorem d_W_law_878 : decode code 878 = .ok (.invokestatic 229, 3) := by decide +kernel
theorem d_W_law_881 : decode code 881 = .ok (.istore 5, 2) := by decide +kernel
theorem d_W_law_883 : decode code 883 = .ok (.aload_n 2, 1) := by decide +kernel
theorem d_W_law_884 : decode code 884 = .ok (.aload_n 0, 1) := by decide +kernel
theorem d_W_law_885 : decode code 885 = .ok (.iload 4, 2) := by decide +kernel
theorem d_W_law_887 : decode code 887 = .ok (.iconst 1, 1) := by decide +kernel
theorem d_W_law_888 : decode code 888 = .ok (.iadd, 1) := by decide +kernel
theorem d_W_law_889 : decode code 889 = .ok (.iaload, 1) := by decide +kernel
theorem d_W_law_890 : decode code 890 = .ok (.invokevirtual 231, 3) := by decide +kernel
theorem d_W_law_893 : decode code 893 = .ok (.istore 6, 2) := by decide +kernel
theorem d_W_law_895 : decode code 895 = .ok (.goto (1130), 3) := by decide +kernel
theorem d_W_law_898 : decode code 898 = .ok (.aload_n 1, 1) := by decide +kernel
theorem d_W_law_899 : decode code 899 = .ok (.aload_n 0, 1) := by decide +kernel
theorem d_W_law_900 : decode code 900 = .ok (.iload 4, 2) := by decide +kernel
theorem d_W_law_902 : decode code 902 = .ok (.iconst 1, 1) := by decide +kernel
theorem d_W_law_903 : decode code 903 = .ok (.iadd, 1) := by decide +kernel
theorem d_W_law_904 : decode code 904 = .ok (.iaload, 1) := by decide +kernel
theorem d_W_law_905 : decode code 905 = .ok (.aload_n 3, 1) := by decide +kernel
theorem d_W_law_906 : decode code 906 = .ok (.invokestatic 232, 3) := by decide +kernel
theorem d_W_law_909 : decode code 909 = .ok (.istore 5, 2) := by decide +kernel
theorem d_W_law_911 : decode code 911 = .ok (.aload_n 2, 1) := by decide +kernel
theorem d_W_law_912 : decode code 912 = .ok (.aload_n 0, 1) := by decide +kernel
theorem d_W_law_913 : decode code 913 = .ok (.iload 4, 2) := by decide +kernel
theorem d_W_law_915 : decode code 915 = .ok (.iconst 1, 1) := by decide +kernel
theorem d_W_law_916 : decode code 916 = .ok (.iadd, 1) := by decide +kernel
theorem d_W_law_917 : decode code 917 = .ok (.iaload, 1) := by decide +kernel
theorem d_W_law_918 : decode code 918 = .ok (.invokevirtual 234, 3) := by decide +kernel
theorem d_W_law_921 : decode code 921 = .ok (.istore 6, 2) := by decide +kernel
theorem d_W_law_923 : decode code 923 = .ok (.goto (1102), 3) := by decide +kernel
theorem d_W_law_926 : decode code 926 = .ok (.aload_n 1, 1) := by decide +kernel
theorem d_W_law_927 : decode code 927 = .ok (.aload_n 0, 1) := by decide +kernel
theorem d_W_law_928 : decode code 928 = .ok (.iload 4, 2) := by decide +kernel
theorem d_W_law_930 : decode code 930 = .ok (.iconst 1, 1) := by decide +kernel
theorem d_W_law_931 : decode code 931 = .ok (.iadd, 1) := by decide +kernel
theorem d_W_law_932 : decode code 932 = .ok (.iaload, 1) := by decide +kernel
theorem d_W_law_933 : decode code 933 = .ok (.aload_n 3, 1) := by decide +kernel
theorem d_W_law_934 : decode code 934 = .ok (.invokestatic 235, 3) := by decide +kernel
theorem d_W_law_937 : decode code 937 = .ok (.istore 5, 2) := by decide +kernel
theorem d_W_law_939 : decode code 939 = .ok (.aload_n 2, 1) := by decide +kernel
theorem d_W_law_940 : decode code 940 = .ok (.aload_n 0, 1) := by decide +kernel
theorem d_W_law_941 : decode code 941 = .ok (.iload 4, 2) := by decide +kernel
theorem d_W_law_943 : decode code 943 = .ok (.iconst 1, 1) := by decide +kernel
theorem d_W_law_944 : decode code 944 = .ok (.iadd, 1) := by decide +kernel
theorem d_W_law_945 : decode code 945 = .ok (.iaload, 1) := by decide +kernel
theorem d_W_law_946 : decode code 946 = .ok (.invokevirtual 237, 3) := by decide +kernel
theorem d_W_law_949 : decode code 949 = .ok (.istore 6, 2) := by decide +kernel
theorem d_W_law_951 : decode code 951 = .ok (.goto (1074), 3) := by decide +kernel
theorem d_W_law_954 : decode code 954 = .ok (.aload_n 1, 1) := by decide +kernel
theorem d_W_law_955 : decode code 955 = .ok (.aload_n 0, 1) := by decide +kernel
theorem d_W_law_956 : decode code 956 = .ok (.iload 4, 2) := by decide +kernel
theorem d_W_law_958 : decode code 958 = .ok (.iconst 1, 1) := by decide +kernel
theorem d_W_law_959 : decode code 959 = .ok (.iadd, 1) := by decide +kernel
theorem d_W_law_960 : decode code 960 = .ok (.iaload, 1) := by decide +kernel
theorem d_W_law_961 : decode code 961 = .ok (.aload_n 0, 1) := by decide +kernel
theorem d_W_law_962 : decode code 962 = .ok (.iload 4, 2) := by decide +kernel
theorem d_W_law_964 : decode code 964 = .ok (.iconst 2, 1) := by decide +kernel
theorem d_W_law_965 : decode code 965 = .ok (.iadd, 1) := by decide +kernel
theorem d_W_law_966 : decode code 966 = .ok (.iaload, 1) := by decide +kernel
theorem d_W_law_967 : decode code 967 = .ok (.aload_n 0, 1) := by decide +kernel
theorem d_W_law_968 : decode code 968 = .ok (.iload 4, 2) := by decide +kernel
theorem d_W_law_970 : decode code 970 = .ok (.iconst 3, 1) := by decide +kernel
theorem d_W_law_971 : decode code 971 = .ok (.iadd, 1) := by decide +kernel
theorem d_W_law_972 : decode code 972 = .ok (.iaload, 1) := by decide +kernel
theorem d_W_law_973 : decode code 973 = .ok (.ifCond .eq (7), 3) := by decide +kernel
theorem d_W_law_976 : decode code 976 = .ok (.iconst 1, 1) := by decide +kernel
theorem d_W_law_977 : decode code 977 = .ok (.goto (4), 3) := by decide +kernel
theorem d_W_law_980 : decode code 980 = .ok (.iconst 0, 1) := by decide +kernel
theorem d_W_law_981 : decode code 981 = .ok (.aload_n 0, 1) := by decide +kernel
theorem d_W_law_982 : decode code 982 = .ok (.iload 4, 2) := by decide +kernel
theorem d_W_law_984 : decode code 984 = .ok (.iconst 4, 1) := by decide +kernel
theorem d_W_law_985 : decode code 985 = .ok (.iadd, 1) := by decide +kernel
theorem d_W_law_986 : decode code 986 = .ok (.iaload, 1) := by decide +kernel
theorem d_W_law_987 : decode code 987 = .ok (.aload_n 3, 1) := by decide +kernel
theorem d_W_law_988 : decode code 988 = .ok (.invokestatic 238, 3) := by decide +kernel
theorem d_W_law_991 : decode code 991 = .ok (.istore 5, 2) := by decide +kernel
theorem d_W_law_993 : decode code 993 = .ok (.aload_n 2, 1) := by decide +kernel
theorem d_W_law_994 : decode code 994 = .ok (.aload_n 0, 1) := by decide +kernel
theorem d_W_law_995 : decode code 995 = .ok (.iload 4, 2) := by decide +kernel
theorem d_W_law_997 : decode code 997 = .ok (.iconst 1, 1) := by decide +kernel
theorem d_W_law_998 : decode code 998 = .ok (.iadd, 1) := by decide +kernel
theorem d_W_law_999 : decode code 999 = .ok (.iaload, 1) := by decide +kernel
theorem d_W_law_1000 : decode code 1000 = .ok (.aload_n 0, 1) := by decide +kernel
theorem d_W_law_1001 : decode code 1001 = .ok (.iload 4, 2) := by decide +kernel
theorem d_W_law_1003 : decode code 1003 = .ok (.iconst 2, 1) := by decide +kernel
theorem d_W_law_1004 : decode code 1004 = .ok (.iadd, 1) := by decide +kernel
theorem d_W_law_1005 : decode code 1005 = .ok (.iaload, 1) := by decide +kernel
theorem d_W_law_1006 : decode code 1006 = .ok (.aload_n 0, 1) := by decide +kernel
theorem d_W_law_1007 : decode code 1007 = .ok (.iload 4, 2) := by decide +kernel
theorem d_W_law_1009 : decode code 1009 = .ok (.iconst 3, 1) := by decide +kernel
theorem d_W_law_1010 : decode code 1010 = .ok (.iadd, 1) := by decide +kernel
theorem d_W_law_1011 : decode code 1011 = .ok (.iaload, 1) := by decide +kernel
theorem d_W_law_1012 : decode code 1012 = .ok (.ifCond .eq (7), 3) := by decide +kernel
theorem d_W_law_1015 : decode code 1015 = .ok (.iconst 1, 1) := by decide +kernel
theorem d_W_law_1016 : decode code 1016 = .ok (.goto (4), 3) := by decide +kernel
theorem d_W_law_1019 : decode code 1019 = .ok (.iconst 0, 1) := by decide +kernel
theorem d_W_law_1020 : decode code 1020 = .ok (.aload_n 0, 1) := by decide +kernel
theorem d_W_law_1021 : decode code 1021 = .ok (.iload 4, 2) := by decide +kernel
theorem d_W_law_1023 : decode code 1023 = .ok (.iconst 4, 1) := by decide +kernel
theorem d_W_law_1024 : decode code 1024 = .ok (.iadd, 1) := by decide +kernel
theorem d_W_law_1025 : decode code 1025 = .ok (.iaload, 1) := by decide +kernel
theorem d_W_law_1026 : decode code 1026 = .ok (.invokevirtual 241, 3) := by decide +kernel
theorem d_W_law_1029 : decode code 1029 = .ok (.istore 6, 2) := by decide +kernel
theorem d_W_law_1031 : decode code 1031 = .ok (.goto (994), 3) := by decide +kernel
theorem d_W_law_1034 : decode code 1034 = .ok (.aload_n 1, 1) := by decide +kernel
theorem d_W_law_1035 : decode code 1035 = .ok (.aload_n 0, 1) := by decide +kernel
theorem d_W_law_1036 : decode code 1036 = .ok (.iload 4, 2) := by decide +kernel
theorem d_W_law_1038 : decode code 1038 = .ok (.iconst 1, 1) := by decide +kernel
theorem d_W_law_1039 : decode code 1039 = .ok (.iadd, 1) := by decide +kernel
theorem d_W_law_1040 : decode code 1040 = .ok (.iaload, 1) := by decide +kernel
theorem d_W_law_1041 : decode code 1041 = .ok (.aload_n 3, 1) := by decide +kernel
theorem d_W_law_1042 : decode code 1042 = .ok (.invokestatic 242, 3) := by decide +kernel
theorem d_W_law_1045 : decode code 1045 = .ok (.istore 5, 2) := by decide +kernel
theorem d_W_law_1047 : decode code 1047 = .ok (.aload_n 2, 1) := by decide +kernel
theorem d_W_law_1048 : decode code 1048 = .ok (.aload_n 0, 1) := by decide +kernel
theorem d_W_law_1049 : decode code 1049 = .ok (.iload 4, 2) := by decide +kernel
theorem d_W_law_1051 : decode code 1051 = .ok (.iconst 1, 1) := by decide +kernel
theorem d_W_law_1052 : decode code 1052 = .ok (.iadd, 1) := by decide +kernel
theorem d_W_law_1053 : decode code 1053 = .ok (.iaload, 1) := by decide +kernel
theorem d_W_law_1054 : decode code 1054 = .ok (.invokevirtual 244, 3) := by decide +kernel
theorem d_W_law_1057 : decode code 1057 = .ok (.istore 6, 2) := by decide +kernel
theorem d_W_law_1059 : decode code 1059 = .ok (.goto (966), 3) := by decide +kernel
theorem d_W_law_1062 : decode code 1062 = .ok (.aload_n 1, 1) := by decide +kernel
theorem d_W_law_1063 : decode code 1063 = .ok (.aload_n 0, 1) := by decide +kernel
theorem d_W_law_1064 : decode code 1064 = .ok (.iload 4, 2) := by decide +kernel
theorem d_W_law_1066 : decode code 1066 = .ok (.iconst 1, 1) := by decide +kernel
theorem d_W_law_1067 : decode code 1067 = .ok (.iadd, 1) := by decide +kernel
theorem d_W_law_1068 : decode code 1068 = .ok (.iaload, 1) := by decide +kernel
theorem d_W_law_1069 : decode code 1069 = .ok (.aload_n 3, 1) := by decide +kernel
theorem d_W_law_1070 : decode code 1070 = .ok (.invokestatic 245, 3) := by decide +kernel
theorem d_W_law_1073 : decode code 1073 = .ok (.istore 5, 2) := by decide +kernel
theorem d_W_law_1075 : decode code 1075 = .ok (.aload_n 2, 1) := by decide +kernel
theorem d_W_law_1076 : decode code 1076 = .ok (.aload_n 0, 1) := by decide +kernel
theorem d_W_law_1077 : decode code 1077 = .ok (.iload 4, 2) := by decide +kernel
theorem d_W_law_1079 : decode code 1079 = .ok (.iconst 1, 1) := by decide +kernel
theorem d_W_law_1080 : decode code 1080 = .ok (.iadd, 1) := by decide +kernel
theorem d_W_law_1081 : decode code 1081 = .ok (.iaload, 1) := by decide +kernel
theorem d_W_law_1082 : decode code 1082 = .ok (.invokevirtual 247, 3) := by decide +kernel
theorem d_W_law_1085 : decode code 1085 = .ok (.istore 6, 2) := by decide +kernel
theorem d_W_law_1087 : decode code 1087 = .ok (.goto (938), 3) := by decide +kernel
theorem d_W_law_1090 : decode code 1090 = .ok (.aload_n 1, 1) := by decide +kernel
theorem d_W_law_1091 : decode code 1091 = .ok (.aload_n 0, 1) := by decide +kernel
theorem d_W_law_1092 : decode code 1092 = .ok (.iload 4, 2) := by decide +kernel
theorem d_W_law_1094 : decode code 1094 = .ok (.iconst 1, 1) := by decide +kernel
theorem d_W_law_1095 : decode code 1095 = .ok (.iadd, 1) := by decide +kernel
theorem d_W_law_1096 : decode code 1096 = .ok (.iaload, 1) := by decide +kernel
theorem d_W_law_1097 : decode code 1097 = .ok (.aload_n 0, 1) := by decide +kernel
theorem d_W_law_1098 : decode code 1098 = .ok (.iload 4, 2) := by decide +kernel
theorem d_W_law_1100 : decode code 1100 = .ok (.iconst 2, 1) := by decide +kernel
theorem d_W_law_1101 : decode code 1101 = .ok (.iadd, 1) := by decide +kernel
theorem d_W_law_1102 : decode code 1102 = .ok (.iaload, 1) := by decide +kernel
theorem d_W_law_1103 : decode code 1103 = .ok (.aload_n 3, 1) := by decide +kernel
theorem d_W_law_1104 : decode code 1104 = .ok (.invokestatic 248, 3) := by decide +kernel
theorem d_W_law_1107 : decode code 1107 = .ok (.istore 5, 2) := by decide +kernel
theorem d_W_law_1109 : decode code 1109 = .ok (.aload_n 2, 1) := by decide +kernel
theorem d_W_law_1110 : decode code 1110 = .ok (.aload_n 0, 1) := by decide +kernel
theorem d_W_law_1111 : decode code 1111 = .ok (.iload 4, 2) := by decide +kernel
theorem d_W_law_1113 : decode code 1113 = .ok (.iconst 1, 1) := by decide +kernel
theorem d_W_law_1114 : decode code 1114 = .ok (.iadd, 1) := by decide +kernel
theorem d_W_law_1115 : decode code 1115 = .ok (.iaload, 1) := by decide +kernel
theorem d_W_law_1116 : decode code 1116 = .ok (.aload_n 0, 1) := by decide +kernel
theorem d_W_law_1117 : decode code 1117 = .ok (.iload 4, 2) := by decide +kernel
theorem d_W_law_1119 : decode code 1119 = .ok (.iconst 2, 1) := by decide +kernel
theorem d_W_law_1120 : decode code 1120 = .ok (.iadd, 1) := by decide +kernel
theorem d_W_law_1121 : decode code 1121 = .ok (.iaload, 1) := by decide +kernel
theorem d_W_law_1122 : decode code 1122 = .ok (.invokevirtual 250, 3) := by decide +kernel
theorem d_W_law_1125 : decode code 1125 = .ok (.istore 6, 2) := by decide +kernel
theorem d_W_law_1127 : decode code 1127 = .ok (.goto (898), 3) := by decide +kernel
theorem d_W_law_1130 : decode code 1130 = .ok (.aload_n 1, 1) := by decide +kernel
theorem d_W_law_1131 : decode code 1131 = .ok (.aload_n 0, 1) := by decide +kernel
theorem d_W_law_1132 : decode code 1132 = .ok (.iload 4, 2) := by decide +kernel
theorem d_W_law_1134 : decode code 1134 = .ok (.iconst 1, 1) := by decide +kernel
theorem d_W_law_1135 : decode code 1135 = .ok (.iadd, 1) := by decide +kernel
theorem d_W_law_1136 : decode code 1136 = .ok (.iaload, 1) := by decide +kernel
theorem d_W_law_1137 : decode code 1137 = .ok (.aload_n 0, 1) := by decide +kernel
theorem d_W_law_1138 : decode code 1138 = .ok (.iload 4, 2) := by decide +kernel
theorem d_W_law_1140 : decode code 1140 = .ok (.iconst 2, 1) := by decide +kernel
theorem d_W_law_1141 : decode code 1141 = .ok (.iadd, 1) := by decide +kernel
theorem d_W_law_1142 : decode code 1142 = .ok (.iaload, 1) := by decide +kernel
theorem d_W_law_1143 : decode code 1143 = .ok (.aload_n 0, 1) := by decide +kernel
theorem d_W_law_1144 : decode code 1144 = .ok (.iload 4, 2) := by decide +kernel
theorem d_W_law_1146 : decode code 1146 = .ok (.iconst 3, 1) := by decide +kernel
theorem d_W_law_1147 : decode code 1147 = .ok (.iadd, 1) := by decide +kernel
theorem d_W_law_1148 : decode code 1148 = .ok (.iaload, 1) := by decide +kernel
theorem d_W_law_1149 : decode code 1149 = .ok (.aload_n 3, 1) := by decide +kernel
theorem d_W_law_1150 : decode code 1150 = .ok (.invokestatic 251, 3) := by decide +kernel
theorem d_W_law_1153 : decode code 1153 = .ok (.istore 5, 2) := by decide +kernel
theorem d_W_law_1155 : decode code 1155 = .ok (.aload_n 2, 1) := by decide +kernel
theorem d_W_law_1156 : decode code 1156 = .ok (.aload_n 0, 1) := by decide +kernel
theorem d_W_law_1157 : decode code 1157 = .ok (.iload 4, 2) := by decide +kernel
theorem d_W_law_1159 : decode code 1159 = .ok (.iconst 1, 1) := by decide +kernel
theorem d_W_law_1160 : decode code 1160 = .ok (.iadd, 1) := by decide +kernel
theorem d_W_law_1161 : decode code 1161 = .ok (.iaload, 1) := by decide +kernel
theorem d_W_law_1162 : decode code 1162 = .ok (.aload_n 0, 1) := by decide +kernel
theorem d_W_law_1163 : decode code 1163 = .ok (.iload 4, 2) := by decide +kernel
theorem d_W_law_1165 : decode code 1165 = .ok (.iconst 2, 1) := by decide +kernel
theorem d_W_law_1166 : decode code 1166 = .ok (.iadd, 1) := by decide +kernel
theorem d_W_law_1167 : decode code 1167 = .ok (.iaload, 1) := by decide +kernel
theorem d_W_law_1168 : decode code 1168 = .ok (.aload_n 0, 1) := by decide +kernel
theorem d_W_law_1169 : decode code 1169 = .ok (.iload 4, 2) := by decide +kernel
theorem d_W_law_1171 : decode code 1171 = .ok (.iconst 3, 1) := by decide +kernel
theorem d_W_law_1172 : decode code 1172 = .ok (.iadd, 1) := by decide +kernel
theorem d_W_law_1173 : decode code 1173 = .ok (.iaload, 1) := by decide +kernel
theorem d_W_law_1174 : decode code 1174 = .ok (.invokevirtual 253, 3) := by decide +kernel
theorem d_W_law_1177 : decode code 1177 = .ok (.istore 6, 2) := by decide +kernel
theorem d_W_law_1179 : decode code 1179 = .ok (.goto (846), 3) := by decide +kernel
theorem d_W_law_1182 : decode code 1182 = .ok (.aload_n 1, 1) := by decide +kernel
theorem d_W_law_1183 : decode code 1183 = .ok (.aload_n 0, 1) := by decide +kernel
theorem d_W_law_1184 : decode code 1184 = .ok (.iload 4, 2) := by decide +kernel
theorem d_W_law_1186 : decode code 1186 = .ok (.iconst 1, 1) := by decide +kernel
theorem d_W_law_1187 : decode code 1187 = .ok (.iadd, 1) := by decide +kernel
theorem d_W_law_1188 : decode code 1188 = .ok (.iaload, 1) := by decide +kernel
theorem d_W_law_1189 : decode code 1189 = .ok (.aload_n 0, 1) := by decide +kernel
theorem d_W_law_1190 : decode code 1190 = .ok (.iload 4, 2) := by decide +kernel
theorem d_W_law_1192 : decode code 1192 = .ok (.iconst 2, 1) := by decide +kernel
theorem d_W_law_1193 : decode code 1193 = .ok (.iadd, 1) := by decide +kernel
theorem d_W_law_1194 : decode code 1194 = .ok (.iaload, 1) := by decide +kernel
theorem d_W_law_1195 : decode code 1195 = .ok (.aload_n 3, 1) := by decide +kernel
theorem d_W_law_1196 : decode code 1196 = .ok (.invokestatic 254, 3) := by decide +kernel
theorem d_W_law_1199 : decode code 1199 = .ok (.istore 5, 2) := by decide +kernel
theorem d_W_law_1201 : decode code 1201 = .ok (.aload_n 2, 1) := by decide +kernel
theorem d_W_law_1202 : decode code 1202 = .ok (.aload_n 0, 1) := by decide +kernel
theorem d_W_law_1203 : decode code 1203 = .ok (.iload 4, 2) := by decide +kernel
theorem d_W_law_1205 : decode code 1205 = .ok (.iconst 1, 1) := by decide +kernel
theorem d_W_law_1206 : decode code 1206 = .ok (.iadd, 1) := by decide +kernel
theorem d_W_law_1207 : decode code 1207 = .ok (.iaload, 1) := by decide +kernel
theorem d_W_law_1208 : decode code 1208 = .ok (.aload_n 0, 1) := by decide +kernel
theorem d_W_law_1209 : decode code 1209 = .ok (.iload 4, 2) := by decide +kernel
theorem d_W_law_1211 : decode code 1211 = .ok (.iconst 2, 1) := by decide +kernel
theorem d_W_law_1212 : decode code 1212 = .ok (.iadd, 1) := by decide +kernel
theorem d_W_law_1213 : decode code 1213 = .ok (.iaload, 1) := by decide +kernel
theorem d_W_law_1214 : decode code 1214 = .ok (.invokevirtual 256, 3) := by decide +kernel
theorem d_W_law_1217 : decode code 1217 = .ok (.istore 6, 2) := by decide +kernel
theorem d_W_law_1219 : decode code 1219 = .ok (.goto (806), 3) := by decide +kernel
theorem d_W_law_1222 : decode code 1222 = .ok (.aload_n 1, 1) := by decide +kernel
theorem d_W_law_1223 : decode code 1223 = .ok (.aload_n 0, 1) := by decide +kernel
theorem d_W_law_1224 : decode code 1224 = .ok (.iload 4, 2) := by decide +kernel
theorem d_W_law_1226 : decode code 1226 = .ok (.iconst 1, 1) := by decide +kernel
theorem d_W_law_1227 : decode code 1227 = .ok (.iadd, 1) := by decide +kernel
theorem d_W_law_1228 : decode code 1228 = .ok (.iaload, 1) := by decide +kernel
theorem d_W_law_1229 : decode code 1229 = .ok (.aload_n 0, 1) := by decide +kernel
theorem d_W_law_1230 : decode code 1230 = .ok (.iload 4, 2) := by decide +kernel
theorem d_W_law_1232 : decode code 1232 = .ok (.iconst 2, 1) := by decide +kernel
theorem d_W_law_1233 : decode code 1233 = .ok (.iadd, 1) := by decide +kernel
theorem d_W_law_1234 : decode code 1234 = .ok (.iaload, 1) := by decide +kernel
theorem d_W_law_1235 : decode code 1235 = .ok (.aload_n 3, 1) := by decide +kernel
theorem d_W_law_1236 : decode code 1236 = .ok (.invokestatic 257, 3) := by decide +kernel
theorem d_W_law_1239 : decode code 1239 = .ok (.istore 5, 2) := by decide +kernel
theorem d_W_law_1241 : decode code 1241 = .ok (.aload_n 2, 1) := by decide +kernel
theorem d_W_law_1242 : decode code 1242 = .ok (.aload_n 0, 1) := by decide +kernel
theorem d_W_law_1243 : decode code 1243 = .ok (.iload 4, 2) := by decide +kernel
theorem d_W_law_1245 : decode code 1245 = .ok (.iconst 1, 1) := by decide +kernel
theorem d_W_law_1246 : decode code 1246 = .ok (.iadd, 1) := by decide +kernel
theorem d_W_law_1247 : decode code 1247 = .ok (.iaload, 1) := by decide +kernel
theorem d_W_law_1248 : decode code 1248 = .ok (.aload_n 0, 1) := by decide +kernel
theorem d_W_law_1249 : decode code 1249 = .ok (.iload 4, 2) := by decide +kernel
theorem d_W_law_1251 : decode code 1251 = .ok (.iconst 2, 1) := by decide +kernel
theorem d_W_law_1252 : decode code 1252 = .ok (.iadd, 1) := by decide +kernel
theorem d_W_law_1253 : decode code 1253 = .ok (.iaload, 1) := by decide +kernel
theorem d_W_law_1254 : decode code 1254 = .ok (.invokevirtual 259, 3) := by decide +kernel
theorem d_W_law_1257 : decode code 1257 = .ok (.istore 6, 2) := by decide +kernel
theorem d_W_law_1259 : decode code 1259 = .ok (.goto (766), 3) := by decide +kernel
theorem d_W_law_1262 : decode code 1262 = .ok (.aload_n 1, 1) := by decide +kernel
theorem d_W_law_1263 : decode code 1263 = .ok (.aload_n 0, 1) := by decide +kernel
theorem d_W_law_1264 : decode code 1264 = .ok (.iload 4, 2) := by decide +kernel
theorem d_W_law_1266 : decode code 1266 = .ok (.iconst 1, 1) := by decide +kernel
theorem d_W_law_1267 : decode code 1267 = .ok (.iadd, 1) := by decide +kernel
theorem d_W_law_1268 : decode code 1268 = .ok (.iaload, 1) := by decide +kernel
theorem d_W_law_1269 : decode code 1269 = .ok (.aload_n 0, 1) := by decide +kernel
theorem d_W_law_1270 : decode code 1270 = .ok (.iload 4, 2) := by decide +kernel
theorem d_W_law_1272 : decode code 1272 = .ok (.iconst 2, 1) := by decide +kernel
theorem d_W_law_1273 : decode code 1273 = .ok (.iadd, 1) := by decide +kernel
theorem d_W_law_1274 : decode code 1274 = .ok (.iaload, 1) := by decide +kernel
theorem d_W_law_1275 : decode code 1275 = .ok (.aload_n 0, 1) := by decide +kernel
theorem d_W_law_1276 : decode code 1276 = .ok (.iload 4, 2) := by decide +kernel
theorem d_W_law_1278 : decode code 1278 = .ok (.iconst 3, 1) := by decide +kernel
theorem d_W_law_1279 : decode code 1279 = .ok (.iadd, 1) := by decide +kernel
theorem d_W_law_1280 : decode code 1280 = .ok (.iaload, 1) := by decide +kernel
theorem d_W_law_1281 : decode code 1281 = .ok (.aload_n 0, 1) := by decide +kernel
theorem d_W_law_1282 : decode code 1282 = .ok (.iload 4, 2) := by decide +kernel
theorem d_W_law_1284 : decode code 1284 = .ok (.iconst 4, 1) := by decide +kernel
theorem d_W_law_1285 : decode code 1285 = .ok (.iadd, 1) := by decide +kernel
theorem d_W_law_1286 : decode code 1286 = .ok (.iaload, 1) := by decide +kernel
theorem d_W_law_1287 : decode code 1287 = .ok (.aload_n 3, 1) := by decide +kernel
theorem d_W_law_1288 : decode code 1288 = .ok (.invokestatic 260, 3) := by decide +kernel
theorem d_W_law_1291 : decode code 1291 = .ok (.istore 5, 2) := by decide +kernel
theorem d_W_law_1293 : decode code 1293 = .ok (.aload_n 2, 1) := by decide +kernel
theorem d_W_law_1294 : decode code 1294 = .ok (.aload_n 0, 1) := by decide +kernel
theorem d_W_law_1295 : decode code 1295 = .ok (.iload 4, 2) := by decide +kernel
theorem d_W_law_1297 : decode code 1297 = .ok (.iconst 1, 1) := by decide +kernel
theorem d_W_law_1298 : decode code 1298 = .ok (.iadd, 1) := by decide +kernel
theorem d_W_law_1299 : decode code 1299 = .ok (.iaload, 1) := by decide +kernel
theorem d_W_law_1300 : decode code 1300 = .ok (.aload_n 0, 1) := by decide +kernel
theorem d_W_law_1301 : decode code 1301 = .ok (.iload 4, 2) := by decide +kernel
theorem d_W_law_1303 : decode code 1303 = .ok (.iconst 2, 1) := by decide +kernel
theorem d_W_law_1304 : decode code 1304 = .ok (.iadd, 1) := by decide +kernel
theorem d_W_law_1305 : decode code 1305 = .ok (.iaload, 1) := by decide +kernel
theorem d_W_law_1306 : decode code 1306 = .ok (.aload_n 0, 1) := by decide +kernel
theorem d_W_law_1307 : decode code 1307 = .ok (.iload 4, 2) := by decide +kernel
theorem d_W_law_1309 : decode code 1309 = .ok (.iconst 3, 1) := by decide +kernel
theorem d_W_law_1310 : decode code 1310 = .ok (.iadd, 1) := by decide +kernel
theorem d_W_law_1311 : decode code 1311 = .ok (.iaload, 1) := by decide +kernel
theorem d_W_law_1312 : decode code 1312 = .ok (.aload_n 0, 1) := by decide +kernel
theorem d_W_law_1313 : decode code 1313 = .ok (.iload 4, 2) := by decide +kernel
theorem d_W_law_1315 : decode code 1315 = .ok (.iconst 4, 1) := by decide +kernel
theorem d_W_law_1316 : decode code 1316 = .ok (.iadd, 1) := by decide +kernel
theorem d_W_law_1317 : decode code 1317 = .ok (.iaload, 1) := by decide +kernel
theorem d_W_law_1318 : decode code 1318 = .ok (.invokevirtual 263, 3) := by decide +kernel
theorem d_W_law_1321 : decode code 1321 = .ok (.istore 6, 2) := by decide +kernel
theorem d_W_law_1323 : decode code 1323 = .ok (.goto (702), 3) := by decide +kernel
theorem d_W_law_1326 : decode code 1326 = .ok (.aload_n 1, 1) := by decide +kernel
theorem d_W_law_1327 : decode code 1327 = .ok (.aload_n 0, 1) := by decide +kernel
theorem d_W_law_1328 : decode code 1328 = .ok (.iload 4, 2) := by decide +kernel
theorem d_W_law_1330 : decode code 1330 = .ok (.iconst 1, 1) := by decide +kernel
theorem d_W_law_1331 : decode code 1331 = .ok (.iadd, 1) := by decide +kernel
theorem d_W_law_1332 : decode code 1332 = .ok (.iaload, 1) := by decide +kernel
theorem d_W_law_1333 : decode code 1333 = .ok (.aload_n 3, 1) := by decide +kernel
theorem d_W_law_1334 : decode code 1334 = .ok (.invokestatic 264, 3) := by decide +kernel
theorem d_W_law_1337 : decode code 1337 = .ok (.istore 5, 2) := by decide +kernel
theorem d_W_law_1339 : decode code 1339 = .ok (.aload_n 2, 1) := by decide +kernel
theorem d_W_law_1340 : decode code 1340 = .ok (.aload_n 0, 1) := by decide +kernel
theorem d_W_law_1341 : decode code 1341 = .ok (.iload 4, 2) := by decide +kernel
theorem d_W_law_1343 : decode code 1343 = .ok (.iconst 1, 1) := by decide +kernel
theorem d_W_law_1344 : decode code 1344 = .ok (.iadd, 1) := by decide +kernel
theorem d_W_law_1345 : decode code 1345 = .ok (.iaload, 1) := by decide +kernel
theorem d_W_law_1346 : decode code 1346 = .ok (.invokevirtual 266, 3) := by decide +kernel
theorem d_W_law_1349 : decode code 1349 = .ok (.istore 6, 2) := by decide +kernel
theorem d_W_law_1351 : decode code 1351 = .ok (.goto (674), 3) := by decide +kernel
theorem d_W_law_1354 : decode code 1354 = .ok (.aload_n 1, 1) := by decide +kernel
theorem d_W_law_1355 : decode code 1355 = .ok (.aload_n 0, 1) := by decide +kernel
theorem d_W_law_1356 : decode code 1356 = .ok (.iload 4, 2) := by decide +kernel
theorem d_W_law_1358 : decode code 1358 = .ok (.iconst 1, 1) := by decide +kernel
theorem d_W_law_1359 : decode code 1359 = .ok (.iadd, 1) := by decide +kernel
theorem d_W_law_1360 : decode code 1360 = .ok (.iaload, 1) := by decide +kernel
theorem d_W_law_1361 : decode code 1361 = .ok (.aload_n 0, 1) := by decide +kernel
theorem d_W_law_1362 : decode code 1362 = .ok (.iload 4, 2) := by decide +kernel
theorem d_W_law_1364 : decode code 1364 = .ok (.iconst 2, 1) := by decide +kernel
theorem d_W_law_1365 : decode code 1365 = .ok (.iadd, 1) := by decide +kernel
theorem d_W_law_1366 : decode code 1366 = .ok (.iaload, 1) := by decide +kernel
theorem d_W_law_1367 : decode code 1367 = .ok (.aload_n 3, 1) := by decide +kernel
theorem d_W_law_1368 : decode code 1368 = .ok (.invokestatic 267, 3) := by decide +kernel
theorem d_W_law_1371 : decode code 1371 = .ok (.istore 5, 2) := by decide +kernel
theorem d_W_law_1373 : decode code 1373 = .ok (.aload_n 2, 1) := by decide +kernel
theorem d_W_law_1374 : decode code 1374 = .ok (.aload_n 0, 1) := by decide +kernel
theorem d_W_law_1375 : decode code 1375 = .ok (.iload 4, 2) := by decide +kernel
theorem d_W_law_1377 : decode code 1377 = .ok (.iconst 1, 1) := by decide +kernel
theorem d_W_law_1378 : decode code 1378 = .ok (.iadd, 1) := by decide +kernel
theorem d_W_law_1379 : decode code 1379 = .ok (.iaload, 1) := by decide +kernel
theorem d_W_law_1380 : decode code 1380 = .ok (.aload_n 0, 1) := by decide +kernel
theorem d_W_law_1381 : decode code 1381 = .ok (.iload 4, 2) := by decide +kernel
theorem d_W_law_1383 : decode code 1383 = .ok (.iconst 2, 1) := by decide +kernel
theorem d_W_law_1384 : decode code 1384 = .ok (.iadd, 1) := by decide +kernel
theorem d_W_law_1385 : decode code 1385 = .ok (.iaload, 1) := by decide +kernel
theorem d_W_law_1386 : decode code 1386 = .ok (.invokevirtual 269, 3) := by decide +kernel
theorem d_W_law_1389 : decode code 1389 = .ok (.istore 6, 2) := by decide +kernel
theorem d_W_law_1391 : decode code 1391 = .ok (.goto (634), 3) := by decide +kernel
theorem d_W_law_1394 : decode code 1394 = .ok (.aload_n 1, 1) := by decide +kernel
theorem d_W_law_1395 : decode code 1395 = .ok (.aload_n 0, 1) := by decide +kernel
theorem d_W_law_1396 : decode code 1396 = .ok (.iload 4, 2) := by decide +kernel
theorem d_W_law_1398 : decode code 1398 = .ok (.iconst 1, 1) := by decide +kernel
theorem d_W_law_1399 : decode code 1399 = .ok (.iadd, 1) := by decide +kernel
theorem d_W_law_1400 : decode code 1400 = .ok (.iaload, 1) := by decide +kernel
theorem d_W_law_1401 : decode code 1401 = .ok (.aload_n 3, 1) := by decide +kernel
theorem d_W_law_1402 : decode code 1402 = .ok (.invokestatic 270, 3) := by decide +kernel
theorem d_W_law_1405 : decode code 1405 = .ok (.istore 5, 2) := by decide +kernel
theorem d_W_law_1407 : decode code 1407 = .ok (.aload_n 2, 1) := by decide +kernel
theorem d_W_law_1408 : decode code 1408 = .ok (.aload_n 0, 1) := by decide +kernel
theorem d_W_law_1409 : decode code 1409 = .ok (.iload 4, 2) := by decide +kernel
theorem d_W_law_1411 : decode code 1411 = .ok (.iconst 1, 1) := by decide +kernel
theorem d_W_law_1412 : decode code 1412 = .ok (.iadd, 1) := by decide +kernel
theorem d_W_law_1413 : decode code 1413 = .ok (.iaload, 1) := by decide +kernel
theorem d_W_law_1414 : decode code 1414 = .ok (.invokevirtual 272, 3) := by decide +kernel
theorem d_W_law_1417 : decode code 1417 = .ok (.istore 6, 2) := by decide +kernel
theorem d_W_law_1419 : decode code 1419 = .ok (.goto (606), 3) := by decide +kernel
theorem d_W_law_1422 : decode code 1422 = .ok (.aload_n 1, 1) := by decide +kernel
theorem d_W_law_1423 : decode code 1423 = .ok (.aload_n 0, 1) := by decide +kernel
theorem d_W_law_1424 : decode code 1424 = .ok (.iload 4, 2) := by decide +kernel
theorem d_W_law_1426 : decode code 1426 = .ok (.iconst 1, 1) := by decide +kernel
theorem d_W_law_1427 : decode code 1427 = .ok (.iadd, 1) := by decide +kernel
theorem d_W_law_1428 : decode code 1428 = .ok (.iaload, 1) := by decide +kernel
theorem d_W_law_1429 : decode code 1429 = .ok (.aload_n 3, 1) := by decide +kernel
theorem d_W_law_1430 : decode code 1430 = .ok (.invokestatic 273, 3) := by decide +kernel
theorem d_W_law_1433 : decode code 1433 = .ok (.istore 5, 2) := by decide +kernel
theorem d_W_law_1435 : decode code 1435 = .ok (.aload_n 2, 1) := by decide +kernel
theorem d_W_law_1436 : decode code 1436 = .ok (.aload_n 0, 1) := by decide +kernel
theorem d_W_law_1437 : decode code 1437 = .ok (.iload 4, 2) := by decide +kernel
theorem d_W_law_1439 : decode code 1439 = .ok (.iconst 1, 1) := by decide +kernel
theorem d_W_law_1440 : decode code 1440 = .ok (.iadd, 1) := by decide +kernel
theorem d_W_law_1441 : decode code 1441 = .ok (.iaload, 1) := by decide +kernel
theorem d_W_law_1442 : decode code 1442 = .ok (.invokevirtual 275, 3) := by decide +kernel
theorem d_W_law_1445 : decode code 1445 = .ok (.istore 6, 2) := by decide +kernel
theorem d_W_law_1447 : decode code 1447 = .ok (.goto (578), 3) := by decide +kernel
theorem d_W_law_1450 : decode code 1450 = .ok (.aload_n 1, 1) := by decide +kernel
theorem d_W_law_1451 : decode code 1451 = .ok (.aload_n 0, 1) := by decide +kernel
theorem d_W_law_1452 : decode code 1452 = .ok (.iload 4, 2) := by decide +kernel
theorem d_W_law_1454 : decode code 1454 = .ok (.iconst 1, 1) := by decide +kernel
theorem d_W_law_1455 : decode code 1455 = .ok (.iadd, 1) := by decide +kernel
theorem d_W_law_1456 : decode code 1456 = .ok (.iaload, 1) := by decide +kernel
theorem d_W_law_1457 : decode code 1457 = .ok (.aload_n 0, 1) := by decide +kernel
theorem d_W_law_1458 : decode code 1458 = .ok (.iload 4, 2) := by decide +kernel
theorem d_W_law_1460 : decode code 1460 = .ok (.iconst 2, 1) := by decide +kernel
theorem d_W_law_1461 : decode code 1461 = .ok (.iadd, 1) := by decide +kernel
theorem d_W_law_1462 : decode code 1462 = .ok (.iaload, 1) := by decide +kernel
theorem d_W_law_1463 : decode code 1463 = .ok (.aload_n 0, 1) := by decide +kernel
theorem d_W_law_1464 : decode code 1464 = .ok (.iload 4, 2) := by decide +kernel
theorem d_W_law_1466 : decode code 1466 = .ok (.iconst 3, 1) := by decide +kernel
theorem d_W_law_1467 : decode code 1467 = .ok (.iadd, 1) := by decide +kernel
theorem d_W_law_1468 : decode code 1468 = .ok (.iaload, 1) := by decide +kernel
theorem d_W_law_1469 : decode code 1469 = .ok (.aload_n 3, 1) := by decide +kernel
theorem d_W_law_1470 : decode code 1470 = .ok (.invokestatic 276, 3) := by decide +kernel
theorem d_W_law_1473 : decode code 1473 = .ok (.istore 5, 2) := by decide +kernel
theorem d_W_law_1475 : decode code 1475 = .ok (.aload_n 2, 1) := by decide +kernel
theorem d_W_law_1476 : decode code 1476 = .ok (.aload_n 0, 1) := by decide +kernel
theorem d_W_law_1477 : decode code 1477 = .ok (.iload 4, 2) := by decide +kernel
theorem d_W_law_1479 : decode code 1479 = .ok (.iconst 1, 1) := by decide +kernel
theorem d_W_law_1480 : decode code 1480 = .ok (.iadd, 1) := by decide +kernel
theorem d_W_law_1481 : decode code 1481 = .ok (.iaload, 1) := by decide +kernel
theorem d_W_law_1482 : decode code 1482 = .ok (.aload_n 0, 1) := by decide +kernel
theorem d_W_law_1483 : decode code 1483 = .ok (.iload 4, 2) := by decide +kernel
theorem d_W_law_1485 : decode code 1485 = .ok (.iconst 2, 1) := by decide +kernel
theorem d_W_law_1486 : decode code 1486 = .ok (.iadd, 1) := by decide +kernel
theorem d_W_law_1487 : decode code 1487 = .ok (.iaload, 1) := by decide +kernel
theorem d_W_law_1488 : decode code 1488 = .ok (.aload_n 0, 1) := by decide +kernel
theorem d_W_law_1489 : decode code 1489 = .ok (.iload 4, 2) := by decide +kernel
theorem d_W_law_1491 : decode code 1491 = .ok (.iconst 3, 1) := by decide +kernel
theorem d_W_law_1492 : decode code 1492 = .ok (.iadd, 1) := by decide +kernel
theorem d_W_law_1493 : decode code 1493 = .ok (.iaload, 1) := by decide +kernel
theorem d_W_law_1494 : decode code 1494 = .ok (.invokevirtual 278, 3) := by decide +kernel
theorem d_W_law_1497 : decode code 1497 = .ok (.istore 6, 2) := by decide +kernel
theorem d_W_law_1499 : decode code 1499 = .ok (.goto (526), 3) := by decide +kernel
theorem d_W_law_1502 : decode code 1502 = .ok (.aload_n 1, 1) := by decide +kernel
theorem d_W_law_1503 : decode code 1503 = .ok (.aload_n 0, 1) := by decide +kernel
theorem d_W_law_1504 : decode code 1504 = .ok (.iload 4, 2) := by decide +kernel
theorem d_W_law_1506 : decode code 1506 = .ok (.iconst 1, 1) := by decide +kernel
theorem d_W_law_1507 : decode code 1507 = .ok (.iadd, 1) := by decide +kernel
theorem d_W_law_1508 : decode code 1508 = .ok (.iaload, 1) := by decide +kernel
theorem d_W_law_1509 : decode code 1509 = .ok (.aload_n 3, 1) := by decide +kernel
theorem d_W_law_1510 : decode code 1510 = .ok (.invokestatic 279, 3) := by decide +kernel
theorem d_W_law_1513 : decode code 1513 = .ok (.istore 5, 2) := by decide +kernel
theorem d_W_law_1515 : decode code 1515 = .ok (.aload_n 2, 1) := by decide +kernel
theorem d_W_law_1516 : decode code 1516 = .ok (.aload_n 0, 1) := by decide +kernel
theorem d_W_law_1517 : decode code 1517 = .ok (.iload 4, 2) := by decide +kernel
theorem d_W_law_1519 : decode code 1519 = .ok (.iconst 1, 1) := by decide +kernel
theorem d_W_law_1520 : decode code 1520 = .ok (.iadd, 1) := by decide +kernel
theorem d_W_law_1521 : decode code 1521 = .ok (.iaload, 1) := by decide +kernel
theorem d_W_law_1522 : decode code 1522 = .ok (.invokevirtual 281, 3) := by decide +kernel
theorem d_W_law_1525 : decode code 1525 = .ok (.istore 6, 2) := by decide +kernel
theorem d_W_law_1527 : decode code 1527 = .ok (.goto (498), 3) := by decide +kernel
theorem d_W_law_1530 : decode code 1530 = .ok (.aload_n 1, 1) := by decide +kernel
theorem d_W_law_1531 : decode code 1531 = .ok (.aload_n 3, 1) := by decide +kernel
theorem d_W_law_1532 : decode code 1532 = .ok (.invokestatic 282, 3) := by decide +kernel
theorem d_W_law_1535 : decode code 1535 = .ok (.istore 5, 2) := by decide +kernel
theorem d_W_law_1537 : decode code 1537 = .ok (.aload_n 2, 1) := by decide +kernel
theorem d_W_law_1538 : decode code 1538 = .ok (.invokevirtual 284, 3) := by decide +kernel
theorem d_W_law_1541 : decode code 1541 = .ok (.istore 6, 2) := by decide +kernel
theorem d_W_law_1543 : decode code 1543 = .ok (.goto (482), 3) := by decide +kernel
theorem d_W_law_1546 : decode code 1546 = .ok (.aload_n 1, 1) := by decide +kernel
theorem d_W_law_1547 : decode code 1547 = .ok (.aload_n 3, 1) := by decide +kernel
theorem d_W_law_1548 : decode code 1548 = .ok (.invokestatic 285, 3) := by decide +kernel
theorem d_W_law_1551 : decode code 1551 = .ok (.istore 5, 2) := by decide +kernel
theorem d_W_law_1553 : decode code 1553 = .ok (.aload_n 2, 1) := by decide +kernel
theorem d_W_law_1554 : decode code 1554 = .ok (.invokevirtual 287, 3) := by decide +kernel
theorem d_W_law_1557 : decode code 1557 = .ok (.istore 6, 2) := by decide +kernel
theorem d_W_law_1559 : decode code 1559 = .ok (.goto (466), 3) := by decide +kernel
theorem d_W_law_1562 : decode code 1562 = .ok (.aload_n 1, 1) := by decide +kernel
theorem d_W_law_1563 : decode code 1563 = .ok (.invokevirtual 288, 3) := by decide +kernel
theorem d_W_law_1566 : decode code 1566 = .ok (.pop, 1) := by decide +kernel
theorem d_W_law_1567 : decode code 1567 = .ok (.aload_n 2, 1) := by decide +kernel
theorem d_W_law_1568 : decode code 1568 = .ok (.invokevirtual 291, 3) := by decide +kernel
theorem d_W_law_1571 : decode code 1571 = .ok (.pop, 1) := by decide +kernel
theorem d_W_law_1572 : decode code 1572 = .ok (.goto (453), 3) := by decide +kernel
theorem d_W_law_1575 : decode code 1575 = .ok (.aload_n 1, 1) := by decide +kernel
theorem d_W_law_1576 : decode code 1576 = .ok (.aload_n 0, 1) := by decide +kernel
theorem d_W_law_1577 : decode code 1577 = .ok (.iload 4, 2) := by decide +kernel
theorem d_W_law_1579 : decode code 1579 = .ok (.iconst 1, 1) := by decide +kernel
theorem d_W_law_1580 : decode code 1580 = .ok (.iadd, 1) := by decide +kernel
theorem d_W_law_1581 : decode code 1581 = .ok (.iaload, 1) := by decide +kernel
theorem d_W_law_1582 : decode code 1582 = .ok (.aload_n 3, 1) := by decide +kernel
theorem d_W_law_1583 : decode code 1583 = .ok (.invokestatic 292, 3) := by decide +kernel
theorem d_W_law_1586 : decode code 1586 = .ok (.istore 5, 2) := by decide +kernel
theorem d_W_law_1588 : decode code 1588 = .ok (.aload_n 2, 1) := by decide +kernel
theorem d_W_law_1589 : decode code 1589 = .ok (.aload_n 0, 1) := by decide +kernel
theorem d_W_law_1590 : decode code 1590 = .ok (.iload 4, 2) := by decide +kernel
theorem d_W_law_1592 : decode code 1592 = .ok (.iconst 1, 1) := by decide +kernel
theorem d_W_law_1593 : decode code 1593 = .ok (.iadd, 1) := by decide +kernel
theorem d_W_law_1594 : decode code 1594 = .ok (.iaload, 1) := by decide +kernel
theorem d_W_law_1595 : decode code 1595 = .ok (.invokevirtual 294, 3) := by decide +kernel
theorem d_W_law_1598 : decode code 1598 = .ok (.istore 6, 2) := by decide +kernel
theorem d_W_law_1600 : decode code 1600 = .ok (.goto (425), 3) := by decide +kernel
theorem d_W_law_1603 : decode code 1603 = .ok (.aload_n 1, 1) := by decide +kernel
theorem d_W_law_1604 : decode code 1604 = .ok (.aload_n 0, 1) := by decide +kernel
theorem d_W_law_1605 : decode code 1605 = .ok (.iload 4, 2) := by decide +kernel
theorem d_W_law_1607 : decode code 1607 = .ok (.iconst 1, 1) := by decide +kernel
theorem d_W_law_1608 : decode code 1608 = .ok (.iadd, 1) := by decide +kernel
theorem d_W_law_1609 : decode code 1609 = .ok (.iaload, 1) := by decide +kernel
theorem d_W_law_1610 : decode code 1610 = .ok (.aload_n 3, 1) := by decide +kernel
theorem d_W_law_1611 : decode code 1611 = .ok (.invokestatic 295, 3) := by decide +kernel
theorem d_W_law_1614 : decode code 1614 = .ok (.istore 5, 2) := by decide +kernel
theorem d_W_law_1616 : decode code 1616 = .ok (.aload_n 2, 1) := by decide +kernel
theorem d_W_law_1617 : decode code 1617 = .ok (.aload_n 0, 1) := by decide +kernel
theorem d_W_law_1618 : decode code 1618 = .ok (.iload 4, 2) := by decide +kernel
theorem d_W_law_1620 : decode code 1620 = .ok (.iconst 1, 1) := by decide +kernel
theorem d_W_law_1621 : decode code 1621 = .ok (.iadd, 1) := by decide +kernel
theorem d_W_law_1622 : decode code 1622 = .ok (.iaload, 1) := by decide +kernel
theorem d_W_law_1623 : decode code 1623 = .ok (.invokevirtual 297, 3) := by decide +kernel
theorem d_W_law_1626 : decode code 1626 = .ok (.istore 6, 2) := by decide +kernel
theorem d_W_law_1628 : decode code 1628 = .ok (.goto (397), 3) := by decide +kernel
theorem d_W_law_1631 : decode code 1631 = .ok (.aload_n 1, 1) := by decide +kernel
theorem d_W_law_1632 : decode code 1632 = .ok (.aload_n 0, 1) := by decide +kernel
theorem d_W_law_1633 : decode code 1633 = .ok (.iload 4, 2) := by decide +kernel
theorem d_W_law_1635 : decode code 1635 = .ok (.iconst 1, 1) := by decide +kernel
theorem d_W_law_1636 : decode code 1636 = .ok (.iadd, 1) := by decide +kernel
theorem d_W_law_1637 : decode code 1637 = .ok (.iaload, 1) := by decide +kernel
theorem d_W_law_1638 : decode code 1638 = .ok (.aload_n 0, 1) := by decide +kernel
theorem d_W_law_1639 : decode code 1639 = .ok (.iload 4, 2) := by decide +kernel
theorem d_W_law_1641 : decode code 1641 = .ok (.iconst 2, 1) := by decide +kernel
theorem d_W_law_1642 : decode code 1642 = .ok (.iadd, 1) := by decide +kernel
theorem d_W_law_1643 : decode code 1643 = .ok (.iaload, 1) := by decide +kernel
theorem d_W_law_1644 : decode code 1644 = .ok (.aload_n 0, 1) := by decide +kernel
theorem d_W_law_1645 : decode code 1645 = .ok (.iload 4, 2) := by decide +kernel
theorem d_W_law_1647 : decode code 1647 = .ok (.iconst 3, 1) := by decide +kernel
theorem d_W_law_1648 : decode code 1648 = .ok (.iadd, 1) := by decide +kernel
theorem d_W_law_1649 : decode code 1649 = .ok (.iaload, 1) := by decide +kernel
theorem d_W_law_1650 : decode code 1650 = .ok (.aload_n 3, 1) := by decide +kernel
theorem d_W_law_1651 : decode code 1651 = .ok (.invokestatic 298, 3) := by decide +kernel
theorem d_W_law_1654 : decode code 1654 = .ok (.istore 5, 2) := by decide +kernel
theorem d_W_law_1656 : decode code 1656 = .ok (.aload_n 2, 1) := by decide +kernel
theorem d_W_law_1657 : decode code 1657 = .ok (.aload_n 0, 1) := by decide +kernel
theorem d_W_law_1658 : decode code 1658 = .ok (.iload 4, 2) := by decide +kernel
theorem d_W_law_1660 : decode code 1660 = .ok (.iconst 1, 1) := by decide +kernel
theorem d_W_law_1661 : decode code 1661 = .ok (.iadd, 1) := by decide +kernel
theorem d_W_law_1662 : decode code 1662 = .ok (.iaload, 1) := by decide +kernel
theorem d_W_law_1663 : decode code 1663 = .ok (.aload_n 0, 1) := by decide +kernel
theorem d_W_law_1664 : decode code 1664 = .ok (.iload 4, 2) := by decide +kernel
theorem d_W_law_1666 : decode code 1666 = .ok (.iconst 2, 1) := by decide +kernel
theorem d_W_law_1667 : decode code 1667 = .ok (.iadd, 1) := by decide +kernel
theorem d_W_law_1668 : decode code 1668 = .ok (.iaload, 1) := by decide +kernel
theorem d_W_law_1669 : decode code 1669 = .ok (.aload_n 0, 1) := by decide +kernel
theorem d_W_law_1670 : decode code 1670 = .ok (.iload 4, 2) := by decide +kernel
theorem d_W_law_1672 : decode code 1672 = .ok (.iconst 3, 1) := by decide +kernel
theorem d_W_law_1673 : decode code 1673 = .ok (.iadd, 1) := by decide +kernel
theorem d_W_law_1674 : decode code 1674 = .ok (.iaload, 1) := by decide +kernel
theorem d_W_law_1675 : decode code 1675 = .ok (.invokevirtual 300, 3) := by decide +kernel
theorem d_W_law_1678 : decode code 1678 = .ok (.istore 6, 2) := by decide +kernel
theorem d_W_law_1680 : decode code 1680 = .ok (.goto (345), 3) := by decide +kernel
theorem d_W_law_1683 : decode code 1683 = .ok (.aload_n 1, 1) := by decide +kernel
theorem d_W_law_1684 : decode code 1684 = .ok (.aload_n 0, 1) := by decide +kernel
theorem d_W_law_1685 : decode code 1685 = .ok (.iload 4, 2) := by decide +kernel
theorem d_W_law_1687 : decode code 1687 = .ok (.iconst 1, 1) := by decide +kernel
theorem d_W_law_1688 : decode code 1688 = .ok (.iadd, 1) := by decide +kernel
theorem d_W_law_1689 : decode code 1689 = .ok (.iaload, 1) := by decide +kernel
theorem d_W_law_1690 : decode code 1690 = .ok (.aload_n 3, 1) := by decide +kernel
theorem d_W_law_1691 : decode code 1691 = .ok (.invokestatic 301, 3) := by decide +kernel
theorem d_W_law_1694 : decode code 1694 = .ok (.istore 5, 2) := by decide +kernel
theorem d_W_law_1696 : decode code 1696 = .ok (.aload_n 2, 1) := by decide +kernel
theorem d_W_law_1697 : decode code 1697 = .ok (.aload_n 0, 1) := by decide +kernel
theorem d_W_law_1698 : decode code 1698 = .ok (.iload 4, 2) := by decide +kernel
theorem d_W_law_1700 : decode code 1700 = .ok (.iconst 1, 1) := by decide +kernel
theorem d_W_law_1701 : decode code 1701 = .ok (.iadd, 1) := by decide +kernel
theorem d_W_law_1702 : decode code 1702 = .ok (.iaload, 1) := by decide +kernel
theorem d_W_law_1703 : decode code 1703 = .ok (.invokevirtual 303, 3) := by decide +kernel
theorem d_W_law_1706 : decode code 1706 = .ok (.istore 6, 2) := by decide +kernel
theorem d_W_law_1708 : decode code 1708 = .ok (.goto (317), 3) := by decide +kernel
theorem d_W_law_1711 : decode code 1711 = .ok (.aload_n 1, 1) := by decide +kernel
theorem d_W_law_1712 : decode code 1712 = .ok (.aload_n 0, 1) := by decide +kernel
theorem d_W_law_1713 : decode code 1713 = .ok (.iload 4, 2) := by decide +kernel
theorem d_W_law_1715 : decode code 1715 = .ok (.iconst 1, 1) := by decide +kernel
theorem d_W_law_1716 : decode code 1716 = .ok (.iadd, 1) := by decide +kernel
theorem d_W_law_1717 : decode code 1717 = .ok (.iaload, 1) := by decide +kernel
theorem d_W_law_1718 : decode code 1718 = .ok (.aload_n 3, 1) := by decide +kernel
theorem d_W_law_1719 : decode code 1719 = .ok (.invokestatic 304, 3) := by decide +kernel
theorem d_W_law_1722 : decode code 1722 = .ok (.istore 5, 2) := by decide +kernel
theorem d_W_law_1724 : decode code 1724 = .ok (.aload_n 2, 1) := by decide +kernel
theorem d_W_law_1725 : decode code 1725 = .ok (.aload_n 0, 1) := by decide +kernel
theorem d_W_law_1726 : decode code 1726 = .ok (.iload 4, 2) := by decide +kernel
theorem d_W_law_1728 : decode code 1728 = .ok (.iconst 1, 1) := by decide +kernel
theorem d_W_law_1729 : decode code 1729 = .ok (.iadd, 1) := by decide +kernel
theorem d_W_law_1730 : decode code 1730 = .ok (.iaload, 1) := by decide +kernel
theorem d_W_law_1731 : decode code 1731 = .ok (.invokevirtual 306, 3) := by decide +kernel
theorem d_W_law_1734 : decode code 1734 = .ok (.istore 6, 2) := by decide +kernel
theorem d_W_law_1736 : decode code 1736 = .ok (.goto (289), 3) := by decide +kernel
theorem d_W_law_1739 : decode code 1739 = .ok (.aload_n 1, 1) := by decide +kernel
theorem d_W_law_1740 : decode code 1740 = .ok (.aload_n 0, 1) := by decide +kernel
theorem d_W_law_1741 : decode code 1741 = .ok (.iload 4, 2) := by decide +kernel
theorem d_W_law_1743 : decode code 1743 = .ok (.iconst 1, 1) := by decide +kernel
theorem d_W_law_1744 : decode code 1744 = .ok (.iadd, 1) := by decide +kernel
theorem d_W_law_1745 : decode code 1745 = .ok (.iaload, 1) := by decide +kernel
theorem d_W_law_1746 : decode code 1746 = .ok (.aload_n 0, 1) := by decide +kernel
theorem d_W_law_1747 : decode code 1747 = .ok (.iload 4, 2) := by decide +kernel
theorem d_W_law_1749 : decode code 1749 = .ok (.iconst 2, 1) := by decide +kernel
theorem d_W_law_1750 : decode code 1750 = .ok (.iadd, 1) := by decide +kernel
theorem d_W_law_1751 : decode code 1751 = .ok (.iaload, 1) := by decide +kernel
theorem d_W_law_1752 : decode code 1752 = .ok (.aload_n 3, 1) := by decide +kernel
theorem d_W_law_1753 : decode code 1753 = .ok (.invokestatic 307, 3) := by decide +kernel
theorem d_W_law_1756 : decode code 1756 = .ok (.istore 5, 2) := by decide +kernel
theorem d_W_law_1758 : decode code 1758 = .ok (.aload_n 2, 1) := by decide +kernel
theorem d_W_law_1759 : decode code 1759 = .ok (.aload_n 0, 1) := by decide +kernel
theorem d_W_law_1760 : decode code 1760 = .ok (.iload 4, 2) := by decide +kernel
theorem d_W_law_1762 : decode code 1762 = .ok (.iconst 1, 1) := by decide +kernel
theorem d_W_law_1763 : decode code 1763 = .ok (.iadd, 1) := by decide +kernel
theorem d_W_law_1764 : decode code 1764 = .ok (.iaload, 1) := by decide +kernel
theorem d_W_law_1765 : decode code 1765 = .ok (.aload_n 0, 1) := by decide +kernel
theorem d_W_law_1766 : decode code 1766 = .ok (.iload 4, 2) := by decide +kernel
theorem d_W_law_1768 : decode code 1768 = .ok (.iconst 2, 1) := by decide +kernel
theorem d_W_law_1769 : decode code 1769 = .ok (.iadd, 1) := by decide +kernel
theorem d_W_law_1770 : decode code 1770 = .ok (.iaload, 1) := by decide +kernel
theorem d_W_law_1771 : decode code 1771 = .ok (.invokevirtual 309, 3) := by decide +kernel
theorem d_W_law_1774 : decode code 1774 = .ok (.istore 6, 2) := by decide +kernel
theorem d_W_law_1776 : decode code 1776 = .ok (.goto (249), 3) := by decide +kernel
theorem d_W_law_1779 : decode code 1779 = .ok (.aload_n 1, 1) := by decide +kernel
theorem d_W_law_1780 : decode code 1780 = .ok (.aload_n 0, 1) := by decide +kernel
theorem d_W_law_1781 : decode code 1781 = .ok (.iload 4, 2) := by decide +kernel
theorem d_W_law_1783 : decode code 1783 = .ok (.iconst 1, 1) := by decide +kernel
theorem d_W_law_1784 : decode code 1784 = .ok (.iadd, 1) := by decide +kernel
theorem d_W_law_1785 : decode code 1785 = .ok (.iaload, 1) := by decide +kernel
theorem d_W_law_1786 : decode code 1786 = .ok (.aload_n 0, 1) := by decide +kernel
theorem d_W_law_1787 : decode code 1787 = .ok (.iload 4, 2) := by decide +kernel
theorem d_W_law_1789 : decode code 1789 = .ok (.iconst 2, 1) := by decide +kernel
theorem d_W_law_1790 : decode code 1790 = .ok (.iadd, 1) := by decide +kernel
theorem d_W_law_1791 : decode code 1791 = .ok (.iaload, 1) := by decide +kernel
theorem d_W_law_1792 : decode code 1792 = .ok (.aload_n 3, 1) := by decide +kernel
theorem d_W_law_1793 : decode code 1793 = .ok (.invokestatic 310, 3) := by decide +kernel
theorem d_W_law_1796 : decode code 1796 = .ok (.istore 5, 2) := by decide +kernel
theorem d_W_law_1798 : decode code 1798 = .ok (.aload_n 2, 1) := by decide +kernel
theorem d_W_law_1799 : decode code 1799 = .ok (.aload_n 0, 1) := by decide +kernel
theorem d_W_law_1800 : decode code 1800 = .ok (.iload 4, 2) := by decide +kernel
theorem d_W_law_1802 : decode code 1802 = .ok (.iconst 1, 1) := by decide +kernel
theorem d_W_law_1803 : decode code 1803 = .ok (.iadd, 1) := by decide +kernel
theorem d_W_law_1804 : decode code 1804 = .ok (.iaload, 1) := by decide +kernel
theorem d_W_law_1805 : decode code 1805 = .ok (.aload_n 0, 1) := by decide +kernel
theorem d_W_law_1806 : decode code 1806 = .ok (.iload 4, 2) := by decide +kernel
theorem d_W_law_1808 : decode code 1808 = .ok (.iconst 2, 1) := by decide +kernel
theorem d_W_law_1809 : decode code 1809 = .ok (.iadd, 1) := by decide +kernel
theorem d_W_law_1810 : decode code 1810 = .ok (.iaload, 1) := by decide +kernel
theorem d_W_law_1811 : decode code 1811 = .ok (.invokevirtual 312, 3) := by decide +kernel
theorem d_W_law_1814 : decode code 1814 = .ok (.istore 6, 2) := by decide +kernel
theorem d_W_law_1816 : decode code 1816 = .ok (.goto (209), 3) := by decide +kernel
theorem d_W_law_1819 : decode code 1819 = .ok (.aload_n 1, 1) := by decide +kernel
theorem d_W_law_1820 : decode code 1820 = .ok (.aload_n 0, 1) := by decide +kernel
theorem d_W_law_1821 : decode code 1821 = .ok (.iload 4, 2) := by decide +kernel
theorem d_W_law_1823 : decode code 1823 = .ok (.iconst 1, 1) := by decide +kernel
theorem d_W_law_1824 : decode code 1824 = .ok (.iadd, 1) := by decide +kernel
theorem d_W_law_1825 : decode code 1825 = .ok (.iaload, 1) := by decide +kernel
theorem d_W_law_1826 : decode code 1826 = .ok (.aload_n 3, 1) := by decide +kernel
theorem d_W_law_1827 : decode code 1827 = .ok (.invokestatic 313, 3) := by decide +kernel
theorem d_W_law_1830 : decode code 1830 = .ok (.istore 5, 2) := by decide +kernel
theorem d_W_law_1832 : decode code 1832 = .ok (.aload_n 2, 1) := by decide +kernel
theorem d_W_law_1833 : decode code 1833 = .ok (.aload_n 0, 1) := by decide +kernel
theorem d_W_law_1834 : decode code 1834 = .ok (.iload 4, 2) := by decide +kernel
theorem d_W_law_1836 : decode code 1836 = .ok (.iconst 1, 1) := by decide +kernel
theorem d_W_law_1837 : decode code 1837 = .ok (.iadd, 1) := by decide +kernel
theorem d_W_law_1838 : decode code 1838 = .ok (.iaload, 1) := by decide +kernel
theorem d_W_law_1839 : decode code 1839 = .ok (.invokevirtual 315, 3) := by decide +kernel
theorem d_W_law_1842 : decode code 1842 = .ok (.istore 6, 2) := by decide +kernel
theorem d_W_law_1844 : decode code 1844 = .ok (.goto (181), 3) := by decide +kernel
theorem d_W_law_1847 : decode code 1847 = .ok (.aload_n 1, 1) := by decide +kernel
theorem d_W_law_1848 : decode code 1848 = .ok (.aload_n 0, 1) := by decide +kernel
theorem d_W_law_1849 : decode code 1849 = .ok (.iload 4, 2) := by decide +kernel
theorem d_W_law_1851 : decode code 1851 = .ok (.iconst 1, 1) := by decide +kernel
theorem d_W_law_1852 : decode code 1852 = .ok (.iadd, 1) := by decide +kernel
theorem d_W_law_1853 : decode code 1853 = .ok (.iaload, 1) := by decide +kernel
theorem d_W_law_1854 : decode code 1854 = .ok (.aload_n 0, 1) := by decide +kernel
theorem d_W_law_1855 : decode code 1855 = .ok (.iload 4, 2) := by decide +kernel
theorem d_W_law_1857 : decode code 1857 = .ok (.iconst 2, 1) := by decide +kernel
theorem d_W_law_1858 : decode code 1858 = .ok (.iadd, 1) := by decide +kernel
theorem d_W_law_1859 : decode code 1859 = .ok (.iaload, 1) := by decide +kernel
theorem d_W_law_1860 : decode code 1860 = .ok (.aload_n 3, 1) := by decide +kernel
theorem d_W_law_1861 : decode code 1861 = .ok (.invokestatic 316, 3) := by decide +kernel
theorem d_W_law_1864 : decode code 1864 = .ok (.istore 5, 2) := by decide +kernel
theorem d_W_law_1866 : decode code 1866 = .ok (.aload_n 2, 1) := by decide +kernel
theorem d_W_law_1867 : decode code 1867 = .ok (.aload_n 0, 1) := by decide +kernel
theorem d_W_law_1868 : decode code 1868 = .ok (.iload 4, 2) := by decide +kernel
theorem d_W_law_1870 : decode code 1870 = .ok (.iconst 1, 1) := by decide +kernel
theorem d_W_law_1871 : decode code 1871 = .ok (.iadd, 1) := by decide +kernel
theorem d_W_law_1872 : decode code 1872 = .ok (.iaload, 1) := by decide +kernel
theorem d_W_law_1873 : decode code 1873 = .ok (.aload_n 0, 1) := by decide +kernel
theorem d_W_law_1874 : decode code 1874 = .ok (.iload 4, 2) := by decide +kernel
theorem d_W_law_1876 : decode code 1876 = .ok (.iconst 2, 1) := by decide +kernel
theorem d_W_law_1877 : decode code 1877 = .ok (.iadd, 1) := by decide +kernel
theorem d_W_law_1878 : decode code 1878 = .ok (.iaload, 1) := by decide +kernel
theorem d_W_law_1879 : decode code 1879 = .ok (.invokevirtual 318, 3) := by decide +kernel
theorem d_W_law_1882 : decode code 1882 = .ok (.istore 6, 2) := by decide +kernel
theorem d_W_law_1884 : decode code 1884 = .ok (.goto (141), 3) := by decide +kernel
theorem d_W_law_1887 : decode code 1887 = .ok (.aload_n 1, 1) := by decide +kernel
theorem d_W_law_1888 : decode code 1888 = .ok (.aload_n 0, 1) := by decide +kernel
theorem d_W_law_1889 : decode code 1889 = .ok (.iload 4, 2) := by decide +kernel
theorem d_W_law_1891 : decode code 1891 = .ok (.iconst 1, 1) := by decide +kernel
theorem d_W_law_1892 : decode code 1892 = .ok (.iadd, 1) := by decide +kernel
theorem d_W_law_1893 : decode code 1893 = .ok (.iaload, 1) := by decide +kernel
theorem d_W_law_1894 : decode code 1894 = .ok (.aload_n 3, 1) := by decide +kernel
theorem d_W_law_1895 : decode code 1895 = .ok (.invokestatic 319, 3) := by decide +kernel
theorem d_W_law_1898 : decode code 1898 = .ok (.istore 5, 2) := by decide +kernel
theorem d_W_law_1900 : decode code 1900 = .ok (.aload_n 2, 1) := by decide +kernel
theorem d_W_law_1901 : decode code 1901 = .ok (.aload_n 0, 1) := by decide +kernel
theorem d_W_law_1902 : decode code 1902 = .ok (.iload 4, 2) := by decide +kernel
theorem d_W_law_1904 : decode code 1904 = .ok (.iconst 1, 1) := by decide +kernel
theorem d_W_law_1905 : decode code 1905 = .ok (.iadd, 1) := by decide +kernel
theorem d_W_law_1906 : decode code 1906 = .ok (.iaload, 1) := by decide +kernel
theorem d_W_law_1907 : decode code 1907 = .ok (.invokevirtual 321, 3) := by decide +kernel
theorem d_W_law_1910 : decode code 1910 = .ok (.istore 6, 2) := by decide +kernel
theorem d_W_law_1912 : decode code 1912 = .ok (.goto (113), 3) := by decide +kernel
theorem d_W_law_1915 : decode code 1915 = .ok (.aload_n 1, 1) := by decide +kernel
theorem d_W_law_1916 : decode code 1916 = .ok (.aload_n 0, 1) := by decide +kernel
theorem d_W_law_1917 : decode code 1917 = .ok (.iload 4, 2) := by decide +kernel
theorem d_W_law_1919 : decode code 1919 = .ok (.iconst 1, 1) := by decide +kernel
theorem d_W_law_1920 : decode code 1920 = .ok (.iadd, 1) := by decide +kernel
theorem d_W_law_1921 : decode code 1921 = .ok (.iaload, 1) := by decide +kernel
theorem d_W_law_1922 : decode code 1922 = .ok (.aload_n 3, 1) := by decide +kernel
theorem d_W_law_1923 : decode code 1923 = .ok (.invokestatic 322, 3) := by decide +kernel
theorem d_W_law_1926 : decode code 1926 = .ok (.istore 5, 2) := by decide +kernel
theorem d_W_law_1928 : decode code 1928 = .ok (.aload_n 2, 1) := by decide +kernel
theorem d_W_law_1929 : decode code 1929 = .ok (.aload_n 0, 1) := by decide +kernel
theorem d_W_law_1930 : decode code 1930 = .ok (.iload 4, 2) := by decide +kernel
theorem d_W_law_1932 : decode code 1932 = .ok (.iconst 1, 1) := by decide +kernel
theorem d_W_law_1933 : decode code 1933 = .ok (.iadd, 1) := by decide +kernel
theorem d_W_law_1934 : decode code 1934 = .ok (.iaload, 1) := by decide +kernel
theorem d_W_law_1935 : decode code 1935 = .ok (.invokevirtual 324, 3) := by decide +kernel
theorem d_W_law_1938 : decode code 1938 = .ok (.istore 6, 2) := by decide +kernel
theorem d_W_law_1940 : decode code 1940 = .ok (.goto (85), 3) := by decide +kernel
theorem d_W_law_1943 : decode code 1943 = .ok (.aload_n 1, 1) := by decide +kernel
theorem d_W_law_1944 : decode code 1944 = .ok (.invokevirtual 325, 3) := by decide +kernel
theorem d_W_law_1947 : decode code 1947 = .ok (.pop, 1) := by decide +kernel
theorem d_W_law_1948 : decode code 1948 = .ok (.aload_n 2, 1) := by decide +kernel
theorem d_W_law_1949 : decode code 1949 = .ok (.invokevirtual 328, 3) := by decide +kernel
theorem d_W_law_1952 : decode code 1952 = .ok (.pop, 1) := by decide +kernel
theorem d_W_law_1953 : decode code 1953 = .ok (.goto (72), 3) := by decide +kernel
theorem d_W_law_1956 : decode code 1956 = .ok (.aload_n 1, 1) := by decide +kernel
theorem d_W_law_1957 : decode code 1957 = .ok (.aload_n 0, 1) := by decide +kernel
theorem d_W_law_1958 : decode code 1958 = .ok (.iload 4, 2) := by decide +kernel
theorem d_W_law_1960 : decode code 1960 = .ok (.iconst 1, 1) := by decide +kernel
theorem d_W_law_1961 : decode code 1961 = .ok (.iadd, 1) := by decide +kernel
theorem d_W_law_1962 : decode code 1962 = .ok (.iaload, 1) := by decide +kernel
theorem d_W_law_1963 : decode code 1963 = .ok (.aload_n 3, 1) := by decide +kernel
theorem d_W_law_1964 : decode code 1964 = .ok (.invokestatic 329, 3) := by decide +kernel
theorem d_W_law_1967 : decode code 1967 = .ok (.istore 5, 2) := by decide +kernel
theorem d_W_law_1969 : decode code 1969 = .ok (.aload_n 2, 1) := by decide +kernel
theorem d_W_law_1970 : decode code 1970 = .ok (.aload_n 0, 1) := by decide +kernel
theorem d_W_law_1971 : decode code 1971 = .ok (.iload 4, 2) := by decide +kernel
theorem d_W_law_1973 : decode code 1973 = .ok (.iconst 1, 1) := by decide +kernel
theorem d_W_law_1974 : decode code 1974 = .ok (.iadd, 1) := by decide +kernel
theorem d_W_law_1975 : decode code 1975 = .ok (.iaload, 1) := by decide +kernel
theorem d_W_law_1976 : decode code 1976 = .ok (.invokevirtual 331, 3) := by decide +kernel
theorem d_W_law_1979 : decode code 1979 = .ok (.istore 6, 2) := by decide +kernel
theorem d_W_law_1981 : decode code 1981 = .ok (.goto (44), 3) := by decide +kernel
theorem d_W_law_1984 : decode code 1984 = .ok (.aload_n 1, 1) := by decide +kernel
theorem d_W_law_1985 : decode code 1985 = .ok (.invokevirtual 332, 3) := by decide +kernel
theorem d_W_law_1988 : decode code 1988 = .ok (.pop, 1) := by decide +kernel
theorem d_W_law_1989 : decode code 1989 = .ok (.aload_n 2, 1) := by decide +kernel
theorem d_W_law_1990 : decode code 1990 = .ok (.invokevirtual 335, 3) := by decide +kernel
theorem d_W_law_1993 : decode code 1993 = .ok (.pop, 1) := by decide +kernel
theorem d_W_law_1994 : decode code 1994 = .ok (.goto (31), 3) := by decide +kernel
theorem d_W_law_1997 : decode code 1997 = .ok (.aload_n 1, 1) := by decide +kernel
theorem d_W_law_1998 : decode code 1998 = .ok (.aload_n 0, 1) := by decide +kernel
theorem d_W_law_1999 : decode code 1999 = .ok (.iload 4, 2) := by decide +kernel
theorem d_W_law_2001 : decode code 2001 = .ok (.iconst 1, 1) := by decide +kernel
theorem d_W_law_2002 : decode code 2002 = .ok (.iadd, 1) := by decide +kernel
theorem d_W_law_2003 : decode code 2003 = .ok (.iaload, 1) := by decide +kernel
theorem d_W_law_2004 : decode code 2004 = .ok (.aload_n 3, 1) := by decide +kernel
theorem d_W_law_2005 : decode code 2005 = .ok (.invokestatic 336, 3) := by decide +kernel
theorem d_W_law_2008 : decode code 2008 = .ok (.istore 5, 2) := by decide +kernel
theorem d_W_law_2010 : decode code 2010 = .ok (.aload_n 2, 1) := by decide +kernel
theorem d_W_law_2011 : decode code 2011 = .ok (.aload_n 0, 1) := by decide +kernel
theorem d_W_law_2012 : decode code 2012 = .ok (.iload 4, 2) := by decide +kernel
theorem d_W_law_2014 : decode code 2014 = .ok (.iconst 1, 1) := by decide +kernel
theorem d_W_law_2015 : decode code 2015 = .ok (.iadd, 1) := by decide +kernel
theorem d_W_law_2016 : decode code 2016 = .ok (.iaload, 1) := by decide +kernel
theorem d_W_law_2017 : decode code 2017 = .ok (.invokevirtual 338, 3) := by decide +kernel
theorem d_W_law_2020 : decode code 2020 = .ok (.istore 6, 2) := by decide +kernel
theorem d_W_law_2022 : decode code 2022 = .ok (.goto (3), 3) := by decide +kernel
theorem d_W_law_2025 : decode code 2025 = .ok (.iinc 4 (6), 3) := by decide +kernel
theorem d_W_law_2028 : decode code 2028 = .ok (.goto (-2005), 3) := by decide +kernel
theorem d_W_law_2031 : decode code 2031 = .ok (.iconst 1, 1) := by decide +kernel
theorem d_W_law_2032 : decode code 2032 = .ok (.ireturn, 1) := by decide +kernel
